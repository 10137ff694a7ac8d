/-! Plan: written by wip/whole/emit.py out of the bytecode -/
def y_Plan_lookAtCosts : MethodName := ⟨"CoatHangers$Plan", "lookAtCosts", "(LCoatHangers$State;)V"⟩
theorem qm_Plan_lookAtCosts : qMt y_Plan_lookAtCosts prog_5_method_2_code 4 (none) 1 := ⟨qT_4 (i := 233) (by decide +kernel) rfl, qT_1 (i := 14) (by decide +kernel) rfl, by decide, by decide, by decide +kernel⟩
theorem wi_Plan_lookAtCosts : Cond.instanceMethod y_Plan_lookAtCosts ∈ qT := qT_4 (i := 231) (by decide +kernel) rfl
theorem wl_Plan_lookAtCosts : Cond.selects y_Plan_lookAtCosts.cls y_Plan_lookAtCosts y_Plan_lookAtCosts ∈ qT := qT_4 (i := 232) (by decide +kernel) rfl
def y_Plan_clearLast : MethodName := ⟨"CoatHangers$Plan", "clearLast", "(I)V"⟩
theorem qm_Plan_clearLast : qMt y_Plan_clearLast prog_5_method_12_code 4 (none) 1 := ⟨qT_5 (i := 10) (by decide +kernel) rfl, qT_1 (i := 14) (by decide +kernel) rfl, by decide, by decide, by decide +kernel⟩
theorem wi_Plan_clearLast : Cond.instanceMethod y_Plan_clearLast ∈ qT := qT_5 (i := 9) (by decide +kernel) rfl
theorem wl_Plan_clearLast : Cond.selects y_Plan_clearLast.cls y_Plan_clearLast y_Plan_clearLast ∈ qT := qT_s (i := 41) (by decide +kernel) rfl
def y_Plan_worthOf : MethodName := ⟨"CoatHangers$Plan", "worthOf", "(III)I"⟩
theorem qm_Plan_worthOf : qMt y_Plan_worthOf prog_5_method_5_code 4 (some .int) 3 := ⟨qT_5 (i := 24) (by decide +kernel) rfl, qT_1 (i := 14) (by decide +kernel) rfl, by decide, by decide, by decide +kernel⟩
theorem wi_Plan_worthOf : Cond.instanceMethod y_Plan_worthOf ∈ qT := qT_5 (i := 23) (by decide +kernel) rfl
theorem wl_Plan_worthOf : Cond.selects y_Plan_worthOf.cls y_Plan_worthOf y_Plan_worthOf ∈ qT := qT_s (i := 43) (by decide +kernel) rfl
def y_Plan_leastFrom : MethodName := ⟨"CoatHangers$Plan", "leastFrom", "(III)I"⟩
theorem qm_Plan_leastFrom : qMt y_Plan_leastFrom prog_5_method_4_code 6 (some .int) 3 := ⟨qT_5 (i := 20) (by decide +kernel) rfl, qT_1 (i := 14) (by decide +kernel) rfl, by decide, by decide, by decide +kernel⟩
theorem wi_Plan_leastFrom : Cond.instanceMethod y_Plan_leastFrom ∈ qT := qT_5 (i := 19) (by decide +kernel) rfl
theorem wl_Plan_leastFrom : Cond.selects y_Plan_leastFrom.cls y_Plan_leastFrom y_Plan_leastFrom ∈ qT := qT_s (i := 42) (by decide +kernel) rfl
def y_Plan_letTake : MethodName := ⟨"CoatHangers$Plan", "letTake", "(Z)V"⟩
theorem qm_Plan_letTake : qMt y_Plan_letTake prog_5_method_11_code 3 (none) 1 := ⟨qT_5 (i := 6) (by decide +kernel) rfl, qT_1 (i := 14) (by decide +kernel) rfl, by decide, by decide, by decide +kernel⟩
theorem wi_Plan_letTake : Cond.instanceMethod y_Plan_letTake ∈ qT := qT_5 (i := 5) (by decide +kernel) rfl
theorem wl_Plan_letTake : Cond.selects y_Plan_letTake.cls y_Plan_letTake y_Plan_letTake ∈ qT := qT_s (i := 40) (by decide +kernel) rfl
def y_Plan_findBest : MethodName := ⟨"CoatHangers$Plan", "findBest", "(ZI)I"⟩
theorem qm_Plan_findBest : qMt y_Plan_findBest prog_5_method_3_code 5 (some .int) 2 := ⟨qT_5 (i := 2) (by decide +kernel) rfl, qT_1 (i := 14) (by decide +kernel) rfl, by decide, by decide, by decide +kernel⟩
theorem wi_Plan_findBest : Cond.instanceMethod y_Plan_findBest ∈ qT := qT_5 (i := 0) (by decide +kernel) rfl
theorem wl_Plan_findBest : Cond.selects y_Plan_findBest.cls y_Plan_findBest y_Plan_findBest ∈ qT := qT_5 (i := 1) (by decide +kernel) rfl
def y_Plan_costOf : MethodName := ⟨"CoatHangers$Plan", "costOf", "(I)I"⟩
theorem qm_Plan_costOf : qMt y_Plan_costOf prog_5_method_6_code 2 (some .int) 1 := ⟨qT_5 (i := 29) (by decide +kernel) rfl, qT_1 (i := 14) (by decide +kernel) rfl, by decide, by decide, by decide +kernel⟩
theorem wi_Plan_costOf : Cond.instanceMethod y_Plan_costOf ∈ qT := qT_5 (i := 27) (by decide +kernel) rfl
theorem wl_Plan_costOf : Cond.selects y_Plan_costOf.cls y_Plan_costOf y_Plan_costOf ∈ qT := qT_5 (i := 28) (by decide +kernel) rfl
def y_Plan_firstBest : MethodName := ⟨"CoatHangers$Plan", "firstBest", "(III)I"⟩
theorem qm_Plan_firstBest : qMt y_Plan_firstBest prog_5_method_8_code 6 (some .int) 3 := ⟨qT_5 (i := 40) (by decide +kernel) rfl, qT_1 (i := 14) (by decide +kernel) rfl, by decide, by decide, by decide +kernel⟩
theorem wi_Plan_firstBest : Cond.instanceMethod y_Plan_firstBest ∈ qT := qT_5 (i := 39) (by decide +kernel) rfl
theorem wl_Plan_firstBest : Cond.selects y_Plan_firstBest.cls y_Plan_firstBest y_Plan_firstBest ∈ qT := qT_s (i := 44) (by decide +kernel) rfl
def y_Plan_hangerFor : MethodName := ⟨"CoatHangers$Plan", "hangerFor", "(II)I"⟩
theorem qm_Plan_hangerFor : qMt y_Plan_hangerFor prog_5_method_7_code 6 (some .int) 2 := ⟨qT_5 (i := 36) (by decide +kernel) rfl, qT_1 (i := 14) (by decide +kernel) rfl, by decide, by decide, by decide +kernel⟩
theorem wi_Plan_hangerFor : Cond.instanceMethod y_Plan_hangerFor ∈ qT := qT_5 (i := 34) (by decide +kernel) rfl
theorem wl_Plan_hangerFor : Cond.selects y_Plan_hangerFor.cls y_Plan_hangerFor y_Plan_hangerFor ∈ qT := qT_5 (i := 35) (by decide +kernel) rfl
def y_Plan_waysFrom : MethodName := ⟨"CoatHangers$Plan", "waysFrom", "(III)I"⟩
theorem qm_Plan_waysFrom : qMt y_Plan_waysFrom prog_5_method_10_code 6 (some .int) 3 := ⟨qT_5 (i := 56) (by decide +kernel) rfl, qT_1 (i := 14) (by decide +kernel) rfl, by decide, by decide, by decide +kernel⟩
theorem wi_Plan_waysFrom : Cond.instanceMethod y_Plan_waysFrom ∈ qT := qT_5 (i := 55) (by decide +kernel) rfl
theorem wl_Plan_waysFrom : Cond.selects y_Plan_waysFrom.cls y_Plan_waysFrom y_Plan_waysFrom ∈ qT := qT_s (i := 45) (by decide +kernel) rfl
def y_Plan_waysWithin : MethodName := ⟨"CoatHangers$Plan", "waysWithin", "(I)I"⟩
theorem qm_Plan_waysWithin : qMt y_Plan_waysWithin prog_5_method_9_code 4 (some .int) 1 := ⟨qT_5 (i := 52) (by decide +kernel) rfl, qT_1 (i := 14) (by decide +kernel) rfl, by decide, by decide, by decide +kernel⟩
theorem wi_Plan_waysWithin : Cond.instanceMethod y_Plan_waysWithin ∈ qT := qT_5 (i := 50) (by decide +kernel) rfl
theorem wl_Plan_waysWithin : Cond.selects y_Plan_waysWithin.cls y_Plan_waysWithin y_Plan_waysWithin ∈ qT := qT_5 (i := 51) (by decide +kernel) rfl
theorem wf_Plan_23 : Cond.fieldLink "CoatHangers$Plan" 23 "CoatHangers$Plan" "text" "LCoatHangers$Text;" ∈ qT := qT_2 (i := 145) (by decide +kernel) rfl
theorem wf_Plan_31 : Cond.fieldLink "CoatHangers$Plan" 31 "CoatHangers$Text" "people" "I" ∈ qT := qT_1 (i := 171) (by decide +kernel) rfl
theorem wf_Plan_37 : Cond.fieldLink "CoatHangers$Plan" 37 "CoatHangers$Text" "hangers" "I" ∈ qT := qT_1 (i := 157) (by decide +kernel) rfl
theorem wf_Plan_11 : Cond.fieldLink "CoatHangers$Plan" 11 "CoatHangers$Plan" "costs" "[[I" ∈ qT := qT_2 (i := 147) (by decide +kernel) rfl
theorem wf_Plan_27 : Cond.fieldLink "CoatHangers$Plan" 27 "CoatHangers$Plan" "reckoner" "LCoatHangers$Reckoner;" ∈ qT := qT_2 (i := 146) (by decide +kernel) rfl
theorem wm_Plan_40 : Cond.methodLink "CoatHangers$Plan" 40 y_Reck_costAlone ∈ qT := qT_4 (i := 234) (by decide +kernel) rfl
theorem wf_Plan_20 : Cond.fieldLink "CoatHangers$Plan" 20 "CoatHangers$Plan" "best" "[[I" ∈ qT := qT_2 (i := 149) (by decide +kernel) rfl
theorem wf_Plan_16 : Cond.fieldLink "CoatHangers$Plan" 16 "CoatHangers$Plan" "takes" "[I" ∈ qT := qT_2 (i := 148) (by decide +kernel) rfl
theorem wm_Plan_64 : Cond.methodLink "CoatHangers$Plan" 64 y_Plan_worthOf ∈ qT := qT_5 (i := 21) (by decide +kernel) rfl
theorem wm_Plan_67 : Cond.methodLink "CoatHangers$Plan" 67 Lib.Math.min.name ∈ qT := qT_5 (i := 25) (by decide +kernel) rfl
theorem wf_Plan_82 : Cond.fieldLink "CoatHangers$Plan" 82 "CoatHangers$Text" "nail" "[I" ∈ qT := qT_1 (i := 165) (by decide +kernel) rfl
theorem wm_Plan_46 : Cond.methodLink "CoatHangers$Plan" 46 y_Plan_letTake ∈ qT := qT_5 (i := 3) (by decide +kernel) rfl
theorem wm_Plan_50 : Cond.methodLink "CoatHangers$Plan" 50 y_Plan_clearLast ∈ qT := qT_5 (i := 7) (by decide +kernel) rfl
theorem wm_Plan_54 : Cond.methodLink "CoatHangers$Plan" 54 y_Integer_bitCount ∈ qT := qT_5 (i := 11) (by decide +kernel) rfl
theorem wm_Plan_60 : Cond.methodLink "CoatHangers$Plan" 60 y_Plan_leastFrom ∈ qT := qT_5 (i := 17) (by decide +kernel) rfl
theorem wm_Plan_73 : Cond.methodLink "CoatHangers$Plan" 73 y_Math_floorMod ∈ qT := qT_5 (i := 30) (by decide +kernel) rfl
theorem wm_Plan_76 : Cond.methodLink "CoatHangers$Plan" 76 y_Plan_firstBest ∈ qT := qT_5 (i := 37) (by decide +kernel) rfl
theorem wm_Plan_79 : Cond.methodLink "CoatHangers$Plan" 79 y_Plan_waysFrom ∈ qT := qT_5 (i := 53) (by decide +kernel) rfl
theorem d_Plan_lookAtCosts_0 : decode prog_5_method_2_code 0 = .ok (.iconst 0, 1) := by decide +kernel
theorem d_Plan_lookAtCosts_1 : decode prog_5_method_2_code 1 = .ok (.istore_n 2, 1) := by decide +kernel
theorem d_Plan_lookAtCosts_2 : decode prog_5_method_2_code 2 = .ok (.iload_n 2, 1) := by decide +kernel
theorem d_Plan_lookAtCosts_3 : decode prog_5_method_2_code 3 = .ok (.aload_n 0, 1) := by decide +kernel
theorem d_Plan_lookAtCosts_4 : decode prog_5_method_2_code 4 = .ok (.getfield 23, 3) := by decide +kernel
theorem d_Plan_lookAtCosts_7 : decode prog_5_method_2_code 7 = .ok (.getfield 31, 3) := by decide +kernel
theorem d_Plan_lookAtCosts_10 : decode prog_5_method_2_code 10 = .ok (.if_icmp .ge 46, 3) := by decide +kernel
theorem d_Plan_lookAtCosts_13 : decode prog_5_method_2_code 13 = .ok (.iconst 0, 1) := by decide +kernel
theorem d_Plan_lookAtCosts_14 : decode prog_5_method_2_code 14 = .ok (.istore_n 3, 1) := by decide +kernel
theorem d_Plan_lookAtCosts_15 : decode prog_5_method_2_code 15 = .ok (.iload_n 3, 1) := by decide +kernel
theorem d_Plan_lookAtCosts_16 : decode prog_5_method_2_code 16 = .ok (.aload_n 0, 1) := by decide +kernel
theorem d_Plan_lookAtCosts_17 : decode prog_5_method_2_code 17 = .ok (.getfield 23, 3) := by decide +kernel
theorem d_Plan_lookAtCosts_20 : decode prog_5_method_2_code 20 = .ok (.getfield 37, 3) := by decide +kernel
theorem d_Plan_lookAtCosts_23 : decode prog_5_method_2_code 23 = .ok (.if_icmp .ge 27, 3) := by decide +kernel
theorem d_Plan_lookAtCosts_26 : decode prog_5_method_2_code 26 = .ok (.aload_n 0, 1) := by decide +kernel
theorem d_Plan_lookAtCosts_27 : decode prog_5_method_2_code 27 = .ok (.getfield 11, 3) := by decide +kernel
theorem d_Plan_lookAtCosts_30 : decode prog_5_method_2_code 30 = .ok (.iload_n 2, 1) := by decide +kernel
theorem d_Plan_lookAtCosts_31 : decode prog_5_method_2_code 31 = .ok (.aaload, 1) := by decide +kernel
theorem d_Plan_lookAtCosts_32 : decode prog_5_method_2_code 32 = .ok (.iload_n 3, 1) := by decide +kernel
theorem d_Plan_lookAtCosts_33 : decode prog_5_method_2_code 33 = .ok (.aload_n 0, 1) := by decide +kernel
theorem d_Plan_lookAtCosts_34 : decode prog_5_method_2_code 34 = .ok (.getfield 27, 3) := by decide +kernel
theorem d_Plan_lookAtCosts_37 : decode prog_5_method_2_code 37 = .ok (.aload_n 1, 1) := by decide +kernel
theorem d_Plan_lookAtCosts_38 : decode prog_5_method_2_code 38 = .ok (.iload_n 2, 1) := by decide +kernel
theorem d_Plan_lookAtCosts_39 : decode prog_5_method_2_code 39 = .ok (.iload_n 3, 1) := by decide +kernel
theorem d_Plan_lookAtCosts_40 : decode prog_5_method_2_code 40 = .ok (.invokevirtual 40, 3) := by decide +kernel
theorem d_Plan_lookAtCosts_43 : decode prog_5_method_2_code 43 = .ok (.iastore, 1) := by decide +kernel
theorem d_Plan_lookAtCosts_44 : decode prog_5_method_2_code 44 = .ok (.iinc 3 1, 3) := by decide +kernel
theorem d_Plan_lookAtCosts_47 : decode prog_5_method_2_code 47 = .ok (.goto (-32), 3) := by decide +kernel
theorem d_Plan_lookAtCosts_50 : decode prog_5_method_2_code 50 = .ok (.iinc 2 1, 3) := by decide +kernel
theorem d_Plan_lookAtCosts_53 : decode prog_5_method_2_code 53 = .ok (.goto (-51), 3) := by decide +kernel
theorem d_Plan_lookAtCosts_56 : decode prog_5_method_2_code 56 = .ok (.return_, 1) := by decide +kernel
theorem d_Plan_clearLast_0 : decode prog_5_method_12_code 0 = .ok (.aload_n 0, 1) := by decide +kernel
theorem d_Plan_clearLast_1 : decode prog_5_method_12_code 1 = .ok (.getfield 20, 3) := by decide +kernel
theorem d_Plan_clearLast_4 : decode prog_5_method_12_code 4 = .ok (.aload_n 0, 1) := by decide +kernel
theorem d_Plan_clearLast_5 : decode prog_5_method_12_code 5 = .ok (.getfield 23, 3) := by decide +kernel
theorem d_Plan_clearLast_8 : decode prog_5_method_12_code 8 = .ok (.getfield 31, 3) := by decide +kernel
theorem d_Plan_clearLast_11 : decode prog_5_method_12_code 11 = .ok (.aaload, 1) := by decide +kernel
theorem d_Plan_clearLast_12 : decode prog_5_method_12_code 12 = .ok (.astore_n 2, 1) := by decide +kernel
theorem d_Plan_clearLast_13 : decode prog_5_method_12_code 13 = .ok (.iconst 0, 1) := by decide +kernel
theorem d_Plan_clearLast_14 : decode prog_5_method_12_code 14 = .ok (.istore_n 3, 1) := by decide +kernel
theorem d_Plan_clearLast_15 : decode prog_5_method_12_code 15 = .ok (.iload_n 3, 1) := by decide +kernel
theorem d_Plan_clearLast_16 : decode prog_5_method_12_code 16 = .ok (.aload_n 2, 1) := by decide +kernel
theorem d_Plan_clearLast_17 : decode prog_5_method_12_code 17 = .ok (.arraylength, 1) := by decide +kernel
theorem d_Plan_clearLast_18 : decode prog_5_method_12_code 18 = .ok (.if_icmp .ge 13, 3) := by decide +kernel
theorem d_Plan_clearLast_21 : decode prog_5_method_12_code 21 = .ok (.aload_n 2, 1) := by decide +kernel
theorem d_Plan_clearLast_22 : decode prog_5_method_12_code 22 = .ok (.iload_n 3, 1) := by decide +kernel
theorem d_Plan_clearLast_23 : decode prog_5_method_12_code 23 = .ok (.iload_n 1, 1) := by decide +kernel
theorem d_Plan_clearLast_24 : decode prog_5_method_12_code 24 = .ok (.iastore, 1) := by decide +kernel
theorem d_Plan_clearLast_25 : decode prog_5_method_12_code 25 = .ok (.iinc 3 1, 3) := by decide +kernel
theorem d_Plan_clearLast_28 : decode prog_5_method_12_code 28 = .ok (.goto (-13), 3) := by decide +kernel
theorem d_Plan_clearLast_31 : decode prog_5_method_12_code 31 = .ok (.return_, 1) := by decide +kernel
theorem d_Plan_worthOf_0 : decode prog_5_method_5_code 0 = .ok (.aload_n 0, 1) := by decide +kernel
theorem d_Plan_worthOf_1 : decode prog_5_method_5_code 1 = .ok (.getfield 11, 3) := by decide +kernel
theorem d_Plan_worthOf_4 : decode prog_5_method_5_code 4 = .ok (.iload_n 1, 1) := by decide +kernel
theorem d_Plan_worthOf_5 : decode prog_5_method_5_code 5 = .ok (.aaload, 1) := by decide +kernel
theorem d_Plan_worthOf_6 : decode prog_5_method_5_code 6 = .ok (.iload_n 3, 1) := by decide +kernel
theorem d_Plan_worthOf_7 : decode prog_5_method_5_code 7 = .ok (.iaload, 1) := by decide +kernel
theorem d_Plan_worthOf_8 : decode prog_5_method_5_code 8 = .ok (.sipush 1000, 3) := by decide +kernel
theorem d_Plan_worthOf_11 : decode prog_5_method_5_code 11 = .ok (.isub, 1) := by decide +kernel
theorem d_Plan_worthOf_12 : decode prog_5_method_5_code 12 = .ok (.aload_n 0, 1) := by decide +kernel
theorem d_Plan_worthOf_13 : decode prog_5_method_5_code 13 = .ok (.getfield 20, 3) := by decide +kernel
theorem d_Plan_worthOf_16 : decode prog_5_method_5_code 16 = .ok (.iload_n 1, 1) := by decide +kernel
theorem d_Plan_worthOf_17 : decode prog_5_method_5_code 17 = .ok (.iconst 1, 1) := by decide +kernel
theorem d_Plan_worthOf_18 : decode prog_5_method_5_code 18 = .ok (.iadd, 1) := by decide +kernel
theorem d_Plan_worthOf_19 : decode prog_5_method_5_code 19 = .ok (.aaload, 1) := by decide +kernel
theorem d_Plan_worthOf_20 : decode prog_5_method_5_code 20 = .ok (.iload_n 2, 1) := by decide +kernel
theorem d_Plan_worthOf_21 : decode prog_5_method_5_code 21 = .ok (.aload_n 0, 1) := by decide +kernel
theorem d_Plan_worthOf_22 : decode prog_5_method_5_code 22 = .ok (.getfield 16, 3) := by decide +kernel
theorem d_Plan_worthOf_25 : decode prog_5_method_5_code 25 = .ok (.iload_n 3, 1) := by decide +kernel
theorem d_Plan_worthOf_26 : decode prog_5_method_5_code 26 = .ok (.iaload, 1) := by decide +kernel
theorem d_Plan_worthOf_27 : decode prog_5_method_5_code 27 = .ok (.ior, 1) := by decide +kernel
theorem d_Plan_worthOf_28 : decode prog_5_method_5_code 28 = .ok (.iaload, 1) := by decide +kernel
theorem d_Plan_worthOf_29 : decode prog_5_method_5_code 29 = .ok (.iadd, 1) := by decide +kernel
theorem d_Plan_worthOf_30 : decode prog_5_method_5_code 30 = .ok (.ireturn, 1) := by decide +kernel
theorem d_Plan_leastFrom_0 : decode prog_5_method_4_code 0 = .ok (.aload_n 0, 1) := by decide +kernel
theorem d_Plan_leastFrom_1 : decode prog_5_method_4_code 1 = .ok (.getfield 20, 3) := by decide +kernel
theorem d_Plan_leastFrom_4 : decode prog_5_method_4_code 4 = .ok (.iload_n 1, 1) := by decide +kernel
theorem d_Plan_leastFrom_5 : decode prog_5_method_4_code 5 = .ok (.iconst 1, 1) := by decide +kernel
theorem d_Plan_leastFrom_6 : decode prog_5_method_4_code 6 = .ok (.iadd, 1) := by decide +kernel
theorem d_Plan_leastFrom_7 : decode prog_5_method_4_code 7 = .ok (.aaload, 1) := by decide +kernel
theorem d_Plan_leastFrom_8 : decode prog_5_method_4_code 8 = .ok (.iload_n 2, 1) := by decide +kernel
theorem d_Plan_leastFrom_9 : decode prog_5_method_4_code 9 = .ok (.iaload, 1) := by decide +kernel
theorem d_Plan_leastFrom_10 : decode prog_5_method_4_code 10 = .ok (.istore 4, 2) := by decide +kernel
theorem d_Plan_leastFrom_12 : decode prog_5_method_4_code 12 = .ok (.iconst 0, 1) := by decide +kernel
theorem d_Plan_leastFrom_13 : decode prog_5_method_4_code 13 = .ok (.istore 5, 2) := by decide +kernel
theorem d_Plan_leastFrom_15 : decode prog_5_method_4_code 15 = .ok (.iload 5, 2) := by decide +kernel
theorem d_Plan_leastFrom_17 : decode prog_5_method_4_code 17 = .ok (.aload_n 0, 1) := by decide +kernel
theorem d_Plan_leastFrom_18 : decode prog_5_method_4_code 18 = .ok (.getfield 23, 3) := by decide +kernel
theorem d_Plan_leastFrom_21 : decode prog_5_method_4_code 21 = .ok (.getfield 37, 3) := by decide +kernel
theorem d_Plan_leastFrom_24 : decode prog_5_method_4_code 24 = .ok (.if_icmp .ge 42, 3) := by decide +kernel
theorem d_Plan_leastFrom_27 : decode prog_5_method_4_code 27 = .ok (.iload 5, 2) := by decide +kernel
theorem d_Plan_leastFrom_29 : decode prog_5_method_4_code 29 = .ok (.iload_n 3, 1) := by decide +kernel
theorem d_Plan_leastFrom_30 : decode prog_5_method_4_code 30 = .ok (.if_icmp .eq 30, 3) := by decide +kernel
theorem d_Plan_leastFrom_33 : decode prog_5_method_4_code 33 = .ok (.iload_n 2, 1) := by decide +kernel
theorem d_Plan_leastFrom_34 : decode prog_5_method_4_code 34 = .ok (.aload_n 0, 1) := by decide +kernel
theorem d_Plan_leastFrom_35 : decode prog_5_method_4_code 35 = .ok (.getfield 16, 3) := by decide +kernel
theorem d_Plan_leastFrom_38 : decode prog_5_method_4_code 38 = .ok (.iload 5, 2) := by decide +kernel
theorem d_Plan_leastFrom_40 : decode prog_5_method_4_code 40 = .ok (.iaload, 1) := by decide +kernel
theorem d_Plan_leastFrom_41 : decode prog_5_method_4_code 41 = .ok (.iand, 1) := by decide +kernel
theorem d_Plan_leastFrom_42 : decode prog_5_method_4_code 42 = .ok (.ifCond .ne 18, 3) := by decide +kernel
theorem d_Plan_leastFrom_45 : decode prog_5_method_4_code 45 = .ok (.iload 4, 2) := by decide +kernel
theorem d_Plan_leastFrom_47 : decode prog_5_method_4_code 47 = .ok (.aload_n 0, 1) := by decide +kernel
theorem d_Plan_leastFrom_48 : decode prog_5_method_4_code 48 = .ok (.iload_n 1, 1) := by decide +kernel
theorem d_Plan_leastFrom_49 : decode prog_5_method_4_code 49 = .ok (.iload_n 2, 1) := by decide +kernel
theorem d_Plan_leastFrom_50 : decode prog_5_method_4_code 50 = .ok (.iload 5, 2) := by decide +kernel
theorem d_Plan_leastFrom_52 : decode prog_5_method_4_code 52 = .ok (.invokevirtual 64, 3) := by decide +kernel
theorem d_Plan_leastFrom_55 : decode prog_5_method_4_code 55 = .ok (.invokestatic 67, 3) := by decide +kernel
theorem d_Plan_leastFrom_58 : decode prog_5_method_4_code 58 = .ok (.istore 4, 2) := by decide +kernel
theorem d_Plan_leastFrom_60 : decode prog_5_method_4_code 60 = .ok (.iinc 5 1, 3) := by decide +kernel
theorem d_Plan_leastFrom_63 : decode prog_5_method_4_code 63 = .ok (.goto (-48), 3) := by decide +kernel
theorem d_Plan_leastFrom_66 : decode prog_5_method_4_code 66 = .ok (.iload 4, 2) := by decide +kernel
theorem d_Plan_leastFrom_68 : decode prog_5_method_4_code 68 = .ok (.ireturn, 1) := by decide +kernel
theorem d_Plan_letTake_0 : decode prog_5_method_11_code 0 = .ok (.iconst 0, 1) := by decide +kernel
theorem d_Plan_letTake_1 : decode prog_5_method_11_code 1 = .ok (.istore_n 2, 1) := by decide +kernel
theorem d_Plan_letTake_2 : decode prog_5_method_11_code 2 = .ok (.iload_n 2, 1) := by decide +kernel
theorem d_Plan_letTake_3 : decode prog_5_method_11_code 3 = .ok (.aload_n 0, 1) := by decide +kernel
theorem d_Plan_letTake_4 : decode prog_5_method_11_code 4 = .ok (.getfield 23, 3) := by decide +kernel
theorem d_Plan_letTake_7 : decode prog_5_method_11_code 7 = .ok (.getfield 37, 3) := by decide +kernel
theorem d_Plan_letTake_10 : decode prog_5_method_11_code 10 = .ok (.if_icmp .ge 34, 3) := by decide +kernel
theorem d_Plan_letTake_13 : decode prog_5_method_11_code 13 = .ok (.aload_n 0, 1) := by decide +kernel
theorem d_Plan_letTake_14 : decode prog_5_method_11_code 14 = .ok (.getfield 16, 3) := by decide +kernel
theorem d_Plan_letTake_17 : decode prog_5_method_11_code 17 = .ok (.iload_n 2, 1) := by decide +kernel
theorem d_Plan_letTake_18 : decode prog_5_method_11_code 18 = .ok (.iconst 1, 1) := by decide +kernel
theorem d_Plan_letTake_19 : decode prog_5_method_11_code 19 = .ok (.iload_n 1, 1) := by decide +kernel
theorem d_Plan_letTake_20 : decode prog_5_method_11_code 20 = .ok (.ifCond .eq 15, 3) := by decide +kernel
theorem d_Plan_letTake_23 : decode prog_5_method_11_code 23 = .ok (.aload_n 0, 1) := by decide +kernel
theorem d_Plan_letTake_24 : decode prog_5_method_11_code 24 = .ok (.getfield 23, 3) := by decide +kernel
theorem d_Plan_letTake_27 : decode prog_5_method_11_code 27 = .ok (.getfield 82, 3) := by decide +kernel
theorem d_Plan_letTake_30 : decode prog_5_method_11_code 30 = .ok (.iload_n 2, 1) := by decide +kernel
theorem d_Plan_letTake_31 : decode prog_5_method_11_code 31 = .ok (.iaload, 1) := by decide +kernel
theorem d_Plan_letTake_32 : decode prog_5_method_11_code 32 = .ok (.goto 4, 3) := by decide +kernel
theorem d_Plan_letTake_35 : decode prog_5_method_11_code 35 = .ok (.iload_n 2, 1) := by decide +kernel
theorem d_Plan_letTake_36 : decode prog_5_method_11_code 36 = .ok (.ishl, 1) := by decide +kernel
theorem d_Plan_letTake_37 : decode prog_5_method_11_code 37 = .ok (.iastore, 1) := by decide +kernel
theorem d_Plan_letTake_38 : decode prog_5_method_11_code 38 = .ok (.iinc 2 1, 3) := by decide +kernel
theorem d_Plan_letTake_41 : decode prog_5_method_11_code 41 = .ok (.goto (-39), 3) := by decide +kernel
theorem d_Plan_letTake_44 : decode prog_5_method_11_code 44 = .ok (.return_, 1) := by decide +kernel
theorem d_Plan_findBest_0 : decode prog_5_method_3_code 0 = .ok (.aload_n 0, 1) := by decide +kernel
theorem d_Plan_findBest_1 : decode prog_5_method_3_code 1 = .ok (.iload_n 1, 1) := by decide +kernel
theorem d_Plan_findBest_2 : decode prog_5_method_3_code 2 = .ok (.invokevirtual 46, 3) := by decide +kernel
theorem d_Plan_findBest_5 : decode prog_5_method_3_code 5 = .ok (.aload_n 0, 1) := by decide +kernel
theorem d_Plan_findBest_6 : decode prog_5_method_3_code 6 = .ok (.iconst 0, 1) := by decide +kernel
theorem d_Plan_findBest_7 : decode prog_5_method_3_code 7 = .ok (.invokevirtual 50, 3) := by decide +kernel
theorem d_Plan_findBest_10 : decode prog_5_method_3_code 10 = .ok (.aload_n 0, 1) := by decide +kernel
theorem d_Plan_findBest_11 : decode prog_5_method_3_code 11 = .ok (.getfield 23, 3) := by decide +kernel
theorem d_Plan_findBest_14 : decode prog_5_method_3_code 14 = .ok (.getfield 31, 3) := by decide +kernel
theorem d_Plan_findBest_17 : decode prog_5_method_3_code 17 = .ok (.iconst 1, 1) := by decide +kernel
theorem d_Plan_findBest_18 : decode prog_5_method_3_code 18 = .ok (.isub, 1) := by decide +kernel
theorem d_Plan_findBest_19 : decode prog_5_method_3_code 19 = .ok (.istore_n 3, 1) := by decide +kernel
theorem d_Plan_findBest_20 : decode prog_5_method_3_code 20 = .ok (.iload_n 3, 1) := by decide +kernel
theorem d_Plan_findBest_21 : decode prog_5_method_3_code 21 = .ok (.ifCond .lt 56, 3) := by decide +kernel
theorem d_Plan_findBest_24 : decode prog_5_method_3_code 24 = .ok (.iconst 0, 1) := by decide +kernel
theorem d_Plan_findBest_25 : decode prog_5_method_3_code 25 = .ok (.istore 4, 2) := by decide +kernel
theorem d_Plan_findBest_27 : decode prog_5_method_3_code 27 = .ok (.iload 4, 2) := by decide +kernel
theorem d_Plan_findBest_29 : decode prog_5_method_3_code 29 = .ok (.aload_n 0, 1) := by decide +kernel
theorem d_Plan_findBest_30 : decode prog_5_method_3_code 30 = .ok (.getfield 20, 3) := by decide +kernel
theorem d_Plan_findBest_33 : decode prog_5_method_3_code 33 = .ok (.iload_n 3, 1) := by decide +kernel
theorem d_Plan_findBest_34 : decode prog_5_method_3_code 34 = .ok (.aaload, 1) := by decide +kernel
theorem d_Plan_findBest_35 : decode prog_5_method_3_code 35 = .ok (.arraylength, 1) := by decide +kernel
theorem d_Plan_findBest_36 : decode prog_5_method_3_code 36 = .ok (.if_icmp .ge 35, 3) := by decide +kernel
theorem d_Plan_findBest_39 : decode prog_5_method_3_code 39 = .ok (.iload 4, 2) := by decide +kernel
theorem d_Plan_findBest_41 : decode prog_5_method_3_code 41 = .ok (.invokestatic 54, 3) := by decide +kernel
theorem d_Plan_findBest_44 : decode prog_5_method_3_code 44 = .ok (.iload_n 3, 1) := by decide +kernel
theorem d_Plan_findBest_45 : decode prog_5_method_3_code 45 = .ok (.if_icmp .gt 20, 3) := by decide +kernel
theorem d_Plan_findBest_48 : decode prog_5_method_3_code 48 = .ok (.aload_n 0, 1) := by decide +kernel
theorem d_Plan_findBest_49 : decode prog_5_method_3_code 49 = .ok (.getfield 20, 3) := by decide +kernel
theorem d_Plan_findBest_52 : decode prog_5_method_3_code 52 = .ok (.iload_n 3, 1) := by decide +kernel
theorem d_Plan_findBest_53 : decode prog_5_method_3_code 53 = .ok (.aaload, 1) := by decide +kernel
theorem d_Plan_findBest_54 : decode prog_5_method_3_code 54 = .ok (.iload 4, 2) := by decide +kernel
theorem d_Plan_findBest_56 : decode prog_5_method_3_code 56 = .ok (.aload_n 0, 1) := by decide +kernel
theorem d_Plan_findBest_57 : decode prog_5_method_3_code 57 = .ok (.iload_n 3, 1) := by decide +kernel
theorem d_Plan_findBest_58 : decode prog_5_method_3_code 58 = .ok (.iload 4, 2) := by decide +kernel
theorem d_Plan_findBest_60 : decode prog_5_method_3_code 60 = .ok (.iload_n 2, 1) := by decide +kernel
theorem d_Plan_findBest_61 : decode prog_5_method_3_code 61 = .ok (.invokevirtual 60, 3) := by decide +kernel
theorem d_Plan_findBest_64 : decode prog_5_method_3_code 64 = .ok (.iastore, 1) := by decide +kernel
theorem d_Plan_findBest_65 : decode prog_5_method_3_code 65 = .ok (.iinc 4 1, 3) := by decide +kernel
theorem d_Plan_findBest_68 : decode prog_5_method_3_code 68 = .ok (.goto (-41), 3) := by decide +kernel
theorem d_Plan_findBest_71 : decode prog_5_method_3_code 71 = .ok (.iinc 3 (-1), 3) := by decide +kernel
theorem d_Plan_findBest_74 : decode prog_5_method_3_code 74 = .ok (.goto (-54), 3) := by decide +kernel
theorem d_Plan_findBest_77 : decode prog_5_method_3_code 77 = .ok (.aload_n 0, 1) := by decide +kernel
theorem d_Plan_findBest_78 : decode prog_5_method_3_code 78 = .ok (.getfield 20, 3) := by decide +kernel
theorem d_Plan_findBest_81 : decode prog_5_method_3_code 81 = .ok (.iconst 0, 1) := by decide +kernel
theorem d_Plan_findBest_82 : decode prog_5_method_3_code 82 = .ok (.aaload, 1) := by decide +kernel
theorem d_Plan_findBest_83 : decode prog_5_method_3_code 83 = .ok (.iconst 0, 1) := by decide +kernel
theorem d_Plan_findBest_84 : decode prog_5_method_3_code 84 = .ok (.iaload, 1) := by decide +kernel
theorem d_Plan_findBest_85 : decode prog_5_method_3_code 85 = .ok (.ireturn, 1) := by decide +kernel
theorem d_Plan_costOf_0 : decode prog_5_method_6_code 0 = .ok (.iload_n 1, 1) := by decide +kernel
theorem d_Plan_costOf_1 : decode prog_5_method_6_code 1 = .ok (.sipush 1000, 3) := by decide +kernel
theorem d_Plan_costOf_4 : decode prog_5_method_6_code 4 = .ok (.invokestatic 73, 3) := by decide +kernel
theorem d_Plan_costOf_7 : decode prog_5_method_6_code 7 = .ok (.ireturn, 1) := by decide +kernel
theorem d_Plan_firstBest_0 : decode prog_5_method_8_code 0 = .ok (.iconst 0, 1) := by decide +kernel
theorem d_Plan_firstBest_1 : decode prog_5_method_8_code 1 = .ok (.istore 4, 2) := by decide +kernel
theorem d_Plan_firstBest_3 : decode prog_5_method_8_code 3 = .ok (.iload 4, 2) := by decide +kernel
theorem d_Plan_firstBest_5 : decode prog_5_method_8_code 5 = .ok (.aload_n 0, 1) := by decide +kernel
theorem d_Plan_firstBest_6 : decode prog_5_method_8_code 6 = .ok (.getfield 23, 3) := by decide +kernel
theorem d_Plan_firstBest_9 : decode prog_5_method_8_code 9 = .ok (.getfield 37, 3) := by decide +kernel
theorem d_Plan_firstBest_12 : decode prog_5_method_8_code 12 = .ok (.if_icmp .ge 61, 3) := by decide +kernel
theorem d_Plan_firstBest_15 : decode prog_5_method_8_code 15 = .ok (.iload 4, 2) := by decide +kernel
theorem d_Plan_firstBest_17 : decode prog_5_method_8_code 17 = .ok (.iload_n 3, 1) := by decide +kernel
theorem d_Plan_firstBest_18 : decode prog_5_method_8_code 18 = .ok (.if_icmp .eq 19, 3) := by decide +kernel
theorem d_Plan_firstBest_21 : decode prog_5_method_8_code 21 = .ok (.iload_n 2, 1) := by decide +kernel
theorem d_Plan_firstBest_22 : decode prog_5_method_8_code 22 = .ok (.aload_n 0, 1) := by decide +kernel
theorem d_Plan_firstBest_23 : decode prog_5_method_8_code 23 = .ok (.getfield 16, 3) := by decide +kernel
theorem d_Plan_firstBest_26 : decode prog_5_method_8_code 26 = .ok (.iload 4, 2) := by decide +kernel
theorem d_Plan_firstBest_28 : decode prog_5_method_8_code 28 = .ok (.iaload, 1) := by decide +kernel
theorem d_Plan_firstBest_29 : decode prog_5_method_8_code 29 = .ok (.iand, 1) := by decide +kernel
theorem d_Plan_firstBest_30 : decode prog_5_method_8_code 30 = .ok (.ifCond .ne 7, 3) := by decide +kernel
theorem d_Plan_firstBest_33 : decode prog_5_method_8_code 33 = .ok (.iconst 1, 1) := by decide +kernel
theorem d_Plan_firstBest_34 : decode prog_5_method_8_code 34 = .ok (.goto 4, 3) := by decide +kernel
theorem d_Plan_firstBest_37 : decode prog_5_method_8_code 37 = .ok (.iconst 0, 1) := by decide +kernel
theorem d_Plan_firstBest_38 : decode prog_5_method_8_code 38 = .ok (.istore 5, 2) := by decide +kernel
theorem d_Plan_firstBest_40 : decode prog_5_method_8_code 40 = .ok (.iload 5, 2) := by decide +kernel
theorem d_Plan_firstBest_42 : decode prog_5_method_8_code 42 = .ok (.ifCond .eq 25, 3) := by decide +kernel
theorem d_Plan_firstBest_45 : decode prog_5_method_8_code 45 = .ok (.aload_n 0, 1) := by decide +kernel
theorem d_Plan_firstBest_46 : decode prog_5_method_8_code 46 = .ok (.iload_n 1, 1) := by decide +kernel
theorem d_Plan_firstBest_47 : decode prog_5_method_8_code 47 = .ok (.iload_n 2, 1) := by decide +kernel
theorem d_Plan_firstBest_48 : decode prog_5_method_8_code 48 = .ok (.iload 4, 2) := by decide +kernel
theorem d_Plan_firstBest_50 : decode prog_5_method_8_code 50 = .ok (.invokevirtual 64, 3) := by decide +kernel
theorem d_Plan_firstBest_53 : decode prog_5_method_8_code 53 = .ok (.aload_n 0, 1) := by decide +kernel
theorem d_Plan_firstBest_54 : decode prog_5_method_8_code 54 = .ok (.getfield 20, 3) := by decide +kernel
theorem d_Plan_firstBest_57 : decode prog_5_method_8_code 57 = .ok (.iload_n 1, 1) := by decide +kernel
theorem d_Plan_firstBest_58 : decode prog_5_method_8_code 58 = .ok (.aaload, 1) := by decide +kernel
theorem d_Plan_firstBest_59 : decode prog_5_method_8_code 59 = .ok (.iload_n 2, 1) := by decide +kernel
theorem d_Plan_firstBest_60 : decode prog_5_method_8_code 60 = .ok (.iaload, 1) := by decide +kernel
theorem d_Plan_firstBest_61 : decode prog_5_method_8_code 61 = .ok (.if_icmp .ne 6, 3) := by decide +kernel
theorem d_Plan_firstBest_64 : decode prog_5_method_8_code 64 = .ok (.iload 4, 2) := by decide +kernel
theorem d_Plan_firstBest_66 : decode prog_5_method_8_code 66 = .ok (.ireturn, 1) := by decide +kernel
theorem d_Plan_firstBest_67 : decode prog_5_method_8_code 67 = .ok (.iinc 4 1, 3) := by decide +kernel
theorem d_Plan_firstBest_70 : decode prog_5_method_8_code 70 = .ok (.goto (-67), 3) := by decide +kernel
theorem d_Plan_firstBest_73 : decode prog_5_method_8_code 73 = .ok (.bipush (-2), 2) := by decide +kernel
theorem d_Plan_firstBest_75 : decode prog_5_method_8_code 75 = .ok (.ireturn, 1) := by decide +kernel
theorem d_Plan_hangerFor_0 : decode prog_5_method_7_code 0 = .ok (.iconst 0, 1) := by decide +kernel
theorem d_Plan_hangerFor_1 : decode prog_5_method_7_code 1 = .ok (.istore_n 3, 1) := by decide +kernel
theorem d_Plan_hangerFor_2 : decode prog_5_method_7_code 2 = .ok (.bipush (-2), 2) := by decide +kernel
theorem d_Plan_hangerFor_4 : decode prog_5_method_7_code 4 = .ok (.istore 4, 2) := by decide +kernel
theorem d_Plan_hangerFor_6 : decode prog_5_method_7_code 6 = .ok (.iconst 0, 1) := by decide +kernel
theorem d_Plan_hangerFor_7 : decode prog_5_method_7_code 7 = .ok (.istore 5, 2) := by decide +kernel
theorem d_Plan_hangerFor_9 : decode prog_5_method_7_code 9 = .ok (.iload 5, 2) := by decide +kernel
theorem d_Plan_hangerFor_11 : decode prog_5_method_7_code 11 = .ok (.iload_n 1, 1) := by decide +kernel
theorem d_Plan_hangerFor_12 : decode prog_5_method_7_code 12 = .ok (.if_icmp .gt 50, 3) := by decide +kernel
theorem d_Plan_hangerFor_15 : decode prog_5_method_7_code 15 = .ok (.iload 5, 2) := by decide +kernel
theorem d_Plan_hangerFor_17 : decode prog_5_method_7_code 17 = .ok (.aload_n 0, 1) := by decide +kernel
theorem d_Plan_hangerFor_18 : decode prog_5_method_7_code 18 = .ok (.getfield 23, 3) := by decide +kernel
theorem d_Plan_hangerFor_21 : decode prog_5_method_7_code 21 = .ok (.getfield 31, 3) := by decide +kernel
theorem d_Plan_hangerFor_24 : decode prog_5_method_7_code 24 = .ok (.if_icmp .ge 38, 3) := by decide +kernel
theorem d_Plan_hangerFor_27 : decode prog_5_method_7_code 27 = .ok (.aload_n 0, 1) := by decide +kernel
theorem d_Plan_hangerFor_28 : decode prog_5_method_7_code 28 = .ok (.iload 5, 2) := by decide +kernel
theorem d_Plan_hangerFor_30 : decode prog_5_method_7_code 30 = .ok (.iload_n 3, 1) := by decide +kernel
theorem d_Plan_hangerFor_31 : decode prog_5_method_7_code 31 = .ok (.iload_n 2, 1) := by decide +kernel
theorem d_Plan_hangerFor_32 : decode prog_5_method_7_code 32 = .ok (.invokevirtual 76, 3) := by decide +kernel
theorem d_Plan_hangerFor_35 : decode prog_5_method_7_code 35 = .ok (.istore 4, 2) := by decide +kernel
theorem d_Plan_hangerFor_37 : decode prog_5_method_7_code 37 = .ok (.iload_n 3, 1) := by decide +kernel
theorem d_Plan_hangerFor_38 : decode prog_5_method_7_code 38 = .ok (.iload 4, 2) := by decide +kernel
theorem d_Plan_hangerFor_40 : decode prog_5_method_7_code 40 = .ok (.ifCond .lt 13, 3) := by decide +kernel
theorem d_Plan_hangerFor_43 : decode prog_5_method_7_code 43 = .ok (.aload_n 0, 1) := by decide +kernel
theorem d_Plan_hangerFor_44 : decode prog_5_method_7_code 44 = .ok (.getfield 16, 3) := by decide +kernel
theorem d_Plan_hangerFor_47 : decode prog_5_method_7_code 47 = .ok (.iload 4, 2) := by decide +kernel
theorem d_Plan_hangerFor_49 : decode prog_5_method_7_code 49 = .ok (.iaload, 1) := by decide +kernel
theorem d_Plan_hangerFor_50 : decode prog_5_method_7_code 50 = .ok (.goto 4, 3) := by decide +kernel
theorem d_Plan_hangerFor_53 : decode prog_5_method_7_code 53 = .ok (.iconst 0, 1) := by decide +kernel
theorem d_Plan_hangerFor_54 : decode prog_5_method_7_code 54 = .ok (.ior, 1) := by decide +kernel
theorem d_Plan_hangerFor_55 : decode prog_5_method_7_code 55 = .ok (.istore_n 3, 1) := by decide +kernel
theorem d_Plan_hangerFor_56 : decode prog_5_method_7_code 56 = .ok (.iinc 5 1, 3) := by decide +kernel
theorem d_Plan_hangerFor_59 : decode prog_5_method_7_code 59 = .ok (.goto (-50), 3) := by decide +kernel
theorem d_Plan_hangerFor_62 : decode prog_5_method_7_code 62 = .ok (.iload 4, 2) := by decide +kernel
theorem d_Plan_hangerFor_64 : decode prog_5_method_7_code 64 = .ok (.ireturn, 1) := by decide +kernel
theorem d_Plan_waysFrom_0 : decode prog_5_method_10_code 0 = .ok (.iconst 0, 1) := by decide +kernel
theorem d_Plan_waysFrom_1 : decode prog_5_method_10_code 1 = .ok (.istore 4, 2) := by decide +kernel
theorem d_Plan_waysFrom_3 : decode prog_5_method_10_code 3 = .ok (.iconst 0, 1) := by decide +kernel
theorem d_Plan_waysFrom_4 : decode prog_5_method_10_code 4 = .ok (.istore 5, 2) := by decide +kernel
theorem d_Plan_waysFrom_6 : decode prog_5_method_10_code 6 = .ok (.iload 5, 2) := by decide +kernel
theorem d_Plan_waysFrom_8 : decode prog_5_method_10_code 8 = .ok (.aload_n 0, 1) := by decide +kernel
theorem d_Plan_waysFrom_9 : decode prog_5_method_10_code 9 = .ok (.getfield 23, 3) := by decide +kernel
theorem d_Plan_waysFrom_12 : decode prog_5_method_10_code 12 = .ok (.getfield 37, 3) := by decide +kernel
theorem d_Plan_waysFrom_15 : decode prog_5_method_10_code 15 = .ok (.if_icmp .ge 57, 3) := by decide +kernel
theorem d_Plan_waysFrom_18 : decode prog_5_method_10_code 18 = .ok (.aload_n 0, 1) := by decide +kernel
theorem d_Plan_waysFrom_19 : decode prog_5_method_10_code 19 = .ok (.getfield 11, 3) := by decide +kernel
theorem d_Plan_waysFrom_22 : decode prog_5_method_10_code 22 = .ok (.iload_n 1, 1) := by decide +kernel
theorem d_Plan_waysFrom_23 : decode prog_5_method_10_code 23 = .ok (.aaload, 1) := by decide +kernel
theorem d_Plan_waysFrom_24 : decode prog_5_method_10_code 24 = .ok (.iload 5, 2) := by decide +kernel
theorem d_Plan_waysFrom_26 : decode prog_5_method_10_code 26 = .ok (.iaload, 1) := by decide +kernel
theorem d_Plan_waysFrom_27 : decode prog_5_method_10_code 27 = .ok (.iload_n 3, 1) := by decide +kernel
theorem d_Plan_waysFrom_28 : decode prog_5_method_10_code 28 = .ok (.if_icmp .gt 38, 3) := by decide +kernel
theorem d_Plan_waysFrom_31 : decode prog_5_method_10_code 31 = .ok (.iload_n 2, 1) := by decide +kernel
theorem d_Plan_waysFrom_32 : decode prog_5_method_10_code 32 = .ok (.aload_n 0, 1) := by decide +kernel
theorem d_Plan_waysFrom_33 : decode prog_5_method_10_code 33 = .ok (.getfield 16, 3) := by decide +kernel
theorem d_Plan_waysFrom_36 : decode prog_5_method_10_code 36 = .ok (.iload 5, 2) := by decide +kernel
theorem d_Plan_waysFrom_38 : decode prog_5_method_10_code 38 = .ok (.iaload, 1) := by decide +kernel
theorem d_Plan_waysFrom_39 : decode prog_5_method_10_code 39 = .ok (.iand, 1) := by decide +kernel
theorem d_Plan_waysFrom_40 : decode prog_5_method_10_code 40 = .ok (.ifCond .ne 26, 3) := by decide +kernel
theorem d_Plan_waysFrom_43 : decode prog_5_method_10_code 43 = .ok (.iload 4, 2) := by decide +kernel
theorem d_Plan_waysFrom_45 : decode prog_5_method_10_code 45 = .ok (.aload_n 0, 1) := by decide +kernel
theorem d_Plan_waysFrom_46 : decode prog_5_method_10_code 46 = .ok (.getfield 20, 3) := by decide +kernel
theorem d_Plan_waysFrom_49 : decode prog_5_method_10_code 49 = .ok (.iload_n 1, 1) := by decide +kernel
theorem d_Plan_waysFrom_50 : decode prog_5_method_10_code 50 = .ok (.iconst 1, 1) := by decide +kernel
theorem d_Plan_waysFrom_51 : decode prog_5_method_10_code 51 = .ok (.iadd, 1) := by decide +kernel
theorem d_Plan_waysFrom_52 : decode prog_5_method_10_code 52 = .ok (.aaload, 1) := by decide +kernel
theorem d_Plan_waysFrom_53 : decode prog_5_method_10_code 53 = .ok (.iload_n 2, 1) := by decide +kernel
theorem d_Plan_waysFrom_54 : decode prog_5_method_10_code 54 = .ok (.aload_n 0, 1) := by decide +kernel
theorem d_Plan_waysFrom_55 : decode prog_5_method_10_code 55 = .ok (.getfield 16, 3) := by decide +kernel
theorem d_Plan_waysFrom_58 : decode prog_5_method_10_code 58 = .ok (.iload 5, 2) := by decide +kernel
theorem d_Plan_waysFrom_60 : decode prog_5_method_10_code 60 = .ok (.iaload, 1) := by decide +kernel
theorem d_Plan_waysFrom_61 : decode prog_5_method_10_code 61 = .ok (.ior, 1) := by decide +kernel
theorem d_Plan_waysFrom_62 : decode prog_5_method_10_code 62 = .ok (.iaload, 1) := by decide +kernel
theorem d_Plan_waysFrom_63 : decode prog_5_method_10_code 63 = .ok (.iadd, 1) := by decide +kernel
theorem d_Plan_waysFrom_64 : decode prog_5_method_10_code 64 = .ok (.istore 4, 2) := by decide +kernel
theorem d_Plan_waysFrom_66 : decode prog_5_method_10_code 66 = .ok (.iinc 5 1, 3) := by decide +kernel
theorem d_Plan_waysFrom_69 : decode prog_5_method_10_code 69 = .ok (.goto (-63), 3) := by decide +kernel
theorem d_Plan_waysFrom_72 : decode prog_5_method_10_code 72 = .ok (.iload 4, 2) := by decide +kernel
theorem d_Plan_waysFrom_74 : decode prog_5_method_10_code 74 = .ok (.ireturn, 1) := by decide +kernel
theorem d_Plan_waysWithin_0 : decode prog_5_method_9_code 0 = .ok (.aload_n 0, 1) := by decide +kernel
theorem d_Plan_waysWithin_1 : decode prog_5_method_9_code 1 = .ok (.iconst 1, 1) := by decide +kernel
theorem d_Plan_waysWithin_2 : decode prog_5_method_9_code 2 = .ok (.invokevirtual 46, 3) := by decide +kernel
theorem d_Plan_waysWithin_5 : decode prog_5_method_9_code 5 = .ok (.aload_n 0, 1) := by decide +kernel
theorem d_Plan_waysWithin_6 : decode prog_5_method_9_code 6 = .ok (.iconst 1, 1) := by decide +kernel
theorem d_Plan_waysWithin_7 : decode prog_5_method_9_code 7 = .ok (.invokevirtual 50, 3) := by decide +kernel
theorem d_Plan_waysWithin_10 : decode prog_5_method_9_code 10 = .ok (.aload_n 0, 1) := by decide +kernel
theorem d_Plan_waysWithin_11 : decode prog_5_method_9_code 11 = .ok (.getfield 23, 3) := by decide +kernel
theorem d_Plan_waysWithin_14 : decode prog_5_method_9_code 14 = .ok (.getfield 31, 3) := by decide +kernel
theorem d_Plan_waysWithin_17 : decode prog_5_method_9_code 17 = .ok (.iconst 1, 1) := by decide +kernel
theorem d_Plan_waysWithin_18 : decode prog_5_method_9_code 18 = .ok (.isub, 1) := by decide +kernel
theorem d_Plan_waysWithin_19 : decode prog_5_method_9_code 19 = .ok (.istore_n 2, 1) := by decide +kernel
theorem d_Plan_waysWithin_20 : decode prog_5_method_9_code 20 = .ok (.iload_n 2, 1) := by decide +kernel
theorem d_Plan_waysWithin_21 : decode prog_5_method_9_code 21 = .ok (.ifCond .lt 38, 3) := by decide +kernel
theorem d_Plan_waysWithin_24 : decode prog_5_method_9_code 24 = .ok (.iconst 0, 1) := by decide +kernel
theorem d_Plan_waysWithin_25 : decode prog_5_method_9_code 25 = .ok (.istore_n 3, 1) := by decide +kernel
theorem d_Plan_waysWithin_26 : decode prog_5_method_9_code 26 = .ok (.iload_n 3, 1) := by decide +kernel
theorem d_Plan_waysWithin_27 : decode prog_5_method_9_code 27 = .ok (.bipush 32, 2) := by decide +kernel
theorem d_Plan_waysWithin_29 : decode prog_5_method_9_code 29 = .ok (.if_icmp .ge 24, 3) := by decide +kernel
theorem d_Plan_waysWithin_32 : decode prog_5_method_9_code 32 = .ok (.aload_n 0, 1) := by decide +kernel
theorem d_Plan_waysWithin_33 : decode prog_5_method_9_code 33 = .ok (.getfield 20, 3) := by decide +kernel
theorem d_Plan_waysWithin_36 : decode prog_5_method_9_code 36 = .ok (.iload_n 2, 1) := by decide +kernel
theorem d_Plan_waysWithin_37 : decode prog_5_method_9_code 37 = .ok (.aaload, 1) := by decide +kernel
theorem d_Plan_waysWithin_38 : decode prog_5_method_9_code 38 = .ok (.iload_n 3, 1) := by decide +kernel
theorem d_Plan_waysWithin_39 : decode prog_5_method_9_code 39 = .ok (.aload_n 0, 1) := by decide +kernel
theorem d_Plan_waysWithin_40 : decode prog_5_method_9_code 40 = .ok (.iload_n 2, 1) := by decide +kernel
theorem d_Plan_waysWithin_41 : decode prog_5_method_9_code 41 = .ok (.iload_n 3, 1) := by decide +kernel
theorem d_Plan_waysWithin_42 : decode prog_5_method_9_code 42 = .ok (.iload_n 1, 1) := by decide +kernel
theorem d_Plan_waysWithin_43 : decode prog_5_method_9_code 43 = .ok (.invokevirtual 79, 3) := by decide +kernel
theorem d_Plan_waysWithin_46 : decode prog_5_method_9_code 46 = .ok (.iastore, 1) := by decide +kernel
theorem d_Plan_waysWithin_47 : decode prog_5_method_9_code 47 = .ok (.iinc 3 1, 3) := by decide +kernel
theorem d_Plan_waysWithin_50 : decode prog_5_method_9_code 50 = .ok (.goto (-24), 3) := by decide +kernel
theorem d_Plan_waysWithin_53 : decode prog_5_method_9_code 53 = .ok (.iinc 2 (-1), 3) := by decide +kernel
theorem d_Plan_waysWithin_56 : decode prog_5_method_9_code 56 = .ok (.goto (-36), 3) := by decide +kernel
theorem d_Plan_waysWithin_59 : decode prog_5_method_9_code 59 = .ok (.aload_n 0, 1) := by decide +kernel
theorem d_Plan_waysWithin_60 : decode prog_5_method_9_code 60 = .ok (.getfield 20, 3) := by decide +kernel
theorem d_Plan_waysWithin_63 : decode prog_5_method_9_code 63 = .ok (.iconst 0, 1) := by decide +kernel
theorem d_Plan_waysWithin_64 : decode prog_5_method_9_code 64 = .ok (.aaload, 1) := by decide +kernel
theorem d_Plan_waysWithin_65 : decode prog_5_method_9_code 65 = .ok (.iconst 0, 1) := by decide +kernel
theorem d_Plan_waysWithin_66 : decode prog_5_method_9_code 66 = .ok (.iaload, 1) := by decide +kernel
theorem d_Plan_waysWithin_67 : decode prog_5_method_9_code 67 = .ok (.ireturn, 1) := by decide +kernel
def w_Plan_lookAtCosts_15 (N : Nat) : Nat → Nat → Nat → Int32 → Int32 → qH → (qH → Prop) → (Nat → Nat → Int32 → qH → Prop) → Prop
  | 0 => fun _ _ _ _ _ _ _ => False
  | k + 1 => fun x0 x1 x2 x3 h Q K50 => (qS h x0 = .inl 3 ∧ (qS h (qR h x0 0) = .inl 8 ∧ (((qI h (qR h x0 0) 0) ≤ x3 → (K50 x0 x1 x2 h)) ∧ (¬ (qI h (qR h x0 0) 0) ≤ x3 → (qok h (qR h x0 2) 5 x2 ∧ (qS h (qR h x0 1) = .inl 5 ∧ w_Reck_costAlone N (qR h x0 1) x1 x2 x3 h (fun r6 h7 => (qok h7 (qR h (qR h x0 2) (x2).toNatClampNeg) 0 x3 ∧ ∀ h9 : qH, h9 = qsI h7 (qR h (qR h x0 2) (x2).toNatClampNeg) (x3).toNatClampNeg r6 → (w_Plan_lookAtCosts_15 N k x0 x1 x2 (x3 + (1 : Int32)) h9 Q K50)))))))))
def w_Plan_lookAtCosts_2 (N : Nat) : Nat → Nat → Nat → Int32 → qH → (qH → Prop) → Prop
  | 0 => fun _ _ _ _ _ => False
  | k + 1 => fun x0 x1 x2 h Q => (qS h x0 = .inl 3 ∧ (qS h (qR h x0 0) = .inl 8 ∧ (((qI h (qR h x0 0) 3) ≤ x2 → Q h) ∧ (¬ (qI h (qR h x0 0) 3) ≤ x2 → (w_Plan_lookAtCosts_15 N N x0 x1 x2 (0 : Int32) h Q (fun x4 x5 x6 h7 => (w_Plan_lookAtCosts_2 N k x4 x5 (x6 + (1 : Int32)) h7 Q)))))))
def w_Plan_lookAtCosts (N : Nat) (x0 : Nat) (x1 : Nat) (h : qH) (Q : qH → Prop) : Prop := (w_Plan_lookAtCosts_2 N N x0 x1 (0 : Int32) h Q )
def w_Plan_clearLast_15 (N : Nat) : Nat → Int32 → Nat → Int32 → qH → (qH → Prop) → Prop
  | 0 => fun _ _ _ _ _ => False
  | k + 1 => fun x1 x2 x3 h Q => (∃ n1, qS h x2 = .inr (0, n1) ∧ (((nI n1) ≤ x3 → Q h) ∧ (¬ (nI n1) ≤ x3 → (qok h x2 0 x3 ∧ ∀ h5 : qH, h5 = qsI h x2 (x3).toNatClampNeg x1 → (w_Plan_clearLast_15 N k x1 x2 (x3 + (1 : Int32)) h5 Q)))))
def w_Plan_clearLast (N : Nat) (x0 : Nat) (x1 : Int32) (h : qH) (Q : qH → Prop) : Prop := (qS h x0 = .inl 3 ∧ (qS h (qR h x0 0) = .inl 8 ∧ (qok h (qR h x0 4) 5 (qI h (qR h x0 0) 3) ∧ (∀ y4 : Nat, y4 = (qR h (qR h x0 4) ((qI h (qR h x0 0) 3)).toNatClampNeg) → (w_Plan_clearLast_15 N N x1 y4 (0 : Int32) h Q )))))
def w_Plan_worthOf (N : Nat) (x0 : Nat) (x1 : Int32) (x2 : Int32) (x3 : Int32) (h : qH) (Q : Int32 → qH → Prop) : Prop := (qS h x0 = .inl 3 ∧ (qok h (qR h x0 2) 5 x1 ∧ (qok h (qR h (qR h x0 2) (x1).toNatClampNeg) 0 x3 ∧ (qok h (qR h x0 4) 5 (x1 + (1 : Int32)) ∧ (qok h (qR h x0 3) 0 x3 ∧ (qok h (qR h (qR h x0 4) ((x1 + (1 : Int32))).toNatClampNeg) 0 (x2 ||| (qI h (qR h x0 3) (x3).toNatClampNeg)) ∧ Q (((qI h (qR h (qR h x0 2) (x1).toNatClampNeg) (x3).toNatClampNeg) - (1000 : Int32)) + (qI h (qR h (qR h x0 4) ((x1 + (1 : Int32))).toNatClampNeg) ((x2 ||| (qI h (qR h x0 3) (x3).toNatClampNeg))).toNatClampNeg)) h))))))
def w_Plan_leastFrom_15 (N : Nat) : Nat → Nat → Int32 → Int32 → Int32 → Int32 → Int32 → qH → (Int32 → qH → Prop) → Prop
  | 0 => fun _ _ _ _ _ _ _ _ => False
  | k + 1 => fun x0 x1 x2 x3 x4 x5 h Q => (qS h x0 = .inl 3 ∧ (qS h (qR h x0 0) = .inl 8 ∧ (((qI h (qR h x0 0) 0) ≤ x5 → Q x4 h) ∧ (¬ (qI h (qR h x0 0) 0) ≤ x5 → ((x5 = x3 → (w_Plan_leastFrom_15 N k x0 x1 x2 x3 x4 (x5 + (1 : Int32)) h Q)) ∧ (¬ x5 = x3 → (qok h (qR h x0 3) 0 x5 ∧ ((¬ (x2 &&& (qI h (qR h x0 3) (x5).toNatClampNeg)) = 0 → (w_Plan_leastFrom_15 N k x0 x1 x2 x3 x4 (x5 + (1 : Int32)) h Q)) ∧ ((x2 &&& (qI h (qR h x0 3) (x5).toNatClampNeg)) = 0 → (w_Plan_worthOf N x0 x1 x2 x5 h (fun r7 h8 => (∀ y9 : Int32, y9 = (if r7 < x4 then r7 else x4) → (w_Plan_leastFrom_15 N k x0 x1 x2 x3 y9 (x5 + (1 : Int32)) h8 Q)))))))))))))
def w_Plan_leastFrom (N : Nat) (x0 : Nat) (x1 : Int32) (x2 : Int32) (x3 : Int32) (h : qH) (Q : Int32 → qH → Prop) : Prop := (qS h x0 = .inl 3 ∧ (qok h (qR h x0 4) 5 (x1 + (1 : Int32)) ∧ (qok h (qR h (qR h x0 4) ((x1 + (1 : Int32))).toNatClampNeg) 0 x2 ∧ (∀ y4 : Int32, y4 = (qI h (qR h (qR h x0 4) ((x1 + (1 : Int32))).toNatClampNeg) (x2).toNatClampNeg) → (w_Plan_leastFrom_15 N N x0 x1 x2 x3 y4 (0 : Int32) h Q )))))
def w_Plan_letTake_2 (N : Nat) : Nat → Nat → Int32 → Int32 → qH → (qH → Prop) → Prop
  | 0 => fun _ _ _ _ _ => False
  | k + 1 => fun x0 x1 x2 h Q => (qS h x0 = .inl 3 ∧ (qS h (qR h x0 0) = .inl 8 ∧ (((qI h (qR h x0 0) 0) ≤ x2 → Q h) ∧ (¬ (qI h (qR h x0 0) 0) ≤ x2 → ((x1 = 0 → (qok h (qR h x0 3) 0 x2 ∧ ∀ h6 : qH, h6 = qsI h (qR h x0 3) (x2).toNatClampNeg ((1 : Int32) <<< (x2 &&& 31)) → (w_Plan_letTake_2 N k x0 x1 (x2 + (1 : Int32)) h6 Q))) ∧ (¬ x1 = 0 → (qok h (qR h (qR h x0 0) 1) 0 x2 ∧ (qok h (qR h x0 3) 0 x2 ∧ ∀ h9 : qH, h9 = qsI h (qR h x0 3) (x2).toNatClampNeg ((1 : Int32) <<< ((qI h (qR h (qR h x0 0) 1) (x2).toNatClampNeg) &&& 31)) → (w_Plan_letTake_2 N k x0 x1 (x2 + (1 : Int32)) h9 Q)))))))))
def w_Plan_letTake (N : Nat) (x0 : Nat) (x1 : Int32) (h : qH) (Q : qH → Prop) : Prop := (w_Plan_letTake_2 N N x0 x1 (0 : Int32) h Q )
def w_Plan_findBest_27 (N : Nat) : Nat → Nat → Int32 → Int32 → Int32 → qH → (Int32 → qH → Prop) → (Nat → Int32 → Int32 → qH → Prop) → Prop
  | 0 => fun _ _ _ _ _ _ _ => False
  | k + 1 => fun x0 x2 x3 x4 h Q K71 => (qS h x0 = .inl 3 ∧ (qok h (qR h x0 4) 5 x3 ∧ (∃ n3, qS h (qR h (qR h x0 4) (x3).toNatClampNeg) = .inr (0, n3) ∧ (((nI n3) ≤ x4 → (K71 x0 x2 x3 h)) ∧ (¬ (nI n3) ≤ x4 → (w_Integer_bitCount N x4 h (fun r6 h7 => ((x3 < r6 → (w_Plan_findBest_27 N k x0 x2 x3 (x4 + (1 : Int32)) h7 Q K71)) ∧ (¬ x3 < r6 → (qS h7 x0 = .inl 3 ∧ (qok h7 (qR h7 x0 4) 5 x3 ∧ (w_Plan_leastFrom N x0 x3 x4 x2 h7 (fun r11 h12 => (qok h12 (qR h7 (qR h7 x0 4) (x3).toNatClampNeg) 0 x4 ∧ ∀ h14 : qH, h14 = qsI h12 (qR h7 (qR h7 x0 4) (x3).toNatClampNeg) (x4).toNatClampNeg r11 → (w_Plan_findBest_27 N k x0 x2 x3 (x4 + (1 : Int32)) h14 Q K71)))))))))))))))
def w_Plan_findBest_20 (N : Nat) : Nat → Nat → Int32 → Int32 → qH → (Int32 → qH → Prop) → Prop
  | 0 => fun _ _ _ _ _ => False
  | k + 1 => fun x0 x2 x3 h Q => ((x3 < 0 → (qS h x0 = .inl 3 ∧ (qok h (qR h x0 4) 5 (0 : Int32) ∧ (qok h (qR h (qR h x0 4) ((0 : Int32)).toNatClampNeg) 0 (0 : Int32) ∧ Q (qI h (qR h (qR h x0 4) ((0 : Int32)).toNatClampNeg) ((0 : Int32)).toNatClampNeg) h)))) ∧ (¬ x3 < 0 → (w_Plan_findBest_27 N N x0 x2 x3 (0 : Int32) h Q (fun x5 x6 x7 h8 => (w_Plan_findBest_20 N k x5 x6 (x7 + (-1 : Int32)) h8 Q)))))
def w_Plan_findBest (N : Nat) (x0 : Nat) (x1 : Int32) (x2 : Int32) (h : qH) (Q : Int32 → qH → Prop) : Prop := (qS h x0 = .inl 3 ∧ w_Plan_letTake N x0 x1 h (fun h2 => (qS h2 x0 = .inl 3 ∧ w_Plan_clearLast N x0 (0 : Int32) h2 (fun h4 => (qS h4 x0 = .inl 3 ∧ (qS h4 (qR h4 x0 0) = .inl 8 ∧ (∀ y7 : Int32, y7 = ((qI h4 (qR h4 x0 0) 3) - (1 : Int32)) → (w_Plan_findBest_20 N N x0 x2 y7 h4 Q ))))))))
def w_Plan_costOf (N : Nat) (x0 : Nat) (x1 : Int32) (h : qH) (Q : Int32 → qH → Prop) : Prop := (w_Math_floorMod N x1 (1000 : Int32) h (fun r1 h2 => Q r1 h2))
def w_Plan_firstBest_38 (N : Nat) (x0 : Nat) (x1 : Int32) (x2 : Int32) (x3 : Int32) (x4 : Int32) (z0 : Int32) (h : qH) (Q : Int32 → qH → Prop) (K3 : Nat → Int32 → Int32 → Int32 → Int32 → qH → Prop) : Prop := ((z0 = 0 → (K3 x0 x1 x2 x3 (x4 + (1 : Int32)) h)) ∧ (¬ z0 = 0 → (qS h x0 = .inl 3 ∧ w_Plan_worthOf N x0 x1 x2 x4 h (fun r3 h4 => (qS h4 x0 = .inl 3 ∧ (qok h4 (qR h4 x0 4) 5 x1 ∧ (qok h4 (qR h4 (qR h4 x0 4) (x1).toNatClampNeg) 0 x2 ∧ ((¬ r3 = (qI h4 (qR h4 (qR h4 x0 4) (x1).toNatClampNeg) (x2).toNatClampNeg) → (K3 x0 x1 x2 x3 (x4 + (1 : Int32)) h4)) ∧ (r3 = (qI h4 (qR h4 (qR h4 x0 4) (x1).toNatClampNeg) (x2).toNatClampNeg) → Q x4 h4)))))))))
def w_Plan_firstBest_37 (N : Nat) (x0 : Nat) (x1 : Int32) (x2 : Int32) (x3 : Int32) (x4 : Int32) (h : qH) (Q : Int32 → qH → Prop) (K3 : Nat → Int32 → Int32 → Int32 → Int32 → qH → Prop) : Prop := (w_Plan_firstBest_38 N x0 x1 x2 x3 x4 (0 : Int32) h Q K3)
def w_Plan_firstBest_3 (N : Nat) : Nat → Nat → Int32 → Int32 → Int32 → Int32 → qH → (Int32 → qH → Prop) → Prop
  | 0 => fun _ _ _ _ _ _ _ => False
  | k + 1 => fun x0 x1 x2 x3 x4 h Q => (qS h x0 = .inl 3 ∧ (qS h (qR h x0 0) = .inl 8 ∧ (((qI h (qR h x0 0) 0) ≤ x4 → Q (-2 : Int32) h) ∧ (¬ (qI h (qR h x0 0) 0) ≤ x4 → ((x4 = x3 → (w_Plan_firstBest_37 N x0 x1 x2 x3 x4 h Q (fun x0 x1 x2 x3 x4 h => w_Plan_firstBest_3 N k x0 x1 x2 x3 x4 h Q))) ∧ (¬ x4 = x3 → (qok h (qR h x0 3) 0 x4 ∧ ((¬ (x2 &&& (qI h (qR h x0 3) (x4).toNatClampNeg)) = 0 → (w_Plan_firstBest_37 N x0 x1 x2 x3 x4 h Q (fun x0 x1 x2 x3 x4 h => w_Plan_firstBest_3 N k x0 x1 x2 x3 x4 h Q))) ∧ ((x2 &&& (qI h (qR h x0 3) (x4).toNatClampNeg)) = 0 → (w_Plan_firstBest_38 N x0 x1 x2 x3 x4 (1 : Int32) h Q (fun x0 x1 x2 x3 x4 h => w_Plan_firstBest_3 N k x0 x1 x2 x3 x4 h Q)))))))))))
def w_Plan_firstBest (N : Nat) (x0 : Nat) (x1 : Int32) (x2 : Int32) (x3 : Int32) (h : qH) (Q : Int32 → qH → Prop) : Prop := (w_Plan_firstBest_3 N N x0 x1 x2 x3 (0 : Int32) h Q )
def w_Plan_hangerFor_9 (N : Nat) : Nat → Nat → Int32 → Int32 → Int32 → Int32 → Int32 → qH → (Int32 → qH → Prop) → Prop
  | 0 => fun _ _ _ _ _ _ _ _ => False
  | k + 1 => fun x0 x1 x2 x3 x4 x5 h Q => ((x1 < x5 → Q x4 h) ∧ (¬ x1 < x5 → (qS h x0 = .inl 3 ∧ (qS h (qR h x0 0) = .inl 8 ∧ (((qI h (qR h x0 0) 3) ≤ x5 → Q x4 h) ∧ (¬ (qI h (qR h x0 0) 3) ≤ x5 → (w_Plan_firstBest N x0 x5 x3 x2 h (fun r5 h6 => ((r5 < 0 → (∀ y8 : Int32, y8 = (x3 ||| (0 : Int32)) → (w_Plan_hangerFor_9 N k x0 x1 x2 y8 r5 (x5 + (1 : Int32)) h6 Q))) ∧ (¬ r5 < 0 → (qS h6 x0 = .inl 3 ∧ (qok h6 (qR h6 x0 3) 0 r5 ∧ (∀ y11 : Int32, y11 = (x3 ||| (qI h6 (qR h6 x0 3) (r5).toNatClampNeg)) → (w_Plan_hangerFor_9 N k x0 x1 x2 y11 r5 (x5 + (1 : Int32)) h6 Q))))))))))))))
def w_Plan_hangerFor (N : Nat) (x0 : Nat) (x1 : Int32) (x2 : Int32) (h : qH) (Q : Int32 → qH → Prop) : Prop := (w_Plan_hangerFor_9 N N x0 x1 x2 (0 : Int32) (-2 : Int32) (0 : Int32) h Q )
def w_Plan_waysFrom_6 (N : Nat) : Nat → Nat → Int32 → Int32 → Int32 → Int32 → Int32 → qH → (Int32 → qH → Prop) → Prop
  | 0 => fun _ _ _ _ _ _ _ _ => False
  | k + 1 => fun x0 x1 x2 x3 x4 x5 h Q => (qS h x0 = .inl 3 ∧ (qS h (qR h x0 0) = .inl 8 ∧ (((qI h (qR h x0 0) 0) ≤ x5 → Q x4 h) ∧ (¬ (qI h (qR h x0 0) 0) ≤ x5 → (qok h (qR h x0 2) 5 x1 ∧ (qok h (qR h (qR h x0 2) (x1).toNatClampNeg) 0 x5 ∧ ((x3 < (qI h (qR h (qR h x0 2) (x1).toNatClampNeg) (x5).toNatClampNeg) → (w_Plan_waysFrom_6 N k x0 x1 x2 x3 x4 (x5 + (1 : Int32)) h Q)) ∧ (¬ x3 < (qI h (qR h (qR h x0 2) (x1).toNatClampNeg) (x5).toNatClampNeg) → (qok h (qR h x0 3) 0 x5 ∧ ((¬ (x2 &&& (qI h (qR h x0 3) (x5).toNatClampNeg)) = 0 → (w_Plan_waysFrom_6 N k x0 x1 x2 x3 x4 (x5 + (1 : Int32)) h Q)) ∧ ((x2 &&& (qI h (qR h x0 3) (x5).toNatClampNeg)) = 0 → (qok h (qR h x0 4) 5 (x1 + (1 : Int32)) ∧ (qok h (qR h (qR h x0 4) ((x1 + (1 : Int32))).toNatClampNeg) 0 (x2 ||| (qI h (qR h x0 3) (x5).toNatClampNeg)) ∧ (∀ y11 : Int32, y11 = (x4 + (qI h (qR h (qR h x0 4) ((x1 + (1 : Int32))).toNatClampNeg) ((x2 ||| (qI h (qR h x0 3) (x5).toNatClampNeg))).toNatClampNeg)) → (w_Plan_waysFrom_6 N k x0 x1 x2 x3 y11 (x5 + (1 : Int32)) h Q)))))))))))))))
def w_Plan_waysFrom (N : Nat) (x0 : Nat) (x1 : Int32) (x2 : Int32) (x3 : Int32) (h : qH) (Q : Int32 → qH → Prop) : Prop := (w_Plan_waysFrom_6 N N x0 x1 x2 x3 (0 : Int32) (0 : Int32) h Q )
def w_Plan_waysWithin_26 (N : Nat) : Nat → Nat → Int32 → Int32 → Int32 → qH → (Int32 → qH → Prop) → (Nat → Int32 → Int32 → qH → Prop) → Prop
  | 0 => fun _ _ _ _ _ _ _ => False
  | k + 1 => fun x0 x1 x2 x3 h Q K53 => (((32 : Int32) ≤ x3 → (K53 x0 x1 x2 h)) ∧ (¬ (32 : Int32) ≤ x3 → (qS h x0 = .inl 3 ∧ (qok h (qR h x0 4) 5 x2 ∧ (w_Plan_waysFrom N x0 x2 x3 x1 h (fun r4 h5 => (qok h5 (qR h (qR h x0 4) (x2).toNatClampNeg) 0 x3 ∧ ∀ h7 : qH, h7 = qsI h5 (qR h (qR h x0 4) (x2).toNatClampNeg) (x3).toNatClampNeg r4 → (w_Plan_waysWithin_26 N k x0 x1 x2 (x3 + (1 : Int32)) h7 Q K53))))))))
def w_Plan_waysWithin_20 (N : Nat) : Nat → Nat → Int32 → Int32 → qH → (Int32 → qH → Prop) → Prop
  | 0 => fun _ _ _ _ _ => False
  | k + 1 => fun x0 x1 x2 h Q => ((x2 < 0 → (qS h x0 = .inl 3 ∧ (qok h (qR h x0 4) 5 (0 : Int32) ∧ (qok h (qR h (qR h x0 4) ((0 : Int32)).toNatClampNeg) 0 (0 : Int32) ∧ Q (qI h (qR h (qR h x0 4) ((0 : Int32)).toNatClampNeg) ((0 : Int32)).toNatClampNeg) h)))) ∧ (¬ x2 < 0 → (w_Plan_waysWithin_26 N N x0 x1 x2 (0 : Int32) h Q (fun x5 x6 x7 h8 => (w_Plan_waysWithin_20 N k x5 x6 (x7 + (-1 : Int32)) h8 Q)))))
def w_Plan_waysWithin (N : Nat) (x0 : Nat) (x1 : Int32) (h : qH) (Q : Int32 → qH → Prop) : Prop := (qS h x0 = .inl 3 ∧ w_Plan_letTake N x0 (1 : Int32) h (fun h2 => (qS h2 x0 = .inl 3 ∧ w_Plan_clearLast N x0 (1 : Int32) h2 (fun h4 => (qS h4 x0 = .inl 3 ∧ (qS h4 (qR h4 x0 0) = .inl 8 ∧ (∀ y7 : Int32, y7 = ((qI h4 (qR h4 x0 0) 3) - (1 : Int32)) → (w_Plan_waysWithin_20 N N x0 x1 y7 h4 Q ))))))))
section QG
variable {p : Program} {l : Launch} {e : Env} {s : State} {m : MethodId} {args : Array Value} {below : List Frame} {meth : Method} {c : Code} {D : va_G} {cy : Nat → ClassId} {b : Nat} {adK adV : Nat → Nat}

set_option maxRecDepth 4000 in
theorem t_Plan_lookAtCosts_15 (X : qX p s m args meth c D cy b adK adV prog_5_method_2_code "CoatHangers$Plan" 4 (none) "lookAtCosts") (N k : Nat) (x0 : Nat) (x1 : Nat) (x2 : Int32) (x3 : Int32) (h : qH) (Q : qH → Prop) (K50 : Nat → Nat → Int32 → qH → Prop) (hw : w_Plan_lookAtCosts_15 N k x0 x1 x2 x3 h Q K50) (hK50 : ∀ (x0 : Nat) (x1 : Nat) (x2 : Int32) (h : qH), K50 x0 x1 x2 h → qW p l e (qrm 4 0 0 92) s m args below meth c D cy b 4 0 0 (MQ below (qQc D cy b qrV (fun (_ : Unit) h => Q h)) args s 0 0 (qA b)) 50 [(0, .inr (.inr (.inl x0))), (1, .inr (.inr (.inl x1))), (2, .inl x2)] [] h) : qW p l e (qrm 4 0 0 92) s m args below meth c D cy b 4 0 0 (MQ below (qQc D cy b qrV (fun (_ : Unit) h => Q h)) args s 0 0 (qA b)) 15 [(0, .inr (.inr (.inl x0))), (1, .inr (.inr (.inl x1))), (2, .inl x2), (3, .inl x3)] [] h := by
  induction k generalizing x0 x1 x2 x3 h with
  | zero => exact hw.elim
  | succ k ih =>
    refine qx_iload_n (x := x3) X d_Plan_lookAtCosts_15 rfl 3 rfl ?_
    refine qx_aload_n (x := x0) X d_Plan_lookAtCosts_16 rfl 0 rfl ?_
    obtain ⟨g1, hw⟩ := hw
    refine qx_getR X qcls3 g1 0 (by decide) rfl wf_Plan_23 d_Plan_lookAtCosts_17 ?_
    obtain ⟨g2, hw⟩ := hw
    refine qx_getI X qcls8 g2 0 (by decide) rfl wf_Plan_37 d_Plan_lookAtCosts_20 ?_
    refine qx_icmp_ge X 50 d_Plan_lookAtCosts_23 (by decide) (fun q3 => ?_) (fun q3 => ?_)
    · have hw := hw.1 q3
      refine qx_sub [0, 1, 2] rfl ?_
      exact hK50 x0 x1 x2 h hw
    · have hw := hw.2 q3
      refine qx_aload_n (x := x0) X d_Plan_lookAtCosts_26 rfl 0 rfl ?_
      refine qx_getR X qcls3 g1 2 (by decide) rfl wf_Plan_11 d_Plan_lookAtCosts_27 ?_
      refine qx_iload_n (x := x2) X d_Plan_lookAtCosts_30 rfl 2 rfl ?_
      obtain ⟨g4, hw⟩ := hw
      refine qx_agld X g4 d_Plan_lookAtCosts_31 ?_
      refine qx_iload_n (x := x3) X d_Plan_lookAtCosts_32 rfl 3 rfl ?_
      refine qx_aload_n (x := x0) X d_Plan_lookAtCosts_33 rfl 0 rfl ?_
      refine qx_getR X qcls3 g1 1 (by decide) rfl wf_Plan_27 d_Plan_lookAtCosts_34 ?_
      refine qx_aload_n (x := x1) X d_Plan_lookAtCosts_37 rfl 1 rfl ?_
      refine qx_iload_n (x := x2) X d_Plan_lookAtCosts_38 rfl 2 rfl ?_
      refine qx_iload_n (x := x3) X d_Plan_lookAtCosts_39 rfl 3 rfl ?_
      obtain ⟨g5, hw⟩ := hw
      refine qx_callVI (st := [.int x3, qr b (qR h (qR h x0 2) (x2).toNatClampNeg)]) (As := [qr b x1, .int x2, .int x3]) X (t_Reck_costAlone (adK := adK) (adV := adV) l D cy b N (qR h x0 1) x1 x2 x3 h _ hw) qm_Reck_costAlone wm_Plan_40 wi_Reck_costAlone wl_Reck_costAlone qcls5 g5 rfl rfl rfl ⟨Nat.le_of_ble_eq_true rfl, Nat.le_of_ble_eq_true rfl⟩ ⟨Nat.le_refl 0, Nat.le_refl 0⟩ (Nat.le_of_ble_eq_true rfl) rfl d_Plan_lookAtCosts_40 (fun r6 h7 hw => ?_)
      obtain ⟨g8, hw⟩ := hw
      refine qx_ist X g8 d_Plan_lookAtCosts_43 ?_
      refine qx_toph (fun h9 eh9 => ?_)
      have hw := hw h9 eh9
      refine qx_iinc (v := (x3 + (1 : Int32))) (L' := [(3, .inl (x3 + (1 : Int32))), (0, .inr (.inr (.inl x0))), (1, .inr (.inr (.inl x1))), (2, .inl x2)]) X d_Plan_lookAtCosts_44 3 rfl rfl (by decide) rfl ?_
      refine qx_goto X 15 d_Plan_lookAtCosts_47 (by decide) ?_
      refine qx_sub [1, 2, 3, 0] rfl ?_
      exact ih x0 x1 x2 (x3 + (1 : Int32)) h9 hw
set_option maxRecDepth 4000 in
theorem t_Plan_lookAtCosts_2 (X : qX p s m args meth c D cy b adK adV prog_5_method_2_code "CoatHangers$Plan" 4 (none) "lookAtCosts") (N k : Nat) (x0 : Nat) (x1 : Nat) (x2 : Int32) (h : qH) (Q : qH → Prop)  (hw : w_Plan_lookAtCosts_2 N k x0 x1 x2 h Q ) : qW p l e (qrm 4 0 0 92) s m args below meth c D cy b 4 0 0 (MQ below (qQc D cy b qrV (fun (_ : Unit) h => Q h)) args s 0 0 (qA b)) 2 [(0, .inr (.inr (.inl x0))), (1, .inr (.inr (.inl x1))), (2, .inl x2)] [] h := by
  induction k generalizing x0 x1 x2 h with
  | zero => exact hw.elim
  | succ k ih =>
    refine qx_iload_n (x := x2) X d_Plan_lookAtCosts_2 rfl 2 rfl ?_
    refine qx_aload_n (x := x0) X d_Plan_lookAtCosts_3 rfl 0 rfl ?_
    obtain ⟨g1, hw⟩ := hw
    refine qx_getR X qcls3 g1 0 (by decide) rfl wf_Plan_23 d_Plan_lookAtCosts_4 ?_
    obtain ⟨g2, hw⟩ := hw
    refine qx_getI X qcls8 g2 3 (by decide) rfl wf_Plan_31 d_Plan_lookAtCosts_7 ?_
    refine qx_icmp_ge X 56 d_Plan_lookAtCosts_10 (by decide) (fun q3 => ?_) (fun q3 => ?_)
    · have hw := hw.1 q3
      exact qx_vret X hw (Nat.le_refl 0) (Nat.le_refl 0) rfl d_Plan_lookAtCosts_56
    · have hw := hw.2 q3
      refine qx_iconst (v := (0 : Int32)) X d_Plan_lookAtCosts_13 (by decide) ?_
      refine qx_istore_n (L' := [(3, .inl (0 : Int32)), (0, .inr (.inr (.inl x0))), (1, .inr (.inr (.inl x1))), (2, .inl x2)]) X d_Plan_lookAtCosts_14 rfl (by decide) rfl ?_
      refine qx_sub [1, 2, 3, 0] rfl ?_
      refine t_Plan_lookAtCosts_15 X N N x0 x1 x2 (0 : Int32) h Q _ hw (fun x4 x5 x6 h7 hw => ?_)
      refine qx_iinc (v := (x6 + (1 : Int32))) (L' := [(2, .inl (x6 + (1 : Int32))), (0, .inr (.inr (.inl x4))), (1, .inr (.inr (.inl x5)))]) X d_Plan_lookAtCosts_50 2 rfl rfl (by decide) rfl ?_
      refine qx_goto X 2 d_Plan_lookAtCosts_53 (by decide) ?_
      refine qx_sub [1, 2, 0] rfl ?_
      exact ih x4 x5 (x6 + (1 : Int32)) h7 hw
set_option maxRecDepth 4000 in
theorem t_Plan_lookAtCosts {adK adV : Nat → Nat} (l : Launch) (D : va_G) (cy : Nat → ClassId) (b : Nat) (N : Nat) (x0 : Nat) (x1 : Nat) (h : qH) (Q : qH → Prop) (hw : w_Plan_lookAtCosts N x0 x1 h Q) : Met l y_Plan_lookAtCosts (Cond.code y_Plan_lookAtCosts prog_5_method_2_code 4 (none) :: qT) (qrm 4 0 0 92) (qPc D cy b adK adV h [qr b x0, qr b x1]) (qQc D cy b qrV (fun (_ : Unit) h => Q h)) 0 0 (qA b) := by
  refine qmet (L0 := [(0, .inr (.inr (.inl x0))), (1, .inr (.inr (.inl x1)))]) qm_Plan_lookAtCosts (plainFor_of_name (by decide)) [.inr (.inr (.inl x0)), .inr (.inr (.inl x1))] rfl (Nat.le_of_ble_eq_true rfl) rfl (fun p e s m args below meth c X => ?_)
  unfold w_Plan_lookAtCosts at hw
  refine qx_iconst (v := (0 : Int32)) X d_Plan_lookAtCosts_0 (by decide) ?_
  refine qx_istore_n (L' := [(2, .inl (0 : Int32)), (0, .inr (.inr (.inl x0))), (1, .inr (.inr (.inl x1)))]) X d_Plan_lookAtCosts_1 rfl (by decide) rfl ?_
  refine qx_sub [1, 2, 0] rfl ?_
  exact t_Plan_lookAtCosts_2 X N N x0 x1 (0 : Int32) h Q  hw 
set_option maxRecDepth 4000 in
theorem t_Plan_clearLast_15 (X : qX p s m args meth c D cy b adK adV prog_5_method_12_code "CoatHangers$Plan" 4 (none) "clearLast") (N k : Nat) (x1 : Int32) (x2 : Nat) (x3 : Int32) (h : qH) (Q : qH → Prop)  (hw : w_Plan_clearLast_15 N k x1 x2 x3 h Q ) : qW p l e (qrm 0 0 0 0) s m args below meth c D cy b 4 0 0 (MQ below (qQc D cy b qrV (fun (_ : Unit) h => Q h)) args s 0 0 (qA b)) 15 [(1, .inl x1), (2, .inr (.inr (.inl x2))), (3, .inl x3)] [] h := by
  induction k generalizing x1 x2 x3 h with
  | zero => exact hw.elim
  | succ k ih =>
    refine qx_iload_n (x := x3) X d_Plan_clearLast_15 rfl 2 rfl ?_
    refine qx_aload_n (x := x2) X d_Plan_clearLast_16 rfl 1 rfl ?_
    obtain ⟨n1, g2, hw⟩ := hw
    refine qx_len X g2 (by decide) d_Plan_clearLast_17 ?_
    refine qx_icmp_ge X 31 d_Plan_clearLast_18 (by decide) (fun q3 => ?_) (fun q3 => ?_)
    · have hw := hw.1 q3
      exact qx_vret X hw (Nat.le_refl 0) (Nat.le_refl 0) rfl d_Plan_clearLast_31
    · have hw := hw.2 q3
      refine qx_aload_n (x := x2) X d_Plan_clearLast_21 rfl 1 rfl ?_
      refine qx_iload_n (x := x3) X d_Plan_clearLast_22 rfl 2 rfl ?_
      refine qx_iload_n (x := x1) X d_Plan_clearLast_23 rfl 0 rfl ?_
      obtain ⟨g4, hw⟩ := hw
      refine qx_ist X g4 d_Plan_clearLast_24 ?_
      refine qx_toph (fun h5 eh5 => ?_)
      have hw := hw h5 eh5
      refine qx_iinc (v := (x3 + (1 : Int32))) (L' := [(3, .inl (x3 + (1 : Int32))), (1, .inl x1), (2, .inr (.inr (.inl x2)))]) X d_Plan_clearLast_25 2 rfl rfl (by decide) rfl ?_
      refine qx_goto X 15 d_Plan_clearLast_28 (by decide) ?_
      refine qx_sub [1, 2, 0] rfl ?_
      exact ih x1 x2 (x3 + (1 : Int32)) h5 hw
set_option maxRecDepth 4000 in
theorem t_Plan_clearLast {adK adV : Nat → Nat} (l : Launch) (D : va_G) (cy : Nat → ClassId) (b : Nat) (N : Nat) (x0 : Nat) (x1 : Int32) (h : qH) (Q : qH → Prop) (hw : w_Plan_clearLast N x0 x1 h Q) : Met l y_Plan_clearLast (Cond.code y_Plan_clearLast prog_5_method_12_code 4 (none) :: qT) (qrm 0 0 0 0) (qPc D cy b adK adV h [qr b x0, .int x1]) (qQc D cy b qrV (fun (_ : Unit) h => Q h)) 0 0 (qA b) := by
  refine qmet (L0 := [(0, .inr (.inr (.inl x0))), (1, .inl x1)]) qm_Plan_clearLast (plainFor_of_name (by decide)) [.inr (.inr (.inl x0)), .inl x1] rfl (Nat.le_of_ble_eq_true rfl) rfl (fun p e s m args below meth c X => ?_)
  unfold w_Plan_clearLast at hw
  refine qx_aload_n (x := x0) X d_Plan_clearLast_0 rfl 0 rfl ?_
  obtain ⟨g1, hw⟩ := hw
  refine qx_getR X qcls3 g1 4 (by decide) rfl wf_Plan_20 d_Plan_clearLast_1 ?_
  refine qx_aload_n (x := x0) X d_Plan_clearLast_4 rfl 0 rfl ?_
  refine qx_getR X qcls3 g1 0 (by decide) rfl wf_Plan_23 d_Plan_clearLast_5 ?_
  obtain ⟨g2, hw⟩ := hw
  refine qx_getI X qcls8 g2 3 (by decide) rfl wf_Plan_31 d_Plan_clearLast_8 ?_
  obtain ⟨g3, hw⟩ := hw
  refine qx_agld X g3 d_Plan_clearLast_11 ?_
  refine qx_topr (fun y4 ey4 => ?_)
  have hw := hw y4 ey4
  refine qx_astore_n (L' := [(2, .inr (.inr (.inl y4))), (0, .inr (.inr (.inl x0))), (1, .inl x1)]) X d_Plan_clearLast_12 rfl (by decide) rfl ?_
  refine qx_iconst (v := (0 : Int32)) X d_Plan_clearLast_13 (by decide) ?_
  refine qx_istore_n (L' := [(3, .inl (0 : Int32)), (2, .inr (.inr (.inl y4))), (0, .inr (.inr (.inl x0))), (1, .inl x1)]) X d_Plan_clearLast_14 rfl (by decide) rfl ?_
  refine qx_sub [3, 1, 0] rfl ?_
  exact t_Plan_clearLast_15 X N N x1 y4 (0 : Int32) h Q  hw 
set_option maxRecDepth 4000 in
theorem t_Plan_worthOf {adK adV : Nat → Nat} (l : Launch) (D : va_G) (cy : Nat → ClassId) (b : Nat) (N : Nat) (x0 : Nat) (x1 : Int32) (x2 : Int32) (x3 : Int32) (h : qH) (Q : Int32 → qH → Prop) (hw : w_Plan_worthOf N x0 x1 x2 x3 h Q) : Met l y_Plan_worthOf (Cond.code y_Plan_worthOf prog_5_method_5_code 4 (some .int) :: qT) (qrm 0 0 0 0) (qPc D cy b adK adV h [qr b x0, .int x1, .int x2, .int x3]) (qQc D cy b qrI Q) 0 0 (qA b) := by
  refine qmet (L0 := [(0, .inr (.inr (.inl x0))), (1, .inl x1), (2, .inl x2), (3, .inl x3)]) qm_Plan_worthOf (plainFor_of_name (by decide)) [.inr (.inr (.inl x0)), .inl x1, .inl x2, .inl x3] rfl (Nat.le_of_ble_eq_true rfl) rfl (fun p e s m args below meth c X => ?_)
  unfold w_Plan_worthOf at hw
  refine qx_aload_n (x := x0) X d_Plan_worthOf_0 rfl 0 rfl ?_
  obtain ⟨g1, hw⟩ := hw
  refine qx_getR X qcls3 g1 2 (by decide) rfl wf_Plan_11 d_Plan_worthOf_1 ?_
  refine qx_iload_n (x := x1) X d_Plan_worthOf_4 rfl 1 rfl ?_
  obtain ⟨g2, hw⟩ := hw
  refine qx_agld X g2 d_Plan_worthOf_5 ?_
  refine qx_iload_n (x := x3) X d_Plan_worthOf_6 rfl 3 rfl ?_
  obtain ⟨g3, hw⟩ := hw
  refine qx_ild X g3 d_Plan_worthOf_7 ?_
  refine qx_sipush (v := (1000 : Int32)) X d_Plan_worthOf_8 (by decide) ?_
  refine qx_isub X d_Plan_worthOf_11 ?_
  refine qx_aload_n (x := x0) X d_Plan_worthOf_12 rfl 0 rfl ?_
  refine qx_getR X qcls3 g1 4 (by decide) rfl wf_Plan_20 d_Plan_worthOf_13 ?_
  refine qx_iload_n (x := x1) X d_Plan_worthOf_16 rfl 1 rfl ?_
  refine qx_iconst (v := (1 : Int32)) X d_Plan_worthOf_17 (by decide) ?_
  refine qx_iadd X d_Plan_worthOf_18 ?_
  obtain ⟨g4, hw⟩ := hw
  refine qx_agld X g4 d_Plan_worthOf_19 ?_
  refine qx_iload_n (x := x2) X d_Plan_worthOf_20 rfl 2 rfl ?_
  refine qx_aload_n (x := x0) X d_Plan_worthOf_21 rfl 0 rfl ?_
  refine qx_getR X qcls3 g1 3 (by decide) rfl wf_Plan_16 d_Plan_worthOf_22 ?_
  refine qx_iload_n (x := x3) X d_Plan_worthOf_25 rfl 3 rfl ?_
  obtain ⟨g5, hw⟩ := hw
  refine qx_ild X g5 d_Plan_worthOf_26 ?_
  refine qx_ior X d_Plan_worthOf_27 ?_
  obtain ⟨g6, hw⟩ := hw
  refine qx_ild X g6 d_Plan_worthOf_28 ?_
  refine qx_iadd X d_Plan_worthOf_29 ?_
  exact qx_iret X hw (Nat.le_refl 0) (Nat.le_refl 0) rfl d_Plan_worthOf_30
set_option maxRecDepth 4000 in
theorem t_Plan_leastFrom_15 (X : qX p s m args meth c D cy b adK adV prog_5_method_4_code "CoatHangers$Plan" 6 (some .int) "leastFrom") (N k : Nat) (x0 : Nat) (x1 : Int32) (x2 : Int32) (x3 : Int32) (x4 : Int32) (x5 : Int32) (h : qH) (Q : Int32 → qH → Prop)  (hw : w_Plan_leastFrom_15 N k x0 x1 x2 x3 x4 x5 h Q ) : qW p l e (qrm 1 0 0 23) s m args below meth c D cy b 6 0 0 (MQ below (qQc D cy b qrI Q) args s 0 0 (qA b)) 15 [(0, .inr (.inr (.inl x0))), (1, .inl x1), (2, .inl x2), (3, .inl x3), (4, .inl x4), (5, .inl x5)] [] h := by
  induction k generalizing x0 x1 x2 x3 x4 x5 h with
  | zero => exact hw.elim
  | succ k ih =>
    refine qx_iload (x := x5) X d_Plan_leastFrom_15 5 rfl ?_
    refine qx_aload_n (x := x0) X d_Plan_leastFrom_17 rfl 0 rfl ?_
    obtain ⟨g1, hw⟩ := hw
    refine qx_getR X qcls3 g1 0 (by decide) rfl wf_Plan_23 d_Plan_leastFrom_18 ?_
    obtain ⟨g2, hw⟩ := hw
    refine qx_getI X qcls8 g2 0 (by decide) rfl wf_Plan_37 d_Plan_leastFrom_21 ?_
    refine qx_icmp_ge X 66 d_Plan_leastFrom_24 (by decide) (fun q3 => ?_) (fun q3 => ?_)
    · have hw := hw.1 q3
      refine qx_iload (x := x4) X d_Plan_leastFrom_66 4 rfl ?_
      exact qx_iret X hw (Nat.le_refl 0) (Nat.le_refl 0) rfl d_Plan_leastFrom_68
    · have hw := hw.2 q3
      refine qx_iload (x := x5) X d_Plan_leastFrom_27 5 rfl ?_
      refine qx_iload_n (x := x3) X d_Plan_leastFrom_29 rfl 3 rfl ?_
      refine qx_icmp_eq X 60 d_Plan_leastFrom_30 (by decide) (fun q4 => ?_) (fun q4 => ?_)
      · have hw := hw.1 q4
        refine qx_iinc (v := (x5 + (1 : Int32))) (L' := [(5, .inl (x5 + (1 : Int32))), (0, .inr (.inr (.inl x0))), (1, .inl x1), (2, .inl x2), (3, .inl x3), (4, .inl x4)]) X d_Plan_leastFrom_60 5 rfl rfl (by decide) rfl ?_
        refine qx_goto X 15 d_Plan_leastFrom_63 (by decide) ?_
        refine qx_sub [1, 2, 3, 4, 5, 0] rfl ?_
        exact ih x0 x1 x2 x3 x4 (x5 + (1 : Int32)) h hw
      · have hw := hw.2 q4
        refine qx_iload_n (x := x2) X d_Plan_leastFrom_33 rfl 2 rfl ?_
        refine qx_aload_n (x := x0) X d_Plan_leastFrom_34 rfl 0 rfl ?_
        refine qx_getR X qcls3 g1 3 (by decide) rfl wf_Plan_16 d_Plan_leastFrom_35 ?_
        refine qx_iload (x := x5) X d_Plan_leastFrom_38 5 rfl ?_
        obtain ⟨g5, hw⟩ := hw
        refine qx_ild X g5 d_Plan_leastFrom_40 ?_
        refine qx_iand X d_Plan_leastFrom_41 ?_
        refine qx_if_ne X 60 d_Plan_leastFrom_42 (by decide) (fun q6 => ?_) (fun q6 => ?_)
        · have hw := hw.1 q6
          refine qx_iinc (v := (x5 + (1 : Int32))) (L' := [(5, .inl (x5 + (1 : Int32))), (0, .inr (.inr (.inl x0))), (1, .inl x1), (2, .inl x2), (3, .inl x3), (4, .inl x4)]) X d_Plan_leastFrom_60 5 rfl rfl (by decide) rfl ?_
          refine qx_goto X 15 d_Plan_leastFrom_63 (by decide) ?_
          refine qx_sub [1, 2, 3, 4, 5, 0] rfl ?_
          exact ih x0 x1 x2 x3 x4 (x5 + (1 : Int32)) h hw
        · have hw := hw.2 q6
          refine qx_iload (x := x4) X d_Plan_leastFrom_45 4 rfl ?_
          refine qx_aload_n (x := x0) X d_Plan_leastFrom_47 rfl 0 rfl ?_
          refine qx_iload_n (x := x1) X d_Plan_leastFrom_48 rfl 1 rfl ?_
          refine qx_iload_n (x := x2) X d_Plan_leastFrom_49 rfl 2 rfl ?_
          refine qx_iload (x := x5) X d_Plan_leastFrom_50 5 rfl ?_
          refine qx_callVI (st := [.int x4]) (As := [.int x1, .int x2, .int x5]) X (t_Plan_worthOf (adK := adK) (adV := adV) l D cy b N x0 x1 x2 x5 h _ hw) qm_Plan_worthOf wm_Plan_64 wi_Plan_worthOf wl_Plan_worthOf qcls3 g1 rfl rfl rfl ⟨Nat.le_of_ble_eq_true rfl, Nat.le_of_ble_eq_true rfl⟩ ⟨Nat.le_refl 0, Nat.le_refl 0⟩ (Nat.le_of_ble_eq_true rfl) rfl d_Plan_leastFrom_52 (fun r7 h8 hw => ?_)
          refine qx_mmin X wm_Plan_67 ws_mmin wz_Math wk_mmin (Nat.le_of_ble_eq_true rfl) (Nat.le_of_ble_eq_true rfl) (Nat.le_of_ble_eq_true rfl) (Nat.le_of_ble_eq_true rfl) d_Plan_leastFrom_55 ?_
          refine qx_topi (fun y9 ey9 => ?_)
          have hw := hw y9 ey9
          refine qx_istore (L' := [(4, .inl y9), (0, .inr (.inr (.inl x0))), (1, .inl x1), (2, .inl x2), (3, .inl x3), (5, .inl x5)]) X d_Plan_leastFrom_58 (by decide) rfl ?_
          refine qx_iinc (v := (x5 + (1 : Int32))) (L' := [(5, .inl (x5 + (1 : Int32))), (4, .inl y9), (0, .inr (.inr (.inl x0))), (1, .inl x1), (2, .inl x2), (3, .inl x3)]) X d_Plan_leastFrom_60 5 rfl rfl (by decide) rfl ?_
          refine qx_goto X 15 d_Plan_leastFrom_63 (by decide) ?_
          refine qx_sub [2, 3, 4, 5, 1, 0] rfl ?_
          exact ih x0 x1 x2 x3 y9 (x5 + (1 : Int32)) h8 hw
set_option maxRecDepth 4000 in
theorem t_Plan_leastFrom {adK adV : Nat → Nat} (l : Launch) (D : va_G) (cy : Nat → ClassId) (b : Nat) (N : Nat) (x0 : Nat) (x1 : Int32) (x2 : Int32) (x3 : Int32) (h : qH) (Q : Int32 → qH → Prop) (hw : w_Plan_leastFrom N x0 x1 x2 x3 h Q) : Met l y_Plan_leastFrom (Cond.code y_Plan_leastFrom prog_5_method_4_code 6 (some .int) :: qT) (qrm 1 0 0 23) (qPc D cy b adK adV h [qr b x0, .int x1, .int x2, .int x3]) (qQc D cy b qrI Q) 0 0 (qA b) := by
  refine qmet (L0 := [(0, .inr (.inr (.inl x0))), (1, .inl x1), (2, .inl x2), (3, .inl x3)]) qm_Plan_leastFrom (plainFor_of_name (by decide)) [.inr (.inr (.inl x0)), .inl x1, .inl x2, .inl x3] rfl (Nat.le_of_ble_eq_true rfl) rfl (fun p e s m args below meth c X => ?_)
  unfold w_Plan_leastFrom at hw
  refine qx_aload_n (x := x0) X d_Plan_leastFrom_0 rfl 0 rfl ?_
  obtain ⟨g1, hw⟩ := hw
  refine qx_getR X qcls3 g1 4 (by decide) rfl wf_Plan_20 d_Plan_leastFrom_1 ?_
  refine qx_iload_n (x := x1) X d_Plan_leastFrom_4 rfl 1 rfl ?_
  refine qx_iconst (v := (1 : Int32)) X d_Plan_leastFrom_5 (by decide) ?_
  refine qx_iadd X d_Plan_leastFrom_6 ?_
  obtain ⟨g2, hw⟩ := hw
  refine qx_agld X g2 d_Plan_leastFrom_7 ?_
  refine qx_iload_n (x := x2) X d_Plan_leastFrom_8 rfl 2 rfl ?_
  obtain ⟨g3, hw⟩ := hw
  refine qx_ild X g3 d_Plan_leastFrom_9 ?_
  refine qx_topi (fun y4 ey4 => ?_)
  have hw := hw y4 ey4
  refine qx_istore (L' := [(4, .inl y4), (0, .inr (.inr (.inl x0))), (1, .inl x1), (2, .inl x2), (3, .inl x3)]) X d_Plan_leastFrom_10 (by decide) rfl ?_
  refine qx_iconst (v := (0 : Int32)) X d_Plan_leastFrom_12 (by decide) ?_
  refine qx_istore (L' := [(5, .inl (0 : Int32)), (4, .inl y4), (0, .inr (.inr (.inl x0))), (1, .inl x1), (2, .inl x2), (3, .inl x3)]) X d_Plan_leastFrom_13 (by decide) rfl ?_
  refine qx_sub [2, 3, 4, 5, 1, 0] rfl ?_
  exact t_Plan_leastFrom_15 X N N x0 x1 x2 x3 y4 (0 : Int32) h Q  hw 
set_option maxRecDepth 4000 in
theorem t_Plan_letTake_2 (X : qX p s m args meth c D cy b adK adV prog_5_method_11_code "CoatHangers$Plan" 3 (none) "letTake") (N k : Nat) (x0 : Nat) (x1 : Int32) (x2 : Int32) (h : qH) (Q : qH → Prop)  (hw : w_Plan_letTake_2 N k x0 x1 x2 h Q ) : qW p l e (qrm 0 0 0 0) s m args below meth c D cy b 3 0 0 (MQ below (qQc D cy b qrV (fun (_ : Unit) h => Q h)) args s 0 0 (qA b)) 2 [(0, .inr (.inr (.inl x0))), (1, .inl x1), (2, .inl x2)] [] h := by
  induction k generalizing x0 x1 x2 h with
  | zero => exact hw.elim
  | succ k ih =>
    refine qx_iload_n (x := x2) X d_Plan_letTake_2 rfl 2 rfl ?_
    refine qx_aload_n (x := x0) X d_Plan_letTake_3 rfl 0 rfl ?_
    obtain ⟨g1, hw⟩ := hw
    refine qx_getR X qcls3 g1 0 (by decide) rfl wf_Plan_23 d_Plan_letTake_4 ?_
    obtain ⟨g2, hw⟩ := hw
    refine qx_getI X qcls8 g2 0 (by decide) rfl wf_Plan_37 d_Plan_letTake_7 ?_
    refine qx_icmp_ge X 44 d_Plan_letTake_10 (by decide) (fun q3 => ?_) (fun q3 => ?_)
    · have hw := hw.1 q3
      exact qx_vret X hw (Nat.le_refl 0) (Nat.le_refl 0) rfl d_Plan_letTake_44
    · have hw := hw.2 q3
      refine qx_aload_n (x := x0) X d_Plan_letTake_13 rfl 0 rfl ?_
      refine qx_getR X qcls3 g1 3 (by decide) rfl wf_Plan_16 d_Plan_letTake_14 ?_
      refine qx_iload_n (x := x2) X d_Plan_letTake_17 rfl 2 rfl ?_
      refine qx_iconst (v := (1 : Int32)) X d_Plan_letTake_18 (by decide) ?_
      refine qx_iload_n (x := x1) X d_Plan_letTake_19 rfl 1 rfl ?_
      refine qx_if_eq X 35 d_Plan_letTake_20 (by decide) (fun q4 => ?_) (fun q4 => ?_)
      · have hw := hw.1 q4
        refine qx_iload_n (x := x2) X d_Plan_letTake_35 rfl 2 rfl ?_
        refine qx_ishl X d_Plan_letTake_36 ?_
        obtain ⟨g5, hw⟩ := hw
        refine qx_ist X g5 d_Plan_letTake_37 ?_
        refine qx_toph (fun h6 eh6 => ?_)
        have hw := hw h6 eh6
        refine qx_iinc (v := (x2 + (1 : Int32))) (L' := [(2, .inl (x2 + (1 : Int32))), (0, .inr (.inr (.inl x0))), (1, .inl x1)]) X d_Plan_letTake_38 2 rfl rfl (by decide) rfl ?_
        refine qx_goto X 2 d_Plan_letTake_41 (by decide) ?_
        refine qx_sub [1, 2, 0] rfl ?_
        exact ih x0 x1 (x2 + (1 : Int32)) h6 hw
      · have hw := hw.2 q4
        refine qx_aload_n (x := x0) X d_Plan_letTake_23 rfl 0 rfl ?_
        refine qx_getR X qcls3 g1 0 (by decide) rfl wf_Plan_23 d_Plan_letTake_24 ?_
        refine qx_getR X qcls8 g2 1 (by decide) rfl wf_Plan_82 d_Plan_letTake_27 ?_
        refine qx_iload_n (x := x2) X d_Plan_letTake_30 rfl 2 rfl ?_
        obtain ⟨g7, hw⟩ := hw
        refine qx_ild X g7 d_Plan_letTake_31 ?_
        refine qx_goto X 36 d_Plan_letTake_32 (by decide) ?_
        refine qx_ishl X d_Plan_letTake_36 ?_
        obtain ⟨g8, hw⟩ := hw
        refine qx_ist X g8 d_Plan_letTake_37 ?_
        refine qx_toph (fun h9 eh9 => ?_)
        have hw := hw h9 eh9
        refine qx_iinc (v := (x2 + (1 : Int32))) (L' := [(2, .inl (x2 + (1 : Int32))), (0, .inr (.inr (.inl x0))), (1, .inl x1)]) X d_Plan_letTake_38 2 rfl rfl (by decide) rfl ?_
        refine qx_goto X 2 d_Plan_letTake_41 (by decide) ?_
        refine qx_sub [1, 2, 0] rfl ?_
        exact ih x0 x1 (x2 + (1 : Int32)) h9 hw
set_option maxRecDepth 4000 in
theorem t_Plan_letTake {adK adV : Nat → Nat} (l : Launch) (D : va_G) (cy : Nat → ClassId) (b : Nat) (N : Nat) (x0 : Nat) (x1 : Int32) (h : qH) (Q : qH → Prop) (hw : w_Plan_letTake N x0 x1 h Q) : Met l y_Plan_letTake (Cond.code y_Plan_letTake prog_5_method_11_code 3 (none) :: qT) (qrm 0 0 0 0) (qPc D cy b adK adV h [qr b x0, .int x1]) (qQc D cy b qrV (fun (_ : Unit) h => Q h)) 0 0 (qA b) := by
  refine qmet (L0 := [(0, .inr (.inr (.inl x0))), (1, .inl x1)]) qm_Plan_letTake (plainFor_of_name (by decide)) [.inr (.inr (.inl x0)), .inl x1] rfl (Nat.le_of_ble_eq_true rfl) rfl (fun p e s m args below meth c X => ?_)
  unfold w_Plan_letTake at hw
  refine qx_iconst (v := (0 : Int32)) X d_Plan_letTake_0 (by decide) ?_
  refine qx_istore_n (L' := [(2, .inl (0 : Int32)), (0, .inr (.inr (.inl x0))), (1, .inl x1)]) X d_Plan_letTake_1 rfl (by decide) rfl ?_
  refine qx_sub [1, 2, 0] rfl ?_
  exact t_Plan_letTake_2 X N N x0 x1 (0 : Int32) h Q  hw 
set_option maxRecDepth 4000 in
theorem t_Plan_findBest_27 (X : qX p s m args meth c D cy b adK adV prog_5_method_3_code "CoatHangers$Plan" 5 (some .int) "findBest") (N k : Nat) (x0 : Nat) (x2 : Int32) (x3 : Int32) (x4 : Int32) (h : qH) (Q : Int32 → qH → Prop) (K71 : Nat → Int32 → Int32 → qH → Prop) (hw : w_Plan_findBest_27 N k x0 x2 x3 x4 h Q K71) (hK71 : ∀ (x0 : Nat) (x2 : Int32) (x3 : Int32) (h : qH), K71 x0 x2 x3 h → qW p l e (qrm 2 0 0 48) s m args below meth c D cy b 5 0 0 (MQ below (qQc D cy b qrI Q) args s 0 0 (qA b)) 71 [(0, .inr (.inr (.inl x0))), (2, .inl x2), (3, .inl x3)] [] h) : qW p l e (qrm 2 0 0 48) s m args below meth c D cy b 5 0 0 (MQ below (qQc D cy b qrI Q) args s 0 0 (qA b)) 27 [(0, .inr (.inr (.inl x0))), (2, .inl x2), (3, .inl x3), (4, .inl x4)] [] h := by
  induction k generalizing x0 x2 x3 x4 h with
  | zero => exact hw.elim
  | succ k ih =>
    refine qx_iload (x := x4) X d_Plan_findBest_27 3 rfl ?_
    refine qx_aload_n (x := x0) X d_Plan_findBest_29 rfl 0 rfl ?_
    obtain ⟨g1, hw⟩ := hw
    refine qx_getR X qcls3 g1 4 (by decide) rfl wf_Plan_20 d_Plan_findBest_30 ?_
    refine qx_iload_n (x := x3) X d_Plan_findBest_33 rfl 2 rfl ?_
    obtain ⟨g2, hw⟩ := hw
    refine qx_agld X g2 d_Plan_findBest_34 ?_
    obtain ⟨n3, g4, hw⟩ := hw
    refine qx_len X g4 (by decide) d_Plan_findBest_35 ?_
    refine qx_icmp_ge X 71 d_Plan_findBest_36 (by decide) (fun q5 => ?_) (fun q5 => ?_)
    · have hw := hw.1 q5
      refine qx_sub [0, 1, 2] rfl ?_
      exact hK71 x0 x2 x3 h hw
    · have hw := hw.2 q5
      refine qx_iload (x := x4) X d_Plan_findBest_39 3 rfl ?_
      refine qx_callSI (st := []) (As := [.int x4]) X (t_Integer_bitCount (adK := adK) (adV := adV) l D cy b N x4 h _ hw) qm_Integer_bitCount wm_Plan_54 wi_Integer_bitCount rfl rfl rfl ⟨Nat.le_of_ble_eq_true rfl, Nat.le_of_ble_eq_true rfl⟩ ⟨Nat.le_refl 0, Nat.le_refl 0⟩ (Nat.le_of_ble_eq_true rfl) rfl d_Plan_findBest_41 (fun r6 h7 hw => ?_)
      refine qx_iload_n (x := x3) X d_Plan_findBest_44 rfl 2 rfl ?_
      refine qx_icmp_gt X 65 d_Plan_findBest_45 (by decide) (fun q8 => ?_) (fun q8 => ?_)
      · have hw := hw.1 q8
        refine qx_iinc (v := (x4 + (1 : Int32))) (L' := [(4, .inl (x4 + (1 : Int32))), (0, .inr (.inr (.inl x0))), (2, .inl x2), (3, .inl x3)]) X d_Plan_findBest_65 3 rfl rfl (by decide) rfl ?_
        refine qx_goto X 27 d_Plan_findBest_68 (by decide) ?_
        refine qx_sub [1, 2, 3, 0] rfl ?_
        exact ih x0 x2 x3 (x4 + (1 : Int32)) h7 hw
      · have hw := hw.2 q8
        refine qx_aload_n (x := x0) X d_Plan_findBest_48 rfl 0 rfl ?_
        obtain ⟨g9, hw⟩ := hw
        refine qx_getR X qcls3 g9 4 (by decide) rfl wf_Plan_20 d_Plan_findBest_49 ?_
        refine qx_iload_n (x := x3) X d_Plan_findBest_52 rfl 2 rfl ?_
        obtain ⟨g10, hw⟩ := hw
        refine qx_agld X g10 d_Plan_findBest_53 ?_
        refine qx_iload (x := x4) X d_Plan_findBest_54 3 rfl ?_
        refine qx_aload_n (x := x0) X d_Plan_findBest_56 rfl 0 rfl ?_
        refine qx_iload_n (x := x3) X d_Plan_findBest_57 rfl 2 rfl ?_
        refine qx_iload (x := x4) X d_Plan_findBest_58 3 rfl ?_
        refine qx_iload_n (x := x2) X d_Plan_findBest_60 rfl 1 rfl ?_
        refine qx_callVI (st := [.int x4, qr b (qR h7 (qR h7 x0 4) (x3).toNatClampNeg)]) (As := [.int x3, .int x4, .int x2]) X (t_Plan_leastFrom (adK := adK) (adV := adV) l D cy b N x0 x3 x4 x2 h7 _ hw) qm_Plan_leastFrom wm_Plan_60 wi_Plan_leastFrom wl_Plan_leastFrom qcls3 g9 rfl rfl rfl ⟨Nat.le_of_ble_eq_true rfl, Nat.le_of_ble_eq_true rfl⟩ ⟨Nat.le_refl 0, Nat.le_refl 0⟩ (Nat.le_of_ble_eq_true rfl) rfl d_Plan_findBest_61 (fun r11 h12 hw => ?_)
        obtain ⟨g13, hw⟩ := hw
        refine qx_ist X g13 d_Plan_findBest_64 ?_
        refine qx_toph (fun h14 eh14 => ?_)
        have hw := hw h14 eh14
        refine qx_iinc (v := (x4 + (1 : Int32))) (L' := [(4, .inl (x4 + (1 : Int32))), (0, .inr (.inr (.inl x0))), (2, .inl x2), (3, .inl x3)]) X d_Plan_findBest_65 3 rfl rfl (by decide) rfl ?_
        refine qx_goto X 27 d_Plan_findBest_68 (by decide) ?_
        refine qx_sub [1, 2, 3, 0] rfl ?_
        exact ih x0 x2 x3 (x4 + (1 : Int32)) h14 hw
set_option maxRecDepth 4000 in
theorem t_Plan_findBest_20 (X : qX p s m args meth c D cy b adK adV prog_5_method_3_code "CoatHangers$Plan" 5 (some .int) "findBest") (N k : Nat) (x0 : Nat) (x2 : Int32) (x3 : Int32) (h : qH) (Q : Int32 → qH → Prop)  (hw : w_Plan_findBest_20 N k x0 x2 x3 h Q ) : qW p l e (qrm 2 0 0 48) s m args below meth c D cy b 5 0 0 (MQ below (qQc D cy b qrI Q) args s 0 0 (qA b)) 20 [(0, .inr (.inr (.inl x0))), (2, .inl x2), (3, .inl x3)] [] h := by
  induction k generalizing x0 x2 x3 h with
  | zero => exact hw.elim
  | succ k ih =>
    refine qx_iload_n (x := x3) X d_Plan_findBest_20 rfl 2 rfl ?_
    refine qx_if_lt X 77 d_Plan_findBest_21 (by decide) (fun q1 => ?_) (fun q1 => ?_)
    · have hw := hw.1 q1
      refine qx_aload_n (x := x0) X d_Plan_findBest_77 rfl 0 rfl ?_
      obtain ⟨g2, hw⟩ := hw
      refine qx_getR X qcls3 g2 4 (by decide) rfl wf_Plan_20 d_Plan_findBest_78 ?_
      refine qx_iconst (v := (0 : Int32)) X d_Plan_findBest_81 (by decide) ?_
      obtain ⟨g3, hw⟩ := hw
      refine qx_agld X g3 d_Plan_findBest_82 ?_
      refine qx_iconst (v := (0 : Int32)) X d_Plan_findBest_83 (by decide) ?_
      obtain ⟨g4, hw⟩ := hw
      refine qx_ild X g4 d_Plan_findBest_84 ?_
      exact qx_iret X hw (Nat.le_refl 0) (Nat.le_refl 0) rfl d_Plan_findBest_85
    · have hw := hw.2 q1
      refine qx_iconst (v := (0 : Int32)) X d_Plan_findBest_24 (by decide) ?_
      refine qx_istore (L' := [(4, .inl (0 : Int32)), (0, .inr (.inr (.inl x0))), (2, .inl x2), (3, .inl x3)]) X d_Plan_findBest_25 (by decide) rfl ?_
      refine qx_sub [1, 2, 3, 0] rfl ?_
      refine t_Plan_findBest_27 X N N x0 x2 x3 (0 : Int32) h Q _ hw (fun x5 x6 x7 h8 hw => ?_)
      refine qx_iinc (v := (x7 + (-1 : Int32))) (L' := [(3, .inl (x7 + (-1 : Int32))), (0, .inr (.inr (.inl x5))), (2, .inl x6)]) X d_Plan_findBest_71 2 rfl rfl (by decide) rfl ?_
      refine qx_goto X 20 d_Plan_findBest_74 (by decide) ?_
      refine qx_sub [1, 2, 0] rfl ?_
      exact ih x5 x6 (x7 + (-1 : Int32)) h8 hw
set_option maxRecDepth 4000 in
theorem t_Plan_findBest {adK adV : Nat → Nat} (l : Launch) (D : va_G) (cy : Nat → ClassId) (b : Nat) (N : Nat) (x0 : Nat) (x1 : Int32) (x2 : Int32) (h : qH) (Q : Int32 → qH → Prop) (hw : w_Plan_findBest N x0 x1 x2 h Q) : Met l y_Plan_findBest (Cond.code y_Plan_findBest prog_5_method_3_code 5 (some .int) :: qT) (qrm 2 0 0 48) (qPc D cy b adK adV h [qr b x0, .int x1, .int x2]) (qQc D cy b qrI Q) 0 0 (qA b) := by
  refine qmet (L0 := [(0, .inr (.inr (.inl x0))), (1, .inl x1), (2, .inl x2)]) qm_Plan_findBest (plainFor_of_name (by decide)) [.inr (.inr (.inl x0)), .inl x1, .inl x2] rfl (Nat.le_of_ble_eq_true rfl) rfl (fun p e s m args below meth c X => ?_)
  unfold w_Plan_findBest at hw
  refine qx_aload_n (x := x0) X d_Plan_findBest_0 rfl 0 rfl ?_
  refine qx_iload_n (x := x1) X d_Plan_findBest_1 rfl 1 rfl ?_
  obtain ⟨g1, hw⟩ := hw
  refine qx_callVV (st := []) (As := [.int x1]) X (t_Plan_letTake (adK := adK) (adV := adV) l D cy b N x0 x1 h _ hw) qm_Plan_letTake wm_Plan_46 wi_Plan_letTake wl_Plan_letTake qcls3 g1 rfl rfl rfl ⟨Nat.le_of_ble_eq_true rfl, Nat.le_of_ble_eq_true rfl⟩ ⟨Nat.le_refl 0, Nat.le_refl 0⟩ (Nat.le_of_ble_eq_true rfl) rfl d_Plan_findBest_2 (fun h2 hw => ?_)
  refine qx_aload_n (x := x0) X d_Plan_findBest_5 rfl 0 rfl ?_
  refine qx_iconst (v := (0 : Int32)) X d_Plan_findBest_6 (by decide) ?_
  obtain ⟨g3, hw⟩ := hw
  refine qx_callVV (st := []) (As := [.int (0 : Int32)]) X (t_Plan_clearLast (adK := adK) (adV := adV) l D cy b N x0 (0 : Int32) h2 _ hw) qm_Plan_clearLast wm_Plan_50 wi_Plan_clearLast wl_Plan_clearLast qcls3 g3 rfl rfl rfl ⟨Nat.le_of_ble_eq_true rfl, Nat.le_of_ble_eq_true rfl⟩ ⟨Nat.le_refl 0, Nat.le_refl 0⟩ (Nat.le_of_ble_eq_true rfl) rfl d_Plan_findBest_7 (fun h4 hw => ?_)
  refine qx_aload_n (x := x0) X d_Plan_findBest_10 rfl 0 rfl ?_
  obtain ⟨g5, hw⟩ := hw
  refine qx_getR X qcls3 g5 0 (by decide) rfl wf_Plan_23 d_Plan_findBest_11 ?_
  obtain ⟨g6, hw⟩ := hw
  refine qx_getI X qcls8 g6 3 (by decide) rfl wf_Plan_31 d_Plan_findBest_14 ?_
  refine qx_iconst (v := (1 : Int32)) X d_Plan_findBest_17 (by decide) ?_
  refine qx_isub X d_Plan_findBest_18 ?_
  refine qx_topi (fun y7 ey7 => ?_)
  have hw := hw y7 ey7
  refine qx_istore_n (L' := [(3, .inl y7), (0, .inr (.inr (.inl x0))), (1, .inl x1), (2, .inl x2)]) X d_Plan_findBest_19 rfl (by decide) rfl ?_
  refine qx_sub [1, 3, 0] rfl ?_
  exact t_Plan_findBest_20 X N N x0 x2 y7 h4 Q  hw 
set_option maxRecDepth 4000 in
theorem t_Plan_costOf {adK adV : Nat → Nat} (l : Launch) (D : va_G) (cy : Nat → ClassId) (b : Nat) (N : Nat) (x0 : Nat) (x1 : Int32) (h : qH) (Q : Int32 → qH → Prop) (hw : w_Plan_costOf N x0 x1 h Q) : Met l y_Plan_costOf (Cond.code y_Plan_costOf prog_5_method_6_code 2 (some .int) :: qT) (qrm 1 0 0 22) (qPc D cy b adK adV h [qr b x0, .int x1]) (qQc D cy b qrI Q) 0 0 (qA b) := by
  refine qmet (L0 := [(0, .inr (.inr (.inl x0))), (1, .inl x1)]) qm_Plan_costOf (plainFor_of_name (by decide)) [.inr (.inr (.inl x0)), .inl x1] rfl (Nat.le_of_ble_eq_true rfl) rfl (fun p e s m args below meth c X => ?_)
  unfold w_Plan_costOf at hw
  refine qx_iload_n (x := x1) X d_Plan_costOf_0 rfl 1 rfl ?_
  refine qx_sipush (v := (1000 : Int32)) X d_Plan_costOf_1 (by decide) ?_
  refine qx_callSI (st := []) (As := [.int x1, .int (1000 : Int32)]) X (t_Math_floorMod (adK := adK) (adV := adV) l D cy b N x1 (1000 : Int32) h _ hw) qm_Math_floorMod wm_Plan_73 wi_Math_floorMod rfl rfl rfl ⟨Nat.le_of_ble_eq_true rfl, Nat.le_of_ble_eq_true rfl⟩ ⟨Nat.le_refl 0, Nat.le_refl 0⟩ (Nat.le_of_ble_eq_true rfl) rfl d_Plan_costOf_4 (fun r1 h2 hw => ?_)
  exact qx_iret X hw (Nat.le_refl 0) (Nat.le_refl 0) rfl d_Plan_costOf_7
set_option maxRecDepth 4000 in
theorem t_Plan_firstBest_38 (X : qX p s m args meth c D cy b adK adV prog_5_method_8_code "CoatHangers$Plan" 6 (some .int) "firstBest") (N : Nat) (x0 : Nat) (x1 : Int32) (x2 : Int32) (x3 : Int32) (x4 : Int32) (z0 : Int32) (h : qH) (Q : Int32 → qH → Prop) (K3 : Nat → Int32 → Int32 → Int32 → Int32 → qH → Prop) (hw : w_Plan_firstBest_38 N x0 x1 x2 x3 x4 z0 h Q K3) (hK3 : ∀ (x0 : Nat) (x1 : Int32) (x2 : Int32) (x3 : Int32) (x4 : Int32) (h : qH), K3 x0 x1 x2 x3 x4 h → qW p l e (qrm 1 0 0 23) s m args below meth c D cy b 6 0 0 (MQ below (qQc D cy b qrI Q) args s 0 0 (qA b)) 3 [(0, .inr (.inr (.inl x0))), (1, .inl x1), (2, .inl x2), (3, .inl x3), (4, .inl x4)] [] h) : qW p l e (qrm 1 0 0 23) s m args below meth c D cy b 6 0 0 (MQ below (qQc D cy b qrI Q) args s 0 0 (qA b)) 38 [(0, .inr (.inr (.inl x0))), (1, .inl x1), (2, .inl x2), (3, .inl x3), (4, .inl x4)] [.int z0] h := by
  unfold w_Plan_firstBest_38 at hw
  refine qx_istore (L' := [(5, .inl z0), (0, .inr (.inr (.inl x0))), (1, .inl x1), (2, .inl x2), (3, .inl x3), (4, .inl x4)]) X d_Plan_firstBest_38 (by decide) rfl ?_
  refine qx_iload (x := z0) X d_Plan_firstBest_40 0 rfl ?_
  refine qx_if_eq X 67 d_Plan_firstBest_42 (by decide) (fun q1 => ?_) (fun q1 => ?_)
  · have hw := hw.1 q1
    refine qx_iinc (v := (x4 + (1 : Int32))) (L' := [(4, .inl (x4 + (1 : Int32))), (5, .inl z0), (0, .inr (.inr (.inl x0))), (1, .inl x1), (2, .inl x2), (3, .inl x3)]) X d_Plan_firstBest_67 5 rfl rfl (by decide) rfl ?_
    refine qx_goto X 3 d_Plan_firstBest_70 (by decide) ?_
    refine qx_sub [2, 3, 4, 5, 0] rfl ?_
    exact hK3 x0 x1 x2 x3 (x4 + (1 : Int32)) h hw
  · have hw := hw.2 q1
    refine qx_aload_n (x := x0) X d_Plan_firstBest_45 rfl 1 rfl ?_
    refine qx_iload_n (x := x1) X d_Plan_firstBest_46 rfl 2 rfl ?_
    refine qx_iload_n (x := x2) X d_Plan_firstBest_47 rfl 3 rfl ?_
    refine qx_iload (x := x4) X d_Plan_firstBest_48 5 rfl ?_
    obtain ⟨g2, hw⟩ := hw
    refine qx_callVI (st := []) (As := [.int x1, .int x2, .int x4]) X (t_Plan_worthOf (adK := adK) (adV := adV) l D cy b N x0 x1 x2 x4 h _ hw) qm_Plan_worthOf wm_Plan_64 wi_Plan_worthOf wl_Plan_worthOf qcls3 g2 rfl rfl rfl ⟨Nat.le_of_ble_eq_true rfl, Nat.le_of_ble_eq_true rfl⟩ ⟨Nat.le_refl 0, Nat.le_refl 0⟩ (Nat.le_of_ble_eq_true rfl) rfl d_Plan_firstBest_50 (fun r3 h4 hw => ?_)
    refine qx_aload_n (x := x0) X d_Plan_firstBest_53 rfl 1 rfl ?_
    obtain ⟨g5, hw⟩ := hw
    refine qx_getR X qcls3 g5 4 (by decide) rfl wf_Plan_20 d_Plan_firstBest_54 ?_
    refine qx_iload_n (x := x1) X d_Plan_firstBest_57 rfl 2 rfl ?_
    obtain ⟨g6, hw⟩ := hw
    refine qx_agld X g6 d_Plan_firstBest_58 ?_
    refine qx_iload_n (x := x2) X d_Plan_firstBest_59 rfl 3 rfl ?_
    obtain ⟨g7, hw⟩ := hw
    refine qx_ild X g7 d_Plan_firstBest_60 ?_
    refine qx_icmp_ne X 67 d_Plan_firstBest_61 (by decide) (fun q8 => ?_) (fun q8 => ?_)
    · have hw := hw.1 q8
      refine qx_iinc (v := (x4 + (1 : Int32))) (L' := [(4, .inl (x4 + (1 : Int32))), (5, .inl z0), (0, .inr (.inr (.inl x0))), (1, .inl x1), (2, .inl x2), (3, .inl x3)]) X d_Plan_firstBest_67 5 rfl rfl (by decide) rfl ?_
      refine qx_goto X 3 d_Plan_firstBest_70 (by decide) ?_
      refine qx_sub [2, 3, 4, 5, 0] rfl ?_
      exact hK3 x0 x1 x2 x3 (x4 + (1 : Int32)) h4 hw
    · have hw := hw.2 q8
      refine qx_iload (x := x4) X d_Plan_firstBest_64 5 rfl ?_
      exact qx_iret X hw (Nat.le_refl 0) (Nat.le_refl 0) rfl d_Plan_firstBest_66
set_option maxRecDepth 4000 in
theorem t_Plan_firstBest_37 (X : qX p s m args meth c D cy b adK adV prog_5_method_8_code "CoatHangers$Plan" 6 (some .int) "firstBest") (N : Nat) (x0 : Nat) (x1 : Int32) (x2 : Int32) (x3 : Int32) (x4 : Int32) (h : qH) (Q : Int32 → qH → Prop) (K3 : Nat → Int32 → Int32 → Int32 → Int32 → qH → Prop) (hw : w_Plan_firstBest_37 N x0 x1 x2 x3 x4 h Q K3) (hK3 : ∀ (x0 : Nat) (x1 : Int32) (x2 : Int32) (x3 : Int32) (x4 : Int32) (h : qH), K3 x0 x1 x2 x3 x4 h → qW p l e (qrm 1 0 0 23) s m args below meth c D cy b 6 0 0 (MQ below (qQc D cy b qrI Q) args s 0 0 (qA b)) 3 [(0, .inr (.inr (.inl x0))), (1, .inl x1), (2, .inl x2), (3, .inl x3), (4, .inl x4)] [] h) : qW p l e (qrm 1 0 0 23) s m args below meth c D cy b 6 0 0 (MQ below (qQc D cy b qrI Q) args s 0 0 (qA b)) 37 [(0, .inr (.inr (.inl x0))), (1, .inl x1), (2, .inl x2), (3, .inl x3), (4, .inl x4)] [] h := by
  unfold w_Plan_firstBest_37 at hw
  refine qx_iconst (v := (0 : Int32)) X d_Plan_firstBest_37 (by decide) ?_
  exact t_Plan_firstBest_38 X N x0 x1 x2 x3 x4 (0 : Int32) h Q _ hw hK3
set_option maxRecDepth 4000 in
theorem t_Plan_firstBest_3 (X : qX p s m args meth c D cy b adK adV prog_5_method_8_code "CoatHangers$Plan" 6 (some .int) "firstBest") (N k : Nat) (x0 : Nat) (x1 : Int32) (x2 : Int32) (x3 : Int32) (x4 : Int32) (h : qH) (Q : Int32 → qH → Prop)  (hw : w_Plan_firstBest_3 N k x0 x1 x2 x3 x4 h Q ) : qW p l e (qrm 1 0 0 23) s m args below meth c D cy b 6 0 0 (MQ below (qQc D cy b qrI Q) args s 0 0 (qA b)) 3 [(0, .inr (.inr (.inl x0))), (1, .inl x1), (2, .inl x2), (3, .inl x3), (4, .inl x4)] [] h := by
  induction k generalizing x0 x1 x2 x3 x4 h with
  | zero => exact hw.elim
  | succ k ih =>
    refine qx_iload (x := x4) X d_Plan_firstBest_3 4 rfl ?_
    refine qx_aload_n (x := x0) X d_Plan_firstBest_5 rfl 0 rfl ?_
    obtain ⟨g1, hw⟩ := hw
    refine qx_getR X qcls3 g1 0 (by decide) rfl wf_Plan_23 d_Plan_firstBest_6 ?_
    obtain ⟨g2, hw⟩ := hw
    refine qx_getI X qcls8 g2 0 (by decide) rfl wf_Plan_37 d_Plan_firstBest_9 ?_
    refine qx_icmp_ge X 73 d_Plan_firstBest_12 (by decide) (fun q3 => ?_) (fun q3 => ?_)
    · have hw := hw.1 q3
      refine qx_bipush (v := (-2 : Int32)) X d_Plan_firstBest_73 (by decide) ?_
      exact qx_iret X hw (Nat.le_refl 0) (Nat.le_refl 0) rfl d_Plan_firstBest_75
    · have hw := hw.2 q3
      refine qx_iload (x := x4) X d_Plan_firstBest_15 4 rfl ?_
      refine qx_iload_n (x := x3) X d_Plan_firstBest_17 rfl 3 rfl ?_
      refine qx_icmp_eq X 37 d_Plan_firstBest_18 (by decide) (fun q4 => ?_) (fun q4 => ?_)
      · have hw := hw.1 q4
        exact t_Plan_firstBest_37 X N x0 x1 x2 x3 x4 h Q _ hw ih
      · have hw := hw.2 q4
        refine qx_iload_n (x := x2) X d_Plan_firstBest_21 rfl 2 rfl ?_
        refine qx_aload_n (x := x0) X d_Plan_firstBest_22 rfl 0 rfl ?_
        refine qx_getR X qcls3 g1 3 (by decide) rfl wf_Plan_16 d_Plan_firstBest_23 ?_
        refine qx_iload (x := x4) X d_Plan_firstBest_26 4 rfl ?_
        obtain ⟨g5, hw⟩ := hw
        refine qx_ild X g5 d_Plan_firstBest_28 ?_
        refine qx_iand X d_Plan_firstBest_29 ?_
        refine qx_if_ne X 37 d_Plan_firstBest_30 (by decide) (fun q6 => ?_) (fun q6 => ?_)
        · have hw := hw.1 q6
          exact t_Plan_firstBest_37 X N x0 x1 x2 x3 x4 h Q _ hw ih
        · have hw := hw.2 q6
          refine qx_iconst (v := (1 : Int32)) X d_Plan_firstBest_33 (by decide) ?_
          refine qx_goto X 38 d_Plan_firstBest_34 (by decide) ?_
          exact t_Plan_firstBest_38 X N x0 x1 x2 x3 x4 (1 : Int32) h Q _ hw ih
set_option maxRecDepth 4000 in
theorem t_Plan_firstBest {adK adV : Nat → Nat} (l : Launch) (D : va_G) (cy : Nat → ClassId) (b : Nat) (N : Nat) (x0 : Nat) (x1 : Int32) (x2 : Int32) (x3 : Int32) (h : qH) (Q : Int32 → qH → Prop) (hw : w_Plan_firstBest N x0 x1 x2 x3 h Q) : Met l y_Plan_firstBest (Cond.code y_Plan_firstBest prog_5_method_8_code 6 (some .int) :: qT) (qrm 1 0 0 23) (qPc D cy b adK adV h [qr b x0, .int x1, .int x2, .int x3]) (qQc D cy b qrI Q) 0 0 (qA b) := by
  refine qmet (L0 := [(0, .inr (.inr (.inl x0))), (1, .inl x1), (2, .inl x2), (3, .inl x3)]) qm_Plan_firstBest (plainFor_of_name (by decide)) [.inr (.inr (.inl x0)), .inl x1, .inl x2, .inl x3] rfl (Nat.le_of_ble_eq_true rfl) rfl (fun p e s m args below meth c X => ?_)
  unfold w_Plan_firstBest at hw
  refine qx_iconst (v := (0 : Int32)) X d_Plan_firstBest_0 (by decide) ?_
  refine qx_istore (L' := [(4, .inl (0 : Int32)), (0, .inr (.inr (.inl x0))), (1, .inl x1), (2, .inl x2), (3, .inl x3)]) X d_Plan_firstBest_1 (by decide) rfl ?_
  refine qx_sub [1, 2, 3, 4, 0] rfl ?_
  exact t_Plan_firstBest_3 X N N x0 x1 x2 x3 (0 : Int32) h Q  hw 
set_option maxRecDepth 4000 in
theorem t_Plan_hangerFor_9 (X : qX p s m args meth c D cy b adK adV prog_5_method_7_code "CoatHangers$Plan" 6 (some .int) "hangerFor") (N k : Nat) (x0 : Nat) (x1 : Int32) (x2 : Int32) (x3 : Int32) (x4 : Int32) (x5 : Int32) (h : qH) (Q : Int32 → qH → Prop)  (hw : w_Plan_hangerFor_9 N k x0 x1 x2 x3 x4 x5 h Q ) : qW p l e (qrm 2 0 0 48) s m args below meth c D cy b 6 0 0 (MQ below (qQc D cy b qrI Q) args s 0 0 (qA b)) 9 [(0, .inr (.inr (.inl x0))), (1, .inl x1), (2, .inl x2), (3, .inl x3), (4, .inl x4), (5, .inl x5)] [] h := by
  induction k generalizing x0 x1 x2 x3 x4 x5 h with
  | zero => exact hw.elim
  | succ k ih =>
    refine qx_iload (x := x5) X d_Plan_hangerFor_9 5 rfl ?_
    refine qx_iload_n (x := x1) X d_Plan_hangerFor_11 rfl 1 rfl ?_
    refine qx_icmp_gt X 62 d_Plan_hangerFor_12 (by decide) (fun q1 => ?_) (fun q1 => ?_)
    · have hw := hw.1 q1
      refine qx_iload (x := x4) X d_Plan_hangerFor_62 4 rfl ?_
      exact qx_iret X hw (Nat.le_refl 0) (Nat.le_refl 0) rfl d_Plan_hangerFor_64
    · have hw := hw.2 q1
      refine qx_iload (x := x5) X d_Plan_hangerFor_15 5 rfl ?_
      refine qx_aload_n (x := x0) X d_Plan_hangerFor_17 rfl 0 rfl ?_
      obtain ⟨g2, hw⟩ := hw
      refine qx_getR X qcls3 g2 0 (by decide) rfl wf_Plan_23 d_Plan_hangerFor_18 ?_
      obtain ⟨g3, hw⟩ := hw
      refine qx_getI X qcls8 g3 3 (by decide) rfl wf_Plan_31 d_Plan_hangerFor_21 ?_
      refine qx_icmp_ge X 62 d_Plan_hangerFor_24 (by decide) (fun q4 => ?_) (fun q4 => ?_)
      · have hw := hw.1 q4
        refine qx_iload (x := x4) X d_Plan_hangerFor_62 4 rfl ?_
        exact qx_iret X hw (Nat.le_refl 0) (Nat.le_refl 0) rfl d_Plan_hangerFor_64
      · have hw := hw.2 q4
        refine qx_aload_n (x := x0) X d_Plan_hangerFor_27 rfl 0 rfl ?_
        refine qx_iload (x := x5) X d_Plan_hangerFor_28 5 rfl ?_
        refine qx_iload_n (x := x3) X d_Plan_hangerFor_30 rfl 3 rfl ?_
        refine qx_iload_n (x := x2) X d_Plan_hangerFor_31 rfl 2 rfl ?_
        refine qx_callVI (st := []) (As := [.int x5, .int x3, .int x2]) X (t_Plan_firstBest (adK := adK) (adV := adV) l D cy b N x0 x5 x3 x2 h _ hw) qm_Plan_firstBest wm_Plan_76 wi_Plan_firstBest wl_Plan_firstBest qcls3 g2 rfl rfl rfl ⟨Nat.le_of_ble_eq_true rfl, Nat.le_of_ble_eq_true rfl⟩ ⟨Nat.le_refl 0, Nat.le_refl 0⟩ (Nat.le_of_ble_eq_true rfl) rfl d_Plan_hangerFor_32 (fun r5 h6 hw => ?_)
        refine qx_istore (L' := [(4, .inl r5), (0, .inr (.inr (.inl x0))), (1, .inl x1), (2, .inl x2), (3, .inl x3), (5, .inl x5)]) X d_Plan_hangerFor_35 (by decide) rfl ?_
        refine qx_iload_n (x := x3) X d_Plan_hangerFor_37 rfl 4 rfl ?_
        refine qx_iload (x := r5) X d_Plan_hangerFor_38 0 rfl ?_
        refine qx_if_lt X 53 d_Plan_hangerFor_40 (by decide) (fun q7 => ?_) (fun q7 => ?_)
        · have hw := hw.1 q7
          refine qx_iconst (v := (0 : Int32)) X d_Plan_hangerFor_53 (by decide) ?_
          refine qx_ior X d_Plan_hangerFor_54 ?_
          refine qx_topi (fun y8 ey8 => ?_)
          have hw := hw y8 ey8
          refine qx_istore_n (L' := [(3, .inl y8), (4, .inl r5), (0, .inr (.inr (.inl x0))), (1, .inl x1), (2, .inl x2), (5, .inl x5)]) X d_Plan_hangerFor_55 rfl (by decide) rfl ?_
          refine qx_iinc (v := (x5 + (1 : Int32))) (L' := [(5, .inl (x5 + (1 : Int32))), (3, .inl y8), (4, .inl r5), (0, .inr (.inr (.inl x0))), (1, .inl x1), (2, .inl x2)]) X d_Plan_hangerFor_56 5 rfl rfl (by decide) rfl ?_
          refine qx_goto X 9 d_Plan_hangerFor_59 (by decide) ?_
          refine qx_sub [3, 4, 5, 1, 2, 0] rfl ?_
          exact ih x0 x1 x2 y8 r5 (x5 + (1 : Int32)) h6 hw
        · have hw := hw.2 q7
          refine qx_aload_n (x := x0) X d_Plan_hangerFor_43 rfl 1 rfl ?_
          obtain ⟨g9, hw⟩ := hw
          refine qx_getR X qcls3 g9 3 (by decide) rfl wf_Plan_16 d_Plan_hangerFor_44 ?_
          refine qx_iload (x := r5) X d_Plan_hangerFor_47 0 rfl ?_
          obtain ⟨g10, hw⟩ := hw
          refine qx_ild X g10 d_Plan_hangerFor_49 ?_
          refine qx_goto X 54 d_Plan_hangerFor_50 (by decide) ?_
          refine qx_ior X d_Plan_hangerFor_54 ?_
          refine qx_topi (fun y11 ey11 => ?_)
          have hw := hw y11 ey11
          refine qx_istore_n (L' := [(3, .inl y11), (4, .inl r5), (0, .inr (.inr (.inl x0))), (1, .inl x1), (2, .inl x2), (5, .inl x5)]) X d_Plan_hangerFor_55 rfl (by decide) rfl ?_
          refine qx_iinc (v := (x5 + (1 : Int32))) (L' := [(5, .inl (x5 + (1 : Int32))), (3, .inl y11), (4, .inl r5), (0, .inr (.inr (.inl x0))), (1, .inl x1), (2, .inl x2)]) X d_Plan_hangerFor_56 5 rfl rfl (by decide) rfl ?_
          refine qx_goto X 9 d_Plan_hangerFor_59 (by decide) ?_
          refine qx_sub [3, 4, 5, 1, 2, 0] rfl ?_
          exact ih x0 x1 x2 y11 r5 (x5 + (1 : Int32)) h6 hw
set_option maxRecDepth 4000 in
theorem t_Plan_hangerFor {adK adV : Nat → Nat} (l : Launch) (D : va_G) (cy : Nat → ClassId) (b : Nat) (N : Nat) (x0 : Nat) (x1 : Int32) (x2 : Int32) (h : qH) (Q : Int32 → qH → Prop) (hw : w_Plan_hangerFor N x0 x1 x2 h Q) : Met l y_Plan_hangerFor (Cond.code y_Plan_hangerFor prog_5_method_7_code 6 (some .int) :: qT) (qrm 2 0 0 48) (qPc D cy b adK adV h [qr b x0, .int x1, .int x2]) (qQc D cy b qrI Q) 0 0 (qA b) := by
  refine qmet (L0 := [(0, .inr (.inr (.inl x0))), (1, .inl x1), (2, .inl x2)]) qm_Plan_hangerFor (plainFor_of_name (by decide)) [.inr (.inr (.inl x0)), .inl x1, .inl x2] rfl (Nat.le_of_ble_eq_true rfl) rfl (fun p e s m args below meth c X => ?_)
  unfold w_Plan_hangerFor at hw
  refine qx_iconst (v := (0 : Int32)) X d_Plan_hangerFor_0 (by decide) ?_
  refine qx_istore_n (L' := [(3, .inl (0 : Int32)), (0, .inr (.inr (.inl x0))), (1, .inl x1), (2, .inl x2)]) X d_Plan_hangerFor_1 rfl (by decide) rfl ?_
  refine qx_bipush (v := (-2 : Int32)) X d_Plan_hangerFor_2 (by decide) ?_
  refine qx_istore (L' := [(4, .inl (-2 : Int32)), (3, .inl (0 : Int32)), (0, .inr (.inr (.inl x0))), (1, .inl x1), (2, .inl x2)]) X d_Plan_hangerFor_4 (by decide) rfl ?_
  refine qx_iconst (v := (0 : Int32)) X d_Plan_hangerFor_6 (by decide) ?_
  refine qx_istore (L' := [(5, .inl (0 : Int32)), (4, .inl (-2 : Int32)), (3, .inl (0 : Int32)), (0, .inr (.inr (.inl x0))), (1, .inl x1), (2, .inl x2)]) X d_Plan_hangerFor_7 (by decide) rfl ?_
  refine qx_sub [3, 4, 5, 2, 1, 0] rfl ?_
  exact t_Plan_hangerFor_9 X N N x0 x1 x2 (0 : Int32) (-2 : Int32) (0 : Int32) h Q  hw 
set_option maxRecDepth 4000 in
theorem t_Plan_waysFrom_6 (X : qX p s m args meth c D cy b adK adV prog_5_method_10_code "CoatHangers$Plan" 6 (some .int) "waysFrom") (N k : Nat) (x0 : Nat) (x1 : Int32) (x2 : Int32) (x3 : Int32) (x4 : Int32) (x5 : Int32) (h : qH) (Q : Int32 → qH → Prop)  (hw : w_Plan_waysFrom_6 N k x0 x1 x2 x3 x4 x5 h Q ) : qW p l e (qrm 0 0 0 0) s m args below meth c D cy b 6 0 0 (MQ below (qQc D cy b qrI Q) args s 0 0 (qA b)) 6 [(0, .inr (.inr (.inl x0))), (1, .inl x1), (2, .inl x2), (3, .inl x3), (4, .inl x4), (5, .inl x5)] [] h := by
  induction k generalizing x0 x1 x2 x3 x4 x5 h with
  | zero => exact hw.elim
  | succ k ih =>
    refine qx_iload (x := x5) X d_Plan_waysFrom_6 5 rfl ?_
    refine qx_aload_n (x := x0) X d_Plan_waysFrom_8 rfl 0 rfl ?_
    obtain ⟨g1, hw⟩ := hw
    refine qx_getR X qcls3 g1 0 (by decide) rfl wf_Plan_23 d_Plan_waysFrom_9 ?_
    obtain ⟨g2, hw⟩ := hw
    refine qx_getI X qcls8 g2 0 (by decide) rfl wf_Plan_37 d_Plan_waysFrom_12 ?_
    refine qx_icmp_ge X 72 d_Plan_waysFrom_15 (by decide) (fun q3 => ?_) (fun q3 => ?_)
    · have hw := hw.1 q3
      refine qx_iload (x := x4) X d_Plan_waysFrom_72 4 rfl ?_
      exact qx_iret X hw (Nat.le_refl 0) (Nat.le_refl 0) rfl d_Plan_waysFrom_74
    · have hw := hw.2 q3
      refine qx_aload_n (x := x0) X d_Plan_waysFrom_18 rfl 0 rfl ?_
      refine qx_getR X qcls3 g1 2 (by decide) rfl wf_Plan_11 d_Plan_waysFrom_19 ?_
      refine qx_iload_n (x := x1) X d_Plan_waysFrom_22 rfl 1 rfl ?_
      obtain ⟨g4, hw⟩ := hw
      refine qx_agld X g4 d_Plan_waysFrom_23 ?_
      refine qx_iload (x := x5) X d_Plan_waysFrom_24 5 rfl ?_
      obtain ⟨g5, hw⟩ := hw
      refine qx_ild X g5 d_Plan_waysFrom_26 ?_
      refine qx_iload_n (x := x3) X d_Plan_waysFrom_27 rfl 3 rfl ?_
      refine qx_icmp_gt X 66 d_Plan_waysFrom_28 (by decide) (fun q6 => ?_) (fun q6 => ?_)
      · have hw := hw.1 q6
        refine qx_iinc (v := (x5 + (1 : Int32))) (L' := [(5, .inl (x5 + (1 : Int32))), (0, .inr (.inr (.inl x0))), (1, .inl x1), (2, .inl x2), (3, .inl x3), (4, .inl x4)]) X d_Plan_waysFrom_66 5 rfl rfl (by decide) rfl ?_
        refine qx_goto X 6 d_Plan_waysFrom_69 (by decide) ?_
        refine qx_sub [1, 2, 3, 4, 5, 0] rfl ?_
        exact ih x0 x1 x2 x3 x4 (x5 + (1 : Int32)) h hw
      · have hw := hw.2 q6
        refine qx_iload_n (x := x2) X d_Plan_waysFrom_31 rfl 2 rfl ?_
        refine qx_aload_n (x := x0) X d_Plan_waysFrom_32 rfl 0 rfl ?_
        refine qx_getR X qcls3 g1 3 (by decide) rfl wf_Plan_16 d_Plan_waysFrom_33 ?_
        refine qx_iload (x := x5) X d_Plan_waysFrom_36 5 rfl ?_
        obtain ⟨g7, hw⟩ := hw
        refine qx_ild X g7 d_Plan_waysFrom_38 ?_
        refine qx_iand X d_Plan_waysFrom_39 ?_
        refine qx_if_ne X 66 d_Plan_waysFrom_40 (by decide) (fun q8 => ?_) (fun q8 => ?_)
        · have hw := hw.1 q8
          refine qx_iinc (v := (x5 + (1 : Int32))) (L' := [(5, .inl (x5 + (1 : Int32))), (0, .inr (.inr (.inl x0))), (1, .inl x1), (2, .inl x2), (3, .inl x3), (4, .inl x4)]) X d_Plan_waysFrom_66 5 rfl rfl (by decide) rfl ?_
          refine qx_goto X 6 d_Plan_waysFrom_69 (by decide) ?_
          refine qx_sub [1, 2, 3, 4, 5, 0] rfl ?_
          exact ih x0 x1 x2 x3 x4 (x5 + (1 : Int32)) h hw
        · have hw := hw.2 q8
          refine qx_iload (x := x4) X d_Plan_waysFrom_43 4 rfl ?_
          refine qx_aload_n (x := x0) X d_Plan_waysFrom_45 rfl 0 rfl ?_
          refine qx_getR X qcls3 g1 4 (by decide) rfl wf_Plan_20 d_Plan_waysFrom_46 ?_
          refine qx_iload_n (x := x1) X d_Plan_waysFrom_49 rfl 1 rfl ?_
          refine qx_iconst (v := (1 : Int32)) X d_Plan_waysFrom_50 (by decide) ?_
          refine qx_iadd X d_Plan_waysFrom_51 ?_
          obtain ⟨g9, hw⟩ := hw
          refine qx_agld X g9 d_Plan_waysFrom_52 ?_
          refine qx_iload_n (x := x2) X d_Plan_waysFrom_53 rfl 2 rfl ?_
          refine qx_aload_n (x := x0) X d_Plan_waysFrom_54 rfl 0 rfl ?_
          refine qx_getR X qcls3 g1 3 (by decide) rfl wf_Plan_16 d_Plan_waysFrom_55 ?_
          refine qx_iload (x := x5) X d_Plan_waysFrom_58 5 rfl ?_
          refine qx_ild X g7 d_Plan_waysFrom_60 ?_
          refine qx_ior X d_Plan_waysFrom_61 ?_
          obtain ⟨g10, hw⟩ := hw
          refine qx_ild X g10 d_Plan_waysFrom_62 ?_
          refine qx_iadd X d_Plan_waysFrom_63 ?_
          refine qx_topi (fun y11 ey11 => ?_)
          have hw := hw y11 ey11
          refine qx_istore (L' := [(4, .inl y11), (0, .inr (.inr (.inl x0))), (1, .inl x1), (2, .inl x2), (3, .inl x3), (5, .inl x5)]) X d_Plan_waysFrom_64 (by decide) rfl ?_
          refine qx_iinc (v := (x5 + (1 : Int32))) (L' := [(5, .inl (x5 + (1 : Int32))), (4, .inl y11), (0, .inr (.inr (.inl x0))), (1, .inl x1), (2, .inl x2), (3, .inl x3)]) X d_Plan_waysFrom_66 5 rfl rfl (by decide) rfl ?_
          refine qx_goto X 6 d_Plan_waysFrom_69 (by decide) ?_
          refine qx_sub [2, 3, 4, 5, 1, 0] rfl ?_
          exact ih x0 x1 x2 x3 y11 (x5 + (1 : Int32)) h hw
set_option maxRecDepth 4000 in
theorem t_Plan_waysFrom {adK adV : Nat → Nat} (l : Launch) (D : va_G) (cy : Nat → ClassId) (b : Nat) (N : Nat) (x0 : Nat) (x1 : Int32) (x2 : Int32) (x3 : Int32) (h : qH) (Q : Int32 → qH → Prop) (hw : w_Plan_waysFrom N x0 x1 x2 x3 h Q) : Met l y_Plan_waysFrom (Cond.code y_Plan_waysFrom prog_5_method_10_code 6 (some .int) :: qT) (qrm 0 0 0 0) (qPc D cy b adK adV h [qr b x0, .int x1, .int x2, .int x3]) (qQc D cy b qrI Q) 0 0 (qA b) := by
  refine qmet (L0 := [(0, .inr (.inr (.inl x0))), (1, .inl x1), (2, .inl x2), (3, .inl x3)]) qm_Plan_waysFrom (plainFor_of_name (by decide)) [.inr (.inr (.inl x0)), .inl x1, .inl x2, .inl x3] rfl (Nat.le_of_ble_eq_true rfl) rfl (fun p e s m args below meth c X => ?_)
  unfold w_Plan_waysFrom at hw
  refine qx_iconst (v := (0 : Int32)) X d_Plan_waysFrom_0 (by decide) ?_
  refine qx_istore (L' := [(4, .inl (0 : Int32)), (0, .inr (.inr (.inl x0))), (1, .inl x1), (2, .inl x2), (3, .inl x3)]) X d_Plan_waysFrom_1 (by decide) rfl ?_
  refine qx_iconst (v := (0 : Int32)) X d_Plan_waysFrom_3 (by decide) ?_
  refine qx_istore (L' := [(5, .inl (0 : Int32)), (4, .inl (0 : Int32)), (0, .inr (.inr (.inl x0))), (1, .inl x1), (2, .inl x2), (3, .inl x3)]) X d_Plan_waysFrom_4 (by decide) rfl ?_
  refine qx_sub [2, 3, 4, 5, 1, 0] rfl ?_
  exact t_Plan_waysFrom_6 X N N x0 x1 x2 x3 (0 : Int32) (0 : Int32) h Q  hw 
set_option maxRecDepth 4000 in
theorem t_Plan_waysWithin_26 (X : qX p s m args meth c D cy b adK adV prog_5_method_9_code "CoatHangers$Plan" 4 (some .int) "waysWithin") (N k : Nat) (x0 : Nat) (x1 : Int32) (x2 : Int32) (x3 : Int32) (h : qH) (Q : Int32 → qH → Prop) (K53 : Nat → Int32 → Int32 → qH → Prop) (hw : w_Plan_waysWithin_26 N k x0 x1 x2 x3 h Q K53) (hK53 : ∀ (x0 : Nat) (x1 : Int32) (x2 : Int32) (h : qH), K53 x0 x1 x2 h → qW p l e (qrm 1 0 0 25) s m args below meth c D cy b 4 0 0 (MQ below (qQc D cy b qrI Q) args s 0 0 (qA b)) 53 [(0, .inr (.inr (.inl x0))), (1, .inl x1), (2, .inl x2)] [] h) : qW p l e (qrm 1 0 0 25) s m args below meth c D cy b 4 0 0 (MQ below (qQc D cy b qrI Q) args s 0 0 (qA b)) 26 [(0, .inr (.inr (.inl x0))), (1, .inl x1), (2, .inl x2), (3, .inl x3)] [] h := by
  induction k generalizing x0 x1 x2 x3 h with
  | zero => exact hw.elim
  | succ k ih =>
    refine qx_iload_n (x := x3) X d_Plan_waysWithin_26 rfl 3 rfl ?_
    refine qx_bipush (v := (32 : Int32)) X d_Plan_waysWithin_27 (by decide) ?_
    refine qx_icmp_ge X 53 d_Plan_waysWithin_29 (by decide) (fun q1 => ?_) (fun q1 => ?_)
    · have hw := hw.1 q1
      refine qx_sub [0, 1, 2] rfl ?_
      exact hK53 x0 x1 x2 h hw
    · have hw := hw.2 q1
      refine qx_aload_n (x := x0) X d_Plan_waysWithin_32 rfl 0 rfl ?_
      obtain ⟨g2, hw⟩ := hw
      refine qx_getR X qcls3 g2 4 (by decide) rfl wf_Plan_20 d_Plan_waysWithin_33 ?_
      refine qx_iload_n (x := x2) X d_Plan_waysWithin_36 rfl 2 rfl ?_
      obtain ⟨g3, hw⟩ := hw
      refine qx_agld X g3 d_Plan_waysWithin_37 ?_
      refine qx_iload_n (x := x3) X d_Plan_waysWithin_38 rfl 3 rfl ?_
      refine qx_aload_n (x := x0) X d_Plan_waysWithin_39 rfl 0 rfl ?_
      refine qx_iload_n (x := x2) X d_Plan_waysWithin_40 rfl 2 rfl ?_
      refine qx_iload_n (x := x3) X d_Plan_waysWithin_41 rfl 3 rfl ?_
      refine qx_iload_n (x := x1) X d_Plan_waysWithin_42 rfl 1 rfl ?_
      refine qx_callVI (st := [.int x3, qr b (qR h (qR h x0 4) (x2).toNatClampNeg)]) (As := [.int x2, .int x3, .int x1]) X (t_Plan_waysFrom (adK := adK) (adV := adV) l D cy b N x0 x2 x3 x1 h _ hw) qm_Plan_waysFrom wm_Plan_79 wi_Plan_waysFrom wl_Plan_waysFrom qcls3 g2 rfl rfl rfl ⟨Nat.le_of_ble_eq_true rfl, Nat.le_of_ble_eq_true rfl⟩ ⟨Nat.le_refl 0, Nat.le_refl 0⟩ (Nat.le_of_ble_eq_true rfl) rfl d_Plan_waysWithin_43 (fun r4 h5 hw => ?_)
      obtain ⟨g6, hw⟩ := hw
      refine qx_ist X g6 d_Plan_waysWithin_46 ?_
      refine qx_toph (fun h7 eh7 => ?_)
      have hw := hw h7 eh7
      refine qx_iinc (v := (x3 + (1 : Int32))) (L' := [(3, .inl (x3 + (1 : Int32))), (0, .inr (.inr (.inl x0))), (1, .inl x1), (2, .inl x2)]) X d_Plan_waysWithin_47 3 rfl rfl (by decide) rfl ?_
      refine qx_goto X 26 d_Plan_waysWithin_50 (by decide) ?_
      refine qx_sub [1, 2, 3, 0] rfl ?_
      exact ih x0 x1 x2 (x3 + (1 : Int32)) h7 hw
set_option maxRecDepth 4000 in
theorem t_Plan_waysWithin_20 (X : qX p s m args meth c D cy b adK adV prog_5_method_9_code "CoatHangers$Plan" 4 (some .int) "waysWithin") (N k : Nat) (x0 : Nat) (x1 : Int32) (x2 : Int32) (h : qH) (Q : Int32 → qH → Prop)  (hw : w_Plan_waysWithin_20 N k x0 x1 x2 h Q ) : qW p l e (qrm 1 0 0 25) s m args below meth c D cy b 4 0 0 (MQ below (qQc D cy b qrI Q) args s 0 0 (qA b)) 20 [(0, .inr (.inr (.inl x0))), (1, .inl x1), (2, .inl x2)] [] h := by
  induction k generalizing x0 x1 x2 h with
  | zero => exact hw.elim
  | succ k ih =>
    refine qx_iload_n (x := x2) X d_Plan_waysWithin_20 rfl 2 rfl ?_
    refine qx_if_lt X 59 d_Plan_waysWithin_21 (by decide) (fun q1 => ?_) (fun q1 => ?_)
    · have hw := hw.1 q1
      refine qx_aload_n (x := x0) X d_Plan_waysWithin_59 rfl 0 rfl ?_
      obtain ⟨g2, hw⟩ := hw
      refine qx_getR X qcls3 g2 4 (by decide) rfl wf_Plan_20 d_Plan_waysWithin_60 ?_
      refine qx_iconst (v := (0 : Int32)) X d_Plan_waysWithin_63 (by decide) ?_
      obtain ⟨g3, hw⟩ := hw
      refine qx_agld X g3 d_Plan_waysWithin_64 ?_
      refine qx_iconst (v := (0 : Int32)) X d_Plan_waysWithin_65 (by decide) ?_
      obtain ⟨g4, hw⟩ := hw
      refine qx_ild X g4 d_Plan_waysWithin_66 ?_
      exact qx_iret X hw (Nat.le_refl 0) (Nat.le_refl 0) rfl d_Plan_waysWithin_67
    · have hw := hw.2 q1
      refine qx_iconst (v := (0 : Int32)) X d_Plan_waysWithin_24 (by decide) ?_
      refine qx_istore_n (L' := [(3, .inl (0 : Int32)), (0, .inr (.inr (.inl x0))), (1, .inl x1), (2, .inl x2)]) X d_Plan_waysWithin_25 rfl (by decide) rfl ?_
      refine qx_sub [1, 2, 3, 0] rfl ?_
      refine t_Plan_waysWithin_26 X N N x0 x1 x2 (0 : Int32) h Q _ hw (fun x5 x6 x7 h8 hw => ?_)
      refine qx_iinc (v := (x7 + (-1 : Int32))) (L' := [(2, .inl (x7 + (-1 : Int32))), (0, .inr (.inr (.inl x5))), (1, .inl x6)]) X d_Plan_waysWithin_53 2 rfl rfl (by decide) rfl ?_
      refine qx_goto X 20 d_Plan_waysWithin_56 (by decide) ?_
      refine qx_sub [1, 2, 0] rfl ?_
      exact ih x5 x6 (x7 + (-1 : Int32)) h8 hw
set_option maxRecDepth 4000 in
theorem t_Plan_waysWithin {adK adV : Nat → Nat} (l : Launch) (D : va_G) (cy : Nat → ClassId) (b : Nat) (N : Nat) (x0 : Nat) (x1 : Int32) (h : qH) (Q : Int32 → qH → Prop) (hw : w_Plan_waysWithin N x0 x1 h Q) : Met l y_Plan_waysWithin (Cond.code y_Plan_waysWithin prog_5_method_9_code 4 (some .int) :: qT) (qrm 1 0 0 25) (qPc D cy b adK adV h [qr b x0, .int x1]) (qQc D cy b qrI Q) 0 0 (qA b) := by
  refine qmet (L0 := [(0, .inr (.inr (.inl x0))), (1, .inl x1)]) qm_Plan_waysWithin (plainFor_of_name (by decide)) [.inr (.inr (.inl x0)), .inl x1] rfl (Nat.le_of_ble_eq_true rfl) rfl (fun p e s m args below meth c X => ?_)
  unfold w_Plan_waysWithin at hw
  refine qx_aload_n (x := x0) X d_Plan_waysWithin_0 rfl 0 rfl ?_
  refine qx_iconst (v := (1 : Int32)) X d_Plan_waysWithin_1 (by decide) ?_
  obtain ⟨g1, hw⟩ := hw
  refine qx_callVV (st := []) (As := [.int (1 : Int32)]) X (t_Plan_letTake (adK := adK) (adV := adV) l D cy b N x0 (1 : Int32) h _ hw) qm_Plan_letTake wm_Plan_46 wi_Plan_letTake wl_Plan_letTake qcls3 g1 rfl rfl rfl ⟨Nat.le_of_ble_eq_true rfl, Nat.le_of_ble_eq_true rfl⟩ ⟨Nat.le_refl 0, Nat.le_refl 0⟩ (Nat.le_of_ble_eq_true rfl) rfl d_Plan_waysWithin_2 (fun h2 hw => ?_)
  refine qx_aload_n (x := x0) X d_Plan_waysWithin_5 rfl 0 rfl ?_
  refine qx_iconst (v := (1 : Int32)) X d_Plan_waysWithin_6 (by decide) ?_
  obtain ⟨g3, hw⟩ := hw
  refine qx_callVV (st := []) (As := [.int (1 : Int32)]) X (t_Plan_clearLast (adK := adK) (adV := adV) l D cy b N x0 (1 : Int32) h2 _ hw) qm_Plan_clearLast wm_Plan_50 wi_Plan_clearLast wl_Plan_clearLast qcls3 g3 rfl rfl rfl ⟨Nat.le_of_ble_eq_true rfl, Nat.le_of_ble_eq_true rfl⟩ ⟨Nat.le_refl 0, Nat.le_refl 0⟩ (Nat.le_of_ble_eq_true rfl) rfl d_Plan_waysWithin_7 (fun h4 hw => ?_)
  refine qx_aload_n (x := x0) X d_Plan_waysWithin_10 rfl 0 rfl ?_
  obtain ⟨g5, hw⟩ := hw
  refine qx_getR X qcls3 g5 0 (by decide) rfl wf_Plan_23 d_Plan_waysWithin_11 ?_
  obtain ⟨g6, hw⟩ := hw
  refine qx_getI X qcls8 g6 3 (by decide) rfl wf_Plan_31 d_Plan_waysWithin_14 ?_
  refine qx_iconst (v := (1 : Int32)) X d_Plan_waysWithin_17 (by decide) ?_
  refine qx_isub X d_Plan_waysWithin_18 ?_
  refine qx_topi (fun y7 ey7 => ?_)
  have hw := hw y7 ey7
  refine qx_istore_n (L' := [(2, .inl y7), (0, .inr (.inr (.inl x0))), (1, .inl x1)]) X d_Plan_waysWithin_19 rfl (by decide) rfl ?_
  refine qx_sub [1, 2, 0] rfl ?_
  exact t_Plan_waysWithin_20 X N N x0 x1 y7 h4 Q  hw 
end QG
