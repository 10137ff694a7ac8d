/-! the class: written by wip/whole/emit.py out of the bytecode -/
def y_X_feed : MethodName := ⟨"CoatHangers", "feed", "(IIIII)I"⟩
theorem qm_X_feed : qMt y_X_feed prog_1_method_2_code 6 (some .int) 5 := ⟨qT_3 (i := 17) (by decide +kernel) rfl, qT_1 (i := 1) (by decide +kernel) rfl, by decide, by decide, by decide +kernel⟩
theorem wi_X_feed : Cond.instanceMethod y_X_feed ∈ qT := qT_3 (i := 15) (by decide +kernel) rfl
theorem wl_X_feed : Cond.selects y_X_feed.cls y_X_feed y_X_feed ∈ qT := qT_3 (i := 16) (by decide +kernel) rfl
def y_X_back : MethodName := ⟨"CoatHangers", "back", "(I)I"⟩
theorem qm_X_back : qMt y_X_back prog_1_method_3_code 2 (some .int) 1 := ⟨qT_3 (i := 29) (by decide +kernel) rfl, qT_1 (i := 1) (by decide +kernel) rfl, by decide, by decide, by decide +kernel⟩
theorem wi_X_back : Cond.instanceMethod y_X_back ∈ qT := qT_3 (i := 27) (by decide +kernel) rfl
theorem wl_X_back : Cond.selects y_X_back.cls y_X_back y_X_back ∈ qT := qT_3 (i := 28) (by decide +kernel) rfl
def y_X_read : MethodName := ⟨"CoatHangers", "read", "()I"⟩
theorem qm_X_read : qMt y_X_read prog_1_method_4_code 2 (some .int) 0 := ⟨qT_3 (i := 33) (by decide +kernel) rfl, qT_1 (i := 1) (by decide +kernel) rfl, by decide, by decide, by decide +kernel⟩
theorem wi_X_read : Cond.instanceMethod y_X_read ∈ qT := qT_3 (i := 31) (by decide +kernel) rfl
theorem wl_X_read : Cond.selects y_X_read.cls y_X_read y_X_read ∈ qT := qT_3 (i := 32) (by decide +kernel) rfl
def y_X_place : MethodName := ⟨"CoatHangers", "place", "()I"⟩
theorem qm_X_place : qMt y_X_place prog_1_method_5_code 1 (some .int) 0 := ⟨qT_4 (i := 53) (by decide +kernel) rfl, qT_1 (i := 1) (by decide +kernel) rfl, by decide, by decide, by decide +kernel⟩
theorem wi_X_place : Cond.instanceMethod y_X_place ∈ qT := qT_4 (i := 51) (by decide +kernel) rfl
theorem wl_X_place : Cond.selects y_X_place.cls y_X_place y_X_place ∈ qT := qT_4 (i := 52) (by decide +kernel) rfl
def y_X_isHanger : MethodName := ⟨"CoatHangers", "isHanger", "(I)Z"⟩
theorem qm_X_isHanger : qMt y_X_isHanger prog_1_method_46_code 2 (some .boolean) 1 := ⟨qT_4 (i := 61) (by decide +kernel) rfl, qT_1 (i := 1) (by decide +kernel) rfl, by decide, by decide, by decide +kernel⟩
theorem wi_X_isHanger : Cond.instanceMethod y_X_isHanger ∈ qT := qT_4 (i := 60) (by decide +kernel) rfl
theorem wl_X_isHanger : Cond.selects y_X_isHanger.cls y_X_isHanger y_X_isHanger ∈ qT := qT_s (i := 30) (by decide +kernel) rfl
def y_X_hanger : MethodName := ⟨"CoatHangers", "hanger", "(II)I"⟩
theorem qm_X_hanger : qMt y_X_hanger prog_1_method_6_code 3 (some .int) 2 := ⟨qT_4 (i := 57) (by decide +kernel) rfl, qT_1 (i := 1) (by decide +kernel) rfl, by decide, by decide, by decide +kernel⟩
theorem wi_X_hanger : Cond.instanceMethod y_X_hanger ∈ qT := qT_4 (i := 55) (by decide +kernel) rfl
theorem wl_X_hanger : Cond.selects y_X_hanger.cls y_X_hanger y_X_hanger ∈ qT := qT_4 (i := 56) (by decide +kernel) rfl
def y_X_isPerson : MethodName := ⟨"CoatHangers", "isPerson", "(I)Z"⟩
theorem qm_X_isPerson : qMt y_X_isPerson prog_1_method_47_code 2 (some .boolean) 1 := ⟨qT_4 (i := 73) (by decide +kernel) rfl, qT_1 (i := 1) (by decide +kernel) rfl, by decide, by decide, by decide +kernel⟩
theorem wi_X_isPerson : Cond.instanceMethod y_X_isPerson ∈ qT := qT_4 (i := 72) (by decide +kernel) rfl
theorem wl_X_isPerson : Cond.selects y_X_isPerson.cls y_X_isPerson y_X_isPerson ∈ qT := qT_s (i := 31) (by decide +kernel) rfl
def y_X_person : MethodName := ⟨"CoatHangers", "person", "(II)I"⟩
theorem qm_X_person : qMt y_X_person prog_1_method_7_code 3 (some .int) 2 := ⟨qT_4 (i := 69) (by decide +kernel) rfl, qT_1 (i := 1) (by decide +kernel) rfl, by decide, by decide, by decide +kernel⟩
theorem wi_X_person : Cond.instanceMethod y_X_person ∈ qT := qT_4 (i := 67) (by decide +kernel) rfl
theorem wl_X_person : Cond.selects y_X_person.cls y_X_person y_X_person ∈ qT := qT_4 (i := 68) (by decide +kernel) rfl
def y_X_tells : MethodName := ⟨"CoatHangers", "tells", "(II)I"⟩
theorem qm_X_tells : qMt y_X_tells prog_1_method_8_code 3 (some .int) 2 := ⟨qT_4 (i := 93) (by decide +kernel) rfl, qT_1 (i := 1) (by decide +kernel) rfl, by decide, by decide, by decide +kernel⟩
theorem wi_X_tells : Cond.instanceMethod y_X_tells ∈ qT := qT_4 (i := 91) (by decide +kernel) rfl
theorem wl_X_tells : Cond.selects y_X_tells.cls y_X_tells y_X_tells ∈ qT := qT_4 (i := 92) (by decide +kernel) rfl
def y_X_hang : MethodName := ⟨"CoatHangers", "hang", "(II)Z"⟩
theorem qm_X_hang : qMt y_X_hang prog_1_method_9_code 3 (some .boolean) 2 := ⟨qT_4 (i := 129) (by decide +kernel) rfl, qT_1 (i := 1) (by decide +kernel) rfl, by decide, by decide, by decide +kernel⟩
theorem wi_X_hang : Cond.instanceMethod y_X_hang ∈ qT := qT_4 (i := 127) (by decide +kernel) rfl
theorem wl_X_hang : Cond.selects y_X_hang.cls y_X_hang y_X_hang ∈ qT := qT_4 (i := 128) (by decide +kernel) rfl
def y_X_take : MethodName := ⟨"CoatHangers", "take", "(I)Z"⟩
theorem qm_X_take : qMt y_X_take prog_1_method_10_code 2 (some .boolean) 1 := ⟨qT_4 (i := 148) (by decide +kernel) rfl, qT_1 (i := 1) (by decide +kernel) rfl, by decide, by decide, by decide +kernel⟩
theorem wi_X_take : Cond.instanceMethod y_X_take ∈ qT := qT_4 (i := 146) (by decide +kernel) rfl
theorem wl_X_take : Cond.selects y_X_take.cls y_X_take y_X_take ∈ qT := qT_4 (i := 147) (by decide +kernel) rfl
def y_X_change : MethodName := ⟨"CoatHangers", "change", "(II)Z"⟩
theorem qm_X_change : qMt y_X_change prog_1_method_11_code 3 (some .boolean) 2 := ⟨qT_4 (i := 152) (by decide +kernel) rfl, qT_1 (i := 1) (by decide +kernel) rfl, by decide, by decide, by decide +kernel⟩
theorem wi_X_change : Cond.instanceMethod y_X_change ∈ qT := qT_4 (i := 150) (by decide +kernel) rfl
theorem wl_X_change : Cond.selects y_X_change.cls y_X_change y_X_change ∈ qT := qT_4 (i := 151) (by decide +kernel) rfl
def y_X_straighten : MethodName := ⟨"CoatHangers", "straighten", "(I)Z"⟩
theorem qm_X_straighten : qMt y_X_straighten prog_1_method_12_code 2 (some .boolean) 1 := ⟨qT_4 (i := 160) (by decide +kernel) rfl, qT_1 (i := 1) (by decide +kernel) rfl, by decide, by decide, by decide +kernel⟩
theorem wi_X_straighten : Cond.instanceMethod y_X_straighten ∈ qT := qT_4 (i := 158) (by decide +kernel) rfl
theorem wl_X_straighten : Cond.selects y_X_straighten.cls y_X_straighten y_X_straighten ∈ qT := qT_4 (i := 159) (by decide +kernel) rfl
def y_X_isFewNights : MethodName := ⟨"CoatHangers", "isFewNights", "(I)Z"⟩
theorem qm_X_isFewNights : qMt y_X_isFewNights prog_1_method_49_code 1 (some .boolean) 1 := ⟨qT_4 (i := 167) (by decide +kernel) rfl, qT_1 (i := 1) (by decide +kernel) rfl, by decide, by decide, by decide +kernel⟩
theorem wi_X_isFewNights : Cond.static y_X_isFewNights ∈ qT := qT_4 (i := 166) (by decide +kernel) rfl
def y_X_nights : MethodName := ⟨"CoatHangers", "nights", "(I)I"⟩
theorem qm_X_nights : qMt y_X_nights prog_1_method_13_code 2 (some .int) 1 := ⟨qT_4 (i := 164) (by decide +kernel) rfl, qT_1 (i := 1) (by decide +kernel) rfl, by decide, by decide, by decide +kernel⟩
theorem wi_X_nights : Cond.instanceMethod y_X_nights ∈ qT := qT_4 (i := 162) (by decide +kernel) rfl
theorem wl_X_nights : Cond.selects y_X_nights.cls y_X_nights y_X_nights ∈ qT := qT_4 (i := 163) (by decide +kernel) rfl
def y_X_undo : MethodName := ⟨"CoatHangers", "undo", "()Z"⟩
theorem qm_X_undo : qMt y_X_undo prog_1_method_14_code 1 (some .boolean) 0 := ⟨qT_4 (i := 217) (by decide +kernel) rfl, qT_1 (i := 1) (by decide +kernel) rfl, by decide, by decide, by decide +kernel⟩
theorem wi_X_undo : Cond.instanceMethod y_X_undo ∈ qT := qT_4 (i := 215) (by decide +kernel) rfl
theorem wl_X_undo : Cond.selects y_X_undo.cls y_X_undo y_X_undo ∈ qT := qT_4 (i := 216) (by decide +kernel) rfl
def y_X_planned : MethodName := ⟨"CoatHangers", "planned", "(IZ)I"⟩
theorem qm_X_planned : qMt y_X_planned prog_1_method_17_code 4 (some .int) 2 := ⟨qT_4 (i := 229) (by decide +kernel) rfl, qT_1 (i := 1) (by decide +kernel) rfl, by decide, by decide, by decide +kernel⟩
theorem wi_X_planned : Cond.instanceMethod y_X_planned ∈ qT := qT_4 (i := 228) (by decide +kernel) rfl
theorem wl_X_planned : Cond.selects y_X_planned.cls y_X_planned y_X_planned ∈ qT := qT_s (i := 39) (by decide +kernel) rfl
def y_X_hanging : MethodName := ⟨"CoatHangers", "hanging", "(I)I"⟩
theorem qm_X_hanging : qMt y_X_hanging prog_1_method_15_code 2 (some .int) 1 := ⟨qT_4 (i := 225) (by decide +kernel) rfl, qT_1 (i := 1) (by decide +kernel) rfl, by decide, by decide, by decide +kernel⟩
theorem wi_X_hanging : Cond.instanceMethod y_X_hanging ∈ qT := qT_4 (i := 223) (by decide +kernel) rfl
theorem wl_X_hanging : Cond.selects y_X_hanging.cls y_X_hanging y_X_hanging ∈ qT := qT_4 (i := 224) (by decide +kernel) rfl
def y_X_apart : MethodName := ⟨"CoatHangers", "apart", "(I)I"⟩
theorem qm_X_apart : qMt y_X_apart prog_1_method_16_code 2 (some .int) 1 := ⟨qT_5 (i := 44) (by decide +kernel) rfl, qT_1 (i := 1) (by decide +kernel) rfl, by decide, by decide, by decide +kernel⟩
theorem wi_X_apart : Cond.instanceMethod y_X_apart ∈ qT := qT_5 (i := 42) (by decide +kernel) rfl
theorem wl_X_apart : Cond.selects y_X_apart.cls y_X_apart y_X_apart ∈ qT := qT_5 (i := 43) (by decide +kernel) rfl
def y_X_ways : MethodName := ⟨"CoatHangers", "ways", "(I)I"⟩
theorem qm_X_ways : qMt y_X_ways prog_1_method_18_code 2 (some .int) 1 := ⟨qT_5 (i := 48) (by decide +kernel) rfl, qT_1 (i := 1) (by decide +kernel) rfl, by decide, by decide, by decide +kernel⟩
theorem wi_X_ways : Cond.instanceMethod y_X_ways ∈ qT := qT_5 (i := 46) (by decide +kernel) rfl
theorem wl_X_ways : Cond.selects y_X_ways.cls y_X_ways y_X_ways ∈ qT := qT_5 (i := 47) (by decide +kernel) rfl
def y_X_ringFrom : MethodName := ⟨"CoatHangers", "ringFrom", "(I)I"⟩
theorem qm_X_ringFrom : qMt y_X_ringFrom prog_1_method_20_code 5 (some .int) 1 := ⟨qT_5 (i := 64) (by decide +kernel) rfl, qT_1 (i := 1) (by decide +kernel) rfl, by decide, by decide, by decide +kernel⟩
theorem wi_X_ringFrom : Cond.instanceMethod y_X_ringFrom ∈ qT := qT_5 (i := 63) (by decide +kernel) rfl
theorem wl_X_ringFrom : Cond.selects y_X_ringFrom.cls y_X_ringFrom y_X_ringFrom ∈ qT := qT_s (i := 46) (by decide +kernel) rfl
def y_X_sets : MethodName := ⟨"CoatHangers", "sets", "()I"⟩
theorem qm_X_sets : qMt y_X_sets prog_1_method_19_code 4 (some .int) 0 := ⟨qT_5 (i := 60) (by decide +kernel) rfl, qT_1 (i := 1) (by decide +kernel) rfl, by decide, by decide, by decide +kernel⟩
theorem wi_X_sets : Cond.instanceMethod y_X_sets ∈ qT := qT_5 (i := 58) (by decide +kernel) rfl
theorem wl_X_sets : Cond.selects y_X_sets.cls y_X_sets y_X_sets ∈ qT := qT_5 (i := 59) (by decide +kernel) rfl
def y_X_changes : MethodName := ⟨"CoatHangers", "changes", "()I"⟩
theorem qm_X_changes : qMt y_X_changes prog_1_method_21_code 1 (some .int) 0 := ⟨qT_5 (i := 68) (by decide +kernel) rfl, qT_1 (i := 1) (by decide +kernel) rfl, by decide, by decide, by decide +kernel⟩
theorem wi_X_changes : Cond.instanceMethod y_X_changes ∈ qT := qT_5 (i := 66) (by decide +kernel) rfl
theorem wl_X_changes : Cond.selects y_X_changes.cls y_X_changes y_X_changes ∈ qT := qT_5 (i := 67) (by decide +kernel) rfl
def y_X_themselves : MethodName := ⟨"CoatHangers", "themselves", "()I"⟩
theorem qm_X_themselves : qMt y_X_themselves prog_1_method_22_code 3 (some .int) 0 := ⟨qT_5 (i := 73) (by decide +kernel) rfl, qT_1 (i := 1) (by decide +kernel) rfl, by decide, by decide, by decide +kernel⟩
theorem wi_X_themselves : Cond.instanceMethod y_X_themselves ∈ qT := qT_5 (i := 71) (by decide +kernel) rfl
theorem wl_X_themselves : Cond.selects y_X_themselves.cls y_X_themselves y_X_themselves ∈ qT := qT_5 (i := 72) (by decide +kernel) rfl
def y_X_crossed : MethodName := ⟨"CoatHangers", "crossed", "(I)I"⟩
theorem qm_X_crossed : qMt y_X_crossed prog_1_method_23_code 6 (some .int) 1 := ⟨qT_5 (i := 83) (by decide +kernel) rfl, qT_1 (i := 1) (by decide +kernel) rfl, by decide, by decide, by decide +kernel⟩
theorem wi_X_crossed : Cond.instanceMethod y_X_crossed ∈ qT := qT_5 (i := 81) (by decide +kernel) rfl
theorem wl_X_crossed : Cond.selects y_X_crossed.cls y_X_crossed y_X_crossed ∈ qT := qT_5 (i := 82) (by decide +kernel) rfl
def y_X_isZeroOrOne : MethodName := ⟨"CoatHangers", "isZeroOrOne", "(I)Z"⟩
theorem qm_X_isZeroOrOne : qMt y_X_isZeroOrOne prog_1_method_50_code 1 (some .boolean) 1 := ⟨qT_5 (i := 90) (by decide +kernel) rfl, qT_1 (i := 1) (by decide +kernel) rfl, by decide, by decide, by decide +kernel⟩
theorem wi_X_isZeroOrOne : Cond.static y_X_isZeroOrOne ∈ qT := qT_5 (i := 89) (by decide +kernel) rfl
def y_X_fit : MethodName := ⟨"CoatHangers", "fit", "(II)I"⟩
theorem qm_X_fit : qMt y_X_fit prog_1_method_24_code 7 (some .int) 2 := ⟨qT_5 (i := 87) (by decide +kernel) rfl, qT_1 (i := 1) (by decide +kernel) rfl, by decide, by decide, by decide +kernel⟩
theorem wi_X_fit : Cond.instanceMethod y_X_fit ∈ qT := qT_5 (i := 85) (by decide +kernel) rfl
theorem wl_X_fit : Cond.selects y_X_fit.cls y_X_fit y_X_fit ∈ qT := qT_5 (i := 86) (by decide +kernel) rfl
def y_X_missed : MethodName := ⟨"CoatHangers", "missed", "(I)I"⟩
theorem qm_X_missed : qMt y_X_missed prog_1_method_25_code 6 (some .int) 1 := ⟨qT_5 (i := 95) (by decide +kernel) rfl, qT_1 (i := 1) (by decide +kernel) rfl, by decide, by decide, by decide +kernel⟩
theorem wi_X_missed : Cond.instanceMethod y_X_missed ∈ qT := qT_5 (i := 93) (by decide +kernel) rfl
theorem wl_X_missed : Cond.selects y_X_missed.cls y_X_missed y_X_missed ∈ qT := qT_5 (i := 94) (by decide +kernel) rfl
def y_X_crowded : MethodName := ⟨"CoatHangers", "crowded", "(I)I"⟩
theorem qm_X_crowded : qMt y_X_crowded prog_1_method_26_code 6 (some .int) 1 := ⟨qT_5 (i := 99) (by decide +kernel) rfl, qT_1 (i := 1) (by decide +kernel) rfl, by decide, by decide, by decide +kernel⟩
theorem wi_X_crowded : Cond.instanceMethod y_X_crowded ∈ qT := qT_5 (i := 97) (by decide +kernel) rfl
theorem wl_X_crowded : Cond.selects y_X_crowded.cls y_X_crowded y_X_crowded ∈ qT := qT_5 (i := 98) (by decide +kernel) rfl
def y_X_straight : MethodName := ⟨"CoatHangers", "straight", "()I"⟩
theorem qm_X_straight : qMt y_X_straight prog_1_method_27_code 4 (some .int) 0 := ⟨qT_5 (i := 104) (by decide +kernel) rfl, qT_1 (i := 1) (by decide +kernel) rfl, by decide, by decide, by decide +kernel⟩
theorem wi_X_straight : Cond.instanceMethod y_X_straight ∈ qT := qT_5 (i := 102) (by decide +kernel) rfl
theorem wl_X_straight : Cond.selects y_X_straight.cls y_X_straight y_X_straight ∈ qT := qT_5 (i := 103) (by decide +kernel) rfl
def y_X_bill : MethodName := ⟨"CoatHangers", "bill", "(I)I"⟩
theorem qm_X_bill : qMt y_X_bill prog_1_method_28_code 4 (some .int) 1 := ⟨qT_5 (i := 108) (by decide +kernel) rfl, qT_1 (i := 1) (by decide +kernel) rfl, by decide, by decide, by decide +kernel⟩
theorem wi_X_bill : Cond.instanceMethod y_X_bill ∈ qT := qT_5 (i := 106) (by decide +kernel) rfl
theorem wl_X_bill : Cond.selects y_X_bill.cls y_X_bill y_X_bill ∈ qT := qT_5 (i := 107) (by decide +kernel) rfl
def y_X_costIfExchanged : MethodName := ⟨"CoatHangers", "costIfExchanged", "(III)I"⟩
theorem qm_X_costIfExchanged : qMt y_X_costIfExchanged prog_1_method_30_code 4 (some .int) 3 := ⟨qT_5 (i := 125) (by decide +kernel) rfl, qT_1 (i := 1) (by decide +kernel) rfl, by decide, by decide, by decide +kernel⟩
theorem wi_X_costIfExchanged : Cond.instanceMethod y_X_costIfExchanged ∈ qT := qT_5 (i := 124) (by decide +kernel) rfl
theorem wl_X_costIfExchanged : Cond.selects y_X_costIfExchanged.cls y_X_costIfExchanged y_X_costIfExchanged ∈ qT := qT_s (i := 47) (by decide +kernel) rfl
def y_X_swap : MethodName := ⟨"CoatHangers", "swap", "(I)I"⟩
theorem qm_X_swap : qMt y_X_swap prog_1_method_29_code 8 (some .int) 1 := ⟨qT_5 (i := 121) (by decide +kernel) rfl, qT_1 (i := 1) (by decide +kernel) rfl, by decide, by decide, by decide +kernel⟩
theorem wi_X_swap : Cond.instanceMethod y_X_swap ∈ qT := qT_5 (i := 119) (by decide +kernel) rfl
theorem wl_X_swap : Cond.selects y_X_swap.cls y_X_swap y_X_swap ∈ qT := qT_5 (i := 120) (by decide +kernel) rfl
def y_X_round : MethodName := ⟨"CoatHangers", "round", "()I"⟩
theorem qm_X_round : qMt y_X_round prog_1_method_31_code 2 (some .int) 0 := ⟨qT_5 (i := 129) (by decide +kernel) rfl, qT_1 (i := 1) (by decide +kernel) rfl, by decide, by decide, by decide +kernel⟩
theorem wi_X_round : Cond.instanceMethod y_X_round ∈ qT := qT_5 (i := 127) (by decide +kernel) rfl
theorem wl_X_round : Cond.selects y_X_round.cls y_X_round y_X_round ∈ qT := qT_5 (i := 128) (by decide +kernel) rfl
def y_X_upright : MethodName := ⟨"CoatHangers", "upright", "(II)I"⟩
theorem qm_X_upright : qMt y_X_upright prog_1_method_32_code 5 (some .int) 2 := ⟨qT_5 (i := 137) (by decide +kernel) rfl, qT_1 (i := 1) (by decide +kernel) rfl, by decide, by decide, by decide +kernel⟩
theorem wi_X_upright : Cond.instanceMethod y_X_upright ∈ qT := qT_5 (i := 135) (by decide +kernel) rfl
theorem wl_X_upright : Cond.selects y_X_upright.cls y_X_upright y_X_upright ∈ qT := qT_5 (i := 136) (by decide +kernel) rfl
def y_X_holder : MethodName := ⟨"CoatHangers", "holder", "(I)I"⟩
theorem qm_X_holder : qMt y_X_holder prog_1_method_33_code 3 (some .int) 1 := ⟨qT_5 (i := 141) (by decide +kernel) rfl, qT_1 (i := 1) (by decide +kernel) rfl, by decide, by decide, by decide +kernel⟩
theorem wi_X_holder : Cond.instanceMethod y_X_holder ∈ qT := qT_5 (i := 139) (by decide +kernel) rfl
theorem wl_X_holder : Cond.selects y_X_holder.cls y_X_holder y_X_holder ∈ qT := qT_5 (i := 140) (by decide +kernel) rfl
def y_X_free : MethodName := ⟨"CoatHangers", "free", "(I)I"⟩
theorem qm_X_free : qMt y_X_free prog_1_method_34_code 5 (some .int) 1 := ⟨qT_5 (i := 145) (by decide +kernel) rfl, qT_1 (i := 1) (by decide +kernel) rfl, by decide, by decide, by decide +kernel⟩
theorem wi_X_free : Cond.instanceMethod y_X_free ∈ qT := qT_5 (i := 143) (by decide +kernel) rfl
theorem wl_X_free : Cond.selects y_X_free.cls y_X_free y_X_free ∈ qT := qT_5 (i := 144) (by decide +kernel) rfl
def y_X_day : MethodName := ⟨"CoatHangers", "day", "(I)I"⟩
theorem qm_X_day : qMt y_X_day prog_1_method_35_code 3 (some .int) 1 := ⟨qT_5 (i := 149) (by decide +kernel) rfl, qT_1 (i := 1) (by decide +kernel) rfl, by decide, by decide, by decide +kernel⟩
theorem wi_X_day : Cond.instanceMethod y_X_day ∈ qT := qT_5 (i := 147) (by decide +kernel) rfl
theorem wl_X_day : Cond.selects y_X_day.cls y_X_day y_X_day ∈ qT := qT_5 (i := 148) (by decide +kernel) rfl
def y_X_then : MethodName := ⟨"CoatHangers", "then", "(III)I"⟩
theorem qm_X_then : qMt y_X_then prog_1_method_36_code 4 (some .int) 3 := ⟨qT_5 (i := 153) (by decide +kernel) rfl, qT_1 (i := 1) (by decide +kernel) rfl, by decide, by decide, by decide +kernel⟩
theorem wi_X_then : Cond.instanceMethod y_X_then ∈ qT := qT_5 (i := 151) (by decide +kernel) rfl
theorem wl_X_then : Cond.selects y_X_then.cls y_X_then y_X_then ∈ qT := qT_5 (i := 152) (by decide +kernel) rfl
def y_X_bentIn : MethodName := ⟨"CoatHangers", "bentIn", "(II)I"⟩
theorem qm_X_bentIn : qMt y_X_bentIn prog_1_method_37_code 3 (some .int) 2 := ⟨qT_5 (i := 157) (by decide +kernel) rfl, qT_1 (i := 1) (by decide +kernel) rfl, by decide, by decide, by decide +kernel⟩
theorem wi_X_bentIn : Cond.instanceMethod y_X_bentIn ∈ qT := qT_5 (i := 155) (by decide +kernel) rfl
theorem wl_X_bentIn : Cond.selects y_X_bentIn.cls y_X_bentIn y_X_bentIn ∈ qT := qT_5 (i := 156) (by decide +kernel) rfl
def y_X_year : MethodName := ⟨"CoatHangers", "year", "(III)I"⟩
theorem qm_X_year : qMt y_X_year prog_1_method_38_code 6 (some .int) 3 := ⟨qT_5 (i := 161) (by decide +kernel) rfl, qT_1 (i := 1) (by decide +kernel) rfl, by decide, by decide, by decide +kernel⟩
theorem wi_X_year : Cond.instanceMethod y_X_year ∈ qT := qT_5 (i := 159) (by decide +kernel) rfl
theorem wl_X_year : Cond.selects y_X_year.cls y_X_year y_X_year ∈ qT := qT_5 (i := 160) (by decide +kernel) rfl
def y_X_tell : MethodName := ⟨"CoatHangers", "tell", "(IIZ)I"⟩
theorem qm_X_tell : qMt y_X_tell prog_1_method_39_code 4 (some .int) 3 := ⟨qT_5 (i := 169) (by decide +kernel) rfl, qT_1 (i := 1) (by decide +kernel) rfl, by decide, by decide, by decide +kernel⟩
theorem wi_X_tell : Cond.instanceMethod y_X_tell ∈ qT := qT_5 (i := 167) (by decide +kernel) rfl
theorem wl_X_tell : Cond.selects y_X_tell.cls y_X_tell y_X_tell ∈ qT := qT_5 (i := 168) (by decide +kernel) rfl
def y_X_forget : MethodName := ⟨"CoatHangers", "forget", "()I"⟩
theorem qm_X_forget : qMt y_X_forget prog_1_method_40_code 2 (some .int) 0 := ⟨qT_5 (i := 182) (by decide +kernel) rfl, qT_1 (i := 1) (by decide +kernel) rfl, by decide, by decide, by decide +kernel⟩
theorem wi_X_forget : Cond.instanceMethod y_X_forget ∈ qT := qT_5 (i := 180) (by decide +kernel) rfl
theorem wl_X_forget : Cond.selects y_X_forget.cls y_X_forget y_X_forget ∈ qT := qT_5 (i := 181) (by decide +kernel) rfl
def y_X_isKnown : MethodName := ⟨"CoatHangers", "isKnown", "(I)Z"⟩
theorem qm_X_isKnown : qMt y_X_isKnown prog_1_method_48_code 2 (some .boolean) 1 := ⟨qT_5 (i := 190) (by decide +kernel) rfl, qT_1 (i := 1) (by decide +kernel) rfl, by decide, by decide, by decide +kernel⟩
theorem wi_X_isKnown : Cond.instanceMethod y_X_isKnown ∈ qT := qT_5 (i := 189) (by decide +kernel) rfl
theorem wl_X_isKnown : Cond.selects y_X_isKnown.cls y_X_isKnown y_X_isKnown ∈ qT := qT_s (i := 48) (by decide +kernel) rfl
def y_X_two : MethodName := ⟨"CoatHangers", "two", "(II)I"⟩
theorem qm_X_two : qMt y_X_two prog_1_method_41_code 3 (some .int) 2 := ⟨qT_5 (i := 186) (by decide +kernel) rfl, qT_1 (i := 1) (by decide +kernel) rfl, by decide, by decide, by decide +kernel⟩
theorem wi_X_two : Cond.instanceMethod y_X_two ∈ qT := qT_5 (i := 184) (by decide +kernel) rfl
theorem wl_X_two : Cond.selects y_X_two.cls y_X_two y_X_two ∈ qT := qT_5 (i := 185) (by decide +kernel) rfl
def y_X_ask : MethodName := ⟨"CoatHangers", "ask", "(I)I"⟩
theorem qm_X_ask : qMt y_X_ask prog_1_method_42_code 2 (some .int) 1 := ⟨qT_5 (i := 210) (by decide +kernel) rfl, qT_1 (i := 1) (by decide +kernel) rfl, by decide, by decide, by decide +kernel⟩
theorem wi_X_ask : Cond.instanceMethod y_X_ask ∈ qT := qT_5 (i := 208) (by decide +kernel) rfl
theorem wl_X_ask : Cond.selects y_X_ask.cls y_X_ask y_X_ask ∈ qT := qT_5 (i := 209) (by decide +kernel) rfl
def y_X_isSlot : MethodName := ⟨"CoatHangers", "isSlot", "(I)Z"⟩
theorem qm_X_isSlot : qMt y_X_isSlot prog_1_method_51_code 1 (some .boolean) 1 := ⟨qT_5 (i := 234) (by decide +kernel) rfl, qT_1 (i := 1) (by decide +kernel) rfl, by decide, by decide, by decide +kernel⟩
theorem wi_X_isSlot : Cond.static y_X_isSlot ∈ qT := qT_5 (i := 233) (by decide +kernel) rfl
def y_X_hold : MethodName := ⟨"CoatHangers", "hold", "(I)Z"⟩
theorem qm_X_hold : qMt y_X_hold prog_1_method_43_code 2 (some .boolean) 1 := ⟨qT_5 (i := 231) (by decide +kernel) rfl, qT_1 (i := 1) (by decide +kernel) rfl, by decide, by decide, by decide +kernel⟩
theorem wi_X_hold : Cond.instanceMethod y_X_hold ∈ qT := qT_5 (i := 229) (by decide +kernel) rfl
theorem wl_X_hold : Cond.selects y_X_hold.cls y_X_hold y_X_hold ∈ qT := qT_5 (i := 230) (by decide +kernel) rfl
def y_X_restore : MethodName := ⟨"CoatHangers", "restore", "(I)Z"⟩
theorem qm_X_restore : qMt y_X_restore prog_1_method_44_code 2 (some .boolean) 1 := ⟨qT_5 (i := 238) (by decide +kernel) rfl, qT_1 (i := 1) (by decide +kernel) rfl, by decide, by decide, by decide +kernel⟩
theorem wi_X_restore : Cond.instanceMethod y_X_restore ∈ qT := qT_5 (i := 236) (by decide +kernel) rfl
theorem wl_X_restore : Cond.selects y_X_restore.cls y_X_restore y_X_restore ∈ qT := qT_5 (i := 237) (by decide +kernel) rfl
def y_X_sumOfFirst : MethodName := ⟨"CoatHangers", "sumOfFirst", "([II)I"⟩
theorem qm_X_sumOfFirst : qMt y_X_sumOfFirst prog_1_method_52_code 4 (some .int) 2 := ⟨qT_6 (i := 13) (by decide +kernel) rfl, qT_1 (i := 1) (by decide +kernel) rfl, by decide, by decide, by decide +kernel⟩
theorem wi_X_sumOfFirst : Cond.static y_X_sumOfFirst ∈ qT := qT_6 (i := 12) (by decide +kernel) rfl
def y_X_count : MethodName := ⟨"CoatHangers", "count", "(I)I"⟩
theorem qm_X_count : qMt y_X_count prog_1_method_45_code 2 (some .int) 1 := ⟨qT_6 (i := 2) (by decide +kernel) rfl, qT_1 (i := 1) (by decide +kernel) rfl, by decide, by decide, by decide +kernel⟩
theorem wi_X_count : Cond.instanceMethod y_X_count ∈ qT := qT_6 (i := 0) (by decide +kernel) rfl
theorem wl_X_count : Cond.selects y_X_count.cls y_X_count y_X_count ∈ qT := qT_6 (i := 1) (by decide +kernel) rfl
theorem wf_X_10 : Cond.fieldLink "CoatHangers" 10 "CoatHangers" "tape" "LCoatHangers$Tape;" ∈ qT := qT_2 (i := 217) (by decide +kernel) rfl
theorem wm_X_91 : Cond.methodLink "CoatHangers" 91 y_Tape_hasRoomFor ∈ qT := qT_3 (i := 18) (by decide +kernel) rfl
theorem wm_X_95 : Cond.methodLink "CoatHangers" 95 y_Tape_addFour ∈ qT := qT_3 (i := 22) (by decide +kernel) rfl
theorem wf_X_99 : Cond.fieldLink "CoatHangers" 99 "CoatHangers$Tape" "size" "I" ∈ qT := qT_1 (i := 91) (by decide +kernel) rfl
theorem wf_X_28 : Cond.fieldLink "CoatHangers" 28 "CoatHangers" "reader" "LCoatHangers$Reader;" ∈ qT := qT_2 (i := 219) (by decide +kernel) rfl
theorem wm_X_102 : Cond.methodLink "CoatHangers" 102 y_Reader_readAll ∈ qT := qT_3 (i := 34) (by decide +kernel) rfl
theorem wf_X_19 : Cond.fieldLink "CoatHangers" 19 "CoatHangers" "text" "LCoatHangers$Text;" ∈ qT := qT_2 (i := 218) (by decide +kernel) rfl
theorem wf_X_106 : Cond.fieldLink "CoatHangers" 106 "CoatHangers$Reader" "draft" "LCoatHangers$Text;" ∈ qT := qT_2 (i := 16) (by decide +kernel) rfl
theorem wm_X_109 : Cond.methodLink "CoatHangers" 109 y_Text_become ∈ qT := qT_4 (i := 33) (by decide +kernel) rfl
theorem wf_X_37 : Cond.fieldLink "CoatHangers" 37 "CoatHangers" "state" "LCoatHangers$State;" ∈ qT := qT_2 (i := 220) (by decide +kernel) rfl
theorem wm_X_112 : Cond.methodLink "CoatHangers" 112 y_State_begin ∈ qT := qT_4 (i := 45) (by decide +kernel) rfl
theorem wf_X_79 : Cond.fieldLink "CoatHangers" 79 "CoatHangers" "past" "LCoatHangers$Past;" ∈ qT := qT_2 (i := 226) (by decide +kernel) rfl
theorem wm_X_115 : Cond.methodLink "CoatHangers" 115 y_Past_drop ∈ qT := qT_4 (i := 46) (by decide +kernel) rfl
theorem wf_X_72 : Cond.fieldLink "CoatHangers" 72 "CoatHangers" "told" "LCoatHangers$Told;" ∈ qT := qT_2 (i := 225) (by decide +kernel) rfl
theorem wf_X_118 : Cond.fieldLink "CoatHangers" 118 "CoatHangers$Told" "size" "I" ∈ qT := qT_2 (i := 178) (by decide +kernel) rfl
theorem wf_X_87 : Cond.fieldLink "CoatHangers" 87 "CoatHangers" "heldSlots" "I" ∈ qT := qT_2 (i := 228) (by decide +kernel) rfl
theorem wf_X_119 : Cond.fieldLink "CoatHangers" 119 "CoatHangers$Reader" "faultPlace" "I" ∈ qT := qT_2 (i := 25) (by decide +kernel) rfl
theorem wf_X_238 : Cond.fieldLink "CoatHangers" 238 "CoatHangers$Text" "hangers" "I" ∈ qT := qT_1 (i := 159) (by decide +kernel) rfl
theorem wm_X_122 : Cond.methodLink "CoatHangers" 122 y_X_isHanger ∈ qT := qT_4 (i := 58) (by decide +kernel) rfl
theorem wf_X_125 : Cond.fieldLink "CoatHangers" 125 "CoatHangers$Text" "nail" "[I" ∈ qT := qT_1 (i := 163) (by decide +kernel) rfl
theorem wf_X_129 : Cond.fieldLink "CoatHangers" 129 "CoatHangers$Text" "breadth" "[I" ∈ qT := qT_1 (i := 169) (by decide +kernel) rfl
theorem wf_X_132 : Cond.fieldLink "CoatHangers" 132 "CoatHangers$State" "bent" "[I" ∈ qT := qT_2 (i := 88) (by decide +kernel) rfl
theorem wm_X_135 : Cond.methodLink "CoatHangers" 135 y_State_whoIsOn ∈ qT := qT_4 (i := 62) (by decide +kernel) rfl
theorem wf_X_218 : Cond.fieldLink "CoatHangers" 218 "CoatHangers$Text" "people" "I" ∈ qT := qT_1 (i := 177) (by decide +kernel) rfl
theorem wm_X_139 : Cond.methodLink "CoatHangers" 139 y_X_isPerson ∈ qT := qT_4 (i := 70) (by decide +kernel) rfl
theorem wf_X_142 : Cond.fieldLink "CoatHangers" 142 "CoatHangers$State" "wide" "[I" ∈ qT := qT_2 (i := 72) (by decide +kernel) rfl
theorem wf_X_145 : Cond.fieldLink "CoatHangers" 145 "CoatHangers$Text" "rank" "[I" ∈ qT := qT_1 (i := 184) (by decide +kernel) rfl
theorem wf_X_148 : Cond.fieldLink "CoatHangers" 148 "CoatHangers$State" "on" "[I" ∈ qT := qT_2 (i := 77) (by decide +kernel) rfl
theorem wf_X_151 : Cond.fieldLink "CoatHangers" 151 "CoatHangers$State" "self" "[I" ∈ qT := qT_2 (i := 80) (by decide +kernel) rfl
theorem wf_X_154 : Cond.fieldLink "CoatHangers" 154 "CoatHangers$State" "crooked" "[I" ∈ qT := qT_2 (i := 85) (by decide +kernel) rfl
theorem wm_X_157 : Cond.methodLink "CoatHangers" 157 y_State_othersBeside ∈ qT := qT_4 (i := 74) (by decide +kernel) rfl
theorem wm_X_160 : Cond.methodLink "CoatHangers" 160 y_State_isHung ∈ qT := qT_4 (i := 94) (by decide +kernel) rfl
theorem wf_X_47 : Cond.fieldLink "CoatHangers" 47 "CoatHangers" "reckoner" "LCoatHangers$Reckoner;" ∈ qT := qT_2 (i := 222) (by decide +kernel) rfl
theorem wm_X_163 : Cond.methodLink "CoatHangers" 163 y_Reck_lookAtHung ∈ qT := qT_4 (i := 95) (by decide +kernel) rfl
theorem wm_X_167 : Cond.methodLink "CoatHangers" 167 y_Reck_lawTells ∈ qT := qT_4 (i := 108) (by decide +kernel) rfl
theorem wm_X_170 : Cond.methodLink "CoatHangers" 170 y_State_isTaken ∈ qT := qT_4 (i := 130) (by decide +kernel) rfl
theorem wm_X_173 : Cond.methodLink "CoatHangers" 173 y_Past_keep ∈ qT := qT_4 (i := 135) (by decide +kernel) rfl
theorem wm_X_177 : Cond.methodLink "CoatHangers" 177 y_State_exchange ∈ qT := qT_4 (i := 153) (by decide +kernel) rfl
theorem wm_X_181 : Cond.methodLink "CoatHangers" 181 y_X_isFewNights ∈ qT := qT_4 (i := 165) (by decide +kernel) rfl
theorem wf_X_191 : Cond.fieldLink "CoatHangers" 191 "CoatHangers$State" "night" "I" ∈ qT := qT_2 (i := 69) (by decide +kernel) rfl
theorem wf_X_56 : Cond.fieldLink "CoatHangers" 56 "CoatHangers" "night" "LCoatHangers$Night;" ∈ qT := qT_2 (i := 223) (by decide +kernel) rfl
theorem wf_X_184 : Cond.fieldLink "CoatHangers" 184 "CoatHangers$Text" "seed" "I" ∈ qT := qT_1 (i := 197) (by decide +kernel) rfl
theorem wm_X_187 : Cond.methodLink "CoatHangers" 187 y_Night_goByWithAll ∈ qT := qT_4 (i := 168) (by decide +kernel) rfl
theorem wm_X_193 : Cond.methodLink "CoatHangers" 193 y_Past_giveBack ∈ qT := qT_4 (i := 218) (by decide +kernel) rfl
theorem wf_X_63 : Cond.fieldLink "CoatHangers" 63 "CoatHangers" "plan" "LCoatHangers$Plan;" ∈ qT := qT_2 (i := 224) (by decide +kernel) rfl
theorem wm_X_201 : Cond.methodLink "CoatHangers" 201 y_Plan_lookAtCosts ∈ qT := qT_4 (i := 230) (by decide +kernel) rfl
theorem wm_X_204 : Cond.methodLink "CoatHangers" 204 y_Plan_findBest ∈ qT := qT_4 (i := 239) (by decide +kernel) rfl
theorem wm_X_211 : Cond.methodLink "CoatHangers" 211 y_Plan_hangerFor ∈ qT := qT_5 (i := 33) (by decide +kernel) rfl
theorem wm_X_208 : Cond.methodLink "CoatHangers" 208 y_Plan_costOf ∈ qT := qT_5 (i := 26) (by decide +kernel) rfl
theorem wm_X_197 : Cond.methodLink "CoatHangers" 197 y_X_planned ∈ qT := qT_4 (i := 226) (by decide +kernel) rfl
theorem wm_X_215 : Cond.methodLink "CoatHangers" 215 y_Plan_waysWithin ∈ qT := qT_5 (i := 49) (by decide +kernel) rfl
theorem wm_X_221 : Cond.methodLink "CoatHangers" 221 y_X_ringFrom ∈ qT := qT_5 (i := 61) (by decide +kernel) rfl
theorem wm_X_224 : Cond.methodLink "CoatHangers" 224 y_X_sets ∈ qT := qT_5 (i := 69) (by decide +kernel) rfl
theorem wf_X_41 : Cond.fieldLink "CoatHangers" 41 "CoatHangers" "dream" "LCoatHangers$State;" ∈ qT := qT_2 (i := 221) (by decide +kernel) rfl
theorem wm_X_227 : Cond.methodLink "CoatHangers" 227 y_State_become ∈ qT := qT_5 (i := 74) (by decide +kernel) rfl
theorem wm_X_229 : Cond.methodLink "CoatHangers" 229 y_State_bitsOfOwnSelves ∈ qT := qT_5 (i := 75) (by decide +kernel) rfl
theorem wm_X_232 : Cond.methodLink "CoatHangers" 232 y_Night_wakeAll ∈ qT := qT_5 (i := 79) (by decide +kernel) rfl
theorem wm_X_235 : Cond.methodLink "CoatHangers" 235 y_X_isZeroOrOne ∈ qT := qT_5 (i := 88) (by decide +kernel) rfl
theorem wm_X_241 : Cond.methodLink "CoatHangers" 241 y_Reck_costAlone ∈ qT := qT_5 (i := 91) (by decide +kernel) rfl
theorem wm_X_245 : Cond.methodLink "CoatHangers" 245 y_State_peopleOnNail ∈ qT := qT_5 (i := 100) (by decide +kernel) rfl
theorem wm_X_248 : Cond.methodLink "CoatHangers" 248 y_Reck_costOfAll ∈ qT := qT_5 (i := 109) (by decide +kernel) rfl
theorem wm_X_252 : Cond.methodLink "CoatHangers" 252 y_Night_goByQuietly ∈ qT := qT_5 (i := 114) (by decide +kernel) rfl
theorem wm_X_255 : Cond.methodLink "CoatHangers" 255 y_X_costIfExchanged ∈ qT := qT_5 (i := 122) (by decide +kernel) rfl
theorem wm_X_259 : Cond.methodLink "CoatHangers" 259 y_State_hasSelvesOf ∈ qT := qT_5 (i := 130) (by decide +kernel) rfl
theorem wm_X_262 : Cond.methodLink "CoatHangers" 262 y_Night_staysHung ∈ qT := qT_5 (i := 162) (by decide +kernel) rfl
theorem wm_X_266 : Cond.methodLink "CoatHangers" 266 y_Told_hasRoom ∈ qT := qT_5 (i := 170) (by decide +kernel) rfl
theorem wm_X_270 : Cond.methodLink "CoatHangers" 270 y_Told_add ∈ qT := qT_5 (i := 174) (by decide +kernel) rfl
theorem wm_X_274 : Cond.methodLink "CoatHangers" 274 y_X_isKnown ∈ qT := qT_5 (i := 187) (by decide +kernel) rfl
theorem wm_X_281 : Cond.methodLink "CoatHangers" 281 y_Told_pairLeft ∈ qT := qT_5 (i := 203) (by decide +kernel) rfl
theorem wm_X_277 : Cond.methodLink "CoatHangers" 277 y_Told_pairsLeft ∈ qT := qT_5 (i := 191) (by decide +kernel) rfl
theorem wm_X_284 : Cond.methodLink "CoatHangers" 284 y_Told_whomToAsk ∈ qT := qT_5 (i := 211) (by decide +kernel) rfl
theorem wm_X_287 : Cond.methodLink "CoatHangers" 287 y_X_isSlot ∈ qT := qT_5 (i := 232) (by decide +kernel) rfl
theorem wf_X_83 : Cond.fieldLink "CoatHangers" 83 "CoatHangers" "slots" "[LCoatHangers$State;" ∈ qT := qT_2 (i := 227) (by decide +kernel) rfl
theorem wm_X_290 : Cond.methodLink "CoatHangers" 290 y_State_bitsOfHung ∈ qT := qT_6 (i := 3) (by decide +kernel) rfl
theorem wm_X_293 : Cond.methodLink "CoatHangers" 293 y_State_bitsOfTaken ∈ qT := qT_6 (i := 7) (by decide +kernel) rfl
theorem wm_X_296 : Cond.methodLink "CoatHangers" 296 y_X_sumOfFirst ∈ qT := qT_6 (i := 11) (by decide +kernel) rfl
theorem wf_X_300 : Cond.fieldLink "CoatHangers" 300 "CoatHangers$Past" "size" "I" ∈ qT := qT_2 (i := 209) (by decide +kernel) rfl
theorem wm_X_301 : Cond.methodLink "CoatHangers" 301 y_Integer_bitCount ∈ qT := qT_6 (i := 14) (by decide +kernel) rfl
theorem wm_X_306 : Cond.methodLink "CoatHangers" 306 y_Night_hasMoth ∈ qT := qT_6 (i := 15) (by decide +kernel) rfl
theorem wm_X_310 : Cond.methodLink "CoatHangers" 310 y_State_bitsOfSharedNails ∈ qT := qT_6 (i := 16) (by decide +kernel) rfl
theorem d_X_feed_0 : decode prog_1_method_2_code 0 = .ok (.aload_n 0, 1) := by decide +kernel
theorem d_X_feed_1 : decode prog_1_method_2_code 1 = .ok (.getfield 10, 3) := by decide +kernel
theorem d_X_feed_4 : decode prog_1_method_2_code 4 = .ok (.bipush 20, 2) := by decide +kernel
theorem d_X_feed_6 : decode prog_1_method_2_code 6 = .ok (.invokevirtual 91, 3) := by decide +kernel
theorem d_X_feed_9 : decode prog_1_method_2_code 9 = .ok (.ifCond .ne 5, 3) := by decide +kernel
theorem d_X_feed_12 : decode prog_1_method_2_code 12 = .ok (.iconst (-1), 1) := by decide +kernel
theorem d_X_feed_13 : decode prog_1_method_2_code 13 = .ok (.ireturn, 1) := by decide +kernel
theorem d_X_feed_14 : decode prog_1_method_2_code 14 = .ok (.aload_n 0, 1) := by decide +kernel
theorem d_X_feed_15 : decode prog_1_method_2_code 15 = .ok (.getfield 10, 3) := by decide +kernel
theorem d_X_feed_18 : decode prog_1_method_2_code 18 = .ok (.iload_n 1, 1) := by decide +kernel
theorem d_X_feed_19 : decode prog_1_method_2_code 19 = .ok (.invokevirtual 95, 3) := by decide +kernel
theorem d_X_feed_22 : decode prog_1_method_2_code 22 = .ok (.aload_n 0, 1) := by decide +kernel
theorem d_X_feed_23 : decode prog_1_method_2_code 23 = .ok (.getfield 10, 3) := by decide +kernel
theorem d_X_feed_26 : decode prog_1_method_2_code 26 = .ok (.iload_n 2, 1) := by decide +kernel
theorem d_X_feed_27 : decode prog_1_method_2_code 27 = .ok (.invokevirtual 95, 3) := by decide +kernel
theorem d_X_feed_30 : decode prog_1_method_2_code 30 = .ok (.aload_n 0, 1) := by decide +kernel
theorem d_X_feed_31 : decode prog_1_method_2_code 31 = .ok (.getfield 10, 3) := by decide +kernel
theorem d_X_feed_34 : decode prog_1_method_2_code 34 = .ok (.iload_n 3, 1) := by decide +kernel
theorem d_X_feed_35 : decode prog_1_method_2_code 35 = .ok (.invokevirtual 95, 3) := by decide +kernel
theorem d_X_feed_38 : decode prog_1_method_2_code 38 = .ok (.aload_n 0, 1) := by decide +kernel
theorem d_X_feed_39 : decode prog_1_method_2_code 39 = .ok (.getfield 10, 3) := by decide +kernel
theorem d_X_feed_42 : decode prog_1_method_2_code 42 = .ok (.iload 4, 2) := by decide +kernel
theorem d_X_feed_44 : decode prog_1_method_2_code 44 = .ok (.invokevirtual 95, 3) := by decide +kernel
theorem d_X_feed_47 : decode prog_1_method_2_code 47 = .ok (.aload_n 0, 1) := by decide +kernel
theorem d_X_feed_48 : decode prog_1_method_2_code 48 = .ok (.getfield 10, 3) := by decide +kernel
theorem d_X_feed_51 : decode prog_1_method_2_code 51 = .ok (.iload 5, 2) := by decide +kernel
theorem d_X_feed_53 : decode prog_1_method_2_code 53 = .ok (.invokevirtual 95, 3) := by decide +kernel
theorem d_X_feed_56 : decode prog_1_method_2_code 56 = .ok (.aload_n 0, 1) := by decide +kernel
theorem d_X_feed_57 : decode prog_1_method_2_code 57 = .ok (.getfield 10, 3) := by decide +kernel
theorem d_X_feed_60 : decode prog_1_method_2_code 60 = .ok (.getfield 99, 3) := by decide +kernel
theorem d_X_feed_63 : decode prog_1_method_2_code 63 = .ok (.ireturn, 1) := by decide +kernel
theorem d_X_back_0 : decode prog_1_method_3_code 0 = .ok (.iload_n 1, 1) := by decide +kernel
theorem d_X_back_1 : decode prog_1_method_3_code 1 = .ok (.ifCond .lt 14, 3) := by decide +kernel
theorem d_X_back_4 : decode prog_1_method_3_code 4 = .ok (.iload_n 1, 1) := by decide +kernel
theorem d_X_back_5 : decode prog_1_method_3_code 5 = .ok (.aload_n 0, 1) := by decide +kernel
theorem d_X_back_6 : decode prog_1_method_3_code 6 = .ok (.getfield 10, 3) := by decide +kernel
theorem d_X_back_9 : decode prog_1_method_3_code 9 = .ok (.getfield 99, 3) := by decide +kernel
theorem d_X_back_12 : decode prog_1_method_3_code 12 = .ok (.if_icmp .le 5, 3) := by decide +kernel
theorem d_X_back_15 : decode prog_1_method_3_code 15 = .ok (.iconst (-1), 1) := by decide +kernel
theorem d_X_back_16 : decode prog_1_method_3_code 16 = .ok (.ireturn, 1) := by decide +kernel
theorem d_X_back_17 : decode prog_1_method_3_code 17 = .ok (.aload_n 0, 1) := by decide +kernel
theorem d_X_back_18 : decode prog_1_method_3_code 18 = .ok (.getfield 10, 3) := by decide +kernel
theorem d_X_back_21 : decode prog_1_method_3_code 21 = .ok (.dup, 1) := by decide +kernel
theorem d_X_back_22 : decode prog_1_method_3_code 22 = .ok (.getfield 99, 3) := by decide +kernel
theorem d_X_back_25 : decode prog_1_method_3_code 25 = .ok (.iload_n 1, 1) := by decide +kernel
theorem d_X_back_26 : decode prog_1_method_3_code 26 = .ok (.isub, 1) := by decide +kernel
theorem d_X_back_27 : decode prog_1_method_3_code 27 = .ok (.putfield 99, 3) := by decide +kernel
theorem d_X_back_30 : decode prog_1_method_3_code 30 = .ok (.aload_n 0, 1) := by decide +kernel
theorem d_X_back_31 : decode prog_1_method_3_code 31 = .ok (.getfield 10, 3) := by decide +kernel
theorem d_X_back_34 : decode prog_1_method_3_code 34 = .ok (.getfield 99, 3) := by decide +kernel
theorem d_X_back_37 : decode prog_1_method_3_code 37 = .ok (.ireturn, 1) := by decide +kernel
theorem d_X_read_0 : decode prog_1_method_4_code 0 = .ok (.aload_n 0, 1) := by decide +kernel
theorem d_X_read_1 : decode prog_1_method_4_code 1 = .ok (.getfield 28, 3) := by decide +kernel
theorem d_X_read_4 : decode prog_1_method_4_code 4 = .ok (.invokevirtual 102, 3) := by decide +kernel
theorem d_X_read_7 : decode prog_1_method_4_code 7 = .ok (.istore_n 1, 1) := by decide +kernel
theorem d_X_read_8 : decode prog_1_method_4_code 8 = .ok (.aload_n 0, 1) := by decide +kernel
theorem d_X_read_9 : decode prog_1_method_4_code 9 = .ok (.getfield 10, 3) := by decide +kernel
theorem d_X_read_12 : decode prog_1_method_4_code 12 = .ok (.iconst 0, 1) := by decide +kernel
theorem d_X_read_13 : decode prog_1_method_4_code 13 = .ok (.putfield 99, 3) := by decide +kernel
theorem d_X_read_16 : decode prog_1_method_4_code 16 = .ok (.iload_n 1, 1) := by decide +kernel
theorem d_X_read_17 : decode prog_1_method_4_code 17 = .ok (.ifCond .ne 44, 3) := by decide +kernel
theorem d_X_read_20 : decode prog_1_method_4_code 20 = .ok (.aload_n 0, 1) := by decide +kernel
theorem d_X_read_21 : decode prog_1_method_4_code 21 = .ok (.getfield 19, 3) := by decide +kernel
theorem d_X_read_24 : decode prog_1_method_4_code 24 = .ok (.aload_n 0, 1) := by decide +kernel
theorem d_X_read_25 : decode prog_1_method_4_code 25 = .ok (.getfield 28, 3) := by decide +kernel
theorem d_X_read_28 : decode prog_1_method_4_code 28 = .ok (.getfield 106, 3) := by decide +kernel
theorem d_X_read_31 : decode prog_1_method_4_code 31 = .ok (.invokevirtual 109, 3) := by decide +kernel
theorem d_X_read_34 : decode prog_1_method_4_code 34 = .ok (.aload_n 0, 1) := by decide +kernel
theorem d_X_read_35 : decode prog_1_method_4_code 35 = .ok (.getfield 37, 3) := by decide +kernel
theorem d_X_read_38 : decode prog_1_method_4_code 38 = .ok (.invokevirtual 112, 3) := by decide +kernel
theorem d_X_read_41 : decode prog_1_method_4_code 41 = .ok (.aload_n 0, 1) := by decide +kernel
theorem d_X_read_42 : decode prog_1_method_4_code 42 = .ok (.getfield 79, 3) := by decide +kernel
theorem d_X_read_45 : decode prog_1_method_4_code 45 = .ok (.invokevirtual 115, 3) := by decide +kernel
theorem d_X_read_48 : decode prog_1_method_4_code 48 = .ok (.aload_n 0, 1) := by decide +kernel
theorem d_X_read_49 : decode prog_1_method_4_code 49 = .ok (.getfield 72, 3) := by decide +kernel
theorem d_X_read_52 : decode prog_1_method_4_code 52 = .ok (.iconst 0, 1) := by decide +kernel
theorem d_X_read_53 : decode prog_1_method_4_code 53 = .ok (.putfield 118, 3) := by decide +kernel
theorem d_X_read_56 : decode prog_1_method_4_code 56 = .ok (.aload_n 0, 1) := by decide +kernel
theorem d_X_read_57 : decode prog_1_method_4_code 57 = .ok (.iconst 0, 1) := by decide +kernel
theorem d_X_read_58 : decode prog_1_method_4_code 58 = .ok (.putfield 87, 3) := by decide +kernel
theorem d_X_read_61 : decode prog_1_method_4_code 61 = .ok (.iload_n 1, 1) := by decide +kernel
theorem d_X_read_62 : decode prog_1_method_4_code 62 = .ok (.ireturn, 1) := by decide +kernel
theorem d_X_place_0 : decode prog_1_method_5_code 0 = .ok (.aload_n 0, 1) := by decide +kernel
theorem d_X_place_1 : decode prog_1_method_5_code 1 = .ok (.getfield 28, 3) := by decide +kernel
theorem d_X_place_4 : decode prog_1_method_5_code 4 = .ok (.getfield 119, 3) := by decide +kernel
theorem d_X_place_7 : decode prog_1_method_5_code 7 = .ok (.ireturn, 1) := by decide +kernel
theorem d_X_isHanger_0 : decode prog_1_method_46_code 0 = .ok (.iload_n 1, 1) := by decide +kernel
theorem d_X_isHanger_1 : decode prog_1_method_46_code 1 = .ok (.ifCond .lt 18, 3) := by decide +kernel
theorem d_X_isHanger_4 : decode prog_1_method_46_code 4 = .ok (.iload_n 1, 1) := by decide +kernel
theorem d_X_isHanger_5 : decode prog_1_method_46_code 5 = .ok (.aload_n 0, 1) := by decide +kernel
theorem d_X_isHanger_6 : decode prog_1_method_46_code 6 = .ok (.getfield 19, 3) := by decide +kernel
theorem d_X_isHanger_9 : decode prog_1_method_46_code 9 = .ok (.getfield 238, 3) := by decide +kernel
theorem d_X_isHanger_12 : decode prog_1_method_46_code 12 = .ok (.if_icmp .ge 7, 3) := by decide +kernel
theorem d_X_isHanger_15 : decode prog_1_method_46_code 15 = .ok (.iconst 1, 1) := by decide +kernel
theorem d_X_isHanger_16 : decode prog_1_method_46_code 16 = .ok (.goto 4, 3) := by decide +kernel
theorem d_X_isHanger_19 : decode prog_1_method_46_code 19 = .ok (.iconst 0, 1) := by decide +kernel
theorem d_X_isHanger_20 : decode prog_1_method_46_code 20 = .ok (.ireturn, 1) := by decide +kernel
theorem d_X_hanger_0 : decode prog_1_method_6_code 0 = .ok (.aload_n 0, 1) := by decide +kernel
theorem d_X_hanger_1 : decode prog_1_method_6_code 1 = .ok (.iload_n 1, 1) := by decide +kernel
theorem d_X_hanger_2 : decode prog_1_method_6_code 2 = .ok (.invokevirtual 122, 3) := by decide +kernel
theorem d_X_hanger_5 : decode prog_1_method_6_code 5 = .ok (.ifCond .ne 5, 3) := by decide +kernel
theorem d_X_hanger_8 : decode prog_1_method_6_code 8 = .ok (.iconst (-1), 1) := by decide +kernel
theorem d_X_hanger_9 : decode prog_1_method_6_code 9 = .ok (.ireturn, 1) := by decide +kernel
theorem d_X_hanger_10 : decode prog_1_method_6_code 10 = .ok (.iload_n 2, 1) := by decide +kernel
theorem d_X_hanger_11 : decode prog_1_method_6_code 11 = .ok (.tableswitch 68 0 3 #[29, 39, 49, 59], 29) := by decide +kernel
theorem d_X_hanger_40 : decode prog_1_method_6_code 40 = .ok (.aload_n 0, 1) := by decide +kernel
theorem d_X_hanger_41 : decode prog_1_method_6_code 41 = .ok (.getfield 19, 3) := by decide +kernel
theorem d_X_hanger_44 : decode prog_1_method_6_code 44 = .ok (.getfield 125, 3) := by decide +kernel
theorem d_X_hanger_47 : decode prog_1_method_6_code 47 = .ok (.iload_n 1, 1) := by decide +kernel
theorem d_X_hanger_48 : decode prog_1_method_6_code 48 = .ok (.iaload, 1) := by decide +kernel
theorem d_X_hanger_49 : decode prog_1_method_6_code 49 = .ok (.ireturn, 1) := by decide +kernel
theorem d_X_hanger_50 : decode prog_1_method_6_code 50 = .ok (.aload_n 0, 1) := by decide +kernel
theorem d_X_hanger_51 : decode prog_1_method_6_code 51 = .ok (.getfield 19, 3) := by decide +kernel
theorem d_X_hanger_54 : decode prog_1_method_6_code 54 = .ok (.getfield 129, 3) := by decide +kernel
theorem d_X_hanger_57 : decode prog_1_method_6_code 57 = .ok (.iload_n 1, 1) := by decide +kernel
theorem d_X_hanger_58 : decode prog_1_method_6_code 58 = .ok (.iaload, 1) := by decide +kernel
theorem d_X_hanger_59 : decode prog_1_method_6_code 59 = .ok (.ireturn, 1) := by decide +kernel
theorem d_X_hanger_60 : decode prog_1_method_6_code 60 = .ok (.aload_n 0, 1) := by decide +kernel
theorem d_X_hanger_61 : decode prog_1_method_6_code 61 = .ok (.getfield 37, 3) := by decide +kernel
theorem d_X_hanger_64 : decode prog_1_method_6_code 64 = .ok (.getfield 132, 3) := by decide +kernel
theorem d_X_hanger_67 : decode prog_1_method_6_code 67 = .ok (.iload_n 1, 1) := by decide +kernel
theorem d_X_hanger_68 : decode prog_1_method_6_code 68 = .ok (.iaload, 1) := by decide +kernel
theorem d_X_hanger_69 : decode prog_1_method_6_code 69 = .ok (.ireturn, 1) := by decide +kernel
theorem d_X_hanger_70 : decode prog_1_method_6_code 70 = .ok (.aload_n 0, 1) := by decide +kernel
theorem d_X_hanger_71 : decode prog_1_method_6_code 71 = .ok (.getfield 37, 3) := by decide +kernel
theorem d_X_hanger_74 : decode prog_1_method_6_code 74 = .ok (.iload_n 1, 1) := by decide +kernel
theorem d_X_hanger_75 : decode prog_1_method_6_code 75 = .ok (.invokevirtual 135, 3) := by decide +kernel
theorem d_X_hanger_78 : decode prog_1_method_6_code 78 = .ok (.ireturn, 1) := by decide +kernel
theorem d_X_hanger_79 : decode prog_1_method_6_code 79 = .ok (.iconst (-1), 1) := by decide +kernel
theorem d_X_hanger_80 : decode prog_1_method_6_code 80 = .ok (.ireturn, 1) := by decide +kernel
theorem d_X_isPerson_0 : decode prog_1_method_47_code 0 = .ok (.iload_n 1, 1) := by decide +kernel
theorem d_X_isPerson_1 : decode prog_1_method_47_code 1 = .ok (.ifCond .lt 18, 3) := by decide +kernel
theorem d_X_isPerson_4 : decode prog_1_method_47_code 4 = .ok (.iload_n 1, 1) := by decide +kernel
theorem d_X_isPerson_5 : decode prog_1_method_47_code 5 = .ok (.aload_n 0, 1) := by decide +kernel
theorem d_X_isPerson_6 : decode prog_1_method_47_code 6 = .ok (.getfield 19, 3) := by decide +kernel
theorem d_X_isPerson_9 : decode prog_1_method_47_code 9 = .ok (.getfield 218, 3) := by decide +kernel
theorem d_X_isPerson_12 : decode prog_1_method_47_code 12 = .ok (.if_icmp .ge 7, 3) := by decide +kernel
theorem d_X_isPerson_15 : decode prog_1_method_47_code 15 = .ok (.iconst 1, 1) := by decide +kernel
theorem d_X_isPerson_16 : decode prog_1_method_47_code 16 = .ok (.goto 4, 3) := by decide +kernel
theorem d_X_isPerson_19 : decode prog_1_method_47_code 19 = .ok (.iconst 0, 1) := by decide +kernel
theorem d_X_isPerson_20 : decode prog_1_method_47_code 20 = .ok (.ireturn, 1) := by decide +kernel
theorem d_X_person_0 : decode prog_1_method_7_code 0 = .ok (.aload_n 0, 1) := by decide +kernel
theorem d_X_person_1 : decode prog_1_method_7_code 1 = .ok (.iload_n 1, 1) := by decide +kernel
theorem d_X_person_2 : decode prog_1_method_7_code 2 = .ok (.invokevirtual 139, 3) := by decide +kernel
theorem d_X_person_5 : decode prog_1_method_7_code 5 = .ok (.ifCond .ne 5, 3) := by decide +kernel
theorem d_X_person_8 : decode prog_1_method_7_code 8 = .ok (.iconst (-1), 1) := by decide +kernel
theorem d_X_person_9 : decode prog_1_method_7_code 9 = .ok (.ireturn, 1) := by decide +kernel
theorem d_X_person_10 : decode prog_1_method_7_code 10 = .ok (.iload_n 2, 1) := by decide +kernel
theorem d_X_person_11 : decode prog_1_method_7_code 11 = .ok (.tableswitch 96 0 5 #[37, 47, 57, 67, 77, 87], 37) := by decide +kernel
theorem d_X_person_48 : decode prog_1_method_7_code 48 = .ok (.aload_n 0, 1) := by decide +kernel
theorem d_X_person_49 : decode prog_1_method_7_code 49 = .ok (.getfield 37, 3) := by decide +kernel
theorem d_X_person_52 : decode prog_1_method_7_code 52 = .ok (.getfield 142, 3) := by decide +kernel
theorem d_X_person_55 : decode prog_1_method_7_code 55 = .ok (.iload_n 1, 1) := by decide +kernel
theorem d_X_person_56 : decode prog_1_method_7_code 56 = .ok (.iaload, 1) := by decide +kernel
theorem d_X_person_57 : decode prog_1_method_7_code 57 = .ok (.ireturn, 1) := by decide +kernel
theorem d_X_person_58 : decode prog_1_method_7_code 58 = .ok (.aload_n 0, 1) := by decide +kernel
theorem d_X_person_59 : decode prog_1_method_7_code 59 = .ok (.getfield 19, 3) := by decide +kernel
theorem d_X_person_62 : decode prog_1_method_7_code 62 = .ok (.getfield 145, 3) := by decide +kernel
theorem d_X_person_65 : decode prog_1_method_7_code 65 = .ok (.iload_n 1, 1) := by decide +kernel
theorem d_X_person_66 : decode prog_1_method_7_code 66 = .ok (.iaload, 1) := by decide +kernel
theorem d_X_person_67 : decode prog_1_method_7_code 67 = .ok (.ireturn, 1) := by decide +kernel
theorem d_X_person_68 : decode prog_1_method_7_code 68 = .ok (.aload_n 0, 1) := by decide +kernel
theorem d_X_person_69 : decode prog_1_method_7_code 69 = .ok (.getfield 37, 3) := by decide +kernel
theorem d_X_person_72 : decode prog_1_method_7_code 72 = .ok (.getfield 148, 3) := by decide +kernel
theorem d_X_person_75 : decode prog_1_method_7_code 75 = .ok (.iload_n 1, 1) := by decide +kernel
theorem d_X_person_76 : decode prog_1_method_7_code 76 = .ok (.iaload, 1) := by decide +kernel
theorem d_X_person_77 : decode prog_1_method_7_code 77 = .ok (.ireturn, 1) := by decide +kernel
theorem d_X_person_78 : decode prog_1_method_7_code 78 = .ok (.aload_n 0, 1) := by decide +kernel
theorem d_X_person_79 : decode prog_1_method_7_code 79 = .ok (.getfield 37, 3) := by decide +kernel
theorem d_X_person_82 : decode prog_1_method_7_code 82 = .ok (.getfield 151, 3) := by decide +kernel
theorem d_X_person_85 : decode prog_1_method_7_code 85 = .ok (.iload_n 1, 1) := by decide +kernel
theorem d_X_person_86 : decode prog_1_method_7_code 86 = .ok (.iaload, 1) := by decide +kernel
theorem d_X_person_87 : decode prog_1_method_7_code 87 = .ok (.ireturn, 1) := by decide +kernel
theorem d_X_person_88 : decode prog_1_method_7_code 88 = .ok (.aload_n 0, 1) := by decide +kernel
theorem d_X_person_89 : decode prog_1_method_7_code 89 = .ok (.getfield 37, 3) := by decide +kernel
theorem d_X_person_92 : decode prog_1_method_7_code 92 = .ok (.getfield 154, 3) := by decide +kernel
theorem d_X_person_95 : decode prog_1_method_7_code 95 = .ok (.iload_n 1, 1) := by decide +kernel
theorem d_X_person_96 : decode prog_1_method_7_code 96 = .ok (.iaload, 1) := by decide +kernel
theorem d_X_person_97 : decode prog_1_method_7_code 97 = .ok (.ireturn, 1) := by decide +kernel
theorem d_X_person_98 : decode prog_1_method_7_code 98 = .ok (.aload_n 0, 1) := by decide +kernel
theorem d_X_person_99 : decode prog_1_method_7_code 99 = .ok (.getfield 37, 3) := by decide +kernel
theorem d_X_person_102 : decode prog_1_method_7_code 102 = .ok (.iload_n 1, 1) := by decide +kernel
theorem d_X_person_103 : decode prog_1_method_7_code 103 = .ok (.invokevirtual 157, 3) := by decide +kernel
theorem d_X_person_106 : decode prog_1_method_7_code 106 = .ok (.ireturn, 1) := by decide +kernel
theorem d_X_person_107 : decode prog_1_method_7_code 107 = .ok (.iconst (-1), 1) := by decide +kernel
theorem d_X_person_108 : decode prog_1_method_7_code 108 = .ok (.ireturn, 1) := by decide +kernel
theorem d_X_tells_0 : decode prog_1_method_8_code 0 = .ok (.aload_n 0, 1) := by decide +kernel
theorem d_X_tells_1 : decode prog_1_method_8_code 1 = .ok (.iload_n 1, 1) := by decide +kernel
theorem d_X_tells_2 : decode prog_1_method_8_code 2 = .ok (.invokevirtual 139, 3) := by decide +kernel
theorem d_X_tells_5 : decode prog_1_method_8_code 5 = .ok (.ifCond .eq 12, 3) := by decide +kernel
theorem d_X_tells_8 : decode prog_1_method_8_code 8 = .ok (.iload_n 2, 1) := by decide +kernel
theorem d_X_tells_9 : decode prog_1_method_8_code 9 = .ok (.ifCond .lt 8, 3) := by decide +kernel
theorem d_X_tells_12 : decode prog_1_method_8_code 12 = .ok (.iload_n 2, 1) := by decide +kernel
theorem d_X_tells_13 : decode prog_1_method_8_code 13 = .ok (.iconst 3, 1) := by decide +kernel
theorem d_X_tells_14 : decode prog_1_method_8_code 14 = .ok (.if_icmp .le 5, 3) := by decide +kernel
theorem d_X_tells_17 : decode prog_1_method_8_code 17 = .ok (.iconst (-1), 1) := by decide +kernel
theorem d_X_tells_18 : decode prog_1_method_8_code 18 = .ok (.ireturn, 1) := by decide +kernel
theorem d_X_tells_19 : decode prog_1_method_8_code 19 = .ok (.aload_n 0, 1) := by decide +kernel
theorem d_X_tells_20 : decode prog_1_method_8_code 20 = .ok (.getfield 37, 3) := by decide +kernel
theorem d_X_tells_23 : decode prog_1_method_8_code 23 = .ok (.iload_n 1, 1) := by decide +kernel
theorem d_X_tells_24 : decode prog_1_method_8_code 24 = .ok (.invokevirtual 160, 3) := by decide +kernel
theorem d_X_tells_27 : decode prog_1_method_8_code 27 = .ok (.ifCond .ne 6, 3) := by decide +kernel
theorem d_X_tells_30 : decode prog_1_method_8_code 30 = .ok (.bipush (-2), 2) := by decide +kernel
theorem d_X_tells_32 : decode prog_1_method_8_code 32 = .ok (.ireturn, 1) := by decide +kernel
theorem d_X_tells_33 : decode prog_1_method_8_code 33 = .ok (.aload_n 0, 1) := by decide +kernel
theorem d_X_tells_34 : decode prog_1_method_8_code 34 = .ok (.getfield 47, 3) := by decide +kernel
theorem d_X_tells_37 : decode prog_1_method_8_code 37 = .ok (.aload_n 0, 1) := by decide +kernel
theorem d_X_tells_38 : decode prog_1_method_8_code 38 = .ok (.getfield 37, 3) := by decide +kernel
theorem d_X_tells_41 : decode prog_1_method_8_code 41 = .ok (.iload_n 1, 1) := by decide +kernel
theorem d_X_tells_42 : decode prog_1_method_8_code 42 = .ok (.invokevirtual 163, 3) := by decide +kernel
theorem d_X_tells_45 : decode prog_1_method_8_code 45 = .ok (.aload_n 0, 1) := by decide +kernel
theorem d_X_tells_46 : decode prog_1_method_8_code 46 = .ok (.getfield 47, 3) := by decide +kernel
theorem d_X_tells_49 : decode prog_1_method_8_code 49 = .ok (.iload_n 2, 1) := by decide +kernel
theorem d_X_tells_50 : decode prog_1_method_8_code 50 = .ok (.invokevirtual 167, 3) := by decide +kernel
theorem d_X_tells_53 : decode prog_1_method_8_code 53 = .ok (.ireturn, 1) := by decide +kernel
theorem d_X_hang_0 : decode prog_1_method_9_code 0 = .ok (.aload_n 0, 1) := by decide +kernel
theorem d_X_hang_1 : decode prog_1_method_9_code 1 = .ok (.iload_n 1, 1) := by decide +kernel
theorem d_X_hang_2 : decode prog_1_method_9_code 2 = .ok (.invokevirtual 139, 3) := by decide +kernel
theorem d_X_hang_5 : decode prog_1_method_9_code 5 = .ok (.ifCond .eq 11, 3) := by decide +kernel
theorem d_X_hang_8 : decode prog_1_method_9_code 8 = .ok (.aload_n 0, 1) := by decide +kernel
theorem d_X_hang_9 : decode prog_1_method_9_code 9 = .ok (.iload_n 2, 1) := by decide +kernel
theorem d_X_hang_10 : decode prog_1_method_9_code 10 = .ok (.invokevirtual 122, 3) := by decide +kernel
theorem d_X_hang_13 : decode prog_1_method_9_code 13 = .ok (.ifCond .ne 5, 3) := by decide +kernel
theorem d_X_hang_16 : decode prog_1_method_9_code 16 = .ok (.iconst 0, 1) := by decide +kernel
theorem d_X_hang_17 : decode prog_1_method_9_code 17 = .ok (.ireturn, 1) := by decide +kernel
theorem d_X_hang_18 : decode prog_1_method_9_code 18 = .ok (.aload_n 0, 1) := by decide +kernel
theorem d_X_hang_19 : decode prog_1_method_9_code 19 = .ok (.getfield 37, 3) := by decide +kernel
theorem d_X_hang_22 : decode prog_1_method_9_code 22 = .ok (.iload_n 1, 1) := by decide +kernel
theorem d_X_hang_23 : decode prog_1_method_9_code 23 = .ok (.invokevirtual 160, 3) := by decide +kernel
theorem d_X_hang_26 : decode prog_1_method_9_code 26 = .ok (.ifCond .ne 14, 3) := by decide +kernel
theorem d_X_hang_29 : decode prog_1_method_9_code 29 = .ok (.aload_n 0, 1) := by decide +kernel
theorem d_X_hang_30 : decode prog_1_method_9_code 30 = .ok (.getfield 37, 3) := by decide +kernel
theorem d_X_hang_33 : decode prog_1_method_9_code 33 = .ok (.iload_n 2, 1) := by decide +kernel
theorem d_X_hang_34 : decode prog_1_method_9_code 34 = .ok (.invokevirtual 170, 3) := by decide +kernel
theorem d_X_hang_37 : decode prog_1_method_9_code 37 = .ok (.ifCond .eq 5, 3) := by decide +kernel
theorem d_X_hang_40 : decode prog_1_method_9_code 40 = .ok (.iconst 0, 1) := by decide +kernel
theorem d_X_hang_41 : decode prog_1_method_9_code 41 = .ok (.ireturn, 1) := by decide +kernel
theorem d_X_hang_42 : decode prog_1_method_9_code 42 = .ok (.aload_n 0, 1) := by decide +kernel
theorem d_X_hang_43 : decode prog_1_method_9_code 43 = .ok (.getfield 79, 3) := by decide +kernel
theorem d_X_hang_46 : decode prog_1_method_9_code 46 = .ok (.aload_n 0, 1) := by decide +kernel
theorem d_X_hang_47 : decode prog_1_method_9_code 47 = .ok (.getfield 37, 3) := by decide +kernel
theorem d_X_hang_50 : decode prog_1_method_9_code 50 = .ok (.invokevirtual 173, 3) := by decide +kernel
theorem d_X_hang_53 : decode prog_1_method_9_code 53 = .ok (.aload_n 0, 1) := by decide +kernel
theorem d_X_hang_54 : decode prog_1_method_9_code 54 = .ok (.getfield 37, 3) := by decide +kernel
theorem d_X_hang_57 : decode prog_1_method_9_code 57 = .ok (.getfield 148, 3) := by decide +kernel
theorem d_X_hang_60 : decode prog_1_method_9_code 60 = .ok (.iload_n 1, 1) := by decide +kernel
theorem d_X_hang_61 : decode prog_1_method_9_code 61 = .ok (.iload_n 2, 1) := by decide +kernel
theorem d_X_hang_62 : decode prog_1_method_9_code 62 = .ok (.iastore, 1) := by decide +kernel
theorem d_X_hang_63 : decode prog_1_method_9_code 63 = .ok (.iconst 1, 1) := by decide +kernel
theorem d_X_hang_64 : decode prog_1_method_9_code 64 = .ok (.ireturn, 1) := by decide +kernel
theorem d_X_take_0 : decode prog_1_method_10_code 0 = .ok (.aload_n 0, 1) := by decide +kernel
theorem d_X_take_1 : decode prog_1_method_10_code 1 = .ok (.iload_n 1, 1) := by decide +kernel
theorem d_X_take_2 : decode prog_1_method_10_code 2 = .ok (.invokevirtual 139, 3) := by decide +kernel
theorem d_X_take_5 : decode prog_1_method_10_code 5 = .ok (.ifCond .eq 14, 3) := by decide +kernel
theorem d_X_take_8 : decode prog_1_method_10_code 8 = .ok (.aload_n 0, 1) := by decide +kernel
theorem d_X_take_9 : decode prog_1_method_10_code 9 = .ok (.getfield 37, 3) := by decide +kernel
theorem d_X_take_12 : decode prog_1_method_10_code 12 = .ok (.iload_n 1, 1) := by decide +kernel
theorem d_X_take_13 : decode prog_1_method_10_code 13 = .ok (.invokevirtual 160, 3) := by decide +kernel
theorem d_X_take_16 : decode prog_1_method_10_code 16 = .ok (.ifCond .ne 5, 3) := by decide +kernel
theorem d_X_take_19 : decode prog_1_method_10_code 19 = .ok (.iconst 0, 1) := by decide +kernel
theorem d_X_take_20 : decode prog_1_method_10_code 20 = .ok (.ireturn, 1) := by decide +kernel
theorem d_X_take_21 : decode prog_1_method_10_code 21 = .ok (.aload_n 0, 1) := by decide +kernel
theorem d_X_take_22 : decode prog_1_method_10_code 22 = .ok (.getfield 79, 3) := by decide +kernel
theorem d_X_take_25 : decode prog_1_method_10_code 25 = .ok (.aload_n 0, 1) := by decide +kernel
theorem d_X_take_26 : decode prog_1_method_10_code 26 = .ok (.getfield 37, 3) := by decide +kernel
theorem d_X_take_29 : decode prog_1_method_10_code 29 = .ok (.invokevirtual 173, 3) := by decide +kernel
theorem d_X_take_32 : decode prog_1_method_10_code 32 = .ok (.aload_n 0, 1) := by decide +kernel
theorem d_X_take_33 : decode prog_1_method_10_code 33 = .ok (.getfield 37, 3) := by decide +kernel
theorem d_X_take_36 : decode prog_1_method_10_code 36 = .ok (.getfield 148, 3) := by decide +kernel
theorem d_X_take_39 : decode prog_1_method_10_code 39 = .ok (.iload_n 1, 1) := by decide +kernel
theorem d_X_take_40 : decode prog_1_method_10_code 40 = .ok (.bipush (-2), 2) := by decide +kernel
theorem d_X_take_42 : decode prog_1_method_10_code 42 = .ok (.iastore, 1) := by decide +kernel
theorem d_X_take_43 : decode prog_1_method_10_code 43 = .ok (.iconst 1, 1) := by decide +kernel
theorem d_X_take_44 : decode prog_1_method_10_code 44 = .ok (.ireturn, 1) := by decide +kernel
theorem d_X_change_0 : decode prog_1_method_11_code 0 = .ok (.aload_n 0, 1) := by decide +kernel
theorem d_X_change_1 : decode prog_1_method_11_code 1 = .ok (.iload_n 1, 1) := by decide +kernel
theorem d_X_change_2 : decode prog_1_method_11_code 2 = .ok (.invokevirtual 139, 3) := by decide +kernel
theorem d_X_change_5 : decode prog_1_method_11_code 5 = .ok (.ifCond .eq 16, 3) := by decide +kernel
theorem d_X_change_8 : decode prog_1_method_11_code 8 = .ok (.aload_n 0, 1) := by decide +kernel
theorem d_X_change_9 : decode prog_1_method_11_code 9 = .ok (.iload_n 2, 1) := by decide +kernel
theorem d_X_change_10 : decode prog_1_method_11_code 10 = .ok (.invokevirtual 139, 3) := by decide +kernel
theorem d_X_change_13 : decode prog_1_method_11_code 13 = .ok (.ifCond .eq 8, 3) := by decide +kernel
theorem d_X_change_16 : decode prog_1_method_11_code 16 = .ok (.iload_n 1, 1) := by decide +kernel
theorem d_X_change_17 : decode prog_1_method_11_code 17 = .ok (.iload_n 2, 1) := by decide +kernel
theorem d_X_change_18 : decode prog_1_method_11_code 18 = .ok (.if_icmp .ne 5, 3) := by decide +kernel
theorem d_X_change_21 : decode prog_1_method_11_code 21 = .ok (.iconst 0, 1) := by decide +kernel
theorem d_X_change_22 : decode prog_1_method_11_code 22 = .ok (.ireturn, 1) := by decide +kernel
theorem d_X_change_23 : decode prog_1_method_11_code 23 = .ok (.aload_n 0, 1) := by decide +kernel
theorem d_X_change_24 : decode prog_1_method_11_code 24 = .ok (.getfield 37, 3) := by decide +kernel
theorem d_X_change_27 : decode prog_1_method_11_code 27 = .ok (.iload_n 1, 1) := by decide +kernel
theorem d_X_change_28 : decode prog_1_method_11_code 28 = .ok (.invokevirtual 160, 3) := by decide +kernel
theorem d_X_change_31 : decode prog_1_method_11_code 31 = .ok (.ifCond .eq 14, 3) := by decide +kernel
theorem d_X_change_34 : decode prog_1_method_11_code 34 = .ok (.aload_n 0, 1) := by decide +kernel
theorem d_X_change_35 : decode prog_1_method_11_code 35 = .ok (.getfield 37, 3) := by decide +kernel
theorem d_X_change_38 : decode prog_1_method_11_code 38 = .ok (.iload_n 2, 1) := by decide +kernel
theorem d_X_change_39 : decode prog_1_method_11_code 39 = .ok (.invokevirtual 160, 3) := by decide +kernel
theorem d_X_change_42 : decode prog_1_method_11_code 42 = .ok (.ifCond .ne 5, 3) := by decide +kernel
theorem d_X_change_45 : decode prog_1_method_11_code 45 = .ok (.iconst 0, 1) := by decide +kernel
theorem d_X_change_46 : decode prog_1_method_11_code 46 = .ok (.ireturn, 1) := by decide +kernel
theorem d_X_change_47 : decode prog_1_method_11_code 47 = .ok (.aload_n 0, 1) := by decide +kernel
theorem d_X_change_48 : decode prog_1_method_11_code 48 = .ok (.getfield 79, 3) := by decide +kernel
theorem d_X_change_51 : decode prog_1_method_11_code 51 = .ok (.aload_n 0, 1) := by decide +kernel
theorem d_X_change_52 : decode prog_1_method_11_code 52 = .ok (.getfield 37, 3) := by decide +kernel
theorem d_X_change_55 : decode prog_1_method_11_code 55 = .ok (.invokevirtual 173, 3) := by decide +kernel
theorem d_X_change_58 : decode prog_1_method_11_code 58 = .ok (.aload_n 0, 1) := by decide +kernel
theorem d_X_change_59 : decode prog_1_method_11_code 59 = .ok (.getfield 37, 3) := by decide +kernel
theorem d_X_change_62 : decode prog_1_method_11_code 62 = .ok (.iload_n 1, 1) := by decide +kernel
theorem d_X_change_63 : decode prog_1_method_11_code 63 = .ok (.iload_n 2, 1) := by decide +kernel
theorem d_X_change_64 : decode prog_1_method_11_code 64 = .ok (.invokevirtual 177, 3) := by decide +kernel
theorem d_X_change_67 : decode prog_1_method_11_code 67 = .ok (.iconst 1, 1) := by decide +kernel
theorem d_X_change_68 : decode prog_1_method_11_code 68 = .ok (.ireturn, 1) := by decide +kernel
theorem d_X_straighten_0 : decode prog_1_method_12_code 0 = .ok (.aload_n 0, 1) := by decide +kernel
theorem d_X_straighten_1 : decode prog_1_method_12_code 1 = .ok (.iload_n 1, 1) := by decide +kernel
theorem d_X_straighten_2 : decode prog_1_method_12_code 2 = .ok (.invokevirtual 122, 3) := by decide +kernel
theorem d_X_straighten_5 : decode prog_1_method_12_code 5 = .ok (.ifCond .eq 26, 3) := by decide +kernel
theorem d_X_straighten_8 : decode prog_1_method_12_code 8 = .ok (.aload_n 0, 1) := by decide +kernel
theorem d_X_straighten_9 : decode prog_1_method_12_code 9 = .ok (.getfield 37, 3) := by decide +kernel
theorem d_X_straighten_12 : decode prog_1_method_12_code 12 = .ok (.iload_n 1, 1) := by decide +kernel
theorem d_X_straighten_13 : decode prog_1_method_12_code 13 = .ok (.invokevirtual 170, 3) := by decide +kernel
theorem d_X_straighten_16 : decode prog_1_method_12_code 16 = .ok (.ifCond .ne 15, 3) := by decide +kernel
theorem d_X_straighten_19 : decode prog_1_method_12_code 19 = .ok (.aload_n 0, 1) := by decide +kernel
theorem d_X_straighten_20 : decode prog_1_method_12_code 20 = .ok (.getfield 37, 3) := by decide +kernel
theorem d_X_straighten_23 : decode prog_1_method_12_code 23 = .ok (.getfield 132, 3) := by decide +kernel
theorem d_X_straighten_26 : decode prog_1_method_12_code 26 = .ok (.iload_n 1, 1) := by decide +kernel
theorem d_X_straighten_27 : decode prog_1_method_12_code 27 = .ok (.iaload, 1) := by decide +kernel
theorem d_X_straighten_28 : decode prog_1_method_12_code 28 = .ok (.ifCond .ne 5, 3) := by decide +kernel
theorem d_X_straighten_31 : decode prog_1_method_12_code 31 = .ok (.iconst 0, 1) := by decide +kernel
theorem d_X_straighten_32 : decode prog_1_method_12_code 32 = .ok (.ireturn, 1) := by decide +kernel
theorem d_X_straighten_33 : decode prog_1_method_12_code 33 = .ok (.aload_n 0, 1) := by decide +kernel
theorem d_X_straighten_34 : decode prog_1_method_12_code 34 = .ok (.getfield 79, 3) := by decide +kernel
theorem d_X_straighten_37 : decode prog_1_method_12_code 37 = .ok (.aload_n 0, 1) := by decide +kernel
theorem d_X_straighten_38 : decode prog_1_method_12_code 38 = .ok (.getfield 37, 3) := by decide +kernel
theorem d_X_straighten_41 : decode prog_1_method_12_code 41 = .ok (.invokevirtual 173, 3) := by decide +kernel
theorem d_X_straighten_44 : decode prog_1_method_12_code 44 = .ok (.aload_n 0, 1) := by decide +kernel
theorem d_X_straighten_45 : decode prog_1_method_12_code 45 = .ok (.getfield 37, 3) := by decide +kernel
theorem d_X_straighten_48 : decode prog_1_method_12_code 48 = .ok (.getfield 132, 3) := by decide +kernel
theorem d_X_straighten_51 : decode prog_1_method_12_code 51 = .ok (.iload_n 1, 1) := by decide +kernel
theorem d_X_straighten_52 : decode prog_1_method_12_code 52 = .ok (.iconst 0, 1) := by decide +kernel
theorem d_X_straighten_53 : decode prog_1_method_12_code 53 = .ok (.iastore, 1) := by decide +kernel
theorem d_X_straighten_54 : decode prog_1_method_12_code 54 = .ok (.iconst 1, 1) := by decide +kernel
theorem d_X_straighten_55 : decode prog_1_method_12_code 55 = .ok (.ireturn, 1) := by decide +kernel
theorem d_X_isFewNights_0 : decode prog_1_method_49_code 0 = .ok (.iload_n 0, 1) := by decide +kernel
theorem d_X_isFewNights_1 : decode prog_1_method_49_code 1 = .ok (.ifCond .lt 13, 3) := by decide +kernel
theorem d_X_isFewNights_4 : decode prog_1_method_49_code 4 = .ok (.iload_n 0, 1) := by decide +kernel
theorem d_X_isFewNights_5 : decode prog_1_method_49_code 5 = .ok (.bipush 60, 2) := by decide +kernel
theorem d_X_isFewNights_7 : decode prog_1_method_49_code 7 = .ok (.if_icmp .gt 7, 3) := by decide +kernel
theorem d_X_isFewNights_10 : decode prog_1_method_49_code 10 = .ok (.iconst 1, 1) := by decide +kernel
theorem d_X_isFewNights_11 : decode prog_1_method_49_code 11 = .ok (.goto 4, 3) := by decide +kernel
theorem d_X_isFewNights_14 : decode prog_1_method_49_code 14 = .ok (.iconst 0, 1) := by decide +kernel
theorem d_X_isFewNights_15 : decode prog_1_method_49_code 15 = .ok (.ireturn, 1) := by decide +kernel
theorem d_X_nights_0 : decode prog_1_method_13_code 0 = .ok (.iload_n 1, 1) := by decide +kernel
theorem d_X_nights_1 : decode prog_1_method_13_code 1 = .ok (.invokestatic 181, 3) := by decide +kernel
theorem d_X_nights_4 : decode prog_1_method_13_code 4 = .ok (.ifCond .ne 5, 3) := by decide +kernel
theorem d_X_nights_7 : decode prog_1_method_13_code 7 = .ok (.iconst (-1), 1) := by decide +kernel
theorem d_X_nights_8 : decode prog_1_method_13_code 8 = .ok (.ireturn, 1) := by decide +kernel
theorem d_X_nights_9 : decode prog_1_method_13_code 9 = .ok (.iload_n 1, 1) := by decide +kernel
theorem d_X_nights_10 : decode prog_1_method_13_code 10 = .ok (.ifCond .le 33, 3) := by decide +kernel
theorem d_X_nights_13 : decode prog_1_method_13_code 13 = .ok (.aload_n 0, 1) := by decide +kernel
theorem d_X_nights_14 : decode prog_1_method_13_code 14 = .ok (.getfield 79, 3) := by decide +kernel
theorem d_X_nights_17 : decode prog_1_method_13_code 17 = .ok (.aload_n 0, 1) := by decide +kernel
theorem d_X_nights_18 : decode prog_1_method_13_code 18 = .ok (.getfield 37, 3) := by decide +kernel
theorem d_X_nights_21 : decode prog_1_method_13_code 21 = .ok (.invokevirtual 173, 3) := by decide +kernel
theorem d_X_nights_24 : decode prog_1_method_13_code 24 = .ok (.aload_n 0, 1) := by decide +kernel
theorem d_X_nights_25 : decode prog_1_method_13_code 25 = .ok (.getfield 56, 3) := by decide +kernel
theorem d_X_nights_28 : decode prog_1_method_13_code 28 = .ok (.aload_n 0, 1) := by decide +kernel
theorem d_X_nights_29 : decode prog_1_method_13_code 29 = .ok (.getfield 37, 3) := by decide +kernel
theorem d_X_nights_32 : decode prog_1_method_13_code 32 = .ok (.iload_n 1, 1) := by decide +kernel
theorem d_X_nights_33 : decode prog_1_method_13_code 33 = .ok (.aload_n 0, 1) := by decide +kernel
theorem d_X_nights_34 : decode prog_1_method_13_code 34 = .ok (.getfield 19, 3) := by decide +kernel
theorem d_X_nights_37 : decode prog_1_method_13_code 37 = .ok (.getfield 184, 3) := by decide +kernel
theorem d_X_nights_40 : decode prog_1_method_13_code 40 = .ok (.invokevirtual 187, 3) := by decide +kernel
theorem d_X_nights_43 : decode prog_1_method_13_code 43 = .ok (.aload_n 0, 1) := by decide +kernel
theorem d_X_nights_44 : decode prog_1_method_13_code 44 = .ok (.getfield 37, 3) := by decide +kernel
theorem d_X_nights_47 : decode prog_1_method_13_code 47 = .ok (.getfield 191, 3) := by decide +kernel
theorem d_X_nights_50 : decode prog_1_method_13_code 50 = .ok (.ireturn, 1) := by decide +kernel
theorem d_X_undo_0 : decode prog_1_method_14_code 0 = .ok (.aload_n 0, 1) := by decide +kernel
theorem d_X_undo_1 : decode prog_1_method_14_code 1 = .ok (.getfield 79, 3) := by decide +kernel
theorem d_X_undo_4 : decode prog_1_method_14_code 4 = .ok (.aload_n 0, 1) := by decide +kernel
theorem d_X_undo_5 : decode prog_1_method_14_code 5 = .ok (.getfield 37, 3) := by decide +kernel
theorem d_X_undo_8 : decode prog_1_method_14_code 8 = .ok (.invokevirtual 193, 3) := by decide +kernel
theorem d_X_undo_11 : decode prog_1_method_14_code 11 = .ok (.ireturn, 1) := by decide +kernel
theorem d_X_planned_0 : decode prog_1_method_17_code 0 = .ok (.iload_n 1, 1) := by decide +kernel
theorem d_X_planned_1 : decode prog_1_method_17_code 1 = .ok (.iconst (-1), 1) := by decide +kernel
theorem d_X_planned_2 : decode prog_1_method_17_code 2 = .ok (.if_icmp .eq 13, 3) := by decide +kernel
theorem d_X_planned_5 : decode prog_1_method_17_code 5 = .ok (.aload_n 0, 1) := by decide +kernel
theorem d_X_planned_6 : decode prog_1_method_17_code 6 = .ok (.iload_n 1, 1) := by decide +kernel
theorem d_X_planned_7 : decode prog_1_method_17_code 7 = .ok (.invokevirtual 139, 3) := by decide +kernel
theorem d_X_planned_10 : decode prog_1_method_17_code 10 = .ok (.ifCond .ne 5, 3) := by decide +kernel
theorem d_X_planned_13 : decode prog_1_method_17_code 13 = .ok (.iconst (-1), 1) := by decide +kernel
theorem d_X_planned_14 : decode prog_1_method_17_code 14 = .ok (.ireturn, 1) := by decide +kernel
theorem d_X_planned_15 : decode prog_1_method_17_code 15 = .ok (.aload_n 0, 1) := by decide +kernel
theorem d_X_planned_16 : decode prog_1_method_17_code 16 = .ok (.getfield 63, 3) := by decide +kernel
theorem d_X_planned_19 : decode prog_1_method_17_code 19 = .ok (.aload_n 0, 1) := by decide +kernel
theorem d_X_planned_20 : decode prog_1_method_17_code 20 = .ok (.getfield 37, 3) := by decide +kernel
theorem d_X_planned_23 : decode prog_1_method_17_code 23 = .ok (.invokevirtual 201, 3) := by decide +kernel
theorem d_X_planned_26 : decode prog_1_method_17_code 26 = .ok (.aload_n 0, 1) := by decide +kernel
theorem d_X_planned_27 : decode prog_1_method_17_code 27 = .ok (.getfield 63, 3) := by decide +kernel
theorem d_X_planned_30 : decode prog_1_method_17_code 30 = .ok (.iload_n 2, 1) := by decide +kernel
theorem d_X_planned_31 : decode prog_1_method_17_code 31 = .ok (.bipush (-2), 2) := by decide +kernel
theorem d_X_planned_33 : decode prog_1_method_17_code 33 = .ok (.invokevirtual 204, 3) := by decide +kernel
theorem d_X_planned_36 : decode prog_1_method_17_code 36 = .ok (.istore_n 3, 1) := by decide +kernel
theorem d_X_planned_37 : decode prog_1_method_17_code 37 = .ok (.iload_n 1, 1) := by decide +kernel
theorem d_X_planned_38 : decode prog_1_method_17_code 38 = .ok (.iconst (-1), 1) := by decide +kernel
theorem d_X_planned_39 : decode prog_1_method_17_code 39 = .ok (.if_icmp .ne 14, 3) := by decide +kernel
theorem d_X_planned_42 : decode prog_1_method_17_code 42 = .ok (.aload_n 0, 1) := by decide +kernel
theorem d_X_planned_43 : decode prog_1_method_17_code 43 = .ok (.getfield 63, 3) := by decide +kernel
theorem d_X_planned_46 : decode prog_1_method_17_code 46 = .ok (.iload_n 3, 1) := by decide +kernel
theorem d_X_planned_47 : decode prog_1_method_17_code 47 = .ok (.invokevirtual 208, 3) := by decide +kernel
theorem d_X_planned_50 : decode prog_1_method_17_code 50 = .ok (.goto 13, 3) := by decide +kernel
theorem d_X_planned_53 : decode prog_1_method_17_code 53 = .ok (.aload_n 0, 1) := by decide +kernel
theorem d_X_planned_54 : decode prog_1_method_17_code 54 = .ok (.getfield 63, 3) := by decide +kernel
theorem d_X_planned_57 : decode prog_1_method_17_code 57 = .ok (.iload_n 1, 1) := by decide +kernel
theorem d_X_planned_58 : decode prog_1_method_17_code 58 = .ok (.bipush (-2), 2) := by decide +kernel
theorem d_X_planned_60 : decode prog_1_method_17_code 60 = .ok (.invokevirtual 211, 3) := by decide +kernel
theorem d_X_planned_63 : decode prog_1_method_17_code 63 = .ok (.ireturn, 1) := by decide +kernel
theorem d_X_hanging_0 : decode prog_1_method_15_code 0 = .ok (.aload_n 0, 1) := by decide +kernel
theorem d_X_hanging_1 : decode prog_1_method_15_code 1 = .ok (.iload_n 1, 1) := by decide +kernel
theorem d_X_hanging_2 : decode prog_1_method_15_code 2 = .ok (.iconst 0, 1) := by decide +kernel
theorem d_X_hanging_3 : decode prog_1_method_15_code 3 = .ok (.invokevirtual 197, 3) := by decide +kernel
theorem d_X_hanging_6 : decode prog_1_method_15_code 6 = .ok (.ireturn, 1) := by decide +kernel
theorem d_X_apart_0 : decode prog_1_method_16_code 0 = .ok (.aload_n 0, 1) := by decide +kernel
theorem d_X_apart_1 : decode prog_1_method_16_code 1 = .ok (.iload_n 1, 1) := by decide +kernel
theorem d_X_apart_2 : decode prog_1_method_16_code 2 = .ok (.iconst 1, 1) := by decide +kernel
theorem d_X_apart_3 : decode prog_1_method_16_code 3 = .ok (.invokevirtual 197, 3) := by decide +kernel
theorem d_X_apart_6 : decode prog_1_method_16_code 6 = .ok (.ireturn, 1) := by decide +kernel
theorem d_X_ways_0 : decode prog_1_method_18_code 0 = .ok (.iload_n 1, 1) := by decide +kernel
theorem d_X_ways_1 : decode prog_1_method_18_code 1 = .ok (.ifCond .lt 9, 3) := by decide +kernel
theorem d_X_ways_4 : decode prog_1_method_18_code 4 = .ok (.iload_n 1, 1) := by decide +kernel
theorem d_X_ways_5 : decode prog_1_method_18_code 5 = .ok (.bipush 99, 2) := by decide +kernel
theorem d_X_ways_7 : decode prog_1_method_18_code 7 = .ok (.if_icmp .le 5, 3) := by decide +kernel
theorem d_X_ways_10 : decode prog_1_method_18_code 10 = .ok (.iconst (-1), 1) := by decide +kernel
theorem d_X_ways_11 : decode prog_1_method_18_code 11 = .ok (.ireturn, 1) := by decide +kernel
theorem d_X_ways_12 : decode prog_1_method_18_code 12 = .ok (.aload_n 0, 1) := by decide +kernel
theorem d_X_ways_13 : decode prog_1_method_18_code 13 = .ok (.getfield 63, 3) := by decide +kernel
theorem d_X_ways_16 : decode prog_1_method_18_code 16 = .ok (.aload_n 0, 1) := by decide +kernel
theorem d_X_ways_17 : decode prog_1_method_18_code 17 = .ok (.getfield 37, 3) := by decide +kernel
theorem d_X_ways_20 : decode prog_1_method_18_code 20 = .ok (.invokevirtual 201, 3) := by decide +kernel
theorem d_X_ways_23 : decode prog_1_method_18_code 23 = .ok (.aload_n 0, 1) := by decide +kernel
theorem d_X_ways_24 : decode prog_1_method_18_code 24 = .ok (.getfield 63, 3) := by decide +kernel
theorem d_X_ways_27 : decode prog_1_method_18_code 27 = .ok (.iload_n 1, 1) := by decide +kernel
theorem d_X_ways_28 : decode prog_1_method_18_code 28 = .ok (.invokevirtual 215, 3) := by decide +kernel
theorem d_X_ways_31 : decode prog_1_method_18_code 31 = .ok (.ireturn, 1) := by decide +kernel
theorem d_X_ringFrom_0 : decode prog_1_method_20_code 0 = .ok (.iconst 0, 1) := by decide +kernel
theorem d_X_ringFrom_1 : decode prog_1_method_20_code 1 = .ok (.istore_n 2, 1) := by decide +kernel
theorem d_X_ringFrom_2 : decode prog_1_method_20_code 2 = .ok (.iload_n 1, 1) := by decide +kernel
theorem d_X_ringFrom_3 : decode prog_1_method_20_code 3 = .ok (.istore_n 3, 1) := by decide +kernel
theorem d_X_ringFrom_4 : decode prog_1_method_20_code 4 = .ok (.iconst 0, 1) := by decide +kernel
theorem d_X_ringFrom_5 : decode prog_1_method_20_code 5 = .ok (.istore 4, 2) := by decide +kernel
theorem d_X_ringFrom_7 : decode prog_1_method_20_code 7 = .ok (.iload 4, 2) := by decide +kernel
theorem d_X_ringFrom_9 : decode prog_1_method_20_code 9 = .ok (.aload_n 0, 1) := by decide +kernel
theorem d_X_ringFrom_10 : decode prog_1_method_20_code 10 = .ok (.getfield 19, 3) := by decide +kernel
theorem d_X_ringFrom_13 : decode prog_1_method_20_code 13 = .ok (.getfield 218, 3) := by decide +kernel
theorem d_X_ringFrom_16 : decode prog_1_method_20_code 16 = .ok (.if_icmp .ge 25, 3) := by decide +kernel
theorem d_X_ringFrom_19 : decode prog_1_method_20_code 19 = .ok (.iload_n 2, 1) := by decide +kernel
theorem d_X_ringFrom_20 : decode prog_1_method_20_code 20 = .ok (.iconst 1, 1) := by decide +kernel
theorem d_X_ringFrom_21 : decode prog_1_method_20_code 21 = .ok (.iload_n 3, 1) := by decide +kernel
theorem d_X_ringFrom_22 : decode prog_1_method_20_code 22 = .ok (.ishl, 1) := by decide +kernel
theorem d_X_ringFrom_23 : decode prog_1_method_20_code 23 = .ok (.ior, 1) := by decide +kernel
theorem d_X_ringFrom_24 : decode prog_1_method_20_code 24 = .ok (.istore_n 2, 1) := by decide +kernel
theorem d_X_ringFrom_25 : decode prog_1_method_20_code 25 = .ok (.aload_n 0, 1) := by decide +kernel
theorem d_X_ringFrom_26 : decode prog_1_method_20_code 26 = .ok (.getfield 37, 3) := by decide +kernel
theorem d_X_ringFrom_29 : decode prog_1_method_20_code 29 = .ok (.getfield 151, 3) := by decide +kernel
theorem d_X_ringFrom_32 : decode prog_1_method_20_code 32 = .ok (.iload_n 3, 1) := by decide +kernel
theorem d_X_ringFrom_33 : decode prog_1_method_20_code 33 = .ok (.iaload, 1) := by decide +kernel
theorem d_X_ringFrom_34 : decode prog_1_method_20_code 34 = .ok (.istore_n 3, 1) := by decide +kernel
theorem d_X_ringFrom_35 : decode prog_1_method_20_code 35 = .ok (.iinc 4 1, 3) := by decide +kernel
theorem d_X_ringFrom_38 : decode prog_1_method_20_code 38 = .ok (.goto (-31), 3) := by decide +kernel
theorem d_X_ringFrom_41 : decode prog_1_method_20_code 41 = .ok (.iload_n 2, 1) := by decide +kernel
theorem d_X_ringFrom_42 : decode prog_1_method_20_code 42 = .ok (.ireturn, 1) := by decide +kernel
theorem d_X_sets_0 : decode prog_1_method_19_code 0 = .ok (.iconst 0, 1) := by decide +kernel
theorem d_X_sets_1 : decode prog_1_method_19_code 1 = .ok (.istore_n 1, 1) := by decide +kernel
theorem d_X_sets_2 : decode prog_1_method_19_code 2 = .ok (.iconst 0, 1) := by decide +kernel
theorem d_X_sets_3 : decode prog_1_method_19_code 3 = .ok (.istore_n 2, 1) := by decide +kernel
theorem d_X_sets_4 : decode prog_1_method_19_code 4 = .ok (.iconst 0, 1) := by decide +kernel
theorem d_X_sets_5 : decode prog_1_method_19_code 5 = .ok (.istore_n 3, 1) := by decide +kernel
theorem d_X_sets_6 : decode prog_1_method_19_code 6 = .ok (.iload_n 3, 1) := by decide +kernel
theorem d_X_sets_7 : decode prog_1_method_19_code 7 = .ok (.aload_n 0, 1) := by decide +kernel
theorem d_X_sets_8 : decode prog_1_method_19_code 8 = .ok (.getfield 19, 3) := by decide +kernel
theorem d_X_sets_11 : decode prog_1_method_19_code 11 = .ok (.getfield 218, 3) := by decide +kernel
theorem d_X_sets_14 : decode prog_1_method_19_code 14 = .ok (.if_icmp .ge 28, 3) := by decide +kernel
theorem d_X_sets_17 : decode prog_1_method_19_code 17 = .ok (.iload_n 2, 1) := by decide +kernel
theorem d_X_sets_18 : decode prog_1_method_19_code 18 = .ok (.iconst 1, 1) := by decide +kernel
theorem d_X_sets_19 : decode prog_1_method_19_code 19 = .ok (.iload_n 3, 1) := by decide +kernel
theorem d_X_sets_20 : decode prog_1_method_19_code 20 = .ok (.ishl, 1) := by decide +kernel
theorem d_X_sets_21 : decode prog_1_method_19_code 21 = .ok (.iand, 1) := by decide +kernel
theorem d_X_sets_22 : decode prog_1_method_19_code 22 = .ok (.ifCond .ne 14, 3) := by decide +kernel
theorem d_X_sets_25 : decode prog_1_method_19_code 25 = .ok (.iinc 1 1, 3) := by decide +kernel
theorem d_X_sets_28 : decode prog_1_method_19_code 28 = .ok (.iload_n 2, 1) := by decide +kernel
theorem d_X_sets_29 : decode prog_1_method_19_code 29 = .ok (.aload_n 0, 1) := by decide +kernel
theorem d_X_sets_30 : decode prog_1_method_19_code 30 = .ok (.iload_n 3, 1) := by decide +kernel
theorem d_X_sets_31 : decode prog_1_method_19_code 31 = .ok (.invokevirtual 221, 3) := by decide +kernel
theorem d_X_sets_34 : decode prog_1_method_19_code 34 = .ok (.ior, 1) := by decide +kernel
theorem d_X_sets_35 : decode prog_1_method_19_code 35 = .ok (.istore_n 2, 1) := by decide +kernel
theorem d_X_sets_36 : decode prog_1_method_19_code 36 = .ok (.iinc 3 1, 3) := by decide +kernel
theorem d_X_sets_39 : decode prog_1_method_19_code 39 = .ok (.goto (-33), 3) := by decide +kernel
theorem d_X_sets_42 : decode prog_1_method_19_code 42 = .ok (.iload_n 1, 1) := by decide +kernel
theorem d_X_sets_43 : decode prog_1_method_19_code 43 = .ok (.ireturn, 1) := by decide +kernel
theorem d_X_changes_0 : decode prog_1_method_21_code 0 = .ok (.aload_n 0, 1) := by decide +kernel
theorem d_X_changes_1 : decode prog_1_method_21_code 1 = .ok (.getfield 19, 3) := by decide +kernel
theorem d_X_changes_4 : decode prog_1_method_21_code 4 = .ok (.getfield 218, 3) := by decide +kernel
theorem d_X_changes_7 : decode prog_1_method_21_code 7 = .ok (.aload_n 0, 1) := by decide +kernel
theorem d_X_changes_8 : decode prog_1_method_21_code 8 = .ok (.invokevirtual 224, 3) := by decide +kernel
theorem d_X_changes_11 : decode prog_1_method_21_code 11 = .ok (.isub, 1) := by decide +kernel
theorem d_X_changes_12 : decode prog_1_method_21_code 12 = .ok (.ireturn, 1) := by decide +kernel
theorem d_X_themselves_0 : decode prog_1_method_22_code 0 = .ok (.iconst 1, 1) := by decide +kernel
theorem d_X_themselves_1 : decode prog_1_method_22_code 1 = .ok (.aload_n 0, 1) := by decide +kernel
theorem d_X_themselves_2 : decode prog_1_method_22_code 2 = .ok (.getfield 19, 3) := by decide +kernel
theorem d_X_themselves_5 : decode prog_1_method_22_code 5 = .ok (.getfield 218, 3) := by decide +kernel
theorem d_X_themselves_8 : decode prog_1_method_22_code 8 = .ok (.ishl, 1) := by decide +kernel
theorem d_X_themselves_9 : decode prog_1_method_22_code 9 = .ok (.iconst 1, 1) := by decide +kernel
theorem d_X_themselves_10 : decode prog_1_method_22_code 10 = .ok (.isub, 1) := by decide +kernel
theorem d_X_themselves_11 : decode prog_1_method_22_code 11 = .ok (.istore_n 1, 1) := by decide +kernel
theorem d_X_themselves_12 : decode prog_1_method_22_code 12 = .ok (.aload_n 0, 1) := by decide +kernel
theorem d_X_themselves_13 : decode prog_1_method_22_code 13 = .ok (.getfield 41, 3) := by decide +kernel
theorem d_X_themselves_16 : decode prog_1_method_22_code 16 = .ok (.aload_n 0, 1) := by decide +kernel
theorem d_X_themselves_17 : decode prog_1_method_22_code 17 = .ok (.getfield 37, 3) := by decide +kernel
theorem d_X_themselves_20 : decode prog_1_method_22_code 20 = .ok (.invokevirtual 227, 3) := by decide +kernel
theorem d_X_themselves_23 : decode prog_1_method_22_code 23 = .ok (.iconst 0, 1) := by decide +kernel
theorem d_X_themselves_24 : decode prog_1_method_22_code 24 = .ok (.istore_n 2, 1) := by decide +kernel
theorem d_X_themselves_25 : decode prog_1_method_22_code 25 = .ok (.iload_n 2, 1) := by decide +kernel
theorem d_X_themselves_26 : decode prog_1_method_22_code 26 = .ok (.sipush 240, 3) := by decide +kernel
theorem d_X_themselves_29 : decode prog_1_method_22_code 29 = .ok (.if_icmp .gt 33, 3) := by decide +kernel
theorem d_X_themselves_32 : decode prog_1_method_22_code 32 = .ok (.aload_n 0, 1) := by decide +kernel
theorem d_X_themselves_33 : decode prog_1_method_22_code 33 = .ok (.getfield 41, 3) := by decide +kernel
theorem d_X_themselves_36 : decode prog_1_method_22_code 36 = .ok (.invokevirtual 229, 3) := by decide +kernel
theorem d_X_themselves_39 : decode prog_1_method_22_code 39 = .ok (.iload_n 1, 1) := by decide +kernel
theorem d_X_themselves_40 : decode prog_1_method_22_code 40 = .ok (.if_icmp .ne 5, 3) := by decide +kernel
theorem d_X_themselves_43 : decode prog_1_method_22_code 43 = .ok (.iload_n 2, 1) := by decide +kernel
theorem d_X_themselves_44 : decode prog_1_method_22_code 44 = .ok (.ireturn, 1) := by decide +kernel
theorem d_X_themselves_45 : decode prog_1_method_22_code 45 = .ok (.aload_n 0, 1) := by decide +kernel
theorem d_X_themselves_46 : decode prog_1_method_22_code 46 = .ok (.getfield 56, 3) := by decide +kernel
theorem d_X_themselves_49 : decode prog_1_method_22_code 49 = .ok (.aload_n 0, 1) := by decide +kernel
theorem d_X_themselves_50 : decode prog_1_method_22_code 50 = .ok (.getfield 41, 3) := by decide +kernel
theorem d_X_themselves_53 : decode prog_1_method_22_code 53 = .ok (.invokevirtual 232, 3) := by decide +kernel
theorem d_X_themselves_56 : decode prog_1_method_22_code 56 = .ok (.iinc 2 1, 3) := by decide +kernel
theorem d_X_themselves_59 : decode prog_1_method_22_code 59 = .ok (.goto (-34), 3) := by decide +kernel
theorem d_X_themselves_62 : decode prog_1_method_22_code 62 = .ok (.bipush (-2), 2) := by decide +kernel
theorem d_X_themselves_64 : decode prog_1_method_22_code 64 = .ok (.ireturn, 1) := by decide +kernel
theorem d_X_crossed_0 : decode prog_1_method_23_code 0 = .ok (.iconst 0, 1) := by decide +kernel
theorem d_X_crossed_1 : decode prog_1_method_23_code 1 = .ok (.istore_n 2, 1) := by decide +kernel
theorem d_X_crossed_2 : decode prog_1_method_23_code 2 = .ok (.bipush (-2), 2) := by decide +kernel
theorem d_X_crossed_4 : decode prog_1_method_23_code 4 = .ok (.istore_n 3, 1) := by decide +kernel
theorem d_X_crossed_5 : decode prog_1_method_23_code 5 = .ok (.iconst 0, 1) := by decide +kernel
theorem d_X_crossed_6 : decode prog_1_method_23_code 6 = .ok (.istore 4, 2) := by decide +kernel
theorem d_X_crossed_8 : decode prog_1_method_23_code 8 = .ok (.iload 4, 2) := by decide +kernel
theorem d_X_crossed_10 : decode prog_1_method_23_code 10 = .ok (.aload_n 0, 1) := by decide +kernel
theorem d_X_crossed_11 : decode prog_1_method_23_code 11 = .ok (.getfield 19, 3) := by decide +kernel
theorem d_X_crossed_14 : decode prog_1_method_23_code 14 = .ok (.getfield 218, 3) := by decide +kernel
theorem d_X_crossed_17 : decode prog_1_method_23_code 17 = .ok (.if_icmp .ge 65, 3) := by decide +kernel
theorem d_X_crossed_20 : decode prog_1_method_23_code 20 = .ok (.aload_n 0, 1) := by decide +kernel
theorem d_X_crossed_21 : decode prog_1_method_23_code 21 = .ok (.getfield 37, 3) := by decide +kernel
theorem d_X_crossed_24 : decode prog_1_method_23_code 24 = .ok (.getfield 151, 3) := by decide +kernel
theorem d_X_crossed_27 : decode prog_1_method_23_code 27 = .ok (.iload 4, 2) := by decide +kernel
theorem d_X_crossed_29 : decode prog_1_method_23_code 29 = .ok (.iaload, 1) := by decide +kernel
theorem d_X_crossed_30 : decode prog_1_method_23_code 30 = .ok (.istore 5, 2) := by decide +kernel
theorem d_X_crossed_32 : decode prog_1_method_23_code 32 = .ok (.iload 4, 2) := by decide +kernel
theorem d_X_crossed_34 : decode prog_1_method_23_code 34 = .ok (.iload 5, 2) := by decide +kernel
theorem d_X_crossed_36 : decode prog_1_method_23_code 36 = .ok (.if_icmp .ge 40, 3) := by decide +kernel
theorem d_X_crossed_39 : decode prog_1_method_23_code 39 = .ok (.aload_n 0, 1) := by decide +kernel
theorem d_X_crossed_40 : decode prog_1_method_23_code 40 = .ok (.getfield 37, 3) := by decide +kernel
theorem d_X_crossed_43 : decode prog_1_method_23_code 43 = .ok (.getfield 151, 3) := by decide +kernel
theorem d_X_crossed_46 : decode prog_1_method_23_code 46 = .ok (.iload 5, 2) := by decide +kernel
theorem d_X_crossed_48 : decode prog_1_method_23_code 48 = .ok (.iaload, 1) := by decide +kernel
theorem d_X_crossed_49 : decode prog_1_method_23_code 49 = .ok (.iload 4, 2) := by decide +kernel
theorem d_X_crossed_51 : decode prog_1_method_23_code 51 = .ok (.if_icmp .ne 25, 3) := by decide +kernel
theorem d_X_crossed_54 : decode prog_1_method_23_code 54 = .ok (.iinc 2 1, 3) := by decide +kernel
theorem d_X_crossed_57 : decode prog_1_method_23_code 57 = .ok (.iload_n 3, 1) := by decide +kernel
theorem d_X_crossed_58 : decode prog_1_method_23_code 58 = .ok (.bipush (-2), 2) := by decide +kernel
theorem d_X_crossed_60 : decode prog_1_method_23_code 60 = .ok (.if_icmp .ne 14, 3) := by decide +kernel
theorem d_X_crossed_63 : decode prog_1_method_23_code 63 = .ok (.bipush 10, 2) := by decide +kernel
theorem d_X_crossed_65 : decode prog_1_method_23_code 65 = .ok (.iload 4, 2) := by decide +kernel
theorem d_X_crossed_67 : decode prog_1_method_23_code 67 = .ok (.imul, 1) := by decide +kernel
theorem d_X_crossed_68 : decode prog_1_method_23_code 68 = .ok (.iload 5, 2) := by decide +kernel
theorem d_X_crossed_70 : decode prog_1_method_23_code 70 = .ok (.iadd, 1) := by decide +kernel
theorem d_X_crossed_71 : decode prog_1_method_23_code 71 = .ok (.goto 4, 3) := by decide +kernel
theorem d_X_crossed_74 : decode prog_1_method_23_code 74 = .ok (.iload_n 3, 1) := by decide +kernel
theorem d_X_crossed_75 : decode prog_1_method_23_code 75 = .ok (.istore_n 3, 1) := by decide +kernel
theorem d_X_crossed_76 : decode prog_1_method_23_code 76 = .ok (.iinc 4 1, 3) := by decide +kernel
theorem d_X_crossed_79 : decode prog_1_method_23_code 79 = .ok (.goto (-71), 3) := by decide +kernel
theorem d_X_crossed_82 : decode prog_1_method_23_code 82 = .ok (.iload_n 1, 1) := by decide +kernel
theorem d_X_crossed_83 : decode prog_1_method_23_code 83 = .ok (.lookupswitch 29 #[(0, 25), (1, 27)], 25) := by decide +kernel
theorem d_X_crossed_108 : decode prog_1_method_23_code 108 = .ok (.iload_n 2, 1) := by decide +kernel
theorem d_X_crossed_109 : decode prog_1_method_23_code 109 = .ok (.ireturn, 1) := by decide +kernel
theorem d_X_crossed_110 : decode prog_1_method_23_code 110 = .ok (.iload_n 3, 1) := by decide +kernel
theorem d_X_crossed_111 : decode prog_1_method_23_code 111 = .ok (.ireturn, 1) := by decide +kernel
theorem d_X_crossed_112 : decode prog_1_method_23_code 112 = .ok (.iconst (-1), 1) := by decide +kernel
theorem d_X_crossed_113 : decode prog_1_method_23_code 113 = .ok (.ireturn, 1) := by decide +kernel
theorem d_X_isZeroOrOne_0 : decode prog_1_method_50_code 0 = .ok (.iload_n 0, 1) := by decide +kernel
theorem d_X_isZeroOrOne_1 : decode prog_1_method_50_code 1 = .ok (.ifCond .eq 8, 3) := by decide +kernel
theorem d_X_isZeroOrOne_4 : decode prog_1_method_50_code 4 = .ok (.iload_n 0, 1) := by decide +kernel
theorem d_X_isZeroOrOne_5 : decode prog_1_method_50_code 5 = .ok (.iconst 1, 1) := by decide +kernel
theorem d_X_isZeroOrOne_6 : decode prog_1_method_50_code 6 = .ok (.if_icmp .ne 7, 3) := by decide +kernel
theorem d_X_isZeroOrOne_9 : decode prog_1_method_50_code 9 = .ok (.iconst 1, 1) := by decide +kernel
theorem d_X_isZeroOrOne_10 : decode prog_1_method_50_code 10 = .ok (.goto 4, 3) := by decide +kernel
theorem d_X_isZeroOrOne_13 : decode prog_1_method_50_code 13 = .ok (.iconst 0, 1) := by decide +kernel
theorem d_X_isZeroOrOne_14 : decode prog_1_method_50_code 14 = .ok (.ireturn, 1) := by decide +kernel
theorem d_X_fit_0 : decode prog_1_method_24_code 0 = .ok (.aload_n 0, 1) := by decide +kernel
theorem d_X_fit_1 : decode prog_1_method_24_code 1 = .ok (.iload_n 1, 1) := by decide +kernel
theorem d_X_fit_2 : decode prog_1_method_24_code 2 = .ok (.invokevirtual 139, 3) := by decide +kernel
theorem d_X_fit_5 : decode prog_1_method_24_code 5 = .ok (.ifCond .eq 10, 3) := by decide +kernel
theorem d_X_fit_8 : decode prog_1_method_24_code 8 = .ok (.iload_n 2, 1) := by decide +kernel
theorem d_X_fit_9 : decode prog_1_method_24_code 9 = .ok (.invokestatic 235, 3) := by decide +kernel
theorem d_X_fit_12 : decode prog_1_method_24_code 12 = .ok (.ifCond .ne 5, 3) := by decide +kernel
theorem d_X_fit_15 : decode prog_1_method_24_code 15 = .ok (.iconst (-1), 1) := by decide +kernel
theorem d_X_fit_16 : decode prog_1_method_24_code 16 = .ok (.ireturn, 1) := by decide +kernel
theorem d_X_fit_17 : decode prog_1_method_24_code 17 = .ok (.bipush (-2), 2) := by decide +kernel
theorem d_X_fit_19 : decode prog_1_method_24_code 19 = .ok (.istore_n 3, 1) := by decide +kernel
theorem d_X_fit_20 : decode prog_1_method_24_code 20 = .ok (.bipush (-2), 2) := by decide +kernel
theorem d_X_fit_22 : decode prog_1_method_24_code 22 = .ok (.istore 4, 2) := by decide +kernel
theorem d_X_fit_24 : decode prog_1_method_24_code 24 = .ok (.iconst 0, 1) := by decide +kernel
theorem d_X_fit_25 : decode prog_1_method_24_code 25 = .ok (.istore 5, 2) := by decide +kernel
theorem d_X_fit_27 : decode prog_1_method_24_code 27 = .ok (.iload 5, 2) := by decide +kernel
theorem d_X_fit_29 : decode prog_1_method_24_code 29 = .ok (.aload_n 0, 1) := by decide +kernel
theorem d_X_fit_30 : decode prog_1_method_24_code 30 = .ok (.getfield 19, 3) := by decide +kernel
theorem d_X_fit_33 : decode prog_1_method_24_code 33 = .ok (.getfield 238, 3) := by decide +kernel
theorem d_X_fit_36 : decode prog_1_method_24_code 36 = .ok (.if_icmp .ge 45, 3) := by decide +kernel
theorem d_X_fit_39 : decode prog_1_method_24_code 39 = .ok (.aload_n 0, 1) := by decide +kernel
theorem d_X_fit_40 : decode prog_1_method_24_code 40 = .ok (.getfield 47, 3) := by decide +kernel
theorem d_X_fit_43 : decode prog_1_method_24_code 43 = .ok (.aload_n 0, 1) := by decide +kernel
theorem d_X_fit_44 : decode prog_1_method_24_code 44 = .ok (.getfield 37, 3) := by decide +kernel
theorem d_X_fit_47 : decode prog_1_method_24_code 47 = .ok (.iload_n 1, 1) := by decide +kernel
theorem d_X_fit_48 : decode prog_1_method_24_code 48 = .ok (.iload 5, 2) := by decide +kernel
theorem d_X_fit_50 : decode prog_1_method_24_code 50 = .ok (.invokevirtual 241, 3) := by decide +kernel
theorem d_X_fit_53 : decode prog_1_method_24_code 53 = .ok (.istore 6, 2) := by decide +kernel
theorem d_X_fit_55 : decode prog_1_method_24_code 55 = .ok (.iload_n 3, 1) := by decide +kernel
theorem d_X_fit_56 : decode prog_1_method_24_code 56 = .ok (.bipush (-2), 2) := by decide +kernel
theorem d_X_fit_58 : decode prog_1_method_24_code 58 = .ok (.if_icmp .eq 10, 3) := by decide +kernel
theorem d_X_fit_61 : decode prog_1_method_24_code 61 = .ok (.iload 6, 2) := by decide +kernel
theorem d_X_fit_63 : decode prog_1_method_24_code 63 = .ok (.iload 4, 2) := by decide +kernel
theorem d_X_fit_65 : decode prog_1_method_24_code 65 = .ok (.if_icmp .ge 10, 3) := by decide +kernel
theorem d_X_fit_68 : decode prog_1_method_24_code 68 = .ok (.iload 5, 2) := by decide +kernel
theorem d_X_fit_70 : decode prog_1_method_24_code 70 = .ok (.istore_n 3, 1) := by decide +kernel
theorem d_X_fit_71 : decode prog_1_method_24_code 71 = .ok (.iload 6, 2) := by decide +kernel
theorem d_X_fit_73 : decode prog_1_method_24_code 73 = .ok (.istore 4, 2) := by decide +kernel
theorem d_X_fit_75 : decode prog_1_method_24_code 75 = .ok (.iinc 5 1, 3) := by decide +kernel
theorem d_X_fit_78 : decode prog_1_method_24_code 78 = .ok (.goto (-51), 3) := by decide +kernel
theorem d_X_fit_81 : decode prog_1_method_24_code 81 = .ok (.iload_n 2, 1) := by decide +kernel
theorem d_X_fit_82 : decode prog_1_method_24_code 82 = .ok (.ifCond .ne 7, 3) := by decide +kernel
theorem d_X_fit_85 : decode prog_1_method_24_code 85 = .ok (.iload_n 3, 1) := by decide +kernel
theorem d_X_fit_86 : decode prog_1_method_24_code 86 = .ok (.goto 5, 3) := by decide +kernel
theorem d_X_fit_89 : decode prog_1_method_24_code 89 = .ok (.iload 4, 2) := by decide +kernel
theorem d_X_fit_91 : decode prog_1_method_24_code 91 = .ok (.ireturn, 1) := by decide +kernel
theorem d_X_missed_0 : decode prog_1_method_25_code 0 = .ok (.iload_n 1, 1) := by decide +kernel
theorem d_X_missed_1 : decode prog_1_method_25_code 1 = .ok (.invokestatic 235, 3) := by decide +kernel
theorem d_X_missed_4 : decode prog_1_method_25_code 4 = .ok (.ifCond .ne 5, 3) := by decide +kernel
theorem d_X_missed_7 : decode prog_1_method_25_code 7 = .ok (.iconst (-1), 1) := by decide +kernel
theorem d_X_missed_8 : decode prog_1_method_25_code 8 = .ok (.ireturn, 1) := by decide +kernel
theorem d_X_missed_9 : decode prog_1_method_25_code 9 = .ok (.aload_n 0, 1) := by decide +kernel
theorem d_X_missed_10 : decode prog_1_method_25_code 10 = .ok (.getfield 63, 3) := by decide +kernel
theorem d_X_missed_13 : decode prog_1_method_25_code 13 = .ok (.aload_n 0, 1) := by decide +kernel
theorem d_X_missed_14 : decode prog_1_method_25_code 14 = .ok (.getfield 37, 3) := by decide +kernel
theorem d_X_missed_17 : decode prog_1_method_25_code 17 = .ok (.invokevirtual 201, 3) := by decide +kernel
theorem d_X_missed_20 : decode prog_1_method_25_code 20 = .ok (.bipush (-2), 2) := by decide +kernel
theorem d_X_missed_22 : decode prog_1_method_25_code 22 = .ok (.istore_n 2, 1) := by decide +kernel
theorem d_X_missed_23 : decode prog_1_method_25_code 23 = .ok (.iconst 0, 1) := by decide +kernel
theorem d_X_missed_24 : decode prog_1_method_25_code 24 = .ok (.istore_n 3, 1) := by decide +kernel
theorem d_X_missed_25 : decode prog_1_method_25_code 25 = .ok (.iconst 0, 1) := by decide +kernel
theorem d_X_missed_26 : decode prog_1_method_25_code 26 = .ok (.istore 4, 2) := by decide +kernel
theorem d_X_missed_28 : decode prog_1_method_25_code 28 = .ok (.iload 4, 2) := by decide +kernel
theorem d_X_missed_30 : decode prog_1_method_25_code 30 = .ok (.aload_n 0, 1) := by decide +kernel
theorem d_X_missed_31 : decode prog_1_method_25_code 31 = .ok (.getfield 19, 3) := by decide +kernel
theorem d_X_missed_34 : decode prog_1_method_25_code 34 = .ok (.getfield 238, 3) := by decide +kernel
theorem d_X_missed_37 : decode prog_1_method_25_code 37 = .ok (.if_icmp .ge 39, 3) := by decide +kernel
theorem d_X_missed_40 : decode prog_1_method_25_code 40 = .ok (.aload_n 0, 1) := by decide +kernel
theorem d_X_missed_41 : decode prog_1_method_25_code 41 = .ok (.getfield 63, 3) := by decide +kernel
theorem d_X_missed_44 : decode prog_1_method_25_code 44 = .ok (.iconst 0, 1) := by decide +kernel
theorem d_X_missed_45 : decode prog_1_method_25_code 45 = .ok (.iload 4, 2) := by decide +kernel
theorem d_X_missed_47 : decode prog_1_method_25_code 47 = .ok (.invokevirtual 204, 3) := by decide +kernel
theorem d_X_missed_50 : decode prog_1_method_25_code 50 = .ok (.istore 5, 2) := by decide +kernel
theorem d_X_missed_52 : decode prog_1_method_25_code 52 = .ok (.iload_n 2, 1) := by decide +kernel
theorem d_X_missed_53 : decode prog_1_method_25_code 53 = .ok (.bipush (-2), 2) := by decide +kernel
theorem d_X_missed_55 : decode prog_1_method_25_code 55 = .ok (.if_icmp .eq 9, 3) := by decide +kernel
theorem d_X_missed_58 : decode prog_1_method_25_code 58 = .ok (.iload 5, 2) := by decide +kernel
theorem d_X_missed_60 : decode prog_1_method_25_code 60 = .ok (.iload_n 3, 1) := by decide +kernel
theorem d_X_missed_61 : decode prog_1_method_25_code 61 = .ok (.if_icmp .le 9, 3) := by decide +kernel
theorem d_X_missed_64 : decode prog_1_method_25_code 64 = .ok (.iload 4, 2) := by decide +kernel
theorem d_X_missed_66 : decode prog_1_method_25_code 66 = .ok (.istore_n 2, 1) := by decide +kernel
theorem d_X_missed_67 : decode prog_1_method_25_code 67 = .ok (.iload 5, 2) := by decide +kernel
theorem d_X_missed_69 : decode prog_1_method_25_code 69 = .ok (.istore_n 3, 1) := by decide +kernel
theorem d_X_missed_70 : decode prog_1_method_25_code 70 = .ok (.iinc 4 1, 3) := by decide +kernel
theorem d_X_missed_73 : decode prog_1_method_25_code 73 = .ok (.goto (-45), 3) := by decide +kernel
theorem d_X_missed_76 : decode prog_1_method_25_code 76 = .ok (.iload_n 1, 1) := by decide +kernel
theorem d_X_missed_77 : decode prog_1_method_25_code 77 = .ok (.ifCond .eq 9, 3) := by decide +kernel
theorem d_X_missed_80 : decode prog_1_method_25_code 80 = .ok (.iload_n 2, 1) := by decide +kernel
theorem d_X_missed_81 : decode prog_1_method_25_code 81 = .ok (.bipush (-2), 2) := by decide +kernel
theorem d_X_missed_83 : decode prog_1_method_25_code 83 = .ok (.if_icmp .ne 7, 3) := by decide +kernel
theorem d_X_missed_86 : decode prog_1_method_25_code 86 = .ok (.iload_n 2, 1) := by decide +kernel
theorem d_X_missed_87 : decode prog_1_method_25_code 87 = .ok (.goto 11, 3) := by decide +kernel
theorem d_X_missed_90 : decode prog_1_method_25_code 90 = .ok (.aload_n 0, 1) := by decide +kernel
theorem d_X_missed_91 : decode prog_1_method_25_code 91 = .ok (.getfield 63, 3) := by decide +kernel
theorem d_X_missed_94 : decode prog_1_method_25_code 94 = .ok (.iload_n 3, 1) := by decide +kernel
theorem d_X_missed_95 : decode prog_1_method_25_code 95 = .ok (.invokevirtual 208, 3) := by decide +kernel
theorem d_X_missed_98 : decode prog_1_method_25_code 98 = .ok (.ireturn, 1) := by decide +kernel
theorem d_X_crowded_0 : decode prog_1_method_26_code 0 = .ok (.iconst 0, 1) := by decide +kernel
theorem d_X_crowded_1 : decode prog_1_method_26_code 1 = .ok (.istore_n 2, 1) := by decide +kernel
theorem d_X_crowded_2 : decode prog_1_method_26_code 2 = .ok (.iconst 0, 1) := by decide +kernel
theorem d_X_crowded_3 : decode prog_1_method_26_code 3 = .ok (.istore_n 3, 1) := by decide +kernel
theorem d_X_crowded_4 : decode prog_1_method_26_code 4 = .ok (.iconst 0, 1) := by decide +kernel
theorem d_X_crowded_5 : decode prog_1_method_26_code 5 = .ok (.istore 4, 2) := by decide +kernel
theorem d_X_crowded_7 : decode prog_1_method_26_code 7 = .ok (.iload 4, 2) := by decide +kernel
theorem d_X_crowded_9 : decode prog_1_method_26_code 9 = .ok (.iconst 5, 1) := by decide +kernel
theorem d_X_crowded_10 : decode prog_1_method_26_code 10 = .ok (.if_icmp .ge 32, 3) := by decide +kernel
theorem d_X_crowded_13 : decode prog_1_method_26_code 13 = .ok (.aload_n 0, 1) := by decide +kernel
theorem d_X_crowded_14 : decode prog_1_method_26_code 14 = .ok (.getfield 37, 3) := by decide +kernel
theorem d_X_crowded_17 : decode prog_1_method_26_code 17 = .ok (.iload 4, 2) := by decide +kernel
theorem d_X_crowded_19 : decode prog_1_method_26_code 19 = .ok (.invokevirtual 245, 3) := by decide +kernel
theorem d_X_crowded_22 : decode prog_1_method_26_code 22 = .ok (.istore 5, 2) := by decide +kernel
theorem d_X_crowded_24 : decode prog_1_method_26_code 24 = .ok (.iload 5, 2) := by decide +kernel
theorem d_X_crowded_26 : decode prog_1_method_26_code 26 = .ok (.iload_n 3, 1) := by decide +kernel
theorem d_X_crowded_27 : decode prog_1_method_26_code 27 = .ok (.if_icmp .le 9, 3) := by decide +kernel
theorem d_X_crowded_30 : decode prog_1_method_26_code 30 = .ok (.iload 4, 2) := by decide +kernel
theorem d_X_crowded_32 : decode prog_1_method_26_code 32 = .ok (.istore_n 2, 1) := by decide +kernel
theorem d_X_crowded_33 : decode prog_1_method_26_code 33 = .ok (.iload 5, 2) := by decide +kernel
theorem d_X_crowded_35 : decode prog_1_method_26_code 35 = .ok (.istore_n 3, 1) := by decide +kernel
theorem d_X_crowded_36 : decode prog_1_method_26_code 36 = .ok (.iinc 4 1, 3) := by decide +kernel
theorem d_X_crowded_39 : decode prog_1_method_26_code 39 = .ok (.goto (-32), 3) := by decide +kernel
theorem d_X_crowded_42 : decode prog_1_method_26_code 42 = .ok (.iload_n 1, 1) := by decide +kernel
theorem d_X_crowded_43 : decode prog_1_method_26_code 43 = .ok (.lookupswitch 29 #[(0, 25), (1, 27)], 25) := by decide +kernel
theorem d_X_crowded_68 : decode prog_1_method_26_code 68 = .ok (.iload_n 2, 1) := by decide +kernel
theorem d_X_crowded_69 : decode prog_1_method_26_code 69 = .ok (.ireturn, 1) := by decide +kernel
theorem d_X_crowded_70 : decode prog_1_method_26_code 70 = .ok (.iload_n 3, 1) := by decide +kernel
theorem d_X_crowded_71 : decode prog_1_method_26_code 71 = .ok (.ireturn, 1) := by decide +kernel
theorem d_X_crowded_72 : decode prog_1_method_26_code 72 = .ok (.iconst (-1), 1) := by decide +kernel
theorem d_X_crowded_73 : decode prog_1_method_26_code 73 = .ok (.ireturn, 1) := by decide +kernel
theorem d_X_straight_0 : decode prog_1_method_27_code 0 = .ok (.bipush (-2), 2) := by decide +kernel
theorem d_X_straight_2 : decode prog_1_method_27_code 2 = .ok (.istore_n 1, 1) := by decide +kernel
theorem d_X_straight_3 : decode prog_1_method_27_code 3 = .ok (.iconst 0, 1) := by decide +kernel
theorem d_X_straight_4 : decode prog_1_method_27_code 4 = .ok (.istore_n 2, 1) := by decide +kernel
theorem d_X_straight_5 : decode prog_1_method_27_code 5 = .ok (.iconst 0, 1) := by decide +kernel
theorem d_X_straight_6 : decode prog_1_method_27_code 6 = .ok (.istore_n 3, 1) := by decide +kernel
theorem d_X_straight_7 : decode prog_1_method_27_code 7 = .ok (.iload_n 3, 1) := by decide +kernel
theorem d_X_straight_8 : decode prog_1_method_27_code 8 = .ok (.aload_n 0, 1) := by decide +kernel
theorem d_X_straight_9 : decode prog_1_method_27_code 9 = .ok (.getfield 19, 3) := by decide +kernel
theorem d_X_straight_12 : decode prog_1_method_27_code 12 = .ok (.getfield 218, 3) := by decide +kernel
theorem d_X_straight_15 : decode prog_1_method_27_code 15 = .ok (.if_icmp .ge 51, 3) := by decide +kernel
theorem d_X_straight_18 : decode prog_1_method_27_code 18 = .ok (.aload_n 0, 1) := by decide +kernel
theorem d_X_straight_19 : decode prog_1_method_27_code 19 = .ok (.getfield 37, 3) := by decide +kernel
theorem d_X_straight_22 : decode prog_1_method_27_code 22 = .ok (.iload_n 3, 1) := by decide +kernel
theorem d_X_straight_23 : decode prog_1_method_27_code 23 = .ok (.invokevirtual 160, 3) := by decide +kernel
theorem d_X_straight_26 : decode prog_1_method_27_code 26 = .ok (.ifCond .eq 34, 3) := by decide +kernel
theorem d_X_straight_29 : decode prog_1_method_27_code 29 = .ok (.iload_n 1, 1) := by decide +kernel
theorem d_X_straight_30 : decode prog_1_method_27_code 30 = .ok (.bipush (-2), 2) := by decide +kernel
theorem d_X_straight_32 : decode prog_1_method_27_code 32 = .ok (.if_icmp .eq 16, 3) := by decide +kernel
theorem d_X_straight_35 : decode prog_1_method_27_code 35 = .ok (.aload_n 0, 1) := by decide +kernel
theorem d_X_straight_36 : decode prog_1_method_27_code 36 = .ok (.getfield 37, 3) := by decide +kernel
theorem d_X_straight_39 : decode prog_1_method_27_code 39 = .ok (.getfield 154, 3) := by decide +kernel
theorem d_X_straight_42 : decode prog_1_method_27_code 42 = .ok (.iload_n 3, 1) := by decide +kernel
theorem d_X_straight_43 : decode prog_1_method_27_code 43 = .ok (.iaload, 1) := by decide +kernel
theorem d_X_straight_44 : decode prog_1_method_27_code 44 = .ok (.iload_n 2, 1) := by decide +kernel
theorem d_X_straight_45 : decode prog_1_method_27_code 45 = .ok (.if_icmp .ge 15, 3) := by decide +kernel
theorem d_X_straight_48 : decode prog_1_method_27_code 48 = .ok (.iload_n 3, 1) := by decide +kernel
theorem d_X_straight_49 : decode prog_1_method_27_code 49 = .ok (.istore_n 1, 1) := by decide +kernel
theorem d_X_straight_50 : decode prog_1_method_27_code 50 = .ok (.aload_n 0, 1) := by decide +kernel
theorem d_X_straight_51 : decode prog_1_method_27_code 51 = .ok (.getfield 37, 3) := by decide +kernel
theorem d_X_straight_54 : decode prog_1_method_27_code 54 = .ok (.getfield 154, 3) := by decide +kernel
theorem d_X_straight_57 : decode prog_1_method_27_code 57 = .ok (.iload_n 3, 1) := by decide +kernel
theorem d_X_straight_58 : decode prog_1_method_27_code 58 = .ok (.iaload, 1) := by decide +kernel
theorem d_X_straight_59 : decode prog_1_method_27_code 59 = .ok (.istore_n 2, 1) := by decide +kernel
theorem d_X_straight_60 : decode prog_1_method_27_code 60 = .ok (.iinc 3 1, 3) := by decide +kernel
theorem d_X_straight_63 : decode prog_1_method_27_code 63 = .ok (.goto (-56), 3) := by decide +kernel
theorem d_X_straight_66 : decode prog_1_method_27_code 66 = .ok (.iload_n 1, 1) := by decide +kernel
theorem d_X_straight_67 : decode prog_1_method_27_code 67 = .ok (.ireturn, 1) := by decide +kernel
theorem d_X_bill_0 : decode prog_1_method_28_code 0 = .ok (.iload_n 1, 1) := by decide +kernel
theorem d_X_bill_1 : decode prog_1_method_28_code 1 = .ok (.invokestatic 181, 3) := by decide +kernel
theorem d_X_bill_4 : decode prog_1_method_28_code 4 = .ok (.ifCond .ne 5, 3) := by decide +kernel
theorem d_X_bill_7 : decode prog_1_method_28_code 7 = .ok (.iconst (-1), 1) := by decide +kernel
theorem d_X_bill_8 : decode prog_1_method_28_code 8 = .ok (.ireturn, 1) := by decide +kernel
theorem d_X_bill_9 : decode prog_1_method_28_code 9 = .ok (.iconst 0, 1) := by decide +kernel
theorem d_X_bill_10 : decode prog_1_method_28_code 10 = .ok (.istore_n 2, 1) := by decide +kernel
theorem d_X_bill_11 : decode prog_1_method_28_code 11 = .ok (.aload_n 0, 1) := by decide +kernel
theorem d_X_bill_12 : decode prog_1_method_28_code 12 = .ok (.getfield 41, 3) := by decide +kernel
theorem d_X_bill_15 : decode prog_1_method_28_code 15 = .ok (.aload_n 0, 1) := by decide +kernel
theorem d_X_bill_16 : decode prog_1_method_28_code 16 = .ok (.getfield 37, 3) := by decide +kernel
theorem d_X_bill_19 : decode prog_1_method_28_code 19 = .ok (.invokevirtual 227, 3) := by decide +kernel
theorem d_X_bill_22 : decode prog_1_method_28_code 22 = .ok (.iconst 0, 1) := by decide +kernel
theorem d_X_bill_23 : decode prog_1_method_28_code 23 = .ok (.istore_n 3, 1) := by decide +kernel
theorem d_X_bill_24 : decode prog_1_method_28_code 24 = .ok (.iload_n 3, 1) := by decide +kernel
theorem d_X_bill_25 : decode prog_1_method_28_code 25 = .ok (.iload_n 1, 1) := by decide +kernel
theorem d_X_bill_26 : decode prog_1_method_28_code 26 = .ok (.if_icmp .ge 34, 3) := by decide +kernel
theorem d_X_bill_29 : decode prog_1_method_28_code 29 = .ok (.iload_n 2, 1) := by decide +kernel
theorem d_X_bill_30 : decode prog_1_method_28_code 30 = .ok (.aload_n 0, 1) := by decide +kernel
theorem d_X_bill_31 : decode prog_1_method_28_code 31 = .ok (.getfield 47, 3) := by decide +kernel
theorem d_X_bill_34 : decode prog_1_method_28_code 34 = .ok (.aload_n 0, 1) := by decide +kernel
theorem d_X_bill_35 : decode prog_1_method_28_code 35 = .ok (.getfield 41, 3) := by decide +kernel
theorem d_X_bill_38 : decode prog_1_method_28_code 38 = .ok (.invokevirtual 248, 3) := by decide +kernel
theorem d_X_bill_41 : decode prog_1_method_28_code 41 = .ok (.iadd, 1) := by decide +kernel
theorem d_X_bill_42 : decode prog_1_method_28_code 42 = .ok (.istore_n 2, 1) := by decide +kernel
theorem d_X_bill_43 : decode prog_1_method_28_code 43 = .ok (.aload_n 0, 1) := by decide +kernel
theorem d_X_bill_44 : decode prog_1_method_28_code 44 = .ok (.getfield 56, 3) := by decide +kernel
theorem d_X_bill_47 : decode prog_1_method_28_code 47 = .ok (.aload_n 0, 1) := by decide +kernel
theorem d_X_bill_48 : decode prog_1_method_28_code 48 = .ok (.getfield 41, 3) := by decide +kernel
theorem d_X_bill_51 : decode prog_1_method_28_code 51 = .ok (.invokevirtual 252, 3) := by decide +kernel
theorem d_X_bill_54 : decode prog_1_method_28_code 54 = .ok (.iinc 3 1, 3) := by decide +kernel
theorem d_X_bill_57 : decode prog_1_method_28_code 57 = .ok (.goto (-33), 3) := by decide +kernel
theorem d_X_bill_60 : decode prog_1_method_28_code 60 = .ok (.iload_n 2, 1) := by decide +kernel
theorem d_X_bill_61 : decode prog_1_method_28_code 61 = .ok (.ireturn, 1) := by decide +kernel
theorem d_X_costIfExchanged_0 : decode prog_1_method_30_code 0 = .ok (.aload_n 0, 1) := by decide +kernel
theorem d_X_costIfExchanged_1 : decode prog_1_method_30_code 1 = .ok (.getfield 37, 3) := by decide +kernel
theorem d_X_costIfExchanged_4 : decode prog_1_method_30_code 4 = .ok (.iload_n 1, 1) := by decide +kernel
theorem d_X_costIfExchanged_5 : decode prog_1_method_30_code 5 = .ok (.invokevirtual 160, 3) := by decide +kernel
theorem d_X_costIfExchanged_8 : decode prog_1_method_30_code 8 = .ok (.ifCond .eq 14, 3) := by decide +kernel
theorem d_X_costIfExchanged_11 : decode prog_1_method_30_code 11 = .ok (.aload_n 0, 1) := by decide +kernel
theorem d_X_costIfExchanged_12 : decode prog_1_method_30_code 12 = .ok (.getfield 37, 3) := by decide +kernel
theorem d_X_costIfExchanged_15 : decode prog_1_method_30_code 15 = .ok (.iload_n 2, 1) := by decide +kernel
theorem d_X_costIfExchanged_16 : decode prog_1_method_30_code 16 = .ok (.invokevirtual 160, 3) := by decide +kernel
theorem d_X_costIfExchanged_19 : decode prog_1_method_30_code 19 = .ok (.ifCond .ne 5, 3) := by decide +kernel
theorem d_X_costIfExchanged_22 : decode prog_1_method_30_code 22 = .ok (.iload_n 3, 1) := by decide +kernel
theorem d_X_costIfExchanged_23 : decode prog_1_method_30_code 23 = .ok (.ireturn, 1) := by decide +kernel
theorem d_X_costIfExchanged_24 : decode prog_1_method_30_code 24 = .ok (.aload_n 0, 1) := by decide +kernel
theorem d_X_costIfExchanged_25 : decode prog_1_method_30_code 25 = .ok (.getfield 41, 3) := by decide +kernel
theorem d_X_costIfExchanged_28 : decode prog_1_method_30_code 28 = .ok (.aload_n 0, 1) := by decide +kernel
theorem d_X_costIfExchanged_29 : decode prog_1_method_30_code 29 = .ok (.getfield 37, 3) := by decide +kernel
theorem d_X_costIfExchanged_32 : decode prog_1_method_30_code 32 = .ok (.invokevirtual 227, 3) := by decide +kernel
theorem d_X_costIfExchanged_35 : decode prog_1_method_30_code 35 = .ok (.aload_n 0, 1) := by decide +kernel
theorem d_X_costIfExchanged_36 : decode prog_1_method_30_code 36 = .ok (.getfield 41, 3) := by decide +kernel
theorem d_X_costIfExchanged_39 : decode prog_1_method_30_code 39 = .ok (.iload_n 1, 1) := by decide +kernel
theorem d_X_costIfExchanged_40 : decode prog_1_method_30_code 40 = .ok (.iload_n 2, 1) := by decide +kernel
theorem d_X_costIfExchanged_41 : decode prog_1_method_30_code 41 = .ok (.invokevirtual 177, 3) := by decide +kernel
theorem d_X_costIfExchanged_44 : decode prog_1_method_30_code 44 = .ok (.aload_n 0, 1) := by decide +kernel
theorem d_X_costIfExchanged_45 : decode prog_1_method_30_code 45 = .ok (.getfield 47, 3) := by decide +kernel
theorem d_X_costIfExchanged_48 : decode prog_1_method_30_code 48 = .ok (.aload_n 0, 1) := by decide +kernel
theorem d_X_costIfExchanged_49 : decode prog_1_method_30_code 49 = .ok (.getfield 41, 3) := by decide +kernel
theorem d_X_costIfExchanged_52 : decode prog_1_method_30_code 52 = .ok (.invokevirtual 248, 3) := by decide +kernel
theorem d_X_costIfExchanged_55 : decode prog_1_method_30_code 55 = .ok (.ireturn, 1) := by decide +kernel
theorem d_X_swap_0 : decode prog_1_method_29_code 0 = .ok (.iload_n 1, 1) := by decide +kernel
theorem d_X_swap_1 : decode prog_1_method_29_code 1 = .ok (.invokestatic 235, 3) := by decide +kernel
theorem d_X_swap_4 : decode prog_1_method_29_code 4 = .ok (.ifCond .ne 5, 3) := by decide +kernel
theorem d_X_swap_7 : decode prog_1_method_29_code 7 = .ok (.iconst (-1), 1) := by decide +kernel
theorem d_X_swap_8 : decode prog_1_method_29_code 8 = .ok (.ireturn, 1) := by decide +kernel
theorem d_X_swap_9 : decode prog_1_method_29_code 9 = .ok (.aload_n 0, 1) := by decide +kernel
theorem d_X_swap_10 : decode prog_1_method_29_code 10 = .ok (.getfield 47, 3) := by decide +kernel
theorem d_X_swap_13 : decode prog_1_method_29_code 13 = .ok (.aload_n 0, 1) := by decide +kernel
theorem d_X_swap_14 : decode prog_1_method_29_code 14 = .ok (.getfield 37, 3) := by decide +kernel
theorem d_X_swap_17 : decode prog_1_method_29_code 17 = .ok (.invokevirtual 248, 3) := by decide +kernel
theorem d_X_swap_20 : decode prog_1_method_29_code 20 = .ok (.istore_n 2, 1) := by decide +kernel
theorem d_X_swap_21 : decode prog_1_method_29_code 21 = .ok (.bipush (-2), 2) := by decide +kernel
theorem d_X_swap_23 : decode prog_1_method_29_code 23 = .ok (.istore_n 3, 1) := by decide +kernel
theorem d_X_swap_24 : decode prog_1_method_29_code 24 = .ok (.iconst 0, 1) := by decide +kernel
theorem d_X_swap_25 : decode prog_1_method_29_code 25 = .ok (.istore 4, 2) := by decide +kernel
theorem d_X_swap_27 : decode prog_1_method_29_code 27 = .ok (.iconst 0, 1) := by decide +kernel
theorem d_X_swap_28 : decode prog_1_method_29_code 28 = .ok (.istore 5, 2) := by decide +kernel
theorem d_X_swap_30 : decode prog_1_method_29_code 30 = .ok (.iload 5, 2) := by decide +kernel
theorem d_X_swap_32 : decode prog_1_method_29_code 32 = .ok (.aload_n 0, 1) := by decide +kernel
theorem d_X_swap_33 : decode prog_1_method_29_code 33 = .ok (.getfield 19, 3) := by decide +kernel
theorem d_X_swap_36 : decode prog_1_method_29_code 36 = .ok (.getfield 218, 3) := by decide +kernel
theorem d_X_swap_39 : decode prog_1_method_29_code 39 = .ok (.if_icmp .ge 66, 3) := by decide +kernel
theorem d_X_swap_42 : decode prog_1_method_29_code 42 = .ok (.iload 5, 2) := by decide +kernel
theorem d_X_swap_44 : decode prog_1_method_29_code 44 = .ok (.iconst 1, 1) := by decide +kernel
theorem d_X_swap_45 : decode prog_1_method_29_code 45 = .ok (.iadd, 1) := by decide +kernel
theorem d_X_swap_46 : decode prog_1_method_29_code 46 = .ok (.istore 6, 2) := by decide +kernel
theorem d_X_swap_48 : decode prog_1_method_29_code 48 = .ok (.iload 6, 2) := by decide +kernel
theorem d_X_swap_50 : decode prog_1_method_29_code 50 = .ok (.aload_n 0, 1) := by decide +kernel
theorem d_X_swap_51 : decode prog_1_method_29_code 51 = .ok (.getfield 19, 3) := by decide +kernel
theorem d_X_swap_54 : decode prog_1_method_29_code 54 = .ok (.getfield 218, 3) := by decide +kernel
theorem d_X_swap_57 : decode prog_1_method_29_code 57 = .ok (.if_icmp .ge 42, 3) := by decide +kernel
theorem d_X_swap_60 : decode prog_1_method_29_code 60 = .ok (.iload_n 2, 1) := by decide +kernel
theorem d_X_swap_61 : decode prog_1_method_29_code 61 = .ok (.aload_n 0, 1) := by decide +kernel
theorem d_X_swap_62 : decode prog_1_method_29_code 62 = .ok (.iload 5, 2) := by decide +kernel
theorem d_X_swap_64 : decode prog_1_method_29_code 64 = .ok (.iload 6, 2) := by decide +kernel
theorem d_X_swap_66 : decode prog_1_method_29_code 66 = .ok (.iload_n 2, 1) := by decide +kernel
theorem d_X_swap_67 : decode prog_1_method_29_code 67 = .ok (.invokevirtual 255, 3) := by decide +kernel
theorem d_X_swap_70 : decode prog_1_method_29_code 70 = .ok (.isub, 1) := by decide +kernel
theorem d_X_swap_71 : decode prog_1_method_29_code 71 = .ok (.istore 7, 2) := by decide +kernel
theorem d_X_swap_73 : decode prog_1_method_29_code 73 = .ok (.iload 7, 2) := by decide +kernel
theorem d_X_swap_75 : decode prog_1_method_29_code 75 = .ok (.iload 4, 2) := by decide +kernel
theorem d_X_swap_77 : decode prog_1_method_29_code 77 = .ok (.if_icmp .le 16, 3) := by decide +kernel
theorem d_X_swap_80 : decode prog_1_method_29_code 80 = .ok (.bipush 10, 2) := by decide +kernel
theorem d_X_swap_82 : decode prog_1_method_29_code 82 = .ok (.iload 5, 2) := by decide +kernel
theorem d_X_swap_84 : decode prog_1_method_29_code 84 = .ok (.imul, 1) := by decide +kernel
theorem d_X_swap_85 : decode prog_1_method_29_code 85 = .ok (.iload 6, 2) := by decide +kernel
theorem d_X_swap_87 : decode prog_1_method_29_code 87 = .ok (.iadd, 1) := by decide +kernel
theorem d_X_swap_88 : decode prog_1_method_29_code 88 = .ok (.istore_n 3, 1) := by decide +kernel
theorem d_X_swap_89 : decode prog_1_method_29_code 89 = .ok (.iload 7, 2) := by decide +kernel
theorem d_X_swap_91 : decode prog_1_method_29_code 91 = .ok (.istore 4, 2) := by decide +kernel
theorem d_X_swap_93 : decode prog_1_method_29_code 93 = .ok (.iinc 6 1, 3) := by decide +kernel
theorem d_X_swap_96 : decode prog_1_method_29_code 96 = .ok (.goto (-48), 3) := by decide +kernel
theorem d_X_swap_99 : decode prog_1_method_29_code 99 = .ok (.iinc 5 1, 3) := by decide +kernel
theorem d_X_swap_102 : decode prog_1_method_29_code 102 = .ok (.goto (-72), 3) := by decide +kernel
theorem d_X_swap_105 : decode prog_1_method_29_code 105 = .ok (.iload_n 1, 1) := by decide +kernel
theorem d_X_swap_106 : decode prog_1_method_29_code 106 = .ok (.ifCond .eq 9, 3) := by decide +kernel
theorem d_X_swap_109 : decode prog_1_method_29_code 109 = .ok (.iload_n 3, 1) := by decide +kernel
theorem d_X_swap_110 : decode prog_1_method_29_code 110 = .ok (.bipush (-2), 2) := by decide +kernel
theorem d_X_swap_112 : decode prog_1_method_29_code 112 = .ok (.if_icmp .ne 7, 3) := by decide +kernel
theorem d_X_swap_115 : decode prog_1_method_29_code 115 = .ok (.iload_n 3, 1) := by decide +kernel
theorem d_X_swap_116 : decode prog_1_method_29_code 116 = .ok (.goto 5, 3) := by decide +kernel
theorem d_X_swap_119 : decode prog_1_method_29_code 119 = .ok (.iload 4, 2) := by decide +kernel
theorem d_X_swap_121 : decode prog_1_method_29_code 121 = .ok (.ireturn, 1) := by decide +kernel
theorem d_X_round_0 : decode prog_1_method_31_code 0 = .ok (.aload_n 0, 1) := by decide +kernel
theorem d_X_round_1 : decode prog_1_method_31_code 1 = .ok (.getfield 41, 3) := by decide +kernel
theorem d_X_round_4 : decode prog_1_method_31_code 4 = .ok (.aload_n 0, 1) := by decide +kernel
theorem d_X_round_5 : decode prog_1_method_31_code 5 = .ok (.getfield 37, 3) := by decide +kernel
theorem d_X_round_8 : decode prog_1_method_31_code 8 = .ok (.invokevirtual 227, 3) := by decide +kernel
theorem d_X_round_11 : decode prog_1_method_31_code 11 = .ok (.iconst 1, 1) := by decide +kernel
theorem d_X_round_12 : decode prog_1_method_31_code 12 = .ok (.istore_n 1, 1) := by decide +kernel
theorem d_X_round_13 : decode prog_1_method_31_code 13 = .ok (.iload_n 1, 1) := by decide +kernel
theorem d_X_round_14 : decode prog_1_method_31_code 14 = .ok (.sipush 240, 3) := by decide +kernel
theorem d_X_round_17 : decode prog_1_method_31_code 17 = .ok (.if_icmp .gt 36, 3) := by decide +kernel
theorem d_X_round_20 : decode prog_1_method_31_code 20 = .ok (.aload_n 0, 1) := by decide +kernel
theorem d_X_round_21 : decode prog_1_method_31_code 21 = .ok (.getfield 56, 3) := by decide +kernel
theorem d_X_round_24 : decode prog_1_method_31_code 24 = .ok (.aload_n 0, 1) := by decide +kernel
theorem d_X_round_25 : decode prog_1_method_31_code 25 = .ok (.getfield 41, 3) := by decide +kernel
theorem d_X_round_28 : decode prog_1_method_31_code 28 = .ok (.invokevirtual 232, 3) := by decide +kernel
theorem d_X_round_31 : decode prog_1_method_31_code 31 = .ok (.aload_n 0, 1) := by decide +kernel
theorem d_X_round_32 : decode prog_1_method_31_code 32 = .ok (.getfield 41, 3) := by decide +kernel
theorem d_X_round_35 : decode prog_1_method_31_code 35 = .ok (.aload_n 0, 1) := by decide +kernel
theorem d_X_round_36 : decode prog_1_method_31_code 36 = .ok (.getfield 37, 3) := by decide +kernel
theorem d_X_round_39 : decode prog_1_method_31_code 39 = .ok (.invokevirtual 259, 3) := by decide +kernel
theorem d_X_round_42 : decode prog_1_method_31_code 42 = .ok (.ifCond .eq 5, 3) := by decide +kernel
theorem d_X_round_45 : decode prog_1_method_31_code 45 = .ok (.iload_n 1, 1) := by decide +kernel
theorem d_X_round_46 : decode prog_1_method_31_code 46 = .ok (.ireturn, 1) := by decide +kernel
theorem d_X_round_47 : decode prog_1_method_31_code 47 = .ok (.iinc 1 1, 3) := by decide +kernel
theorem d_X_round_50 : decode prog_1_method_31_code 50 = .ok (.goto (-37), 3) := by decide +kernel
theorem d_X_round_53 : decode prog_1_method_31_code 53 = .ok (.bipush (-2), 2) := by decide +kernel
theorem d_X_round_55 : decode prog_1_method_31_code 55 = .ok (.ireturn, 1) := by decide +kernel
theorem d_X_upright_0 : decode prog_1_method_32_code 0 = .ok (.iload_n 1, 1) := by decide +kernel
theorem d_X_upright_1 : decode prog_1_method_32_code 1 = .ok (.invokestatic 181, 3) := by decide +kernel
theorem d_X_upright_4 : decode prog_1_method_32_code 4 = .ok (.ifCond .eq 15, 3) := by decide +kernel
theorem d_X_upright_7 : decode prog_1_method_32_code 7 = .ok (.iload_n 2, 1) := by decide +kernel
theorem d_X_upright_8 : decode prog_1_method_32_code 8 = .ok (.iconst 1, 1) := by decide +kernel
theorem d_X_upright_9 : decode prog_1_method_32_code 9 = .ok (.if_icmp .lt 10, 3) := by decide +kernel
theorem d_X_upright_12 : decode prog_1_method_32_code 12 = .ok (.iload_n 2, 1) := by decide +kernel
theorem d_X_upright_13 : decode prog_1_method_32_code 13 = .ok (.sipush 999, 3) := by decide +kernel
theorem d_X_upright_16 : decode prog_1_method_32_code 16 = .ok (.if_icmp .le 5, 3) := by decide +kernel
theorem d_X_upright_19 : decode prog_1_method_32_code 19 = .ok (.iconst (-1), 1) := by decide +kernel
theorem d_X_upright_20 : decode prog_1_method_32_code 20 = .ok (.ireturn, 1) := by decide +kernel
theorem d_X_upright_21 : decode prog_1_method_32_code 21 = .ok (.aload_n 0, 1) := by decide +kernel
theorem d_X_upright_22 : decode prog_1_method_32_code 22 = .ok (.getfield 41, 3) := by decide +kernel
theorem d_X_upright_25 : decode prog_1_method_32_code 25 = .ok (.aload_n 0, 1) := by decide +kernel
theorem d_X_upright_26 : decode prog_1_method_32_code 26 = .ok (.getfield 37, 3) := by decide +kernel
theorem d_X_upright_29 : decode prog_1_method_32_code 29 = .ok (.invokevirtual 227, 3) := by decide +kernel
theorem d_X_upright_32 : decode prog_1_method_32_code 32 = .ok (.iconst 0, 1) := by decide +kernel
theorem d_X_upright_33 : decode prog_1_method_32_code 33 = .ok (.istore_n 3, 1) := by decide +kernel
theorem d_X_upright_34 : decode prog_1_method_32_code 34 = .ok (.iload_n 3, 1) := by decide +kernel
theorem d_X_upright_35 : decode prog_1_method_32_code 35 = .ok (.iload_n 1, 1) := by decide +kernel
theorem d_X_upright_36 : decode prog_1_method_32_code 36 = .ok (.if_icmp .ge 20, 3) := by decide +kernel
theorem d_X_upright_39 : decode prog_1_method_32_code 39 = .ok (.aload_n 0, 1) := by decide +kernel
theorem d_X_upright_40 : decode prog_1_method_32_code 40 = .ok (.getfield 56, 3) := by decide +kernel
theorem d_X_upright_43 : decode prog_1_method_32_code 43 = .ok (.aload_n 0, 1) := by decide +kernel
theorem d_X_upright_44 : decode prog_1_method_32_code 44 = .ok (.getfield 41, 3) := by decide +kernel
theorem d_X_upright_47 : decode prog_1_method_32_code 47 = .ok (.invokevirtual 252, 3) := by decide +kernel
theorem d_X_upright_50 : decode prog_1_method_32_code 50 = .ok (.iinc 3 1, 3) := by decide +kernel
theorem d_X_upright_53 : decode prog_1_method_32_code 53 = .ok (.goto (-19), 3) := by decide +kernel
theorem d_X_upright_56 : decode prog_1_method_32_code 56 = .ok (.iconst 0, 1) := by decide +kernel
theorem d_X_upright_57 : decode prog_1_method_32_code 57 = .ok (.istore_n 3, 1) := by decide +kernel
theorem d_X_upright_58 : decode prog_1_method_32_code 58 = .ok (.iconst 0, 1) := by decide +kernel
theorem d_X_upright_59 : decode prog_1_method_32_code 59 = .ok (.istore 4, 2) := by decide +kernel
theorem d_X_upright_61 : decode prog_1_method_32_code 61 = .ok (.iload 4, 2) := by decide +kernel
theorem d_X_upright_63 : decode prog_1_method_32_code 63 = .ok (.aload_n 0, 1) := by decide +kernel
theorem d_X_upright_64 : decode prog_1_method_32_code 64 = .ok (.getfield 19, 3) := by decide +kernel
theorem d_X_upright_67 : decode prog_1_method_32_code 67 = .ok (.getfield 218, 3) := by decide +kernel
theorem d_X_upright_70 : decode prog_1_method_32_code 70 = .ok (.if_icmp .ge 34, 3) := by decide +kernel
theorem d_X_upright_73 : decode prog_1_method_32_code 73 = .ok (.iload_n 3, 1) := by decide +kernel
theorem d_X_upright_74 : decode prog_1_method_32_code 74 = .ok (.aload_n 0, 1) := by decide +kernel
theorem d_X_upright_75 : decode prog_1_method_32_code 75 = .ok (.getfield 41, 3) := by decide +kernel
theorem d_X_upright_78 : decode prog_1_method_32_code 78 = .ok (.getfield 154, 3) := by decide +kernel
theorem d_X_upright_81 : decode prog_1_method_32_code 81 = .ok (.iload 4, 2) := by decide +kernel
theorem d_X_upright_83 : decode prog_1_method_32_code 83 = .ok (.iaload, 1) := by decide +kernel
theorem d_X_upright_84 : decode prog_1_method_32_code 84 = .ok (.iload_n 2, 1) := by decide +kernel
theorem d_X_upright_85 : decode prog_1_method_32_code 85 = .ok (.if_icmp .ge 10, 3) := by decide +kernel
theorem d_X_upright_88 : decode prog_1_method_32_code 88 = .ok (.iconst 1, 1) := by decide +kernel
theorem d_X_upright_89 : decode prog_1_method_32_code 89 = .ok (.iload 4, 2) := by decide +kernel
theorem d_X_upright_91 : decode prog_1_method_32_code 91 = .ok (.ishl, 1) := by decide +kernel
theorem d_X_upright_92 : decode prog_1_method_32_code 92 = .ok (.goto 4, 3) := by decide +kernel
theorem d_X_upright_95 : decode prog_1_method_32_code 95 = .ok (.iconst 0, 1) := by decide +kernel
theorem d_X_upright_96 : decode prog_1_method_32_code 96 = .ok (.ior, 1) := by decide +kernel
theorem d_X_upright_97 : decode prog_1_method_32_code 97 = .ok (.istore_n 3, 1) := by decide +kernel
theorem d_X_upright_98 : decode prog_1_method_32_code 98 = .ok (.iinc 4 1, 3) := by decide +kernel
theorem d_X_upright_101 : decode prog_1_method_32_code 101 = .ok (.goto (-40), 3) := by decide +kernel
theorem d_X_upright_104 : decode prog_1_method_32_code 104 = .ok (.iload_n 3, 1) := by decide +kernel
theorem d_X_upright_105 : decode prog_1_method_32_code 105 = .ok (.ireturn, 1) := by decide +kernel
theorem d_X_holder_0 : decode prog_1_method_33_code 0 = .ok (.iconst 0, 1) := by decide +kernel
theorem d_X_holder_1 : decode prog_1_method_33_code 1 = .ok (.istore_n 2, 1) := by decide +kernel
theorem d_X_holder_2 : decode prog_1_method_33_code 2 = .ok (.iload_n 2, 1) := by decide +kernel
theorem d_X_holder_3 : decode prog_1_method_33_code 3 = .ok (.aload_n 0, 1) := by decide +kernel
theorem d_X_holder_4 : decode prog_1_method_33_code 4 = .ok (.getfield 19, 3) := by decide +kernel
theorem d_X_holder_7 : decode prog_1_method_33_code 7 = .ok (.getfield 218, 3) := by decide +kernel
theorem d_X_holder_10 : decode prog_1_method_33_code 10 = .ok (.if_icmp .ge 24, 3) := by decide +kernel
theorem d_X_holder_13 : decode prog_1_method_33_code 13 = .ok (.aload_n 0, 1) := by decide +kernel
theorem d_X_holder_14 : decode prog_1_method_33_code 14 = .ok (.getfield 37, 3) := by decide +kernel
theorem d_X_holder_17 : decode prog_1_method_33_code 17 = .ok (.getfield 151, 3) := by decide +kernel
theorem d_X_holder_20 : decode prog_1_method_33_code 20 = .ok (.iload_n 2, 1) := by decide +kernel
theorem d_X_holder_21 : decode prog_1_method_33_code 21 = .ok (.iaload, 1) := by decide +kernel
theorem d_X_holder_22 : decode prog_1_method_33_code 22 = .ok (.iload_n 1, 1) := by decide +kernel
theorem d_X_holder_23 : decode prog_1_method_33_code 23 = .ok (.if_icmp .ne 5, 3) := by decide +kernel
theorem d_X_holder_26 : decode prog_1_method_33_code 26 = .ok (.iload_n 2, 1) := by decide +kernel
theorem d_X_holder_27 : decode prog_1_method_33_code 27 = .ok (.ireturn, 1) := by decide +kernel
theorem d_X_holder_28 : decode prog_1_method_33_code 28 = .ok (.iinc 2 1, 3) := by decide +kernel
theorem d_X_holder_31 : decode prog_1_method_33_code 31 = .ok (.goto (-29), 3) := by decide +kernel
theorem d_X_holder_34 : decode prog_1_method_33_code 34 = .ok (.iconst (-1), 1) := by decide +kernel
theorem d_X_holder_35 : decode prog_1_method_33_code 35 = .ok (.ireturn, 1) := by decide +kernel
theorem d_X_free_0 : decode prog_1_method_34_code 0 = .ok (.bipush (-2), 2) := by decide +kernel
theorem d_X_free_2 : decode prog_1_method_34_code 2 = .ok (.istore_n 2, 1) := by decide +kernel
theorem d_X_free_3 : decode prog_1_method_34_code 3 = .ok (.bipush (-2), 2) := by decide +kernel
theorem d_X_free_5 : decode prog_1_method_34_code 5 = .ok (.istore_n 3, 1) := by decide +kernel
theorem d_X_free_6 : decode prog_1_method_34_code 6 = .ok (.iconst 0, 1) := by decide +kernel
theorem d_X_free_7 : decode prog_1_method_34_code 7 = .ok (.istore 4, 2) := by decide +kernel
theorem d_X_free_9 : decode prog_1_method_34_code 9 = .ok (.iload 4, 2) := by decide +kernel
theorem d_X_free_11 : decode prog_1_method_34_code 11 = .ok (.aload_n 0, 1) := by decide +kernel
theorem d_X_free_12 : decode prog_1_method_34_code 12 = .ok (.getfield 19, 3) := by decide +kernel
theorem d_X_free_15 : decode prog_1_method_34_code 15 = .ok (.getfield 238, 3) := by decide +kernel
theorem d_X_free_18 : decode prog_1_method_34_code 18 = .ok (.if_icmp .ge 49, 3) := by decide +kernel
theorem d_X_free_21 : decode prog_1_method_34_code 21 = .ok (.aload_n 0, 1) := by decide +kernel
theorem d_X_free_22 : decode prog_1_method_34_code 22 = .ok (.getfield 37, 3) := by decide +kernel
theorem d_X_free_25 : decode prog_1_method_34_code 25 = .ok (.iload 4, 2) := by decide +kernel
theorem d_X_free_27 : decode prog_1_method_34_code 27 = .ok (.invokevirtual 170, 3) := by decide +kernel
theorem d_X_free_30 : decode prog_1_method_34_code 30 = .ok (.ifCond .ne 31, 3) := by decide +kernel
theorem d_X_free_33 : decode prog_1_method_34_code 33 = .ok (.aload_n 0, 1) := by decide +kernel
theorem d_X_free_34 : decode prog_1_method_34_code 34 = .ok (.getfield 19, 3) := by decide +kernel
theorem d_X_free_37 : decode prog_1_method_34_code 37 = .ok (.getfield 129, 3) := by decide +kernel
theorem d_X_free_40 : decode prog_1_method_34_code 40 = .ok (.iload 4, 2) := by decide +kernel
theorem d_X_free_42 : decode prog_1_method_34_code 42 = .ok (.iaload, 1) := by decide +kernel
theorem d_X_free_43 : decode prog_1_method_34_code 43 = .ok (.iload_n 3, 1) := by decide +kernel
theorem d_X_free_44 : decode prog_1_method_34_code 44 = .ok (.if_icmp .le 17, 3) := by decide +kernel
theorem d_X_free_47 : decode prog_1_method_34_code 47 = .ok (.iload 4, 2) := by decide +kernel
theorem d_X_free_49 : decode prog_1_method_34_code 49 = .ok (.istore_n 2, 1) := by decide +kernel
theorem d_X_free_50 : decode prog_1_method_34_code 50 = .ok (.aload_n 0, 1) := by decide +kernel
theorem d_X_free_51 : decode prog_1_method_34_code 51 = .ok (.getfield 19, 3) := by decide +kernel
theorem d_X_free_54 : decode prog_1_method_34_code 54 = .ok (.getfield 129, 3) := by decide +kernel
theorem d_X_free_57 : decode prog_1_method_34_code 57 = .ok (.iload 4, 2) := by decide +kernel
theorem d_X_free_59 : decode prog_1_method_34_code 59 = .ok (.iaload, 1) := by decide +kernel
theorem d_X_free_60 : decode prog_1_method_34_code 60 = .ok (.istore_n 3, 1) := by decide +kernel
theorem d_X_free_61 : decode prog_1_method_34_code 61 = .ok (.iinc 4 1, 3) := by decide +kernel
theorem d_X_free_64 : decode prog_1_method_34_code 64 = .ok (.goto (-55), 3) := by decide +kernel
theorem d_X_free_67 : decode prog_1_method_34_code 67 = .ok (.iload_n 1, 1) := by decide +kernel
theorem d_X_free_68 : decode prog_1_method_34_code 68 = .ok (.lookupswitch 32 #[(0, 28), (1, 30)], 28) := by decide +kernel
theorem d_X_free_96 : decode prog_1_method_34_code 96 = .ok (.iload_n 2, 1) := by decide +kernel
theorem d_X_free_97 : decode prog_1_method_34_code 97 = .ok (.ireturn, 1) := by decide +kernel
theorem d_X_free_98 : decode prog_1_method_34_code 98 = .ok (.iload_n 3, 1) := by decide +kernel
theorem d_X_free_99 : decode prog_1_method_34_code 99 = .ok (.ireturn, 1) := by decide +kernel
theorem d_X_free_100 : decode prog_1_method_34_code 100 = .ok (.iconst (-1), 1) := by decide +kernel
theorem d_X_free_101 : decode prog_1_method_34_code 101 = .ok (.ireturn, 1) := by decide +kernel
theorem d_X_day_0 : decode prog_1_method_35_code 0 = .ok (.aload_n 0, 1) := by decide +kernel
theorem d_X_day_1 : decode prog_1_method_35_code 1 = .ok (.iload_n 1, 1) := by decide +kernel
theorem d_X_day_2 : decode prog_1_method_35_code 2 = .ok (.invokevirtual 139, 3) := by decide +kernel
theorem d_X_day_5 : decode prog_1_method_35_code 5 = .ok (.ifCond .ne 5, 3) := by decide +kernel
theorem d_X_day_8 : decode prog_1_method_35_code 8 = .ok (.iconst (-1), 1) := by decide +kernel
theorem d_X_day_9 : decode prog_1_method_35_code 9 = .ok (.ireturn, 1) := by decide +kernel
theorem d_X_day_10 : decode prog_1_method_35_code 10 = .ok (.aload_n 0, 1) := by decide +kernel
theorem d_X_day_11 : decode prog_1_method_35_code 11 = .ok (.getfield 41, 3) := by decide +kernel
theorem d_X_day_14 : decode prog_1_method_35_code 14 = .ok (.aload_n 0, 1) := by decide +kernel
theorem d_X_day_15 : decode prog_1_method_35_code 15 = .ok (.getfield 37, 3) := by decide +kernel
theorem d_X_day_18 : decode prog_1_method_35_code 18 = .ok (.invokevirtual 227, 3) := by decide +kernel
theorem d_X_day_21 : decode prog_1_method_35_code 21 = .ok (.iconst 0, 1) := by decide +kernel
theorem d_X_day_22 : decode prog_1_method_35_code 22 = .ok (.istore_n 2, 1) := by decide +kernel
theorem d_X_day_23 : decode prog_1_method_35_code 23 = .ok (.iload_n 2, 1) := by decide +kernel
theorem d_X_day_24 : decode prog_1_method_35_code 24 = .ok (.sipush 240, 3) := by decide +kernel
theorem d_X_day_27 : decode prog_1_method_35_code 27 = .ok (.if_icmp .gt 35, 3) := by decide +kernel
theorem d_X_day_30 : decode prog_1_method_35_code 30 = .ok (.aload_n 0, 1) := by decide +kernel
theorem d_X_day_31 : decode prog_1_method_35_code 31 = .ok (.getfield 41, 3) := by decide +kernel
theorem d_X_day_34 : decode prog_1_method_35_code 34 = .ok (.getfield 151, 3) := by decide +kernel
theorem d_X_day_37 : decode prog_1_method_35_code 37 = .ok (.iload_n 1, 1) := by decide +kernel
theorem d_X_day_38 : decode prog_1_method_35_code 38 = .ok (.iaload, 1) := by decide +kernel
theorem d_X_day_39 : decode prog_1_method_35_code 39 = .ok (.iload_n 1, 1) := by decide +kernel
theorem d_X_day_40 : decode prog_1_method_35_code 40 = .ok (.if_icmp .ne 5, 3) := by decide +kernel
theorem d_X_day_43 : decode prog_1_method_35_code 43 = .ok (.iload_n 2, 1) := by decide +kernel
theorem d_X_day_44 : decode prog_1_method_35_code 44 = .ok (.ireturn, 1) := by decide +kernel
theorem d_X_day_45 : decode prog_1_method_35_code 45 = .ok (.aload_n 0, 1) := by decide +kernel
theorem d_X_day_46 : decode prog_1_method_35_code 46 = .ok (.getfield 56, 3) := by decide +kernel
theorem d_X_day_49 : decode prog_1_method_35_code 49 = .ok (.aload_n 0, 1) := by decide +kernel
theorem d_X_day_50 : decode prog_1_method_35_code 50 = .ok (.getfield 41, 3) := by decide +kernel
theorem d_X_day_53 : decode prog_1_method_35_code 53 = .ok (.invokevirtual 232, 3) := by decide +kernel
theorem d_X_day_56 : decode prog_1_method_35_code 56 = .ok (.iinc 2 1, 3) := by decide +kernel
theorem d_X_day_59 : decode prog_1_method_35_code 59 = .ok (.goto (-36), 3) := by decide +kernel
theorem d_X_day_62 : decode prog_1_method_35_code 62 = .ok (.bipush (-2), 2) := by decide +kernel
theorem d_X_day_64 : decode prog_1_method_35_code 64 = .ok (.ireturn, 1) := by decide +kernel
theorem d_X_then_0 : decode prog_1_method_36_code 0 = .ok (.aload_n 0, 1) := by decide +kernel
theorem d_X_then_1 : decode prog_1_method_36_code 1 = .ok (.iload_n 1, 1) := by decide +kernel
theorem d_X_then_2 : decode prog_1_method_36_code 2 = .ok (.invokevirtual 139, 3) := by decide +kernel
theorem d_X_then_5 : decode prog_1_method_36_code 5 = .ok (.ifCond .eq 19, 3) := by decide +kernel
theorem d_X_then_8 : decode prog_1_method_36_code 8 = .ok (.iload_n 2, 1) := by decide +kernel
theorem d_X_then_9 : decode prog_1_method_36_code 9 = .ok (.invokestatic 181, 3) := by decide +kernel
theorem d_X_then_12 : decode prog_1_method_36_code 12 = .ok (.ifCond .eq 12, 3) := by decide +kernel
theorem d_X_then_15 : decode prog_1_method_36_code 15 = .ok (.iload_n 3, 1) := by decide +kernel
theorem d_X_then_16 : decode prog_1_method_36_code 16 = .ok (.ifCond .lt 8, 3) := by decide +kernel
theorem d_X_then_19 : decode prog_1_method_36_code 19 = .ok (.iload_n 3, 1) := by decide +kernel
theorem d_X_then_20 : decode prog_1_method_36_code 20 = .ok (.iconst 2, 1) := by decide +kernel
theorem d_X_then_21 : decode prog_1_method_36_code 21 = .ok (.if_icmp .le 5, 3) := by decide +kernel
theorem d_X_then_24 : decode prog_1_method_36_code 24 = .ok (.iconst (-1), 1) := by decide +kernel
theorem d_X_then_25 : decode prog_1_method_36_code 25 = .ok (.ireturn, 1) := by decide +kernel
theorem d_X_then_26 : decode prog_1_method_36_code 26 = .ok (.aload_n 0, 1) := by decide +kernel
theorem d_X_then_27 : decode prog_1_method_36_code 27 = .ok (.getfield 41, 3) := by decide +kernel
theorem d_X_then_30 : decode prog_1_method_36_code 30 = .ok (.aload_n 0, 1) := by decide +kernel
theorem d_X_then_31 : decode prog_1_method_36_code 31 = .ok (.getfield 37, 3) := by decide +kernel
theorem d_X_then_34 : decode prog_1_method_36_code 34 = .ok (.invokevirtual 227, 3) := by decide +kernel
theorem d_X_then_37 : decode prog_1_method_36_code 37 = .ok (.aload_n 0, 1) := by decide +kernel
theorem d_X_then_38 : decode prog_1_method_36_code 38 = .ok (.getfield 56, 3) := by decide +kernel
theorem d_X_then_41 : decode prog_1_method_36_code 41 = .ok (.aload_n 0, 1) := by decide +kernel
theorem d_X_then_42 : decode prog_1_method_36_code 42 = .ok (.getfield 41, 3) := by decide +kernel
theorem d_X_then_45 : decode prog_1_method_36_code 45 = .ok (.iload_n 2, 1) := by decide +kernel
theorem d_X_then_46 : decode prog_1_method_36_code 46 = .ok (.aload_n 0, 1) := by decide +kernel
theorem d_X_then_47 : decode prog_1_method_36_code 47 = .ok (.getfield 19, 3) := by decide +kernel
theorem d_X_then_50 : decode prog_1_method_36_code 50 = .ok (.getfield 184, 3) := by decide +kernel
theorem d_X_then_53 : decode prog_1_method_36_code 53 = .ok (.invokevirtual 187, 3) := by decide +kernel
theorem d_X_then_56 : decode prog_1_method_36_code 56 = .ok (.iload_n 3, 1) := by decide +kernel
theorem d_X_then_57 : decode prog_1_method_36_code 57 = .ok (.lookupswitch 47 #[(0, 27), (1, 37)], 27) := by decide +kernel
theorem d_X_then_84 : decode prog_1_method_36_code 84 = .ok (.aload_n 0, 1) := by decide +kernel
theorem d_X_then_85 : decode prog_1_method_36_code 85 = .ok (.getfield 41, 3) := by decide +kernel
theorem d_X_then_88 : decode prog_1_method_36_code 88 = .ok (.getfield 151, 3) := by decide +kernel
theorem d_X_then_91 : decode prog_1_method_36_code 91 = .ok (.iload_n 1, 1) := by decide +kernel
theorem d_X_then_92 : decode prog_1_method_36_code 92 = .ok (.iaload, 1) := by decide +kernel
theorem d_X_then_93 : decode prog_1_method_36_code 93 = .ok (.ireturn, 1) := by decide +kernel
theorem d_X_then_94 : decode prog_1_method_36_code 94 = .ok (.aload_n 0, 1) := by decide +kernel
theorem d_X_then_95 : decode prog_1_method_36_code 95 = .ok (.getfield 41, 3) := by decide +kernel
theorem d_X_then_98 : decode prog_1_method_36_code 98 = .ok (.getfield 154, 3) := by decide +kernel
theorem d_X_then_101 : decode prog_1_method_36_code 101 = .ok (.iload_n 1, 1) := by decide +kernel
theorem d_X_then_102 : decode prog_1_method_36_code 102 = .ok (.iaload, 1) := by decide +kernel
theorem d_X_then_103 : decode prog_1_method_36_code 103 = .ok (.ireturn, 1) := by decide +kernel
theorem d_X_then_104 : decode prog_1_method_36_code 104 = .ok (.aload_n 0, 1) := by decide +kernel
theorem d_X_then_105 : decode prog_1_method_36_code 105 = .ok (.getfield 41, 3) := by decide +kernel
theorem d_X_then_108 : decode prog_1_method_36_code 108 = .ok (.getfield 148, 3) := by decide +kernel
theorem d_X_then_111 : decode prog_1_method_36_code 111 = .ok (.iload_n 1, 1) := by decide +kernel
theorem d_X_then_112 : decode prog_1_method_36_code 112 = .ok (.iaload, 1) := by decide +kernel
theorem d_X_then_113 : decode prog_1_method_36_code 113 = .ok (.ireturn, 1) := by decide +kernel
theorem d_X_bentIn_0 : decode prog_1_method_37_code 0 = .ok (.aload_n 0, 1) := by decide +kernel
theorem d_X_bentIn_1 : decode prog_1_method_37_code 1 = .ok (.iload_n 1, 1) := by decide +kernel
theorem d_X_bentIn_2 : decode prog_1_method_37_code 2 = .ok (.invokevirtual 122, 3) := by decide +kernel
theorem d_X_bentIn_5 : decode prog_1_method_37_code 5 = .ok (.ifCond .eq 10, 3) := by decide +kernel
theorem d_X_bentIn_8 : decode prog_1_method_37_code 8 = .ok (.iload_n 2, 1) := by decide +kernel
theorem d_X_bentIn_9 : decode prog_1_method_37_code 9 = .ok (.invokestatic 181, 3) := by decide +kernel
theorem d_X_bentIn_12 : decode prog_1_method_37_code 12 = .ok (.ifCond .ne 5, 3) := by decide +kernel
theorem d_X_bentIn_15 : decode prog_1_method_37_code 15 = .ok (.iconst (-1), 1) := by decide +kernel
theorem d_X_bentIn_16 : decode prog_1_method_37_code 16 = .ok (.ireturn, 1) := by decide +kernel
theorem d_X_bentIn_17 : decode prog_1_method_37_code 17 = .ok (.aload_n 0, 1) := by decide +kernel
theorem d_X_bentIn_18 : decode prog_1_method_37_code 18 = .ok (.getfield 41, 3) := by decide +kernel
theorem d_X_bentIn_21 : decode prog_1_method_37_code 21 = .ok (.aload_n 0, 1) := by decide +kernel
theorem d_X_bentIn_22 : decode prog_1_method_37_code 22 = .ok (.getfield 37, 3) := by decide +kernel
theorem d_X_bentIn_25 : decode prog_1_method_37_code 25 = .ok (.invokevirtual 227, 3) := by decide +kernel
theorem d_X_bentIn_28 : decode prog_1_method_37_code 28 = .ok (.aload_n 0, 1) := by decide +kernel
theorem d_X_bentIn_29 : decode prog_1_method_37_code 29 = .ok (.getfield 56, 3) := by decide +kernel
theorem d_X_bentIn_32 : decode prog_1_method_37_code 32 = .ok (.aload_n 0, 1) := by decide +kernel
theorem d_X_bentIn_33 : decode prog_1_method_37_code 33 = .ok (.getfield 41, 3) := by decide +kernel
theorem d_X_bentIn_36 : decode prog_1_method_37_code 36 = .ok (.iload_n 2, 1) := by decide +kernel
theorem d_X_bentIn_37 : decode prog_1_method_37_code 37 = .ok (.aload_n 0, 1) := by decide +kernel
theorem d_X_bentIn_38 : decode prog_1_method_37_code 38 = .ok (.getfield 19, 3) := by decide +kernel
theorem d_X_bentIn_41 : decode prog_1_method_37_code 41 = .ok (.getfield 184, 3) := by decide +kernel
theorem d_X_bentIn_44 : decode prog_1_method_37_code 44 = .ok (.invokevirtual 187, 3) := by decide +kernel
theorem d_X_bentIn_47 : decode prog_1_method_37_code 47 = .ok (.aload_n 0, 1) := by decide +kernel
theorem d_X_bentIn_48 : decode prog_1_method_37_code 48 = .ok (.getfield 41, 3) := by decide +kernel
theorem d_X_bentIn_51 : decode prog_1_method_37_code 51 = .ok (.getfield 132, 3) := by decide +kernel
theorem d_X_bentIn_54 : decode prog_1_method_37_code 54 = .ok (.iload_n 1, 1) := by decide +kernel
theorem d_X_bentIn_55 : decode prog_1_method_37_code 55 = .ok (.iaload, 1) := by decide +kernel
theorem d_X_bentIn_56 : decode prog_1_method_37_code 56 = .ok (.ireturn, 1) := by decide +kernel
theorem d_X_year_0 : decode prog_1_method_38_code 0 = .ok (.aload_n 0, 1) := by decide +kernel
theorem d_X_year_1 : decode prog_1_method_38_code 1 = .ok (.iload_n 1, 1) := by decide +kernel
theorem d_X_year_2 : decode prog_1_method_38_code 2 = .ok (.invokevirtual 139, 3) := by decide +kernel
theorem d_X_year_5 : decode prog_1_method_38_code 5 = .ok (.ifCond .eq 21, 3) := by decide +kernel
theorem d_X_year_8 : decode prog_1_method_38_code 8 = .ok (.iload_n 2, 1) := by decide +kernel
theorem d_X_year_9 : decode prog_1_method_38_code 9 = .ok (.invokestatic 181, 3) := by decide +kernel
theorem d_X_year_12 : decode prog_1_method_38_code 12 = .ok (.ifCond .eq 14, 3) := by decide +kernel
theorem d_X_year_15 : decode prog_1_method_38_code 15 = .ok (.iload_n 3, 1) := by decide +kernel
theorem d_X_year_16 : decode prog_1_method_38_code 16 = .ok (.iconst 1, 1) := by decide +kernel
theorem d_X_year_17 : decode prog_1_method_38_code 17 = .ok (.if_icmp .lt 9, 3) := by decide +kernel
theorem d_X_year_20 : decode prog_1_method_38_code 20 = .ok (.iload_n 3, 1) := by decide +kernel
theorem d_X_year_21 : decode prog_1_method_38_code 21 = .ok (.bipush 20, 2) := by decide +kernel
theorem d_X_year_23 : decode prog_1_method_38_code 23 = .ok (.if_icmp .le 5, 3) := by decide +kernel
theorem d_X_year_26 : decode prog_1_method_38_code 26 = .ok (.iconst (-1), 1) := by decide +kernel
theorem d_X_year_27 : decode prog_1_method_38_code 27 = .ok (.ireturn, 1) := by decide +kernel
theorem d_X_year_28 : decode prog_1_method_38_code 28 = .ok (.iconst 0, 1) := by decide +kernel
theorem d_X_year_29 : decode prog_1_method_38_code 29 = .ok (.istore 4, 2) := by decide +kernel
theorem d_X_year_31 : decode prog_1_method_38_code 31 = .ok (.iconst 0, 1) := by decide +kernel
theorem d_X_year_32 : decode prog_1_method_38_code 32 = .ok (.istore 5, 2) := by decide +kernel
theorem d_X_year_34 : decode prog_1_method_38_code 34 = .ok (.iload 5, 2) := by decide +kernel
theorem d_X_year_36 : decode prog_1_method_38_code 36 = .ok (.iload_n 3, 1) := by decide +kernel
theorem d_X_year_37 : decode prog_1_method_38_code 37 = .ok (.if_icmp .ge 56, 3) := by decide +kernel
theorem d_X_year_40 : decode prog_1_method_38_code 40 = .ok (.aload_n 0, 1) := by decide +kernel
theorem d_X_year_41 : decode prog_1_method_38_code 41 = .ok (.getfield 41, 3) := by decide +kernel
theorem d_X_year_44 : decode prog_1_method_38_code 44 = .ok (.aload_n 0, 1) := by decide +kernel
theorem d_X_year_45 : decode prog_1_method_38_code 45 = .ok (.getfield 37, 3) := by decide +kernel
theorem d_X_year_48 : decode prog_1_method_38_code 48 = .ok (.invokevirtual 227, 3) := by decide +kernel
theorem d_X_year_51 : decode prog_1_method_38_code 51 = .ok (.iload 4, 2) := by decide +kernel
theorem d_X_year_53 : decode prog_1_method_38_code 53 = .ok (.aload_n 0, 1) := by decide +kernel
theorem d_X_year_54 : decode prog_1_method_38_code 54 = .ok (.getfield 56, 3) := by decide +kernel
theorem d_X_year_57 : decode prog_1_method_38_code 57 = .ok (.aload_n 0, 1) := by decide +kernel
theorem d_X_year_58 : decode prog_1_method_38_code 58 = .ok (.getfield 41, 3) := by decide +kernel
theorem d_X_year_61 : decode prog_1_method_38_code 61 = .ok (.iload_n 2, 1) := by decide +kernel
theorem d_X_year_62 : decode prog_1_method_38_code 62 = .ok (.aload_n 0, 1) := by decide +kernel
theorem d_X_year_63 : decode prog_1_method_38_code 63 = .ok (.getfield 19, 3) := by decide +kernel
theorem d_X_year_66 : decode prog_1_method_38_code 66 = .ok (.getfield 184, 3) := by decide +kernel
theorem d_X_year_69 : decode prog_1_method_38_code 69 = .ok (.iload 5, 2) := by decide +kernel
theorem d_X_year_71 : decode prog_1_method_38_code 71 = .ok (.iadd, 1) := by decide +kernel
theorem d_X_year_72 : decode prog_1_method_38_code 72 = .ok (.iload_n 1, 1) := by decide +kernel
theorem d_X_year_73 : decode prog_1_method_38_code 73 = .ok (.invokevirtual 262, 3) := by decide +kernel
theorem d_X_year_76 : decode prog_1_method_38_code 76 = .ok (.ifCond .eq 7, 3) := by decide +kernel
theorem d_X_year_79 : decode prog_1_method_38_code 79 = .ok (.iconst 1, 1) := by decide +kernel
theorem d_X_year_80 : decode prog_1_method_38_code 80 = .ok (.goto 4, 3) := by decide +kernel
theorem d_X_year_83 : decode prog_1_method_38_code 83 = .ok (.iconst 0, 1) := by decide +kernel
theorem d_X_year_84 : decode prog_1_method_38_code 84 = .ok (.iadd, 1) := by decide +kernel
theorem d_X_year_85 : decode prog_1_method_38_code 85 = .ok (.istore 4, 2) := by decide +kernel
theorem d_X_year_87 : decode prog_1_method_38_code 87 = .ok (.iinc 5 1, 3) := by decide +kernel
theorem d_X_year_90 : decode prog_1_method_38_code 90 = .ok (.goto (-56), 3) := by decide +kernel
theorem d_X_year_93 : decode prog_1_method_38_code 93 = .ok (.iload 4, 2) := by decide +kernel
theorem d_X_year_95 : decode prog_1_method_38_code 95 = .ok (.ireturn, 1) := by decide +kernel
theorem d_X_tell_0 : decode prog_1_method_39_code 0 = .ok (.aload_n 0, 1) := by decide +kernel
theorem d_X_tell_1 : decode prog_1_method_39_code 1 = .ok (.iload_n 1, 1) := by decide +kernel
theorem d_X_tell_2 : decode prog_1_method_39_code 2 = .ok (.invokevirtual 139, 3) := by decide +kernel
theorem d_X_tell_5 : decode prog_1_method_39_code 5 = .ok (.ifCond .eq 21, 3) := by decide +kernel
theorem d_X_tell_8 : decode prog_1_method_39_code 8 = .ok (.aload_n 0, 1) := by decide +kernel
theorem d_X_tell_9 : decode prog_1_method_39_code 9 = .ok (.iload_n 2, 1) := by decide +kernel
theorem d_X_tell_10 : decode prog_1_method_39_code 10 = .ok (.invokevirtual 139, 3) := by decide +kernel
theorem d_X_tell_13 : decode prog_1_method_39_code 13 = .ok (.ifCond .eq 13, 3) := by decide +kernel
theorem d_X_tell_16 : decode prog_1_method_39_code 16 = .ok (.aload_n 0, 1) := by decide +kernel
theorem d_X_tell_17 : decode prog_1_method_39_code 17 = .ok (.getfield 72, 3) := by decide +kernel
theorem d_X_tell_20 : decode prog_1_method_39_code 20 = .ok (.invokevirtual 266, 3) := by decide +kernel
theorem d_X_tell_23 : decode prog_1_method_39_code 23 = .ok (.ifCond .ne 5, 3) := by decide +kernel
theorem d_X_tell_26 : decode prog_1_method_39_code 26 = .ok (.iconst (-1), 1) := by decide +kernel
theorem d_X_tell_27 : decode prog_1_method_39_code 27 = .ok (.ireturn, 1) := by decide +kernel
theorem d_X_tell_28 : decode prog_1_method_39_code 28 = .ok (.aload_n 0, 1) := by decide +kernel
theorem d_X_tell_29 : decode prog_1_method_39_code 29 = .ok (.getfield 72, 3) := by decide +kernel
theorem d_X_tell_32 : decode prog_1_method_39_code 32 = .ok (.iload_n 1, 1) := by decide +kernel
theorem d_X_tell_33 : decode prog_1_method_39_code 33 = .ok (.iload_n 2, 1) := by decide +kernel
theorem d_X_tell_34 : decode prog_1_method_39_code 34 = .ok (.iload_n 3, 1) := by decide +kernel
theorem d_X_tell_35 : decode prog_1_method_39_code 35 = .ok (.invokevirtual 270, 3) := by decide +kernel
theorem d_X_tell_38 : decode prog_1_method_39_code 38 = .ok (.ireturn, 1) := by decide +kernel
theorem d_X_forget_0 : decode prog_1_method_40_code 0 = .ok (.aload_n 0, 1) := by decide +kernel
theorem d_X_forget_1 : decode prog_1_method_40_code 1 = .ok (.getfield 72, 3) := by decide +kernel
theorem d_X_forget_4 : decode prog_1_method_40_code 4 = .ok (.getfield 118, 3) := by decide +kernel
theorem d_X_forget_7 : decode prog_1_method_40_code 7 = .ok (.istore_n 1, 1) := by decide +kernel
theorem d_X_forget_8 : decode prog_1_method_40_code 8 = .ok (.aload_n 0, 1) := by decide +kernel
theorem d_X_forget_9 : decode prog_1_method_40_code 9 = .ok (.getfield 72, 3) := by decide +kernel
theorem d_X_forget_12 : decode prog_1_method_40_code 12 = .ok (.iconst 0, 1) := by decide +kernel
theorem d_X_forget_13 : decode prog_1_method_40_code 13 = .ok (.putfield 118, 3) := by decide +kernel
theorem d_X_forget_16 : decode prog_1_method_40_code 16 = .ok (.iload_n 1, 1) := by decide +kernel
theorem d_X_forget_17 : decode prog_1_method_40_code 17 = .ok (.ireturn, 1) := by decide +kernel
theorem d_X_isKnown_0 : decode prog_1_method_48_code 0 = .ok (.iload_n 1, 1) := by decide +kernel
theorem d_X_isKnown_1 : decode prog_1_method_48_code 1 = .ok (.ifCond .lt 18, 3) := by decide +kernel
theorem d_X_isKnown_4 : decode prog_1_method_48_code 4 = .ok (.iload_n 1, 1) := by decide +kernel
theorem d_X_isKnown_5 : decode prog_1_method_48_code 5 = .ok (.aload_n 0, 1) := by decide +kernel
theorem d_X_isKnown_6 : decode prog_1_method_48_code 6 = .ok (.getfield 72, 3) := by decide +kernel
theorem d_X_isKnown_9 : decode prog_1_method_48_code 9 = .ok (.getfield 118, 3) := by decide +kernel
theorem d_X_isKnown_12 : decode prog_1_method_48_code 12 = .ok (.if_icmp .gt 7, 3) := by decide +kernel
theorem d_X_isKnown_15 : decode prog_1_method_48_code 15 = .ok (.iconst 1, 1) := by decide +kernel
theorem d_X_isKnown_16 : decode prog_1_method_48_code 16 = .ok (.goto 4, 3) := by decide +kernel
theorem d_X_isKnown_19 : decode prog_1_method_48_code 19 = .ok (.iconst 0, 1) := by decide +kernel
theorem d_X_isKnown_20 : decode prog_1_method_48_code 20 = .ok (.ireturn, 1) := by decide +kernel
theorem d_X_two_0 : decode prog_1_method_41_code 0 = .ok (.aload_n 0, 1) := by decide +kernel
theorem d_X_two_1 : decode prog_1_method_41_code 1 = .ok (.iload_n 1, 1) := by decide +kernel
theorem d_X_two_2 : decode prog_1_method_41_code 2 = .ok (.invokevirtual 274, 3) := by decide +kernel
theorem d_X_two_5 : decode prog_1_method_41_code 5 = .ok (.ifCond .eq 8, 3) := by decide +kernel
theorem d_X_two_8 : decode prog_1_method_41_code 8 = .ok (.iload_n 2, 1) := by decide +kernel
theorem d_X_two_9 : decode prog_1_method_41_code 9 = .ok (.iconst (-1), 1) := by decide +kernel
theorem d_X_two_10 : decode prog_1_method_41_code 10 = .ok (.if_icmp .ge 5, 3) := by decide +kernel
theorem d_X_two_13 : decode prog_1_method_41_code 13 = .ok (.iconst (-1), 1) := by decide +kernel
theorem d_X_two_14 : decode prog_1_method_41_code 14 = .ok (.ireturn, 1) := by decide +kernel
theorem d_X_two_15 : decode prog_1_method_41_code 15 = .ok (.iload_n 2, 1) := by decide +kernel
theorem d_X_two_16 : decode prog_1_method_41_code 16 = .ok (.iconst (-1), 1) := by decide +kernel
theorem d_X_two_17 : decode prog_1_method_41_code 17 = .ok (.if_icmp .ne 18, 3) := by decide +kernel
theorem d_X_two_20 : decode prog_1_method_41_code 20 = .ok (.aload_n 0, 1) := by decide +kernel
theorem d_X_two_21 : decode prog_1_method_41_code 21 = .ok (.getfield 72, 3) := by decide +kernel
theorem d_X_two_24 : decode prog_1_method_41_code 24 = .ok (.aload_n 0, 1) := by decide +kernel
theorem d_X_two_25 : decode prog_1_method_41_code 25 = .ok (.getfield 37, 3) := by decide +kernel
theorem d_X_two_28 : decode prog_1_method_41_code 28 = .ok (.iload_n 1, 1) := by decide +kernel
theorem d_X_two_29 : decode prog_1_method_41_code 29 = .ok (.invokevirtual 277, 3) := by decide +kernel
theorem d_X_two_32 : decode prog_1_method_41_code 32 = .ok (.goto 16, 3) := by decide +kernel
theorem d_X_two_35 : decode prog_1_method_41_code 35 = .ok (.aload_n 0, 1) := by decide +kernel
theorem d_X_two_36 : decode prog_1_method_41_code 36 = .ok (.getfield 72, 3) := by decide +kernel
theorem d_X_two_39 : decode prog_1_method_41_code 39 = .ok (.aload_n 0, 1) := by decide +kernel
theorem d_X_two_40 : decode prog_1_method_41_code 40 = .ok (.getfield 37, 3) := by decide +kernel
theorem d_X_two_43 : decode prog_1_method_41_code 43 = .ok (.iload_n 1, 1) := by decide +kernel
theorem d_X_two_44 : decode prog_1_method_41_code 44 = .ok (.iload_n 2, 1) := by decide +kernel
theorem d_X_two_45 : decode prog_1_method_41_code 45 = .ok (.invokevirtual 281, 3) := by decide +kernel
theorem d_X_two_48 : decode prog_1_method_41_code 48 = .ok (.ireturn, 1) := by decide +kernel
theorem d_X_ask_0 : decode prog_1_method_42_code 0 = .ok (.aload_n 0, 1) := by decide +kernel
theorem d_X_ask_1 : decode prog_1_method_42_code 1 = .ok (.iload_n 1, 1) := by decide +kernel
theorem d_X_ask_2 : decode prog_1_method_42_code 2 = .ok (.invokevirtual 274, 3) := by decide +kernel
theorem d_X_ask_5 : decode prog_1_method_42_code 5 = .ok (.ifCond .eq 18, 3) := by decide +kernel
theorem d_X_ask_8 : decode prog_1_method_42_code 8 = .ok (.aload_n 0, 1) := by decide +kernel
theorem d_X_ask_9 : decode prog_1_method_42_code 9 = .ok (.getfield 72, 3) := by decide +kernel
theorem d_X_ask_12 : decode prog_1_method_42_code 12 = .ok (.aload_n 0, 1) := by decide +kernel
theorem d_X_ask_13 : decode prog_1_method_42_code 13 = .ok (.getfield 37, 3) := by decide +kernel
theorem d_X_ask_16 : decode prog_1_method_42_code 16 = .ok (.iload_n 1, 1) := by decide +kernel
theorem d_X_ask_17 : decode prog_1_method_42_code 17 = .ok (.invokevirtual 284, 3) := by decide +kernel
theorem d_X_ask_20 : decode prog_1_method_42_code 20 = .ok (.goto 4, 3) := by decide +kernel
theorem d_X_ask_23 : decode prog_1_method_42_code 23 = .ok (.iconst (-1), 1) := by decide +kernel
theorem d_X_ask_24 : decode prog_1_method_42_code 24 = .ok (.ireturn, 1) := by decide +kernel
theorem d_X_isSlot_0 : decode prog_1_method_51_code 0 = .ok (.iload_n 0, 1) := by decide +kernel
theorem d_X_isSlot_1 : decode prog_1_method_51_code 1 = .ok (.ifCond .lt 12, 3) := by decide +kernel
theorem d_X_isSlot_4 : decode prog_1_method_51_code 4 = .ok (.iload_n 0, 1) := by decide +kernel
theorem d_X_isSlot_5 : decode prog_1_method_51_code 5 = .ok (.iconst 3, 1) := by decide +kernel
theorem d_X_isSlot_6 : decode prog_1_method_51_code 6 = .ok (.if_icmp .ge 7, 3) := by decide +kernel
theorem d_X_isSlot_9 : decode prog_1_method_51_code 9 = .ok (.iconst 1, 1) := by decide +kernel
theorem d_X_isSlot_10 : decode prog_1_method_51_code 10 = .ok (.goto 4, 3) := by decide +kernel
theorem d_X_isSlot_13 : decode prog_1_method_51_code 13 = .ok (.iconst 0, 1) := by decide +kernel
theorem d_X_isSlot_14 : decode prog_1_method_51_code 14 = .ok (.ireturn, 1) := by decide +kernel
theorem d_X_hold_0 : decode prog_1_method_43_code 0 = .ok (.iload_n 1, 1) := by decide +kernel
theorem d_X_hold_1 : decode prog_1_method_43_code 1 = .ok (.invokestatic 287, 3) := by decide +kernel
theorem d_X_hold_4 : decode prog_1_method_43_code 4 = .ok (.ifCond .ne 5, 3) := by decide +kernel
theorem d_X_hold_7 : decode prog_1_method_43_code 7 = .ok (.iconst 0, 1) := by decide +kernel
theorem d_X_hold_8 : decode prog_1_method_43_code 8 = .ok (.ireturn, 1) := by decide +kernel
theorem d_X_hold_9 : decode prog_1_method_43_code 9 = .ok (.aload_n 0, 1) := by decide +kernel
theorem d_X_hold_10 : decode prog_1_method_43_code 10 = .ok (.getfield 83, 3) := by decide +kernel
theorem d_X_hold_13 : decode prog_1_method_43_code 13 = .ok (.iload_n 1, 1) := by decide +kernel
theorem d_X_hold_14 : decode prog_1_method_43_code 14 = .ok (.aaload, 1) := by decide +kernel
theorem d_X_hold_15 : decode prog_1_method_43_code 15 = .ok (.aload_n 0, 1) := by decide +kernel
theorem d_X_hold_16 : decode prog_1_method_43_code 16 = .ok (.getfield 37, 3) := by decide +kernel
theorem d_X_hold_19 : decode prog_1_method_43_code 19 = .ok (.invokevirtual 227, 3) := by decide +kernel
theorem d_X_hold_22 : decode prog_1_method_43_code 22 = .ok (.aload_n 0, 1) := by decide +kernel
theorem d_X_hold_23 : decode prog_1_method_43_code 23 = .ok (.dup, 1) := by decide +kernel
theorem d_X_hold_24 : decode prog_1_method_43_code 24 = .ok (.getfield 87, 3) := by decide +kernel
theorem d_X_hold_27 : decode prog_1_method_43_code 27 = .ok (.iconst 1, 1) := by decide +kernel
theorem d_X_hold_28 : decode prog_1_method_43_code 28 = .ok (.iload_n 1, 1) := by decide +kernel
theorem d_X_hold_29 : decode prog_1_method_43_code 29 = .ok (.ishl, 1) := by decide +kernel
theorem d_X_hold_30 : decode prog_1_method_43_code 30 = .ok (.ior, 1) := by decide +kernel
theorem d_X_hold_31 : decode prog_1_method_43_code 31 = .ok (.putfield 87, 3) := by decide +kernel
theorem d_X_hold_34 : decode prog_1_method_43_code 34 = .ok (.iconst 1, 1) := by decide +kernel
theorem d_X_hold_35 : decode prog_1_method_43_code 35 = .ok (.ireturn, 1) := by decide +kernel
theorem d_X_restore_0 : decode prog_1_method_44_code 0 = .ok (.iload_n 1, 1) := by decide +kernel
theorem d_X_restore_1 : decode prog_1_method_44_code 1 = .ok (.invokestatic 287, 3) := by decide +kernel
theorem d_X_restore_4 : decode prog_1_method_44_code 4 = .ok (.ifCond .eq 14, 3) := by decide +kernel
theorem d_X_restore_7 : decode prog_1_method_44_code 7 = .ok (.aload_n 0, 1) := by decide +kernel
theorem d_X_restore_8 : decode prog_1_method_44_code 8 = .ok (.getfield 87, 3) := by decide +kernel
theorem d_X_restore_11 : decode prog_1_method_44_code 11 = .ok (.iconst 1, 1) := by decide +kernel
theorem d_X_restore_12 : decode prog_1_method_44_code 12 = .ok (.iload_n 1, 1) := by decide +kernel
theorem d_X_restore_13 : decode prog_1_method_44_code 13 = .ok (.ishl, 1) := by decide +kernel
theorem d_X_restore_14 : decode prog_1_method_44_code 14 = .ok (.iand, 1) := by decide +kernel
theorem d_X_restore_15 : decode prog_1_method_44_code 15 = .ok (.ifCond .ne 5, 3) := by decide +kernel
theorem d_X_restore_18 : decode prog_1_method_44_code 18 = .ok (.iconst 0, 1) := by decide +kernel
theorem d_X_restore_19 : decode prog_1_method_44_code 19 = .ok (.ireturn, 1) := by decide +kernel
theorem d_X_restore_20 : decode prog_1_method_44_code 20 = .ok (.aload_n 0, 1) := by decide +kernel
theorem d_X_restore_21 : decode prog_1_method_44_code 21 = .ok (.getfield 37, 3) := by decide +kernel
theorem d_X_restore_24 : decode prog_1_method_44_code 24 = .ok (.aload_n 0, 1) := by decide +kernel
theorem d_X_restore_25 : decode prog_1_method_44_code 25 = .ok (.getfield 83, 3) := by decide +kernel
theorem d_X_restore_28 : decode prog_1_method_44_code 28 = .ok (.iload_n 1, 1) := by decide +kernel
theorem d_X_restore_29 : decode prog_1_method_44_code 29 = .ok (.aaload, 1) := by decide +kernel
theorem d_X_restore_30 : decode prog_1_method_44_code 30 = .ok (.invokevirtual 227, 3) := by decide +kernel
theorem d_X_restore_33 : decode prog_1_method_44_code 33 = .ok (.aload_n 0, 1) := by decide +kernel
theorem d_X_restore_34 : decode prog_1_method_44_code 34 = .ok (.getfield 79, 3) := by decide +kernel
theorem d_X_restore_37 : decode prog_1_method_44_code 37 = .ok (.invokevirtual 115, 3) := by decide +kernel
theorem d_X_restore_40 : decode prog_1_method_44_code 40 = .ok (.iconst 1, 1) := by decide +kernel
theorem d_X_restore_41 : decode prog_1_method_44_code 41 = .ok (.ireturn, 1) := by decide +kernel
theorem d_X_sumOfFirst_0 : decode prog_1_method_52_code 0 = .ok (.iconst 0, 1) := by decide +kernel
theorem d_X_sumOfFirst_1 : decode prog_1_method_52_code 1 = .ok (.istore_n 2, 1) := by decide +kernel
theorem d_X_sumOfFirst_2 : decode prog_1_method_52_code 2 = .ok (.iconst 0, 1) := by decide +kernel
theorem d_X_sumOfFirst_3 : decode prog_1_method_52_code 3 = .ok (.istore_n 3, 1) := by decide +kernel
theorem d_X_sumOfFirst_4 : decode prog_1_method_52_code 4 = .ok (.iload_n 3, 1) := by decide +kernel
theorem d_X_sumOfFirst_5 : decode prog_1_method_52_code 5 = .ok (.iload_n 1, 1) := by decide +kernel
theorem d_X_sumOfFirst_6 : decode prog_1_method_52_code 6 = .ok (.if_icmp .ge 21, 3) := by decide +kernel
theorem d_X_sumOfFirst_9 : decode prog_1_method_52_code 9 = .ok (.iload_n 3, 1) := by decide +kernel
theorem d_X_sumOfFirst_10 : decode prog_1_method_52_code 10 = .ok (.aload_n 0, 1) := by decide +kernel
theorem d_X_sumOfFirst_11 : decode prog_1_method_52_code 11 = .ok (.arraylength, 1) := by decide +kernel
theorem d_X_sumOfFirst_12 : decode prog_1_method_52_code 12 = .ok (.if_icmp .ge 15, 3) := by decide +kernel
theorem d_X_sumOfFirst_15 : decode prog_1_method_52_code 15 = .ok (.iload_n 2, 1) := by decide +kernel
theorem d_X_sumOfFirst_16 : decode prog_1_method_52_code 16 = .ok (.aload_n 0, 1) := by decide +kernel
theorem d_X_sumOfFirst_17 : decode prog_1_method_52_code 17 = .ok (.iload_n 3, 1) := by decide +kernel
theorem d_X_sumOfFirst_18 : decode prog_1_method_52_code 18 = .ok (.iaload, 1) := by decide +kernel
theorem d_X_sumOfFirst_19 : decode prog_1_method_52_code 19 = .ok (.iadd, 1) := by decide +kernel
theorem d_X_sumOfFirst_20 : decode prog_1_method_52_code 20 = .ok (.istore_n 2, 1) := by decide +kernel
theorem d_X_sumOfFirst_21 : decode prog_1_method_52_code 21 = .ok (.iinc 3 1, 3) := by decide +kernel
theorem d_X_sumOfFirst_24 : decode prog_1_method_52_code 24 = .ok (.goto (-20), 3) := by decide +kernel
theorem d_X_sumOfFirst_27 : decode prog_1_method_52_code 27 = .ok (.iload_n 2, 1) := by decide +kernel
theorem d_X_sumOfFirst_28 : decode prog_1_method_52_code 28 = .ok (.ireturn, 1) := by decide +kernel
theorem d_X_count_0 : decode prog_1_method_45_code 0 = .ok (.iload_n 1, 1) := by decide +kernel
theorem d_X_count_1 : decode prog_1_method_45_code 1 = .ok (.tableswitch 241 0 14 #[75, 83, 91, 99, 107, 115, 123, 141, 159, 167, 175, 183, 191, 221, 233], 75) := by decide +kernel
theorem d_X_count_76 : decode prog_1_method_45_code 76 = .ok (.aload_n 0, 1) := by decide +kernel
theorem d_X_count_77 : decode prog_1_method_45_code 77 = .ok (.getfield 19, 3) := by decide +kernel
theorem d_X_count_80 : decode prog_1_method_45_code 80 = .ok (.getfield 238, 3) := by decide +kernel
theorem d_X_count_83 : decode prog_1_method_45_code 83 = .ok (.ireturn, 1) := by decide +kernel
theorem d_X_count_84 : decode prog_1_method_45_code 84 = .ok (.aload_n 0, 1) := by decide +kernel
theorem d_X_count_85 : decode prog_1_method_45_code 85 = .ok (.getfield 19, 3) := by decide +kernel
theorem d_X_count_88 : decode prog_1_method_45_code 88 = .ok (.getfield 218, 3) := by decide +kernel
theorem d_X_count_91 : decode prog_1_method_45_code 91 = .ok (.ireturn, 1) := by decide +kernel
theorem d_X_count_92 : decode prog_1_method_45_code 92 = .ok (.aload_n 0, 1) := by decide +kernel
theorem d_X_count_93 : decode prog_1_method_45_code 93 = .ok (.getfield 37, 3) := by decide +kernel
theorem d_X_count_96 : decode prog_1_method_45_code 96 = .ok (.getfield 191, 3) := by decide +kernel
theorem d_X_count_99 : decode prog_1_method_45_code 99 = .ok (.ireturn, 1) := by decide +kernel
theorem d_X_count_100 : decode prog_1_method_45_code 100 = .ok (.aload_n 0, 1) := by decide +kernel
theorem d_X_count_101 : decode prog_1_method_45_code 101 = .ok (.getfield 37, 3) := by decide +kernel
theorem d_X_count_104 : decode prog_1_method_45_code 104 = .ok (.invokevirtual 290, 3) := by decide +kernel
theorem d_X_count_107 : decode prog_1_method_45_code 107 = .ok (.ireturn, 1) := by decide +kernel
theorem d_X_count_108 : decode prog_1_method_45_code 108 = .ok (.aload_n 0, 1) := by decide +kernel
theorem d_X_count_109 : decode prog_1_method_45_code 109 = .ok (.getfield 37, 3) := by decide +kernel
theorem d_X_count_112 : decode prog_1_method_45_code 112 = .ok (.invokevirtual 293, 3) := by decide +kernel
theorem d_X_count_115 : decode prog_1_method_45_code 115 = .ok (.ireturn, 1) := by decide +kernel
theorem d_X_count_116 : decode prog_1_method_45_code 116 = .ok (.aload_n 0, 1) := by decide +kernel
theorem d_X_count_117 : decode prog_1_method_45_code 117 = .ok (.getfield 37, 3) := by decide +kernel
theorem d_X_count_120 : decode prog_1_method_45_code 120 = .ok (.invokevirtual 229, 3) := by decide +kernel
theorem d_X_count_123 : decode prog_1_method_45_code 123 = .ok (.ireturn, 1) := by decide +kernel
theorem d_X_count_124 : decode prog_1_method_45_code 124 = .ok (.aload_n 0, 1) := by decide +kernel
theorem d_X_count_125 : decode prog_1_method_45_code 125 = .ok (.getfield 37, 3) := by decide +kernel
theorem d_X_count_128 : decode prog_1_method_45_code 128 = .ok (.getfield 154, 3) := by decide +kernel
theorem d_X_count_131 : decode prog_1_method_45_code 131 = .ok (.aload_n 0, 1) := by decide +kernel
theorem d_X_count_132 : decode prog_1_method_45_code 132 = .ok (.getfield 19, 3) := by decide +kernel
theorem d_X_count_135 : decode prog_1_method_45_code 135 = .ok (.getfield 218, 3) := by decide +kernel
theorem d_X_count_138 : decode prog_1_method_45_code 138 = .ok (.invokestatic 296, 3) := by decide +kernel
theorem d_X_count_141 : decode prog_1_method_45_code 141 = .ok (.ireturn, 1) := by decide +kernel
theorem d_X_count_142 : decode prog_1_method_45_code 142 = .ok (.aload_n 0, 1) := by decide +kernel
theorem d_X_count_143 : decode prog_1_method_45_code 143 = .ok (.getfield 37, 3) := by decide +kernel
theorem d_X_count_146 : decode prog_1_method_45_code 146 = .ok (.getfield 132, 3) := by decide +kernel
theorem d_X_count_149 : decode prog_1_method_45_code 149 = .ok (.aload_n 0, 1) := by decide +kernel
theorem d_X_count_150 : decode prog_1_method_45_code 150 = .ok (.getfield 19, 3) := by decide +kernel
theorem d_X_count_153 : decode prog_1_method_45_code 153 = .ok (.getfield 238, 3) := by decide +kernel
theorem d_X_count_156 : decode prog_1_method_45_code 156 = .ok (.invokestatic 296, 3) := by decide +kernel
theorem d_X_count_159 : decode prog_1_method_45_code 159 = .ok (.ireturn, 1) := by decide +kernel
theorem d_X_count_160 : decode prog_1_method_45_code 160 = .ok (.aload_n 0, 1) := by decide +kernel
theorem d_X_count_161 : decode prog_1_method_45_code 161 = .ok (.getfield 10, 3) := by decide +kernel
theorem d_X_count_164 : decode prog_1_method_45_code 164 = .ok (.getfield 99, 3) := by decide +kernel
theorem d_X_count_167 : decode prog_1_method_45_code 167 = .ok (.ireturn, 1) := by decide +kernel
theorem d_X_count_168 : decode prog_1_method_45_code 168 = .ok (.aload_n 0, 1) := by decide +kernel
theorem d_X_count_169 : decode prog_1_method_45_code 169 = .ok (.getfield 79, 3) := by decide +kernel
theorem d_X_count_172 : decode prog_1_method_45_code 172 = .ok (.getfield 300, 3) := by decide +kernel
theorem d_X_count_175 : decode prog_1_method_45_code 175 = .ok (.ireturn, 1) := by decide +kernel
theorem d_X_count_176 : decode prog_1_method_45_code 176 = .ok (.aload_n 0, 1) := by decide +kernel
theorem d_X_count_177 : decode prog_1_method_45_code 177 = .ok (.getfield 72, 3) := by decide +kernel
theorem d_X_count_180 : decode prog_1_method_45_code 180 = .ok (.getfield 118, 3) := by decide +kernel
theorem d_X_count_183 : decode prog_1_method_45_code 183 = .ok (.ireturn, 1) := by decide +kernel
theorem d_X_count_184 : decode prog_1_method_45_code 184 = .ok (.aload_n 0, 1) := by decide +kernel
theorem d_X_count_185 : decode prog_1_method_45_code 185 = .ok (.getfield 87, 3) := by decide +kernel
theorem d_X_count_188 : decode prog_1_method_45_code 188 = .ok (.invokestatic 301, 3) := by decide +kernel
theorem d_X_count_191 : decode prog_1_method_45_code 191 = .ok (.ireturn, 1) := by decide +kernel
theorem d_X_count_192 : decode prog_1_method_45_code 192 = .ok (.aload_n 0, 1) := by decide +kernel
theorem d_X_count_193 : decode prog_1_method_45_code 193 = .ok (.getfield 56, 3) := by decide +kernel
theorem d_X_count_196 : decode prog_1_method_45_code 196 = .ok (.aload_n 0, 1) := by decide +kernel
theorem d_X_count_197 : decode prog_1_method_45_code 197 = .ok (.getfield 19, 3) := by decide +kernel
theorem d_X_count_200 : decode prog_1_method_45_code 200 = .ok (.getfield 184, 3) := by decide +kernel
theorem d_X_count_203 : decode prog_1_method_45_code 203 = .ok (.aload_n 0, 1) := by decide +kernel
theorem d_X_count_204 : decode prog_1_method_45_code 204 = .ok (.getfield 37, 3) := by decide +kernel
theorem d_X_count_207 : decode prog_1_method_45_code 207 = .ok (.getfield 191, 3) := by decide +kernel
theorem d_X_count_210 : decode prog_1_method_45_code 210 = .ok (.invokevirtual 306, 3) := by decide +kernel
theorem d_X_count_213 : decode prog_1_method_45_code 213 = .ok (.ifCond .eq 7, 3) := by decide +kernel
theorem d_X_count_216 : decode prog_1_method_45_code 216 = .ok (.iconst 1, 1) := by decide +kernel
theorem d_X_count_217 : decode prog_1_method_45_code 217 = .ok (.goto 4, 3) := by decide +kernel
theorem d_X_count_220 : decode prog_1_method_45_code 220 = .ok (.iconst 0, 1) := by decide +kernel
theorem d_X_count_221 : decode prog_1_method_45_code 221 = .ok (.ireturn, 1) := by decide +kernel
theorem d_X_count_222 : decode prog_1_method_45_code 222 = .ok (.aload_n 0, 1) := by decide +kernel
theorem d_X_count_223 : decode prog_1_method_45_code 223 = .ok (.getfield 47, 3) := by decide +kernel
theorem d_X_count_226 : decode prog_1_method_45_code 226 = .ok (.aload_n 0, 1) := by decide +kernel
theorem d_X_count_227 : decode prog_1_method_45_code 227 = .ok (.getfield 37, 3) := by decide +kernel
theorem d_X_count_230 : decode prog_1_method_45_code 230 = .ok (.invokevirtual 248, 3) := by decide +kernel
theorem d_X_count_233 : decode prog_1_method_45_code 233 = .ok (.ireturn, 1) := by decide +kernel
theorem d_X_count_234 : decode prog_1_method_45_code 234 = .ok (.aload_n 0, 1) := by decide +kernel
theorem d_X_count_235 : decode prog_1_method_45_code 235 = .ok (.getfield 37, 3) := by decide +kernel
theorem d_X_count_238 : decode prog_1_method_45_code 238 = .ok (.invokevirtual 310, 3) := by decide +kernel
theorem d_X_count_241 : decode prog_1_method_45_code 241 = .ok (.ireturn, 1) := by decide +kernel
theorem d_X_count_242 : decode prog_1_method_45_code 242 = .ok (.iconst (-1), 1) := by decide +kernel
theorem d_X_count_243 : decode prog_1_method_45_code 243 = .ok (.ireturn, 1) := by decide +kernel
def w_X_feed (N : Nat) (x0 : Nat) (x1 : Int32) (x2 : Int32) (x3 : Int32) (x4 : Int32) (x5 : Int32) (h : qH) (Q : Int32 → qH → Prop) : Prop := (qS h x0 = .inl 11 ∧ (qS h (qR h x0 0) = .inl 7 ∧ w_Tape_hasRoomFor N (qR h x0 0) (20 : Int32) h (fun r3 h4 => ((¬ r3 = 0 → (qS h4 x0 = .inl 11 ∧ (qS h4 (qR h4 x0 0) = .inl 7 ∧ w_Tape_addFour N (qR h4 x0 0) x1 h4 (fun h8 => (qS h8 x0 = .inl 11 ∧ (qS h8 (qR h8 x0 0) = .inl 7 ∧ w_Tape_addFour N (qR h8 x0 0) x2 h8 (fun h11 => (qS h11 x0 = .inl 11 ∧ (qS h11 (qR h11 x0 0) = .inl 7 ∧ w_Tape_addFour N (qR h11 x0 0) x3 h11 (fun h14 => (qS h14 x0 = .inl 11 ∧ (qS h14 (qR h14 x0 0) = .inl 7 ∧ w_Tape_addFour N (qR h14 x0 0) x4 h14 (fun h17 => (qS h17 x0 = .inl 11 ∧ (qS h17 (qR h17 x0 0) = .inl 7 ∧ w_Tape_addFour N (qR h17 x0 0) x5 h17 (fun h20 => (qS h20 x0 = .inl 11 ∧ (qS h20 (qR h20 x0 0) = .inl 7 ∧ Q (qI h20 (qR h20 x0 0) 1) h20)))))))))))))))))) ∧ (r3 = 0 → Q (-1 : Int32) h4)))))
def w_X_back (N : Nat) (x0 : Nat) (x1 : Int32) (h : qH) (Q : Int32 → qH → Prop) : Prop := ((x1 < 0 → Q (-1 : Int32) h) ∧ (¬ x1 < 0 → (qS h x0 = .inl 11 ∧ (qS h (qR h x0 0) = .inl 7 ∧ ((x1 ≤ (qI h (qR h x0 0) 1) → (∀ h5 : qH, h5 = qsI h (qR h x0 0) 1 ((qI h (qR h x0 0) 1) - x1) → (qS h5 x0 = .inl 11 ∧ (qS h5 (qR h5 x0 0) = .inl 7 ∧ Q (qI h5 (qR h5 x0 0) 1) h5)))) ∧ (¬ x1 ≤ (qI h (qR h x0 0) 1) → Q (-1 : Int32) h))))))
def w_X_read (N : Nat) (x0 : Nat) (h : qH) (Q : Int32 → qH → Prop) : Prop := (qS h x0 = .inl 11 ∧ (qS h (qR h x0 2) = .inl 4 ∧ w_Reader_readAll N (qR h x0 2) h (fun r3 h4 => (qS h4 x0 = .inl 11 ∧ (qS h4 (qR h4 x0 0) = .inl 7 ∧ ∀ h7 : qH, h7 = qsI h4 (qR h4 x0 0) 1 (0 : Int32) → ((¬ r3 = 0 → Q r3 h7) ∧ (r3 = 0 → (qS h7 x0 = .inl 11 ∧ (qS h7 (qR h7 x0 2) = .inl 4 ∧ (qS h7 (qR h7 x0 1) = .inl 8 ∧ w_Text_become N (qR h7 x0 1) (qR h7 (qR h7 x0 2) 5) h7 (fun h12 => (qS h12 x0 = .inl 11 ∧ (qS h12 (qR h12 x0 3) = .inl 6 ∧ w_State_begin N (qR h12 x0 3) h12 (fun h15 => (qS h15 x0 = .inl 11 ∧ (qS h15 (qR h15 x0 9) = .inl 2 ∧ w_Past_drop N (qR h15 x0 9) h15 (fun h18 => (qS h18 x0 = .inl 11 ∧ (qS h18 (qR h18 x0 8) = .inl 9 ∧ ∀ h21 : qH, h21 = qsI h18 (qR h18 x0 8) 7 (0 : Int32) → (qS h21 x0 = .inl 11 ∧ ∀ h23 : qH, h23 = qsI h21 x0 11 (0 : Int32) → Q r3 h23))))))))))))))))))))
def w_X_place (N : Nat) (x0 : Nat) (h : qH) (Q : Int32 → qH → Prop) : Prop := (qS h x0 = .inl 11 ∧ (qS h (qR h x0 2) = .inl 4 ∧ Q (qI h (qR h x0 2) 13) h))
def w_X_isHanger (N : Nat) (x0 : Nat) (x1 : Int32) (h : qH) (Q : Int32 → qH → Prop) : Prop := ((x1 < 0 → (qzb (0 : Int32) ∧ Q (0 : Int32) h)) ∧ (¬ x1 < 0 → (qS h x0 = .inl 11 ∧ (qS h (qR h x0 1) = .inl 8 ∧ (((qI h (qR h x0 1) 0) ≤ x1 → (qzb (0 : Int32) ∧ Q (0 : Int32) h)) ∧ (¬ (qI h (qR h x0 1) 0) ≤ x1 → (qzb (1 : Int32) ∧ Q (1 : Int32) h)))))))
def w_X_hanger (N : Nat) (x0 : Nat) (x1 : Int32) (x2 : Int32) (h : qH) (Q : Int32 → qH → Prop) : Prop := (qS h x0 = .inl 11 ∧ w_X_isHanger N x0 x1 h (fun r2 h3 => ((¬ r2 = 0 → ((x2 = (0 : Int32) → (qS h3 x0 = .inl 11 ∧ (qS h3 (qR h3 x0 1) = .inl 8 ∧ (qok h3 (qR h3 (qR h3 x0 1) 1) 0 x1 ∧ Q (qI h3 (qR h3 (qR h3 x0 1) 1) (x1).toNatClampNeg) h3)))) ∧ (¬ x2 = (0 : Int32) → ((x2 = (1 : Int32) → (qS h3 x0 = .inl 11 ∧ (qS h3 (qR h3 x0 1) = .inl 8 ∧ (qok h3 (qR h3 (qR h3 x0 1) 2) 0 x1 ∧ Q (qI h3 (qR h3 (qR h3 x0 1) 2) (x1).toNatClampNeg) h3)))) ∧ (¬ x2 = (1 : Int32) → ((x2 = (2 : Int32) → (qS h3 x0 = .inl 11 ∧ (qS h3 (qR h3 x0 3) = .inl 6 ∧ (qok h3 (qR h3 (qR h3 x0 3) 6) 0 x1 ∧ Q (qI h3 (qR h3 (qR h3 x0 3) 6) (x1).toNatClampNeg) h3)))) ∧ (¬ x2 = (2 : Int32) → ((x2 = (3 : Int32) → (qS h3 x0 = .inl 11 ∧ (qS h3 (qR h3 x0 3) = .inl 6 ∧ w_State_whoIsOn N (qR h3 x0 3) x1 h3 (fun r20 h21 => Q r20 h21)))) ∧ (¬ x2 = (3 : Int32) → Q (-1 : Int32) h3))))))))) ∧ (r2 = 0 → Q (-1 : Int32) h3))))
def w_X_isPerson (N : Nat) (x0 : Nat) (x1 : Int32) (h : qH) (Q : Int32 → qH → Prop) : Prop := ((x1 < 0 → (qzb (0 : Int32) ∧ Q (0 : Int32) h)) ∧ (¬ x1 < 0 → (qS h x0 = .inl 11 ∧ (qS h (qR h x0 1) = .inl 8 ∧ (((qI h (qR h x0 1) 3) ≤ x1 → (qzb (0 : Int32) ∧ Q (0 : Int32) h)) ∧ (¬ (qI h (qR h x0 1) 3) ≤ x1 → (qzb (1 : Int32) ∧ Q (1 : Int32) h)))))))
def w_X_person (N : Nat) (x0 : Nat) (x1 : Int32) (x2 : Int32) (h : qH) (Q : Int32 → qH → Prop) : Prop := (qS h x0 = .inl 11 ∧ w_X_isPerson N x0 x1 h (fun r2 h3 => ((¬ r2 = 0 → ((x2 = (0 : Int32) → (qS h3 x0 = .inl 11 ∧ (qS h3 (qR h3 x0 3) = .inl 6 ∧ (qok h3 (qR h3 (qR h3 x0 3) 2) 0 x1 ∧ Q (qI h3 (qR h3 (qR h3 x0 3) 2) (x1).toNatClampNeg) h3)))) ∧ (¬ x2 = (0 : Int32) → ((x2 = (1 : Int32) → (qS h3 x0 = .inl 11 ∧ (qS h3 (qR h3 x0 1) = .inl 8 ∧ (qok h3 (qR h3 (qR h3 x0 1) 5) 0 x1 ∧ Q (qI h3 (qR h3 (qR h3 x0 1) 5) (x1).toNatClampNeg) h3)))) ∧ (¬ x2 = (1 : Int32) → ((x2 = (2 : Int32) → (qS h3 x0 = .inl 11 ∧ (qS h3 (qR h3 x0 3) = .inl 6 ∧ (qok h3 (qR h3 (qR h3 x0 3) 3) 0 x1 ∧ Q (qI h3 (qR h3 (qR h3 x0 3) 3) (x1).toNatClampNeg) h3)))) ∧ (¬ x2 = (2 : Int32) → ((x2 = (3 : Int32) → (qS h3 x0 = .inl 11 ∧ (qS h3 (qR h3 x0 3) = .inl 6 ∧ (qok h3 (qR h3 (qR h3 x0 3) 4) 0 x1 ∧ Q (qI h3 (qR h3 (qR h3 x0 3) 4) (x1).toNatClampNeg) h3)))) ∧ (¬ x2 = (3 : Int32) → ((x2 = (4 : Int32) → (qS h3 x0 = .inl 11 ∧ (qS h3 (qR h3 x0 3) = .inl 6 ∧ (qok h3 (qR h3 (qR h3 x0 3) 5) 0 x1 ∧ Q (qI h3 (qR h3 (qR h3 x0 3) 5) (x1).toNatClampNeg) h3)))) ∧ (¬ x2 = (4 : Int32) → ((x2 = (5 : Int32) → (qS h3 x0 = .inl 11 ∧ (qS h3 (qR h3 x0 3) = .inl 6 ∧ w_State_othersBeside N (qR h3 x0 3) x1 h3 (fun r28 h29 => Q r28 h29)))) ∧ (¬ x2 = (5 : Int32) → Q (-1 : Int32) h3))))))))))))) ∧ (r2 = 0 → Q (-1 : Int32) h3))))
def w_X_tells (N : Nat) (x0 : Nat) (x1 : Int32) (x2 : Int32) (h : qH) (Q : Int32 → qH → Prop) : Prop := (qS h x0 = .inl 11 ∧ w_X_isPerson N x0 x1 h (fun r2 h3 => ((r2 = 0 → Q (-1 : Int32) h3) ∧ (¬ r2 = 0 → ((x2 < 0 → Q (-1 : Int32) h3) ∧ (¬ x2 < 0 → ((x2 ≤ (3 : Int32) → (qS h3 x0 = .inl 11 ∧ (qS h3 (qR h3 x0 3) = .inl 6 ∧ w_State_isHung N (qR h3 x0 3) x1 h3 (fun r9 h10 => ((¬ r9 = 0 → (qS h10 x0 = .inl 11 ∧ (qS h10 (qR h10 x0 5) = .inl 5 ∧ w_Reck_lookAtHung N (qR h10 x0 5) (qR h10 x0 3) x1 h10 (fun h14 => (qS h14 x0 = .inl 11 ∧ (qS h14 (qR h14 x0 5) = .inl 5 ∧ w_Reck_lawTells N (qR h14 x0 5) x2 h14 (fun r17 h18 => Q r17 h18))))))) ∧ (r9 = 0 → Q (-2 : Int32) h10)))))) ∧ (¬ x2 ≤ (3 : Int32) → Q (-1 : Int32) h3))))))))
def w_X_hang (N : Nat) (x0 : Nat) (x1 : Int32) (x2 : Int32) (h : qH) (Q : Int32 → qH → Prop) : Prop := (qS h x0 = .inl 11 ∧ w_X_isPerson N x0 x1 h (fun r2 h3 => ((r2 = 0 → (qzb (0 : Int32) ∧ Q (0 : Int32) h3)) ∧ (¬ r2 = 0 → (qS h3 x0 = .inl 11 ∧ w_X_isHanger N x0 x2 h3 (fun r6 h7 => ((¬ r6 = 0 → (qS h7 x0 = .inl 11 ∧ (qS h7 (qR h7 x0 3) = .inl 6 ∧ w_State_isHung N (qR h7 x0 3) x1 h7 (fun r11 h12 => ((¬ r11 = 0 → (qzb (0 : Int32) ∧ Q (0 : Int32) h12)) ∧ (r11 = 0 → (qS h12 x0 = .inl 11 ∧ (qS h12 (qR h12 x0 3) = .inl 6 ∧ w_State_isTaken N (qR h12 x0 3) x2 h12 (fun r16 h17 => ((r16 = 0 → (qS h17 x0 = .inl 11 ∧ (qS h17 (qR h17 x0 9) = .inl 2 ∧ w_Past_keep N (qR h17 x0 9) (qR h17 x0 3) h17 (fun h21 => (qS h21 x0 = .inl 11 ∧ (qS h21 (qR h21 x0 3) = .inl 6 ∧ (qok h21 (qR h21 (qR h21 x0 3) 3) 0 x1 ∧ ∀ h25 : qH, h25 = qsI h21 (qR h21 (qR h21 x0 3) 3) (x1).toNatClampNeg x2 → (qzb (1 : Int32) ∧ Q (1 : Int32) h25)))))))) ∧ (¬ r16 = 0 → (qzb (0 : Int32) ∧ Q (0 : Int32) h17)))))))))))) ∧ (r6 = 0 → (qzb (0 : Int32) ∧ Q (0 : Int32) h7)))))))))
def w_X_take (N : Nat) (x0 : Nat) (x1 : Int32) (h : qH) (Q : Int32 → qH → Prop) : Prop := (qS h x0 = .inl 11 ∧ w_X_isPerson N x0 x1 h (fun r2 h3 => ((r2 = 0 → (qzb (0 : Int32) ∧ Q (0 : Int32) h3)) ∧ (¬ r2 = 0 → (qS h3 x0 = .inl 11 ∧ (qS h3 (qR h3 x0 3) = .inl 6 ∧ w_State_isHung N (qR h3 x0 3) x1 h3 (fun r7 h8 => ((¬ r7 = 0 → (qS h8 x0 = .inl 11 ∧ (qS h8 (qR h8 x0 9) = .inl 2 ∧ w_Past_keep N (qR h8 x0 9) (qR h8 x0 3) h8 (fun h12 => (qS h12 x0 = .inl 11 ∧ (qS h12 (qR h12 x0 3) = .inl 6 ∧ (qok h12 (qR h12 (qR h12 x0 3) 3) 0 x1 ∧ ∀ h16 : qH, h16 = qsI h12 (qR h12 (qR h12 x0 3) 3) (x1).toNatClampNeg (-2 : Int32) → (qzb (1 : Int32) ∧ Q (1 : Int32) h16)))))))) ∧ (r7 = 0 → (qzb (0 : Int32) ∧ Q (0 : Int32) h8))))))))))
def w_X_change (N : Nat) (x0 : Nat) (x1 : Int32) (x2 : Int32) (h : qH) (Q : Int32 → qH → Prop) : Prop := (qS h x0 = .inl 11 ∧ w_X_isPerson N x0 x1 h (fun r2 h3 => ((r2 = 0 → (qzb (0 : Int32) ∧ Q (0 : Int32) h3)) ∧ (¬ r2 = 0 → (qS h3 x0 = .inl 11 ∧ w_X_isPerson N x0 x2 h3 (fun r6 h7 => ((r6 = 0 → (qzb (0 : Int32) ∧ Q (0 : Int32) h7)) ∧ (¬ r6 = 0 → ((¬ x1 = x2 → (qS h7 x0 = .inl 11 ∧ (qS h7 (qR h7 x0 3) = .inl 6 ∧ w_State_isHung N (qR h7 x0 3) x1 h7 (fun r12 h13 => ((r12 = 0 → (qzb (0 : Int32) ∧ Q (0 : Int32) h13)) ∧ (¬ r12 = 0 → (qS h13 x0 = .inl 11 ∧ (qS h13 (qR h13 x0 3) = .inl 6 ∧ w_State_isHung N (qR h13 x0 3) x2 h13 (fun r17 h18 => ((¬ r17 = 0 → (qS h18 x0 = .inl 11 ∧ (qS h18 (qR h18 x0 9) = .inl 2 ∧ w_Past_keep N (qR h18 x0 9) (qR h18 x0 3) h18 (fun h22 => (qS h22 x0 = .inl 11 ∧ (qS h22 (qR h22 x0 3) = .inl 6 ∧ w_State_exchange N (qR h22 x0 3) x1 x2 h22 (fun h25 => (qzb (1 : Int32) ∧ Q (1 : Int32) h25)))))))) ∧ (r17 = 0 → (qzb (0 : Int32) ∧ Q (0 : Int32) h18)))))))))))) ∧ (x1 = x2 → (qzb (0 : Int32) ∧ Q (0 : Int32) h7)))))))))))
def w_X_straighten (N : Nat) (x0 : Nat) (x1 : Int32) (h : qH) (Q : Int32 → qH → Prop) : Prop := (qS h x0 = .inl 11 ∧ w_X_isHanger N x0 x1 h (fun r2 h3 => ((r2 = 0 → (qzb (0 : Int32) ∧ Q (0 : Int32) h3)) ∧ (¬ r2 = 0 → (qS h3 x0 = .inl 11 ∧ (qS h3 (qR h3 x0 3) = .inl 6 ∧ w_State_isTaken N (qR h3 x0 3) x1 h3 (fun r7 h8 => ((¬ r7 = 0 → (qzb (0 : Int32) ∧ Q (0 : Int32) h8)) ∧ (r7 = 0 → (qS h8 x0 = .inl 11 ∧ (qS h8 (qR h8 x0 3) = .inl 6 ∧ (qok h8 (qR h8 (qR h8 x0 3) 6) 0 x1 ∧ ((¬ (qI h8 (qR h8 (qR h8 x0 3) 6) (x1).toNatClampNeg) = 0 → (qS h8 (qR h8 x0 9) = .inl 2 ∧ w_Past_keep N (qR h8 x0 9) (qR h8 x0 3) h8 (fun h15 => (qS h15 x0 = .inl 11 ∧ (qS h15 (qR h15 x0 3) = .inl 6 ∧ (qok h15 (qR h15 (qR h15 x0 3) 6) 0 x1 ∧ ∀ h19 : qH, h19 = qsI h15 (qR h15 (qR h15 x0 3) 6) (x1).toNatClampNeg (0 : Int32) → (qzb (1 : Int32) ∧ Q (1 : Int32) h19))))))) ∧ ((qI h8 (qR h8 (qR h8 x0 3) 6) (x1).toNatClampNeg) = 0 → (qzb (0 : Int32) ∧ Q (0 : Int32) h8)))))))))))))))
def w_X_isFewNights (N : Nat) (x0 : Int32) (h : qH) (Q : Int32 → qH → Prop) : Prop := ((x0 < 0 → (qzb (0 : Int32) ∧ Q (0 : Int32) h)) ∧ (¬ x0 < 0 → (((60 : Int32) < x0 → (qzb (0 : Int32) ∧ Q (0 : Int32) h)) ∧ (¬ (60 : Int32) < x0 → (qzb (1 : Int32) ∧ Q (1 : Int32) h)))))
def w_X_nights (N : Nat) (x0 : Nat) (x1 : Int32) (h : qH) (Q : Int32 → qH → Prop) : Prop := (w_X_isFewNights N x1 h (fun r1 h2 => ((¬ r1 = 0 → ((x1 ≤ 0 → (qS h2 x0 = .inl 11 ∧ (qS h2 (qR h2 x0 3) = .inl 6 ∧ Q (qI h2 (qR h2 x0 3) 1) h2))) ∧ (¬ x1 ≤ 0 → (qS h2 x0 = .inl 11 ∧ (qS h2 (qR h2 x0 9) = .inl 2 ∧ w_Past_keep N (qR h2 x0 9) (qR h2 x0 3) h2 (fun h9 => (qS h9 x0 = .inl 11 ∧ (qS h9 (qR h9 x0 1) = .inl 8 ∧ (qS h9 (qR h9 x0 6) = .inl 1 ∧ w_Night_goByWithAll N (qR h9 x0 6) (qR h9 x0 3) x1 (qI h9 (qR h9 x0 1) 12) h9 (fun h13 => (qS h13 x0 = .inl 11 ∧ (qS h13 (qR h13 x0 3) = .inl 6 ∧ Q (qI h13 (qR h13 x0 3) 1) h13)))))))))))) ∧ (r1 = 0 → Q (-1 : Int32) h2))))
def w_X_undo (N : Nat) (x0 : Nat) (h : qH) (Q : Int32 → qH → Prop) : Prop := (qS h x0 = .inl 11 ∧ (qS h (qR h x0 9) = .inl 2 ∧ w_Past_giveBack N (qR h x0 9) (qR h x0 3) h (fun r3 h4 => (qzb r3 ∧ Q r3 h4))))
def w_X_planned_15 (N : Nat) (x0 : Nat) (x1 : Int32) (x2 : Int32) (h : qH) (Q : Int32 → qH → Prop)  : Prop := (qS h x0 = .inl 11 ∧ (qS h (qR h x0 7) = .inl 3 ∧ w_Plan_lookAtCosts N (qR h x0 7) (qR h x0 3) h (fun h3 => (qS h3 x0 = .inl 11 ∧ (qS h3 (qR h3 x0 7) = .inl 3 ∧ w_Plan_findBest N (qR h3 x0 7) x2 (-2 : Int32) h3 (fun r6 h7 => ((¬ x1 = (-1 : Int32) → (qS h7 x0 = .inl 11 ∧ (qS h7 (qR h7 x0 7) = .inl 3 ∧ w_Plan_hangerFor N (qR h7 x0 7) x1 (-2 : Int32) h7 (fun r11 h12 => Q r11 h12)))) ∧ (x1 = (-1 : Int32) → (qS h7 x0 = .inl 11 ∧ (qS h7 (qR h7 x0 7) = .inl 3 ∧ w_Plan_costOf N (qR h7 x0 7) r6 h7 (fun r15 h16 => Q r15 h16)))))))))))
def w_X_planned (N : Nat) (x0 : Nat) (x1 : Int32) (x2 : Int32) (h : qH) (Q : Int32 → qH → Prop) : Prop := ((x1 = (-1 : Int32) → (w_X_planned_15 N x0 x1 x2 h Q )) ∧ (¬ x1 = (-1 : Int32) → (qS h x0 = .inl 11 ∧ w_X_isPerson N x0 x1 h (fun r3 h4 => ((¬ r3 = 0 → (w_X_planned_15 N x0 x1 x2 h4 Q )) ∧ (r3 = 0 → Q (-1 : Int32) h4))))))
def w_X_hanging (N : Nat) (x0 : Nat) (x1 : Int32) (h : qH) (Q : Int32 → qH → Prop) : Prop := (qS h x0 = .inl 11 ∧ w_X_planned N x0 x1 (0 : Int32) h (fun r2 h3 => Q r2 h3))
def w_X_apart (N : Nat) (x0 : Nat) (x1 : Int32) (h : qH) (Q : Int32 → qH → Prop) : Prop := (qS h x0 = .inl 11 ∧ w_X_planned N x0 x1 (1 : Int32) h (fun r2 h3 => Q r2 h3))
def w_X_ways (N : Nat) (x0 : Nat) (x1 : Int32) (h : qH) (Q : Int32 → qH → Prop) : Prop := ((x1 < 0 → Q (-1 : Int32) h) ∧ (¬ x1 < 0 → ((x1 ≤ (99 : Int32) → (qS h x0 = .inl 11 ∧ (qS h (qR h x0 7) = .inl 3 ∧ w_Plan_lookAtCosts N (qR h x0 7) (qR h x0 3) h (fun h5 => (qS h5 x0 = .inl 11 ∧ (qS h5 (qR h5 x0 7) = .inl 3 ∧ w_Plan_waysWithin N (qR h5 x0 7) x1 h5 (fun r8 h9 => Q r8 h9))))))) ∧ (¬ x1 ≤ (99 : Int32) → Q (-1 : Int32) h))))
def w_X_ringFrom_7 (N : Nat) : Nat → Nat → Int32 → Int32 → Int32 → qH → (Int32 → qH → Prop) → Prop
  | 0 => fun _ _ _ _ _ _ => False
  | k + 1 => fun x0 x2 x3 x4 h Q => (qS h x0 = .inl 11 ∧ (qS h (qR h x0 1) = .inl 8 ∧ (((qI h (qR h x0 1) 3) ≤ x4 → Q x2 h) ∧ (¬ (qI h (qR h x0 1) 3) ≤ x4 → (∀ y4 : Int32, y4 = (x2 ||| ((1 : Int32) <<< (x3 &&& 31))) → (qS h (qR h x0 3) = .inl 6 ∧ (qok h (qR h (qR h x0 3) 4) 0 x3 ∧ (∀ y7 : Int32, y7 = (qI h (qR h (qR h x0 3) 4) (x3).toNatClampNeg) → (w_X_ringFrom_7 N k x0 y4 y7 (x4 + (1 : Int32)) h Q)))))))))
def w_X_ringFrom (N : Nat) (x0 : Nat) (x1 : Int32) (h : qH) (Q : Int32 → qH → Prop) : Prop := (w_X_ringFrom_7 N N x0 (0 : Int32) x1 (0 : Int32) h Q )
def w_X_sets_6 (N : Nat) : Nat → Nat → Int32 → Int32 → Int32 → qH → (Int32 → qH → Prop) → Prop
  | 0 => fun _ _ _ _ _ _ => False
  | k + 1 => fun x0 x1 x2 x3 h Q => (qS h x0 = .inl 11 ∧ (qS h (qR h x0 1) = .inl 8 ∧ (((qI h (qR h x0 1) 3) ≤ x3 → Q x1 h) ∧ (¬ (qI h (qR h x0 1) 3) ≤ x3 → ((¬ (x2 &&& ((1 : Int32) <<< (x3 &&& 31))) = 0 → (w_X_sets_6 N k x0 x1 x2 (x3 + (1 : Int32)) h Q)) ∧ ((x2 &&& ((1 : Int32) <<< (x3 &&& 31))) = 0 → (w_X_ringFrom N x0 x3 h (fun r5 h6 => (∀ y7 : Int32, y7 = (x2 ||| r5) → (w_X_sets_6 N k x0 (x1 + (1 : Int32)) y7 (x3 + (1 : Int32)) h6 Q))))))))))
def w_X_sets (N : Nat) (x0 : Nat) (h : qH) (Q : Int32 → qH → Prop) : Prop := (w_X_sets_6 N N x0 (0 : Int32) (0 : Int32) (0 : Int32) h Q )
def w_X_changes (N : Nat) (x0 : Nat) (h : qH) (Q : Int32 → qH → Prop) : Prop := (qS h x0 = .inl 11 ∧ (qS h (qR h x0 1) = .inl 8 ∧ (w_X_sets N x0 h (fun r3 h4 => Q ((qI h (qR h x0 1) 3) - r3) h4))))
def w_X_themselves_25 (N : Nat) : Nat → Nat → Int32 → Int32 → qH → (Int32 → qH → Prop) → Prop
  | 0 => fun _ _ _ _ _ => False
  | k + 1 => fun x0 x1 x2 h Q => (((240 : Int32) < x2 → Q (-2 : Int32) h) ∧ (¬ (240 : Int32) < x2 → (qS h x0 = .inl 11 ∧ (qS h (qR h x0 4) = .inl 6 ∧ w_State_bitsOfOwnSelves N (qR h x0 4) h (fun r4 h5 => ((¬ r4 = x1 → (qS h5 x0 = .inl 11 ∧ (qS h5 (qR h5 x0 6) = .inl 1 ∧ w_Night_wakeAll N (qR h5 x0 6) (qR h5 x0 4) h5 (fun h9 => (w_X_themselves_25 N k x0 x1 (x2 + (1 : Int32)) h9 Q))))) ∧ (r4 = x1 → Q x2 h5)))))))
def w_X_themselves (N : Nat) (x0 : Nat) (h : qH) (Q : Int32 → qH → Prop) : Prop := (qS h x0 = .inl 11 ∧ (qS h (qR h x0 1) = .inl 8 ∧ (∀ y3 : Int32, y3 = (((1 : Int32) <<< ((qI h (qR h x0 1) 3) &&& 31)) - (1 : Int32)) → (qS h (qR h x0 4) = .inl 6 ∧ w_State_become N (qR h x0 4) (qR h x0 3) h (fun h5 => (w_X_themselves_25 N N x0 y3 (0 : Int32) h5 Q ))))))
def w_X_crossed_8 (N : Nat) : Nat → Nat → Int32 → Int32 → Int32 → Int32 → qH → (Int32 → qH → Prop) → Prop
  | 0 => fun _ _ _ _ _ _ _ => False
  | k + 1 => fun x0 x1 x2 x3 x4 h Q => (qS h x0 = .inl 11 ∧ (qS h (qR h x0 1) = .inl 8 ∧ (((qI h (qR h x0 1) 3) ≤ x4 → ((x1 = (0 : Int32) → Q x2 h) ∧ (¬ x1 = (0 : Int32) → ((x1 = (1 : Int32) → Q x3 h) ∧ (¬ x1 = (1 : Int32) → Q (-1 : Int32) h))))) ∧ (¬ (qI h (qR h x0 1) 3) ≤ x4 → (qS h (qR h x0 3) = .inl 6 ∧ (qok h (qR h (qR h x0 3) 4) 0 x4 ∧ (∀ y8 : Int32, y8 = (qI h (qR h (qR h x0 3) 4) (x4).toNatClampNeg) → ((y8 ≤ x4 → (w_X_crossed_8 N k x0 x1 x2 x3 (x4 + (1 : Int32)) h Q)) ∧ (¬ y8 ≤ x4 → (qok h (qR h (qR h x0 3) 4) 0 y8 ∧ ((¬ (qI h (qR h (qR h x0 3) 4) (y8).toNatClampNeg) = x4 → (w_X_crossed_8 N k x0 x1 x2 x3 (x4 + (1 : Int32)) h Q)) ∧ ((qI h (qR h (qR h x0 3) 4) (y8).toNatClampNeg) = x4 → ((¬ x3 = (-2 : Int32) → (w_X_crossed_8 N k x0 x1 (x2 + (1 : Int32)) x3 (x4 + (1 : Int32)) h Q)) ∧ (x3 = (-2 : Int32) → (∀ y13 : Int32, y13 = (((10 : Int32) * x4) + y8) → (w_X_crossed_8 N k x0 x1 (x2 + (1 : Int32)) y13 (x4 + (1 : Int32)) h Q))))))))))))))))
def w_X_crossed (N : Nat) (x0 : Nat) (x1 : Int32) (h : qH) (Q : Int32 → qH → Prop) : Prop := (w_X_crossed_8 N N x0 x1 (0 : Int32) (-2 : Int32) (0 : Int32) h Q )
def w_X_isZeroOrOne (N : Nat) (x0 : Int32) (h : qH) (Q : Int32 → qH → Prop) : Prop := ((x0 = 0 → (qzb (1 : Int32) ∧ Q (1 : Int32) h)) ∧ (¬ x0 = 0 → ((¬ x0 = (1 : Int32) → (qzb (0 : Int32) ∧ Q (0 : Int32) h)) ∧ (x0 = (1 : Int32) → (qzb (1 : Int32) ∧ Q (1 : Int32) h)))))
def w_X_fit_27 (N : Nat) : Nat → Nat → Int32 → Int32 → Int32 → Int32 → Int32 → qH → (Int32 → qH → Prop) → Prop
  | 0 => fun _ _ _ _ _ _ _ _ => False
  | k + 1 => fun x0 x1 x2 x3 x4 x5 h Q => (qS h x0 = .inl 11 ∧ (qS h (qR h x0 1) = .inl 8 ∧ (((qI h (qR h x0 1) 0) ≤ x5 → ((¬ x2 = 0 → Q x4 h) ∧ (x2 = 0 → Q x3 h))) ∧ (¬ (qI h (qR h x0 1) 0) ≤ x5 → (qS h (qR h x0 5) = .inl 5 ∧ w_Reck_costAlone N (qR h x0 5) (qR h x0 3) x1 x5 h (fun r6 h7 => ((x3 = (-2 : Int32) → (w_X_fit_27 N k x0 x1 x2 x5 r6 (x5 + (1 : Int32)) h7 Q)) ∧ (¬ x3 = (-2 : Int32) → ((x4 ≤ r6 → (w_X_fit_27 N k x0 x1 x2 x3 x4 (x5 + (1 : Int32)) h7 Q)) ∧ (¬ x4 ≤ r6 → (w_X_fit_27 N k x0 x1 x2 x5 r6 (x5 + (1 : Int32)) h7 Q)))))))))))
def w_X_fit (N : Nat) (x0 : Nat) (x1 : Int32) (x2 : Int32) (h : qH) (Q : Int32 → qH → Prop) : Prop := (qS h x0 = .inl 11 ∧ w_X_isPerson N x0 x1 h (fun r2 h3 => ((r2 = 0 → Q (-1 : Int32) h3) ∧ (¬ r2 = 0 → (w_X_isZeroOrOne N x2 h3 (fun r5 h6 => ((¬ r5 = 0 → (w_X_fit_27 N N x0 x1 x2 (-2 : Int32) (-2 : Int32) (0 : Int32) h6 Q )) ∧ (r5 = 0 → Q (-1 : Int32) h6))))))))
def w_X_missed_28 (N : Nat) : Nat → Nat → Int32 → Int32 → Int32 → Int32 → qH → (Int32 → qH → Prop) → (Nat → Int32 → Int32 → Int32 → qH → Prop) → Prop
  | 0 => fun _ _ _ _ _ _ _ _ => False
  | k + 1 => fun x0 x1 x2 x3 x4 h Q K76 => (qS h x0 = .inl 11 ∧ (qS h (qR h x0 1) = .inl 8 ∧ (((qI h (qR h x0 1) 0) ≤ x4 → (K76 x0 x1 x2 x3 h)) ∧ (¬ (qI h (qR h x0 1) 0) ≤ x4 → (qS h (qR h x0 7) = .inl 3 ∧ w_Plan_findBest N (qR h x0 7) (0 : Int32) x4 h (fun r5 h6 => ((x2 = (-2 : Int32) → (w_X_missed_28 N k x0 x1 x4 r5 (x4 + (1 : Int32)) h6 Q K76)) ∧ (¬ x2 = (-2 : Int32) → ((r5 ≤ x3 → (w_X_missed_28 N k x0 x1 x2 x3 (x4 + (1 : Int32)) h6 Q K76)) ∧ (¬ r5 ≤ x3 → (w_X_missed_28 N k x0 x1 x4 r5 (x4 + (1 : Int32)) h6 Q K76)))))))))))
def w_X_missed (N : Nat) (x0 : Nat) (x1 : Int32) (h : qH) (Q : Int32 → qH → Prop) : Prop := (w_X_isZeroOrOne N x1 h (fun r1 h2 => ((¬ r1 = 0 → (qS h2 x0 = .inl 11 ∧ (qS h2 (qR h2 x0 7) = .inl 3 ∧ w_Plan_lookAtCosts N (qR h2 x0 7) (qR h2 x0 3) h2 (fun h6 => (w_X_missed_28 N N x0 x1 (-2 : Int32) (0 : Int32) (0 : Int32) h6 Q (fun x7 x8 x9 x10 h11 => ((x8 = 0 → Q x9 h11) ∧ (¬ x8 = 0 → ((¬ x9 = (-2 : Int32) → (qS h11 x7 = .inl 11 ∧ (qS h11 (qR h11 x7 7) = .inl 3 ∧ w_Plan_costOf N (qR h11 x7 7) x10 h11 (fun r16 h17 => Q r16 h17)))) ∧ (x9 = (-2 : Int32) → Q x9 h11)))))))))) ∧ (r1 = 0 → Q (-1 : Int32) h2))))
def w_X_crowded_7 (N : Nat) : Nat → Nat → Int32 → Int32 → Int32 → Int32 → qH → (Int32 → qH → Prop) → Prop
  | 0 => fun _ _ _ _ _ _ _ => False
  | k + 1 => fun x0 x1 x2 x3 x4 h Q => (((5 : Int32) ≤ x4 → ((x1 = (0 : Int32) → Q x2 h) ∧ (¬ x1 = (0 : Int32) → ((x1 = (1 : Int32) → Q x3 h) ∧ (¬ x1 = (1 : Int32) → Q (-1 : Int32) h))))) ∧ (¬ (5 : Int32) ≤ x4 → (qS h x0 = .inl 11 ∧ (qS h (qR h x0 3) = .inl 6 ∧ w_State_peopleOnNail N (qR h x0 3) x4 h (fun r6 h7 => ((r6 ≤ x3 → (w_X_crowded_7 N k x0 x1 x2 x3 (x4 + (1 : Int32)) h7 Q)) ∧ (¬ r6 ≤ x3 → (w_X_crowded_7 N k x0 x1 x4 r6 (x4 + (1 : Int32)) h7 Q))))))))
def w_X_crowded (N : Nat) (x0 : Nat) (x1 : Int32) (h : qH) (Q : Int32 → qH → Prop) : Prop := (w_X_crowded_7 N N x0 x1 (0 : Int32) (0 : Int32) (0 : Int32) h Q )
def w_X_straight_7 (N : Nat) : Nat → Nat → Int32 → Int32 → Int32 → qH → (Int32 → qH → Prop) → Prop
  | 0 => fun _ _ _ _ _ _ => False
  | k + 1 => fun x0 x1 x2 x3 h Q => (qS h x0 = .inl 11 ∧ (qS h (qR h x0 1) = .inl 8 ∧ (((qI h (qR h x0 1) 3) ≤ x3 → Q x1 h) ∧ (¬ (qI h (qR h x0 1) 3) ≤ x3 → (qS h (qR h x0 3) = .inl 6 ∧ w_State_isHung N (qR h x0 3) x3 h (fun r5 h6 => ((r5 = 0 → (w_X_straight_7 N k x0 x1 x2 (x3 + (1 : Int32)) h6 Q)) ∧ (¬ r5 = 0 → ((x1 = (-2 : Int32) → (qS h6 x0 = .inl 11 ∧ (qS h6 (qR h6 x0 3) = .inl 6 ∧ (qok h6 (qR h6 (qR h6 x0 3) 5) 0 x3 ∧ (∀ y12 : Int32, y12 = (qI h6 (qR h6 (qR h6 x0 3) 5) (x3).toNatClampNeg) → (w_X_straight_7 N k x0 x3 y12 (x3 + (1 : Int32)) h6 Q)))))) ∧ (¬ x1 = (-2 : Int32) → (qS h6 x0 = .inl 11 ∧ (qS h6 (qR h6 x0 3) = .inl 6 ∧ (qok h6 (qR h6 (qR h6 x0 3) 5) 0 x3 ∧ ((x2 ≤ (qI h6 (qR h6 (qR h6 x0 3) 5) (x3).toNatClampNeg) → (w_X_straight_7 N k x0 x1 x2 (x3 + (1 : Int32)) h6 Q)) ∧ (¬ x2 ≤ (qI h6 (qR h6 (qR h6 x0 3) 5) (x3).toNatClampNeg) → (∀ y17 : Int32, y17 = (qI h6 (qR h6 (qR h6 x0 3) 5) (x3).toNatClampNeg) → (w_X_straight_7 N k x0 x3 y17 (x3 + (1 : Int32)) h6 Q)))))))))))))))))
def w_X_straight (N : Nat) (x0 : Nat) (h : qH) (Q : Int32 → qH → Prop) : Prop := (w_X_straight_7 N N x0 (-2 : Int32) (0 : Int32) (0 : Int32) h Q )
def w_X_bill_24 (N : Nat) : Nat → Nat → Int32 → Int32 → Int32 → qH → (Int32 → qH → Prop) → Prop
  | 0 => fun _ _ _ _ _ _ => False
  | k + 1 => fun x0 x1 x2 x3 h Q => ((x1 ≤ x3 → Q x2 h) ∧ (¬ x1 ≤ x3 → (qS h x0 = .inl 11 ∧ (qS h (qR h x0 5) = .inl 5 ∧ w_Reck_costOfAll N (qR h x0 5) (qR h x0 4) h (fun r4 h5 => (∀ y6 : Int32, y6 = (x2 + r4) → (qS h5 x0 = .inl 11 ∧ (qS h5 (qR h5 x0 6) = .inl 1 ∧ w_Night_goByQuietly N (qR h5 x0 6) (qR h5 x0 4) h5 (fun h9 => (w_X_bill_24 N k x0 x1 y6 (x3 + (1 : Int32)) h9 Q))))))))))
def w_X_bill (N : Nat) (x0 : Nat) (x1 : Int32) (h : qH) (Q : Int32 → qH → Prop) : Prop := (w_X_isFewNights N x1 h (fun r1 h2 => ((¬ r1 = 0 → (qS h2 x0 = .inl 11 ∧ (qS h2 (qR h2 x0 4) = .inl 6 ∧ w_State_become N (qR h2 x0 4) (qR h2 x0 3) h2 (fun h6 => (w_X_bill_24 N N x0 x1 (0 : Int32) (0 : Int32) h6 Q ))))) ∧ (r1 = 0 → Q (-1 : Int32) h2))))
def w_X_costIfExchanged (N : Nat) (x0 : Nat) (x1 : Int32) (x2 : Int32) (x3 : Int32) (h : qH) (Q : Int32 → qH → Prop) : Prop := (qS h x0 = .inl 11 ∧ (qS h (qR h x0 3) = .inl 6 ∧ w_State_isHung N (qR h x0 3) x1 h (fun r3 h4 => ((r3 = 0 → Q x3 h4) ∧ (¬ r3 = 0 → (qS h4 x0 = .inl 11 ∧ (qS h4 (qR h4 x0 3) = .inl 6 ∧ w_State_isHung N (qR h4 x0 3) x2 h4 (fun r8 h9 => ((¬ r8 = 0 → (qS h9 x0 = .inl 11 ∧ (qS h9 (qR h9 x0 4) = .inl 6 ∧ w_State_become N (qR h9 x0 4) (qR h9 x0 3) h9 (fun h13 => (qS h13 x0 = .inl 11 ∧ (qS h13 (qR h13 x0 4) = .inl 6 ∧ w_State_exchange N (qR h13 x0 4) x1 x2 h13 (fun h16 => (qS h16 x0 = .inl 11 ∧ (qS h16 (qR h16 x0 5) = .inl 5 ∧ w_Reck_costOfAll N (qR h16 x0 5) (qR h16 x0 4) h16 (fun r19 h20 => Q r19 h20)))))))))) ∧ (r8 = 0 → Q x3 h9))))))))))
def w_X_swap_48 (N : Nat) : Nat → Nat → Int32 → Int32 → Int32 → Int32 → Int32 → Int32 → qH → (Int32 → qH → Prop) → (Nat → Int32 → Int32 → Int32 → Int32 → Int32 → qH → Prop) → Prop
  | 0 => fun _ _ _ _ _ _ _ _ _ _ => False
  | k + 1 => fun x0 x1 x2 x3 x4 x5 x6 h Q K99 => (qS h x0 = .inl 11 ∧ (qS h (qR h x0 1) = .inl 8 ∧ (((qI h (qR h x0 1) 3) ≤ x6 → (K99 x0 x1 x2 x3 x4 x5 h)) ∧ (¬ (qI h (qR h x0 1) 3) ≤ x6 → (w_X_costIfExchanged N x0 x5 x6 x2 h (fun r4 h5 => (∀ y6 : Int32, y6 = (x2 - r4) → ((y6 ≤ x4 → (w_X_swap_48 N k x0 x1 x2 x3 x4 x5 (x6 + (1 : Int32)) h5 Q K99)) ∧ (¬ y6 ≤ x4 → (∀ y8 : Int32, y8 = (((10 : Int32) * x5) + x6) → (w_X_swap_48 N k x0 x1 x2 y8 y6 x5 (x6 + (1 : Int32)) h5 Q K99)))))))))))
def w_X_swap_30 (N : Nat) : Nat → Nat → Int32 → Int32 → Int32 → Int32 → Int32 → qH → (Int32 → qH → Prop) → (Int32 → Int32 → Int32 → qH → Prop) → Prop
  | 0 => fun _ _ _ _ _ _ _ _ _ => False
  | k + 1 => fun x0 x1 x2 x3 x4 x5 h Q K105 => (qS h x0 = .inl 11 ∧ (qS h (qR h x0 1) = .inl 8 ∧ (((qI h (qR h x0 1) 3) ≤ x5 → (K105 x1 x3 x4 h)) ∧ (¬ (qI h (qR h x0 1) 3) ≤ x5 → (∀ y4 : Int32, y4 = (x5 + (1 : Int32)) → (w_X_swap_48 N N x0 x1 x2 x3 x4 x5 y4 h Q (fun x5 x6 x7 x8 x9 x10 h11 => (w_X_swap_30 N k x5 x6 x7 x8 x9 (x10 + (1 : Int32)) h11 Q K105))))))))
def w_X_swap (N : Nat) (x0 : Nat) (x1 : Int32) (h : qH) (Q : Int32 → qH → Prop) : Prop := (w_X_isZeroOrOne N x1 h (fun r1 h2 => ((¬ r1 = 0 → (qS h2 x0 = .inl 11 ∧ (qS h2 (qR h2 x0 5) = .inl 5 ∧ w_Reck_costOfAll N (qR h2 x0 5) (qR h2 x0 3) h2 (fun r6 h7 => (w_X_swap_30 N N x0 x1 r6 (-2 : Int32) (0 : Int32) (0 : Int32) h7 Q (fun x8 x9 x10 h11 => ((x8 = 0 → Q x9 h11) ∧ (¬ x8 = 0 → ((¬ x9 = (-2 : Int32) → Q x10 h11) ∧ (x9 = (-2 : Int32) → Q x9 h11)))))))))) ∧ (r1 = 0 → Q (-1 : Int32) h2))))
def w_X_round_13 (N : Nat) : Nat → Nat → Int32 → qH → (Int32 → qH → Prop) → Prop
  | 0 => fun _ _ _ _ => False
  | k + 1 => fun x0 x1 h Q => (((240 : Int32) < x1 → Q (-2 : Int32) h) ∧ (¬ (240 : Int32) < x1 → (qS h x0 = .inl 11 ∧ (qS h (qR h x0 6) = .inl 1 ∧ w_Night_wakeAll N (qR h x0 6) (qR h x0 4) h (fun h4 => (qS h4 x0 = .inl 11 ∧ (qS h4 (qR h4 x0 4) = .inl 6 ∧ w_State_hasSelvesOf N (qR h4 x0 4) (qR h4 x0 3) h4 (fun r7 h8 => ((r7 = 0 → (w_X_round_13 N k x0 (x1 + (1 : Int32)) h8 Q)) ∧ (¬ r7 = 0 → Q x1 h8))))))))))
def w_X_round (N : Nat) (x0 : Nat) (h : qH) (Q : Int32 → qH → Prop) : Prop := (qS h x0 = .inl 11 ∧ (qS h (qR h x0 4) = .inl 6 ∧ w_State_become N (qR h x0 4) (qR h x0 3) h (fun h3 => (w_X_round_13 N N x0 (1 : Int32) h3 Q ))))
def w_X_upright_34 (N : Nat) : Nat → Nat → Int32 → Int32 → Int32 → qH → (Int32 → qH → Prop) → (Nat → Int32 → qH → Prop) → Prop
  | 0 => fun _ _ _ _ _ _ _ => False
  | k + 1 => fun x0 x1 x2 x3 h Q K56 => ((x1 ≤ x3 → (K56 x0 x2 h)) ∧ (¬ x1 ≤ x3 → (qS h x0 = .inl 11 ∧ (qS h (qR h x0 6) = .inl 1 ∧ w_Night_goByQuietly N (qR h x0 6) (qR h x0 4) h (fun h4 => (w_X_upright_34 N k x0 x1 x2 (x3 + (1 : Int32)) h4 Q K56))))))
def w_X_upright_61 (N : Nat) : Nat → Nat → Int32 → Int32 → Int32 → qH → (Int32 → qH → Prop) → Prop
  | 0 => fun _ _ _ _ _ _ => False
  | k + 1 => fun x0 x2 x3 x4 h Q => (qS h x0 = .inl 11 ∧ (qS h (qR h x0 1) = .inl 8 ∧ (((qI h (qR h x0 1) 3) ≤ x4 → Q x3 h) ∧ (¬ (qI h (qR h x0 1) 3) ≤ x4 → (qS h (qR h x0 4) = .inl 6 ∧ (qok h (qR h (qR h x0 4) 5) 0 x4 ∧ ((x2 ≤ (qI h (qR h (qR h x0 4) 5) (x4).toNatClampNeg) → (∀ y7 : Int32, y7 = (x3 ||| (0 : Int32)) → (w_X_upright_61 N k x0 x2 y7 (x4 + (1 : Int32)) h Q))) ∧ (¬ x2 ≤ (qI h (qR h (qR h x0 4) 5) (x4).toNatClampNeg) → (∀ y8 : Int32, y8 = (x3 ||| ((1 : Int32) <<< (x4 &&& 31))) → (w_X_upright_61 N k x0 x2 y8 (x4 + (1 : Int32)) h Q))))))))))
def w_X_upright (N : Nat) (x0 : Nat) (x1 : Int32) (x2 : Int32) (h : qH) (Q : Int32 → qH → Prop) : Prop := (w_X_isFewNights N x1 h (fun r1 h2 => ((r1 = 0 → Q (-1 : Int32) h2) ∧ (¬ r1 = 0 → ((x2 < (1 : Int32) → Q (-1 : Int32) h2) ∧ (¬ x2 < (1 : Int32) → ((x2 ≤ (999 : Int32) → (qS h2 x0 = .inl 11 ∧ (qS h2 (qR h2 x0 4) = .inl 6 ∧ w_State_become N (qR h2 x0 4) (qR h2 x0 3) h2 (fun h8 => (w_X_upright_34 N N x0 x1 x2 (0 : Int32) h8 Q (fun x9 x10 h11 => (w_X_upright_61 N N x9 x10 (0 : Int32) (0 : Int32) h11 Q ))))))) ∧ (¬ x2 ≤ (999 : Int32) → Q (-1 : Int32) h2))))))))
def w_X_holder_2 (N : Nat) : Nat → Nat → Int32 → Int32 → qH → (Int32 → qH → Prop) → Prop
  | 0 => fun _ _ _ _ _ => False
  | k + 1 => fun x0 x1 x2 h Q => (qS h x0 = .inl 11 ∧ (qS h (qR h x0 1) = .inl 8 ∧ (((qI h (qR h x0 1) 3) ≤ x2 → Q (-1 : Int32) h) ∧ (¬ (qI h (qR h x0 1) 3) ≤ x2 → (qS h (qR h x0 3) = .inl 6 ∧ (qok h (qR h (qR h x0 3) 4) 0 x2 ∧ ((¬ (qI h (qR h (qR h x0 3) 4) (x2).toNatClampNeg) = x1 → (w_X_holder_2 N k x0 x1 (x2 + (1 : Int32)) h Q)) ∧ ((qI h (qR h (qR h x0 3) 4) (x2).toNatClampNeg) = x1 → Q x2 h))))))))
def w_X_holder (N : Nat) (x0 : Nat) (x1 : Int32) (h : qH) (Q : Int32 → qH → Prop) : Prop := (w_X_holder_2 N N x0 x1 (0 : Int32) h Q )
def w_X_free_9 (N : Nat) : Nat → Nat → Int32 → Int32 → Int32 → Int32 → qH → (Int32 → qH → Prop) → Prop
  | 0 => fun _ _ _ _ _ _ _ => False
  | k + 1 => fun x0 x1 x2 x3 x4 h Q => (qS h x0 = .inl 11 ∧ (qS h (qR h x0 1) = .inl 8 ∧ (((qI h (qR h x0 1) 0) ≤ x4 → ((x1 = (0 : Int32) → Q x2 h) ∧ (¬ x1 = (0 : Int32) → ((x1 = (1 : Int32) → Q x3 h) ∧ (¬ x1 = (1 : Int32) → Q (-1 : Int32) h))))) ∧ (¬ (qI h (qR h x0 1) 0) ≤ x4 → (qS h (qR h x0 3) = .inl 6 ∧ w_State_isTaken N (qR h x0 3) x4 h (fun r7 h8 => ((¬ r7 = 0 → (w_X_free_9 N k x0 x1 x2 x3 (x4 + (1 : Int32)) h8 Q)) ∧ (r7 = 0 → (qS h8 x0 = .inl 11 ∧ (qS h8 (qR h8 x0 1) = .inl 8 ∧ (qok h8 (qR h8 (qR h8 x0 1) 2) 0 x4 ∧ (((qI h8 (qR h8 (qR h8 x0 1) 2) (x4).toNatClampNeg) ≤ x3 → (w_X_free_9 N k x0 x1 x2 x3 (x4 + (1 : Int32)) h8 Q)) ∧ (¬ (qI h8 (qR h8 (qR h8 x0 1) 2) (x4).toNatClampNeg) ≤ x3 → (∀ y14 : Int32, y14 = (qI h8 (qR h8 (qR h8 x0 1) 2) (x4).toNatClampNeg) → (w_X_free_9 N k x0 x1 x4 y14 (x4 + (1 : Int32)) h8 Q)))))))))))))))
def w_X_free (N : Nat) (x0 : Nat) (x1 : Int32) (h : qH) (Q : Int32 → qH → Prop) : Prop := (w_X_free_9 N N x0 x1 (-2 : Int32) (-2 : Int32) (0 : Int32) h Q )
def w_X_day_23 (N : Nat) : Nat → Nat → Int32 → Int32 → qH → (Int32 → qH → Prop) → Prop
  | 0 => fun _ _ _ _ _ => False
  | k + 1 => fun x0 x1 x2 h Q => (((240 : Int32) < x2 → Q (-2 : Int32) h) ∧ (¬ (240 : Int32) < x2 → (qS h x0 = .inl 11 ∧ (qS h (qR h x0 4) = .inl 6 ∧ (qok h (qR h (qR h x0 4) 4) 0 x1 ∧ ((¬ (qI h (qR h (qR h x0 4) 4) (x1).toNatClampNeg) = x1 → (qS h (qR h x0 6) = .inl 1 ∧ w_Night_wakeAll N (qR h x0 6) (qR h x0 4) h (fun h7 => (w_X_day_23 N k x0 x1 (x2 + (1 : Int32)) h7 Q)))) ∧ ((qI h (qR h (qR h x0 4) 4) (x1).toNatClampNeg) = x1 → Q x2 h)))))))
def w_X_day (N : Nat) (x0 : Nat) (x1 : Int32) (h : qH) (Q : Int32 → qH → Prop) : Prop := (qS h x0 = .inl 11 ∧ w_X_isPerson N x0 x1 h (fun r2 h3 => ((¬ r2 = 0 → (qS h3 x0 = .inl 11 ∧ (qS h3 (qR h3 x0 4) = .inl 6 ∧ w_State_become N (qR h3 x0 4) (qR h3 x0 3) h3 (fun h7 => (w_X_day_23 N N x0 x1 (0 : Int32) h7 Q ))))) ∧ (r2 = 0 → Q (-1 : Int32) h3))))
def w_X_then (N : Nat) (x0 : Nat) (x1 : Int32) (x2 : Int32) (x3 : Int32) (h : qH) (Q : Int32 → qH → Prop) : Prop := (qS h x0 = .inl 11 ∧ w_X_isPerson N x0 x1 h (fun r2 h3 => ((r2 = 0 → Q (-1 : Int32) h3) ∧ (¬ r2 = 0 → (w_X_isFewNights N x2 h3 (fun r5 h6 => ((r5 = 0 → Q (-1 : Int32) h6) ∧ (¬ r5 = 0 → ((x3 < 0 → Q (-1 : Int32) h6) ∧ (¬ x3 < 0 → ((x3 ≤ (2 : Int32) → (qS h6 x0 = .inl 11 ∧ (qS h6 (qR h6 x0 4) = .inl 6 ∧ w_State_become N (qR h6 x0 4) (qR h6 x0 3) h6 (fun h12 => (qS h12 x0 = .inl 11 ∧ (qS h12 (qR h12 x0 1) = .inl 8 ∧ (qS h12 (qR h12 x0 6) = .inl 1 ∧ w_Night_goByWithAll N (qR h12 x0 6) (qR h12 x0 4) x2 (qI h12 (qR h12 x0 1) 12) h12 (fun h16 => ((x3 = (0 : Int32) → (qS h16 x0 = .inl 11 ∧ (qS h16 (qR h16 x0 4) = .inl 6 ∧ (qok h16 (qR h16 (qR h16 x0 4) 4) 0 x1 ∧ Q (qI h16 (qR h16 (qR h16 x0 4) 4) (x1).toNatClampNeg) h16)))) ∧ (¬ x3 = (0 : Int32) → ((x3 = (1 : Int32) → (qS h16 x0 = .inl 11 ∧ (qS h16 (qR h16 x0 4) = .inl 6 ∧ (qok h16 (qR h16 (qR h16 x0 4) 5) 0 x1 ∧ Q (qI h16 (qR h16 (qR h16 x0 4) 5) (x1).toNatClampNeg) h16)))) ∧ (¬ x3 = (1 : Int32) → (qS h16 x0 = .inl 11 ∧ (qS h16 (qR h16 x0 4) = .inl 6 ∧ (qok h16 (qR h16 (qR h16 x0 4) 3) 0 x1 ∧ Q (qI h16 (qR h16 (qR h16 x0 4) 3) (x1).toNatClampNeg) h16))))))))))))))) ∧ (¬ x3 ≤ (2 : Int32) → Q (-1 : Int32) h6))))))))))))
def w_X_bentIn (N : Nat) (x0 : Nat) (x1 : Int32) (x2 : Int32) (h : qH) (Q : Int32 → qH → Prop) : Prop := (qS h x0 = .inl 11 ∧ w_X_isHanger N x0 x1 h (fun r2 h3 => ((r2 = 0 → Q (-1 : Int32) h3) ∧ (¬ r2 = 0 → (w_X_isFewNights N x2 h3 (fun r5 h6 => ((¬ r5 = 0 → (qS h6 x0 = .inl 11 ∧ (qS h6 (qR h6 x0 4) = .inl 6 ∧ w_State_become N (qR h6 x0 4) (qR h6 x0 3) h6 (fun h10 => (qS h10 x0 = .inl 11 ∧ (qS h10 (qR h10 x0 1) = .inl 8 ∧ (qS h10 (qR h10 x0 6) = .inl 1 ∧ w_Night_goByWithAll N (qR h10 x0 6) (qR h10 x0 4) x2 (qI h10 (qR h10 x0 1) 12) h10 (fun h14 => (qS h14 x0 = .inl 11 ∧ (qS h14 (qR h14 x0 4) = .inl 6 ∧ (qok h14 (qR h14 (qR h14 x0 4) 6) 0 x1 ∧ Q (qI h14 (qR h14 (qR h14 x0 4) 6) (x1).toNatClampNeg) h14))))))))))) ∧ (r5 = 0 → Q (-1 : Int32) h6))))))))
def w_X_year_34 (N : Nat) : Nat → Nat → Int32 → Int32 → Int32 → Int32 → Int32 → qH → (Int32 → qH → Prop) → Prop
  | 0 => fun _ _ _ _ _ _ _ _ => False
  | k + 1 => fun x0 x1 x2 x3 x4 x5 h Q => ((x3 ≤ x5 → Q x4 h) ∧ (¬ x3 ≤ x5 → (qS h x0 = .inl 11 ∧ (qS h (qR h x0 4) = .inl 6 ∧ w_State_become N (qR h x0 4) (qR h x0 3) h (fun h4 => (qS h4 x0 = .inl 11 ∧ (qS h4 (qR h4 x0 1) = .inl 8 ∧ (qS h4 (qR h4 x0 6) = .inl 1 ∧ w_Night_staysHung N (qR h4 x0 6) (qR h4 x0 4) x2 ((qI h4 (qR h4 x0 1) 12) + x5) x1 h4 (fun r8 h9 => ((r8 = 0 → (∀ y11 : Int32, y11 = (x4 + (0 : Int32)) → (w_X_year_34 N k x0 x1 x2 x3 y11 (x5 + (1 : Int32)) h9 Q))) ∧ (¬ r8 = 0 → (∀ y12 : Int32, y12 = (x4 + (1 : Int32)) → (w_X_year_34 N k x0 x1 x2 x3 y12 (x5 + (1 : Int32)) h9 Q)))))))))))))
def w_X_year (N : Nat) (x0 : Nat) (x1 : Int32) (x2 : Int32) (x3 : Int32) (h : qH) (Q : Int32 → qH → Prop) : Prop := (qS h x0 = .inl 11 ∧ w_X_isPerson N x0 x1 h (fun r2 h3 => ((r2 = 0 → Q (-1 : Int32) h3) ∧ (¬ r2 = 0 → (w_X_isFewNights N x2 h3 (fun r5 h6 => ((r5 = 0 → Q (-1 : Int32) h6) ∧ (¬ r5 = 0 → ((x3 < (1 : Int32) → Q (-1 : Int32) h6) ∧ (¬ x3 < (1 : Int32) → ((x3 ≤ (20 : Int32) → (w_X_year_34 N N x0 x1 x2 x3 (0 : Int32) (0 : Int32) h6 Q )) ∧ (¬ x3 ≤ (20 : Int32) → Q (-1 : Int32) h6))))))))))))
def w_X_tell (N : Nat) (x0 : Nat) (x1 : Int32) (x2 : Int32) (x3 : Int32) (h : qH) (Q : Int32 → qH → Prop) : Prop := (qS h x0 = .inl 11 ∧ w_X_isPerson N x0 x1 h (fun r2 h3 => ((r2 = 0 → Q (-1 : Int32) h3) ∧ (¬ r2 = 0 → (qS h3 x0 = .inl 11 ∧ w_X_isPerson N x0 x2 h3 (fun r6 h7 => ((r6 = 0 → Q (-1 : Int32) h7) ∧ (¬ r6 = 0 → (qS h7 x0 = .inl 11 ∧ (qS h7 (qR h7 x0 8) = .inl 9 ∧ w_Told_hasRoom N (qR h7 x0 8) h7 (fun r11 h12 => ((¬ r11 = 0 → (qS h12 x0 = .inl 11 ∧ (qS h12 (qR h12 x0 8) = .inl 9 ∧ w_Told_add N (qR h12 x0 8) x1 x2 x3 h12 (fun r16 h17 => Q r16 h17)))) ∧ (r11 = 0 → Q (-1 : Int32) h12)))))))))))))
def w_X_forget (N : Nat) (x0 : Nat) (h : qH) (Q : Int32 → qH → Prop) : Prop := (qS h x0 = .inl 11 ∧ (qS h (qR h x0 8) = .inl 9 ∧ (∀ y3 : Int32, y3 = (qI h (qR h x0 8) 7) → (∀ h4 : qH, h4 = qsI h (qR h x0 8) 7 (0 : Int32) → Q y3 h4))))
def w_X_isKnown (N : Nat) (x0 : Nat) (x1 : Int32) (h : qH) (Q : Int32 → qH → Prop) : Prop := ((x1 < 0 → (qzb (0 : Int32) ∧ Q (0 : Int32) h)) ∧ (¬ x1 < 0 → (qS h x0 = .inl 11 ∧ (qS h (qR h x0 8) = .inl 9 ∧ (((qI h (qR h x0 8) 7) < x1 → (qzb (0 : Int32) ∧ Q (0 : Int32) h)) ∧ (¬ (qI h (qR h x0 8) 7) < x1 → (qzb (1 : Int32) ∧ Q (1 : Int32) h)))))))
def w_X_two (N : Nat) (x0 : Nat) (x1 : Int32) (x2 : Int32) (h : qH) (Q : Int32 → qH → Prop) : Prop := (qS h x0 = .inl 11 ∧ w_X_isKnown N x0 x1 h (fun r2 h3 => ((r2 = 0 → Q (-1 : Int32) h3) ∧ (¬ r2 = 0 → (((-1 : Int32) ≤ x2 → ((¬ x2 = (-1 : Int32) → (qS h3 x0 = .inl 11 ∧ (qS h3 (qR h3 x0 8) = .inl 9 ∧ w_Told_pairLeft N (qR h3 x0 8) (qR h3 x0 3) x1 x2 h3 (fun r9 h10 => Q r9 h10)))) ∧ (x2 = (-1 : Int32) → (qS h3 x0 = .inl 11 ∧ (qS h3 (qR h3 x0 8) = .inl 9 ∧ w_Told_pairsLeft N (qR h3 x0 8) (qR h3 x0 3) x1 h3 (fun r13 h14 => Q r13 h14)))))) ∧ (¬ (-1 : Int32) ≤ x2 → Q (-1 : Int32) h3))))))
def w_X_ask (N : Nat) (x0 : Nat) (x1 : Int32) (h : qH) (Q : Int32 → qH → Prop) : Prop := (qS h x0 = .inl 11 ∧ w_X_isKnown N x0 x1 h (fun r2 h3 => ((r2 = 0 → Q (-1 : Int32) h3) ∧ (¬ r2 = 0 → (qS h3 x0 = .inl 11 ∧ (qS h3 (qR h3 x0 8) = .inl 9 ∧ w_Told_whomToAsk N (qR h3 x0 8) (qR h3 x0 3) x1 h3 (fun r7 h8 => Q r7 h8)))))))
def w_X_isSlot (N : Nat) (x0 : Int32) (h : qH) (Q : Int32 → qH → Prop) : Prop := ((x0 < 0 → (qzb (0 : Int32) ∧ Q (0 : Int32) h)) ∧ (¬ x0 < 0 → (((3 : Int32) ≤ x0 → (qzb (0 : Int32) ∧ Q (0 : Int32) h)) ∧ (¬ (3 : Int32) ≤ x0 → (qzb (1 : Int32) ∧ Q (1 : Int32) h)))))
def w_X_hold (N : Nat) (x0 : Nat) (x1 : Int32) (h : qH) (Q : Int32 → qH → Prop) : Prop := (w_X_isSlot N x1 h (fun r1 h2 => ((¬ r1 = 0 → (qS h2 x0 = .inl 11 ∧ (qok h2 (qR h2 x0 10) 4 x1 ∧ (qS h2 (qR h2 (qR h2 x0 10) (x1).toNatClampNeg) = .inl 6 ∧ w_State_become N (qR h2 (qR h2 x0 10) (x1).toNatClampNeg) (qR h2 x0 3) h2 (fun h7 => (qS h7 x0 = .inl 11 ∧ (∀ h9 : qH, h9 = qsI h7 x0 11 ((qI h7 x0 11) ||| ((1 : Int32) <<< (x1 &&& 31))) → (qzb (1 : Int32) ∧ Q (1 : Int32) h9)))))))) ∧ (r1 = 0 → (qzb (0 : Int32) ∧ Q (0 : Int32) h2)))))
def w_X_restore (N : Nat) (x0 : Nat) (x1 : Int32) (h : qH) (Q : Int32 → qH → Prop) : Prop := (w_X_isSlot N x1 h (fun r1 h2 => ((r1 = 0 → (qzb (0 : Int32) ∧ Q (0 : Int32) h2)) ∧ (¬ r1 = 0 → (qS h2 x0 = .inl 11 ∧ ((¬ ((qI h2 x0 11) &&& ((1 : Int32) <<< (x1 &&& 31))) = 0 → (qok h2 (qR h2 x0 10) 4 x1 ∧ (qS h2 (qR h2 x0 3) = .inl 6 ∧ w_State_become N (qR h2 x0 3) (qR h2 (qR h2 x0 10) (x1).toNatClampNeg) h2 (fun h8 => (qS h8 x0 = .inl 11 ∧ (qS h8 (qR h8 x0 9) = .inl 2 ∧ w_Past_drop N (qR h8 x0 9) h8 (fun h11 => (qzb (1 : Int32) ∧ Q (1 : Int32) h11)))))))) ∧ (((qI h2 x0 11) &&& ((1 : Int32) <<< (x1 &&& 31))) = 0 → (qzb (0 : Int32) ∧ Q (0 : Int32) h2))))))))
def w_X_sumOfFirst_4 (N : Nat) : Nat → Nat → Int32 → Int32 → Int32 → qH → (Int32 → qH → Prop) → Prop
  | 0 => fun _ _ _ _ _ _ => False
  | k + 1 => fun x0 x1 x2 x3 h Q => ((x1 ≤ x3 → Q x2 h) ∧ (¬ x1 ≤ x3 → (∃ n2, qS h x0 = .inr (0, n2) ∧ (((nI n2) ≤ x3 → Q x2 h) ∧ (¬ (nI n2) ≤ x3 → (qok h x0 0 x3 ∧ (∀ y6 : Int32, y6 = (x2 + (qI h x0 (x3).toNatClampNeg)) → (w_X_sumOfFirst_4 N k x0 x1 y6 (x3 + (1 : Int32)) h Q))))))))
def w_X_sumOfFirst (N : Nat) (x0 : Nat) (x1 : Int32) (h : qH) (Q : Int32 → qH → Prop) : Prop := (w_X_sumOfFirst_4 N N x0 x1 (0 : Int32) (0 : Int32) h Q )
def w_X_count (N : Nat) (x0 : Nat) (x1 : Int32) (h : qH) (Q : Int32 → qH → Prop) : Prop := ((x1 = (0 : Int32) → (qS h x0 = .inl 11 ∧ (qS h (qR h x0 1) = .inl 8 ∧ Q (qI h (qR h x0 1) 0) h))) ∧ (¬ x1 = (0 : Int32) → ((x1 = (1 : Int32) → (qS h x0 = .inl 11 ∧ (qS h (qR h x0 1) = .inl 8 ∧ Q (qI h (qR h x0 1) 3) h))) ∧ (¬ x1 = (1 : Int32) → ((x1 = (2 : Int32) → (qS h x0 = .inl 11 ∧ (qS h (qR h x0 3) = .inl 6 ∧ Q (qI h (qR h x0 3) 1) h))) ∧ (¬ x1 = (2 : Int32) → ((x1 = (3 : Int32) → (qS h x0 = .inl 11 ∧ (qS h (qR h x0 3) = .inl 6 ∧ w_State_bitsOfHung N (qR h x0 3) h (fun r13 h14 => Q r13 h14)))) ∧ (¬ x1 = (3 : Int32) → ((x1 = (4 : Int32) → (qS h x0 = .inl 11 ∧ (qS h (qR h x0 3) = .inl 6 ∧ w_State_bitsOfTaken N (qR h x0 3) h (fun r18 h19 => Q r18 h19)))) ∧ (¬ x1 = (4 : Int32) → ((x1 = (5 : Int32) → (qS h x0 = .inl 11 ∧ (qS h (qR h x0 3) = .inl 6 ∧ w_State_bitsOfOwnSelves N (qR h x0 3) h (fun r23 h24 => Q r23 h24)))) ∧ (¬ x1 = (5 : Int32) → ((x1 = (6 : Int32) → (qS h x0 = .inl 11 ∧ (qS h (qR h x0 3) = .inl 6 ∧ (qS h (qR h x0 1) = .inl 8 ∧ (w_X_sumOfFirst N (qR h (qR h x0 3) 5) (qI h (qR h x0 1) 3) h (fun r29 h30 => Q r29 h30)))))) ∧ (¬ x1 = (6 : Int32) → ((x1 = (7 : Int32) → (qS h x0 = .inl 11 ∧ (qS h (qR h x0 3) = .inl 6 ∧ (qS h (qR h x0 1) = .inl 8 ∧ (w_X_sumOfFirst N (qR h (qR h x0 3) 6) (qI h (qR h x0 1) 0) h (fun r35 h36 => Q r35 h36)))))) ∧ (¬ x1 = (7 : Int32) → ((x1 = (8 : Int32) → (qS h x0 = .inl 11 ∧ (qS h (qR h x0 0) = .inl 7 ∧ Q (qI h (qR h x0 0) 1) h))) ∧ (¬ x1 = (8 : Int32) → ((x1 = (9 : Int32) → (qS h x0 = .inl 11 ∧ (qS h (qR h x0 9) = .inl 2 ∧ Q (qI h (qR h x0 9) 2) h))) ∧ (¬ x1 = (9 : Int32) → ((x1 = (10 : Int32) → (qS h x0 = .inl 11 ∧ (qS h (qR h x0 8) = .inl 9 ∧ Q (qI h (qR h x0 8) 7) h))) ∧ (¬ x1 = (10 : Int32) → ((x1 = (11 : Int32) → (qS h x0 = .inl 11 ∧ (w_Integer_bitCount N (qI h x0 11) h (fun r48 h49 => Q r48 h49)))) ∧ (¬ x1 = (11 : Int32) → ((x1 = (12 : Int32) → (qS h x0 = .inl 11 ∧ (qS h (qR h x0 1) = .inl 8 ∧ (qS h (qR h x0 3) = .inl 6 ∧ (qS h (qR h x0 6) = .inl 1 ∧ w_Night_hasMoth N (qR h x0 6) (qI h (qR h x0 1) 12) (qI h (qR h x0 3) 1) h (fun r55 h56 => ((r55 = 0 → Q (0 : Int32) h56) ∧ (¬ r55 = 0 → Q (1 : Int32) h56)))))))) ∧ (¬ x1 = (12 : Int32) → ((x1 = (13 : Int32) → (qS h x0 = .inl 11 ∧ (qS h (qR h x0 5) = .inl 5 ∧ w_Reck_costOfAll N (qR h x0 5) (qR h x0 3) h (fun r61 h62 => Q r61 h62)))) ∧ (¬ x1 = (13 : Int32) → ((x1 = (14 : Int32) → (qS h x0 = .inl 11 ∧ (qS h (qR h x0 3) = .inl 6 ∧ w_State_bitsOfSharedNails N (qR h x0 3) h (fun r66 h67 => Q r66 h67)))) ∧ (¬ x1 = (14 : Int32) → Q (-1 : Int32) h))))))))))))))))))))))))))))))
section QG
variable {p : Program} {l : Launch} {e : Env} {s : State} {m : MethodId} {args : Array Value} {below : List Frame} {meth : Method} {c : Code} {D : va_G} {cy : Nat → ClassId} {b : Nat} {adK adV : Nat → Nat}

set_option maxRecDepth 4000 in
theorem t_X_feed {adK adV : Nat → Nat} (l : Launch) (D : va_G) (cy : Nat → ClassId) (b : Nat) (N : Nat) (x0 : Nat) (x1 : Int32) (x2 : Int32) (x3 : Int32) (x4 : Int32) (x5 : Int32) (h : qH) (Q : Int32 → qH → Prop) (hw : w_X_feed N x0 x1 x2 x3 x4 x5 h Q) : Met l y_X_feed (Cond.code y_X_feed prog_1_method_2_code 6 (some .int) :: qT) (qrm 1 0 0 22) (qPc D cy b adK adV h [qr b x0, .int x1, .int x2, .int x3, .int x4, .int x5]) (qQc D cy b qrI Q) 0 0 (qA b) := by
  refine qmet (L0 := [(0, .inr (.inr (.inl x0))), (1, .inl x1), (2, .inl x2), (3, .inl x3), (4, .inl x4), (5, .inl x5)]) qm_X_feed (plainFor_of_name (by decide)) [.inr (.inr (.inl x0)), .inl x1, .inl x2, .inl x3, .inl x4, .inl x5] rfl (Nat.le_of_ble_eq_true rfl) rfl (fun p e s m args below meth c X => ?_)
  unfold w_X_feed at hw
  refine qx_aload_n (x := x0) X d_X_feed_0 rfl 0 rfl ?_
  obtain ⟨g1, hw⟩ := hw
  refine qx_getR X qcls11 g1 0 (by decide) rfl wf_X_10 d_X_feed_1 ?_
  refine qx_bipush (v := (20 : Int32)) X d_X_feed_4 (by decide) ?_
  obtain ⟨g2, hw⟩ := hw
  refine qx_callVI (st := []) (As := [.int (20 : Int32)]) X (t_Tape_hasRoomFor (adK := adK) (adV := adV) l D cy b N (qR h x0 0) (20 : Int32) h _ hw) qm_Tape_hasRoomFor wm_X_91 wi_Tape_hasRoomFor wl_Tape_hasRoomFor qcls7 g2 rfl rfl rfl ⟨Nat.le_of_ble_eq_true rfl, Nat.le_of_ble_eq_true rfl⟩ ⟨Nat.le_refl 0, Nat.le_refl 0⟩ (Nat.le_of_ble_eq_true rfl) rfl d_X_feed_6 (fun r3 h4 hw => ?_)
  refine qx_if_ne X 14 d_X_feed_9 (by decide) (fun q5 => ?_) (fun q5 => ?_)
  · have hw := hw.1 q5
    refine qx_aload_n (x := x0) X d_X_feed_14 rfl 0 rfl ?_
    obtain ⟨g6, hw⟩ := hw
    refine qx_getR X qcls11 g6 0 (by decide) rfl wf_X_10 d_X_feed_15 ?_
    refine qx_iload_n (x := x1) X d_X_feed_18 rfl 1 rfl ?_
    obtain ⟨g7, hw⟩ := hw
    refine qx_callVV (st := []) (As := [.int x1]) X (t_Tape_addFour (adK := adK) (adV := adV) l D cy b N (qR h4 x0 0) x1 h4 _ hw) qm_Tape_addFour wm_X_95 wi_Tape_addFour wl_Tape_addFour qcls7 g7 rfl rfl rfl ⟨Nat.le_of_ble_eq_true rfl, Nat.le_of_ble_eq_true rfl⟩ ⟨Nat.le_refl 0, Nat.le_refl 0⟩ (Nat.le_of_ble_eq_true rfl) rfl d_X_feed_19 (fun h8 hw => ?_)
    refine qx_aload_n (x := x0) X d_X_feed_22 rfl 0 rfl ?_
    obtain ⟨g9, hw⟩ := hw
    refine qx_getR X qcls11 g9 0 (by decide) rfl wf_X_10 d_X_feed_23 ?_
    refine qx_iload_n (x := x2) X d_X_feed_26 rfl 2 rfl ?_
    obtain ⟨g10, hw⟩ := hw
    refine qx_callVV (st := []) (As := [.int x2]) X (t_Tape_addFour (adK := adK) (adV := adV) l D cy b N (qR h8 x0 0) x2 h8 _ hw) qm_Tape_addFour wm_X_95 wi_Tape_addFour wl_Tape_addFour qcls7 g10 rfl rfl rfl ⟨Nat.le_of_ble_eq_true rfl, Nat.le_of_ble_eq_true rfl⟩ ⟨Nat.le_refl 0, Nat.le_refl 0⟩ (Nat.le_of_ble_eq_true rfl) rfl d_X_feed_27 (fun h11 hw => ?_)
    refine qx_aload_n (x := x0) X d_X_feed_30 rfl 0 rfl ?_
    obtain ⟨g12, hw⟩ := hw
    refine qx_getR X qcls11 g12 0 (by decide) rfl wf_X_10 d_X_feed_31 ?_
    refine qx_iload_n (x := x3) X d_X_feed_34 rfl 3 rfl ?_
    obtain ⟨g13, hw⟩ := hw
    refine qx_callVV (st := []) (As := [.int x3]) X (t_Tape_addFour (adK := adK) (adV := adV) l D cy b N (qR h11 x0 0) x3 h11 _ hw) qm_Tape_addFour wm_X_95 wi_Tape_addFour wl_Tape_addFour qcls7 g13 rfl rfl rfl ⟨Nat.le_of_ble_eq_true rfl, Nat.le_of_ble_eq_true rfl⟩ ⟨Nat.le_refl 0, Nat.le_refl 0⟩ (Nat.le_of_ble_eq_true rfl) rfl d_X_feed_35 (fun h14 hw => ?_)
    refine qx_aload_n (x := x0) X d_X_feed_38 rfl 0 rfl ?_
    obtain ⟨g15, hw⟩ := hw
    refine qx_getR X qcls11 g15 0 (by decide) rfl wf_X_10 d_X_feed_39 ?_
    refine qx_iload (x := x4) X d_X_feed_42 4 rfl ?_
    obtain ⟨g16, hw⟩ := hw
    refine qx_callVV (st := []) (As := [.int x4]) X (t_Tape_addFour (adK := adK) (adV := adV) l D cy b N (qR h14 x0 0) x4 h14 _ hw) qm_Tape_addFour wm_X_95 wi_Tape_addFour wl_Tape_addFour qcls7 g16 rfl rfl rfl ⟨Nat.le_of_ble_eq_true rfl, Nat.le_of_ble_eq_true rfl⟩ ⟨Nat.le_refl 0, Nat.le_refl 0⟩ (Nat.le_of_ble_eq_true rfl) rfl d_X_feed_44 (fun h17 hw => ?_)
    refine qx_aload_n (x := x0) X d_X_feed_47 rfl 0 rfl ?_
    obtain ⟨g18, hw⟩ := hw
    refine qx_getR X qcls11 g18 0 (by decide) rfl wf_X_10 d_X_feed_48 ?_
    refine qx_iload (x := x5) X d_X_feed_51 5 rfl ?_
    obtain ⟨g19, hw⟩ := hw
    refine qx_callVV (st := []) (As := [.int x5]) X (t_Tape_addFour (adK := adK) (adV := adV) l D cy b N (qR h17 x0 0) x5 h17 _ hw) qm_Tape_addFour wm_X_95 wi_Tape_addFour wl_Tape_addFour qcls7 g19 rfl rfl rfl ⟨Nat.le_of_ble_eq_true rfl, Nat.le_of_ble_eq_true rfl⟩ ⟨Nat.le_refl 0, Nat.le_refl 0⟩ (Nat.le_of_ble_eq_true rfl) rfl d_X_feed_53 (fun h20 hw => ?_)
    refine qx_aload_n (x := x0) X d_X_feed_56 rfl 0 rfl ?_
    obtain ⟨g21, hw⟩ := hw
    refine qx_getR X qcls11 g21 0 (by decide) rfl wf_X_10 d_X_feed_57 ?_
    obtain ⟨g22, hw⟩ := hw
    refine qx_getI X qcls7 g22 1 (by decide) rfl wf_X_99 d_X_feed_60 ?_
    exact qx_iret X hw (Nat.le_refl 0) (Nat.le_refl 0) rfl d_X_feed_63
  · have hw := hw.2 q5
    refine qx_iconst (v := (-1 : Int32)) X d_X_feed_12 (by decide) ?_
    exact qx_iret X hw (Nat.le_refl 0) (Nat.le_refl 0) rfl d_X_feed_13
set_option maxRecDepth 4000 in
theorem t_X_back {adK adV : Nat → Nat} (l : Launch) (D : va_G) (cy : Nat → ClassId) (b : Nat) (N : Nat) (x0 : Nat) (x1 : Int32) (h : qH) (Q : Int32 → qH → Prop) (hw : w_X_back N x0 x1 h Q) : Met l y_X_back (Cond.code y_X_back prog_1_method_3_code 2 (some .int) :: qT) (qrm 0 0 0 0) (qPc D cy b adK adV h [qr b x0, .int x1]) (qQc D cy b qrI Q) 0 0 (qA b) := by
  refine qmet (L0 := [(0, .inr (.inr (.inl x0))), (1, .inl x1)]) qm_X_back (plainFor_of_name (by decide)) [.inr (.inr (.inl x0)), .inl x1] rfl (Nat.le_of_ble_eq_true rfl) rfl (fun p e s m args below meth c X => ?_)
  unfold w_X_back at hw
  refine qx_iload_n (x := x1) X d_X_back_0 rfl 1 rfl ?_
  refine qx_if_lt X 15 d_X_back_1 (by decide) (fun q1 => ?_) (fun q1 => ?_)
  · have hw := hw.1 q1
    refine qx_iconst (v := (-1 : Int32)) X d_X_back_15 (by decide) ?_
    exact qx_iret X hw (Nat.le_refl 0) (Nat.le_refl 0) rfl d_X_back_16
  · have hw := hw.2 q1
    refine qx_iload_n (x := x1) X d_X_back_4 rfl 1 rfl ?_
    refine qx_aload_n (x := x0) X d_X_back_5 rfl 0 rfl ?_
    obtain ⟨g2, hw⟩ := hw
    refine qx_getR X qcls11 g2 0 (by decide) rfl wf_X_10 d_X_back_6 ?_
    obtain ⟨g3, hw⟩ := hw
    refine qx_getI X qcls7 g3 1 (by decide) rfl wf_X_99 d_X_back_9 ?_
    refine qx_icmp_le X 17 d_X_back_12 (by decide) (fun q4 => ?_) (fun q4 => ?_)
    · have hw := hw.1 q4
      refine qx_aload_n (x := x0) X d_X_back_17 rfl 0 rfl ?_
      refine qx_getR X qcls11 g2 0 (by decide) rfl wf_X_10 d_X_back_18 ?_
      refine qx_dup X (qr_cat _ _) d_X_back_21 ?_
      refine qx_getI X qcls7 g3 1 (by decide) rfl wf_X_99 d_X_back_22 ?_
      refine qx_iload_n (x := x1) X d_X_back_25 rfl 1 rfl ?_
      refine qx_isub X d_X_back_26 ?_
      refine qx_putI X qcls7 g3 1 (by decide) rfl wf_X_99 rfl rfl rfl d_X_back_27 ?_
      refine qx_toph (fun h5 eh5 => ?_)
      have hw := hw h5 eh5
      refine qx_aload_n (x := x0) X d_X_back_30 rfl 0 rfl ?_
      obtain ⟨g6, hw⟩ := hw
      refine qx_getR X qcls11 g6 0 (by decide) rfl wf_X_10 d_X_back_31 ?_
      obtain ⟨g7, hw⟩ := hw
      refine qx_getI X qcls7 g7 1 (by decide) rfl wf_X_99 d_X_back_34 ?_
      exact qx_iret X hw (Nat.le_refl 0) (Nat.le_refl 0) rfl d_X_back_37
    · have hw := hw.2 q4
      refine qx_iconst (v := (-1 : Int32)) X d_X_back_15 (by decide) ?_
      exact qx_iret X hw (Nat.le_refl 0) (Nat.le_refl 0) rfl d_X_back_16
set_option maxRecDepth 4000 in
theorem t_X_read {adK adV : Nat → Nat} (l : Launch) (D : va_G) (cy : Nat → ClassId) (b : Nat) (N : Nat) (x0 : Nat) (h : qH) (Q : Int32 → qH → Prop) (hw : w_X_read N x0 h Q) : Met l y_X_read (Cond.code y_X_read prog_1_method_4_code 2 (some .int) :: qT) (qrm 7 0 0 158) (qPc D cy b adK adV h [qr b x0]) (qQc D cy b qrI Q) 0 0 (qA b) := by
  refine qmet (L0 := [(0, .inr (.inr (.inl x0)))]) qm_X_read (plainFor_of_name (by decide)) [.inr (.inr (.inl x0))] rfl (Nat.le_of_ble_eq_true rfl) rfl (fun p e s m args below meth c X => ?_)
  unfold w_X_read at hw
  refine qx_aload_n (x := x0) X d_X_read_0 rfl 0 rfl ?_
  obtain ⟨g1, hw⟩ := hw
  refine qx_getR X qcls11 g1 2 (by decide) rfl wf_X_28 d_X_read_1 ?_
  obtain ⟨g2, hw⟩ := hw
  refine qx_callVI (st := []) (As := []) X (t_Reader_readAll (adK := adK) (adV := adV) l D cy b N (qR h x0 2) h _ hw) qm_Reader_readAll wm_X_102 wi_Reader_readAll wl_Reader_readAll qcls4 g2 rfl rfl rfl ⟨Nat.le_of_ble_eq_true rfl, Nat.le_of_ble_eq_true rfl⟩ ⟨Nat.le_refl 0, Nat.le_refl 0⟩ (Nat.le_of_ble_eq_true rfl) rfl d_X_read_4 (fun r3 h4 hw => ?_)
  refine qx_istore_n (L' := [(1, .inl r3), (0, .inr (.inr (.inl x0)))]) X d_X_read_7 rfl (by decide) rfl ?_
  refine qx_aload_n (x := x0) X d_X_read_8 rfl 1 rfl ?_
  obtain ⟨g5, hw⟩ := hw
  refine qx_getR X qcls11 g5 0 (by decide) rfl wf_X_10 d_X_read_9 ?_
  refine qx_iconst (v := (0 : Int32)) X d_X_read_12 (by decide) ?_
  obtain ⟨g6, hw⟩ := hw
  refine qx_putI X qcls7 g6 1 (by decide) rfl wf_X_99 rfl rfl rfl d_X_read_13 ?_
  refine qx_toph (fun h7 eh7 => ?_)
  have hw := hw h7 eh7
  refine qx_iload_n (x := r3) X d_X_read_16 rfl 0 rfl ?_
  refine qx_if_ne X 61 d_X_read_17 (by decide) (fun q8 => ?_) (fun q8 => ?_)
  · have hw := hw.1 q8
    refine qx_iload_n (x := r3) X d_X_read_61 rfl 0 rfl ?_
    exact qx_iret X hw (Nat.le_refl 0) (Nat.le_refl 0) rfl d_X_read_62
  · have hw := hw.2 q8
    refine qx_aload_n (x := x0) X d_X_read_20 rfl 1 rfl ?_
    obtain ⟨g9, hw⟩ := hw
    refine qx_getR X qcls11 g9 1 (by decide) rfl wf_X_19 d_X_read_21 ?_
    refine qx_aload_n (x := x0) X d_X_read_24 rfl 1 rfl ?_
    refine qx_getR X qcls11 g9 2 (by decide) rfl wf_X_28 d_X_read_25 ?_
    obtain ⟨g10, hw⟩ := hw
    refine qx_getR X qcls4 g10 5 (by decide) rfl wf_X_106 d_X_read_28 ?_
    obtain ⟨g11, hw⟩ := hw
    refine qx_callVV (st := []) (As := [qr b (qR h7 (qR h7 x0 2) 5)]) X (t_Text_become (adK := adK) (adV := adV) l D cy b N (qR h7 x0 1) (qR h7 (qR h7 x0 2) 5) h7 _ hw) qm_Text_become wm_X_109 wi_Text_become wl_Text_become qcls8 g11 rfl rfl rfl ⟨Nat.le_of_ble_eq_true rfl, Nat.le_of_ble_eq_true rfl⟩ ⟨Nat.le_refl 0, Nat.le_refl 0⟩ (Nat.le_of_ble_eq_true rfl) rfl d_X_read_31 (fun h12 hw => ?_)
    refine qx_aload_n (x := x0) X d_X_read_34 rfl 1 rfl ?_
    obtain ⟨g13, hw⟩ := hw
    refine qx_getR X qcls11 g13 3 (by decide) rfl wf_X_37 d_X_read_35 ?_
    obtain ⟨g14, hw⟩ := hw
    refine qx_callVV (st := []) (As := []) X (t_State_begin (adK := adK) (adV := adV) l D cy b N (qR h12 x0 3) h12 _ hw) qm_State_begin wm_X_112 wi_State_begin wl_State_begin qcls6 g14 rfl rfl rfl ⟨Nat.le_of_ble_eq_true rfl, Nat.le_of_ble_eq_true rfl⟩ ⟨Nat.le_refl 0, Nat.le_refl 0⟩ (Nat.le_of_ble_eq_true rfl) rfl d_X_read_38 (fun h15 hw => ?_)
    refine qx_aload_n (x := x0) X d_X_read_41 rfl 1 rfl ?_
    obtain ⟨g16, hw⟩ := hw
    refine qx_getR X qcls11 g16 9 (by decide) rfl wf_X_79 d_X_read_42 ?_
    obtain ⟨g17, hw⟩ := hw
    refine qx_callVV (st := []) (As := []) X (t_Past_drop (adK := adK) (adV := adV) l D cy b N (qR h15 x0 9) h15 _ hw) qm_Past_drop wm_X_115 wi_Past_drop wl_Past_drop qcls2 g17 rfl rfl rfl ⟨Nat.le_of_ble_eq_true rfl, Nat.le_of_ble_eq_true rfl⟩ ⟨Nat.le_refl 0, Nat.le_refl 0⟩ (Nat.le_of_ble_eq_true rfl) rfl d_X_read_45 (fun h18 hw => ?_)
    refine qx_aload_n (x := x0) X d_X_read_48 rfl 1 rfl ?_
    obtain ⟨g19, hw⟩ := hw
    refine qx_getR X qcls11 g19 8 (by decide) rfl wf_X_72 d_X_read_49 ?_
    refine qx_iconst (v := (0 : Int32)) X d_X_read_52 (by decide) ?_
    obtain ⟨g20, hw⟩ := hw
    refine qx_putI X qcls9 g20 7 (by decide) rfl wf_X_118 rfl rfl rfl d_X_read_53 ?_
    refine qx_toph (fun h21 eh21 => ?_)
    have hw := hw h21 eh21
    refine qx_aload_n (x := x0) X d_X_read_56 rfl 1 rfl ?_
    refine qx_iconst (v := (0 : Int32)) X d_X_read_57 (by decide) ?_
    obtain ⟨g22, hw⟩ := hw
    refine qx_putI X qcls11 g22 11 (by decide) rfl wf_X_87 rfl rfl rfl d_X_read_58 ?_
    refine qx_toph (fun h23 eh23 => ?_)
    have hw := hw h23 eh23
    refine qx_iload_n (x := r3) X d_X_read_61 rfl 0 rfl ?_
    exact qx_iret X hw (Nat.le_refl 0) (Nat.le_refl 0) rfl d_X_read_62
set_option maxRecDepth 4000 in
theorem t_X_place {adK adV : Nat → Nat} (l : Launch) (D : va_G) (cy : Nat → ClassId) (b : Nat) (N : Nat) (x0 : Nat) (h : qH) (Q : Int32 → qH → Prop) (hw : w_X_place N x0 h Q) : Met l y_X_place (Cond.code y_X_place prog_1_method_5_code 1 (some .int) :: qT) (qrm 0 0 0 0) (qPc D cy b adK adV h [qr b x0]) (qQc D cy b qrI Q) 0 0 (qA b) := by
  refine qmet (L0 := [(0, .inr (.inr (.inl x0)))]) qm_X_place (plainFor_of_name (by decide)) [.inr (.inr (.inl x0))] rfl (Nat.le_of_ble_eq_true rfl) rfl (fun p e s m args below meth c X => ?_)
  unfold w_X_place at hw
  refine qx_aload_n (x := x0) X d_X_place_0 rfl 0 rfl ?_
  obtain ⟨g1, hw⟩ := hw
  refine qx_getR X qcls11 g1 2 (by decide) rfl wf_X_28 d_X_place_1 ?_
  obtain ⟨g2, hw⟩ := hw
  refine qx_getI X qcls4 g2 13 (by decide) rfl wf_X_119 d_X_place_4 ?_
  exact qx_iret X hw (Nat.le_refl 0) (Nat.le_refl 0) rfl d_X_place_7
set_option maxRecDepth 4000 in
theorem t_X_isHanger {adK adV : Nat → Nat} (l : Launch) (D : va_G) (cy : Nat → ClassId) (b : Nat) (N : Nat) (x0 : Nat) (x1 : Int32) (h : qH) (Q : Int32 → qH → Prop) (hw : w_X_isHanger N x0 x1 h Q) : Met l y_X_isHanger (Cond.code y_X_isHanger prog_1_method_46_code 2 (some .boolean) :: qT) (qrm 0 0 0 0) (qPc D cy b adK adV h [qr b x0, .int x1]) (qQc D cy b qrI Q) 0 0 (qA b) := by
  refine qmet (L0 := [(0, .inr (.inr (.inl x0))), (1, .inl x1)]) qm_X_isHanger (plainFor_of_name (by decide)) [.inr (.inr (.inl x0)), .inl x1] rfl (Nat.le_of_ble_eq_true rfl) rfl (fun p e s m args below meth c X => ?_)
  unfold w_X_isHanger at hw
  refine qx_iload_n (x := x1) X d_X_isHanger_0 rfl 1 rfl ?_
  refine qx_if_lt X 19 d_X_isHanger_1 (by decide) (fun q1 => ?_) (fun q1 => ?_)
  · have hw := hw.1 q1
    refine qx_iconst (v := (0 : Int32)) X d_X_isHanger_19 (by decide) ?_
    exact qx_zret X hw (Nat.le_refl 0) (Nat.le_refl 0) rfl d_X_isHanger_20
  · have hw := hw.2 q1
    refine qx_iload_n (x := x1) X d_X_isHanger_4 rfl 1 rfl ?_
    refine qx_aload_n (x := x0) X d_X_isHanger_5 rfl 0 rfl ?_
    obtain ⟨g2, hw⟩ := hw
    refine qx_getR X qcls11 g2 1 (by decide) rfl wf_X_19 d_X_isHanger_6 ?_
    obtain ⟨g3, hw⟩ := hw
    refine qx_getI X qcls8 g3 0 (by decide) rfl wf_X_238 d_X_isHanger_9 ?_
    refine qx_icmp_ge X 19 d_X_isHanger_12 (by decide) (fun q4 => ?_) (fun q4 => ?_)
    · have hw := hw.1 q4
      refine qx_iconst (v := (0 : Int32)) X d_X_isHanger_19 (by decide) ?_
      exact qx_zret X hw (Nat.le_refl 0) (Nat.le_refl 0) rfl d_X_isHanger_20
    · have hw := hw.2 q4
      refine qx_iconst (v := (1 : Int32)) X d_X_isHanger_15 (by decide) ?_
      refine qx_goto X 20 d_X_isHanger_16 (by decide) ?_
      exact qx_zret X hw (Nat.le_refl 0) (Nat.le_refl 0) rfl d_X_isHanger_20
set_option maxRecDepth 4000 in
theorem t_X_hanger {adK adV : Nat → Nat} (l : Launch) (D : va_G) (cy : Nat → ClassId) (b : Nat) (N : Nat) (x0 : Nat) (x1 : Int32) (x2 : Int32) (h : qH) (Q : Int32 → qH → Prop) (hw : w_X_hanger N x0 x1 x2 h Q) : Met l y_X_hanger (Cond.code y_X_hanger prog_1_method_6_code 3 (some .int) :: qT) (qrm 1 0 0 22) (qPc D cy b adK adV h [qr b x0, .int x1, .int x2]) (qQc D cy b qrI Q) 0 0 (qA b) := by
  refine qmet (L0 := [(0, .inr (.inr (.inl x0))), (1, .inl x1), (2, .inl x2)]) qm_X_hanger (plainFor_of_name (by decide)) [.inr (.inr (.inl x0)), .inl x1, .inl x2] rfl (Nat.le_of_ble_eq_true rfl) rfl (fun p e s m args below meth c X => ?_)
  unfold w_X_hanger at hw
  refine qx_aload_n (x := x0) X d_X_hanger_0 rfl 0 rfl ?_
  refine qx_iload_n (x := x1) X d_X_hanger_1 rfl 1 rfl ?_
  obtain ⟨g1, hw⟩ := hw
  refine qx_callVI (st := []) (As := [.int x1]) X (t_X_isHanger (adK := adK) (adV := adV) l D cy b N x0 x1 h _ hw) qm_X_isHanger wm_X_122 wi_X_isHanger wl_X_isHanger qcls11 g1 rfl rfl rfl ⟨Nat.le_of_ble_eq_true rfl, Nat.le_of_ble_eq_true rfl⟩ ⟨Nat.le_refl 0, Nat.le_refl 0⟩ (Nat.le_of_ble_eq_true rfl) rfl d_X_hanger_2 (fun r2 h3 hw => ?_)
  refine qx_if_ne X 10 d_X_hanger_5 (by decide) (fun q4 => ?_) (fun q4 => ?_)
  · have hw := hw.1 q4
    refine qx_iload_n (x := x2) X d_X_hanger_10 rfl 2 rfl ?_
    by_cases q5 : x2 = (0 : Int32)
    · have hw := hw.1 q5
      refine qx_tableIn (off := (29)) X 40 d_X_hanger_11 (by rw [q5]; decide) (by rw [q5]; decide) (by rw [q5]; rfl) (by decide) ?_
      refine qx_aload_n (x := x0) X d_X_hanger_40 rfl 0 rfl ?_
      obtain ⟨g6, hw⟩ := hw
      refine qx_getR X qcls11 g6 1 (by decide) rfl wf_X_19 d_X_hanger_41 ?_
      obtain ⟨g7, hw⟩ := hw
      refine qx_getR X qcls8 g7 1 (by decide) rfl wf_X_125 d_X_hanger_44 ?_
      refine qx_iload_n (x := x1) X d_X_hanger_47 rfl 1 rfl ?_
      obtain ⟨g8, hw⟩ := hw
      refine qx_ild X g8 d_X_hanger_48 ?_
      exact qx_iret X hw (Nat.le_refl 0) (Nat.le_refl 0) rfl d_X_hanger_49
    · have hw := hw.2 q5
      by_cases q9 : x2 = (1 : Int32)
      · have hw := hw.1 q9
        refine qx_tableIn (off := (39)) X 50 d_X_hanger_11 (by rw [q9]; decide) (by rw [q9]; decide) (by rw [q9]; rfl) (by decide) ?_
        refine qx_aload_n (x := x0) X d_X_hanger_50 rfl 0 rfl ?_
        obtain ⟨g10, hw⟩ := hw
        refine qx_getR X qcls11 g10 1 (by decide) rfl wf_X_19 d_X_hanger_51 ?_
        obtain ⟨g11, hw⟩ := hw
        refine qx_getR X qcls8 g11 2 (by decide) rfl wf_X_129 d_X_hanger_54 ?_
        refine qx_iload_n (x := x1) X d_X_hanger_57 rfl 1 rfl ?_
        obtain ⟨g12, hw⟩ := hw
        refine qx_ild X g12 d_X_hanger_58 ?_
        exact qx_iret X hw (Nat.le_refl 0) (Nat.le_refl 0) rfl d_X_hanger_59
      · have hw := hw.2 q9
        by_cases q13 : x2 = (2 : Int32)
        · have hw := hw.1 q13
          refine qx_tableIn (off := (49)) X 60 d_X_hanger_11 (by rw [q13]; decide) (by rw [q13]; decide) (by rw [q13]; rfl) (by decide) ?_
          refine qx_aload_n (x := x0) X d_X_hanger_60 rfl 0 rfl ?_
          obtain ⟨g14, hw⟩ := hw
          refine qx_getR X qcls11 g14 3 (by decide) rfl wf_X_37 d_X_hanger_61 ?_
          obtain ⟨g15, hw⟩ := hw
          refine qx_getR X qcls6 g15 6 (by decide) rfl wf_X_132 d_X_hanger_64 ?_
          refine qx_iload_n (x := x1) X d_X_hanger_67 rfl 1 rfl ?_
          obtain ⟨g16, hw⟩ := hw
          refine qx_ild X g16 d_X_hanger_68 ?_
          exact qx_iret X hw (Nat.le_refl 0) (Nat.le_refl 0) rfl d_X_hanger_69
        · have hw := hw.2 q13
          by_cases q17 : x2 = (3 : Int32)
          · have hw := hw.1 q17
            refine qx_tableIn (off := (59)) X 70 d_X_hanger_11 (by rw [q17]; decide) (by rw [q17]; decide) (by rw [q17]; rfl) (by decide) ?_
            refine qx_aload_n (x := x0) X d_X_hanger_70 rfl 0 rfl ?_
            obtain ⟨g18, hw⟩ := hw
            refine qx_getR X qcls11 g18 3 (by decide) rfl wf_X_37 d_X_hanger_71 ?_
            refine qx_iload_n (x := x1) X d_X_hanger_74 rfl 1 rfl ?_
            obtain ⟨g19, hw⟩ := hw
            refine qx_callVI (st := []) (As := [.int x1]) X (t_State_whoIsOn (adK := adK) (adV := adV) l D cy b N (qR h3 x0 3) x1 h3 _ hw) qm_State_whoIsOn wm_X_135 wi_State_whoIsOn wl_State_whoIsOn qcls6 g19 rfl rfl rfl ⟨Nat.le_of_ble_eq_true rfl, Nat.le_of_ble_eq_true rfl⟩ ⟨Nat.le_refl 0, Nat.le_refl 0⟩ (Nat.le_of_ble_eq_true rfl) rfl d_X_hanger_75 (fun r20 h21 hw => ?_)
            exact qx_iret X hw (Nat.le_refl 0) (Nat.le_refl 0) rfl d_X_hanger_78
          · have hw := hw.2 q17
            have gx : x2.toInt < 0 ∨ 3 < x2.toInt := by
              have nq5 : x2.toInt ≠ 0 := fun z => q5 (Int32.toInt_inj.mp z)
              have nq9 : x2.toInt ≠ 1 := fun z => q9 (Int32.toInt_inj.mp z)
              have nq13 : x2.toInt ≠ 2 := fun z => q13 (Int32.toInt_inj.mp z)
              have nq17 : x2.toInt ≠ 3 := fun z => q17 (Int32.toInt_inj.mp z)
              omega
            refine qx_tableOut X 79 d_X_hanger_11 gx (by decide) ?_
            refine qx_iconst (v := (-1 : Int32)) X d_X_hanger_79 (by decide) ?_
            exact qx_iret X hw (Nat.le_refl 0) (Nat.le_refl 0) rfl d_X_hanger_80
  · have hw := hw.2 q4
    refine qx_iconst (v := (-1 : Int32)) X d_X_hanger_8 (by decide) ?_
    exact qx_iret X hw (Nat.le_refl 0) (Nat.le_refl 0) rfl d_X_hanger_9
set_option maxRecDepth 4000 in
theorem t_X_isPerson {adK adV : Nat → Nat} (l : Launch) (D : va_G) (cy : Nat → ClassId) (b : Nat) (N : Nat) (x0 : Nat) (x1 : Int32) (h : qH) (Q : Int32 → qH → Prop) (hw : w_X_isPerson N x0 x1 h Q) : Met l y_X_isPerson (Cond.code y_X_isPerson prog_1_method_47_code 2 (some .boolean) :: qT) (qrm 0 0 0 0) (qPc D cy b adK adV h [qr b x0, .int x1]) (qQc D cy b qrI Q) 0 0 (qA b) := by
  refine qmet (L0 := [(0, .inr (.inr (.inl x0))), (1, .inl x1)]) qm_X_isPerson (plainFor_of_name (by decide)) [.inr (.inr (.inl x0)), .inl x1] rfl (Nat.le_of_ble_eq_true rfl) rfl (fun p e s m args below meth c X => ?_)
  unfold w_X_isPerson at hw
  refine qx_iload_n (x := x1) X d_X_isPerson_0 rfl 1 rfl ?_
  refine qx_if_lt X 19 d_X_isPerson_1 (by decide) (fun q1 => ?_) (fun q1 => ?_)
  · have hw := hw.1 q1
    refine qx_iconst (v := (0 : Int32)) X d_X_isPerson_19 (by decide) ?_
    exact qx_zret X hw (Nat.le_refl 0) (Nat.le_refl 0) rfl d_X_isPerson_20
  · have hw := hw.2 q1
    refine qx_iload_n (x := x1) X d_X_isPerson_4 rfl 1 rfl ?_
    refine qx_aload_n (x := x0) X d_X_isPerson_5 rfl 0 rfl ?_
    obtain ⟨g2, hw⟩ := hw
    refine qx_getR X qcls11 g2 1 (by decide) rfl wf_X_19 d_X_isPerson_6 ?_
    obtain ⟨g3, hw⟩ := hw
    refine qx_getI X qcls8 g3 3 (by decide) rfl wf_X_218 d_X_isPerson_9 ?_
    refine qx_icmp_ge X 19 d_X_isPerson_12 (by decide) (fun q4 => ?_) (fun q4 => ?_)
    · have hw := hw.1 q4
      refine qx_iconst (v := (0 : Int32)) X d_X_isPerson_19 (by decide) ?_
      exact qx_zret X hw (Nat.le_refl 0) (Nat.le_refl 0) rfl d_X_isPerson_20
    · have hw := hw.2 q4
      refine qx_iconst (v := (1 : Int32)) X d_X_isPerson_15 (by decide) ?_
      refine qx_goto X 20 d_X_isPerson_16 (by decide) ?_
      exact qx_zret X hw (Nat.le_refl 0) (Nat.le_refl 0) rfl d_X_isPerson_20
set_option maxRecDepth 4000 in
theorem t_X_person {adK adV : Nat → Nat} (l : Launch) (D : va_G) (cy : Nat → ClassId) (b : Nat) (N : Nat) (x0 : Nat) (x1 : Int32) (x2 : Int32) (h : qH) (Q : Int32 → qH → Prop) (hw : w_X_person N x0 x1 x2 h Q) : Met l y_X_person (Cond.code y_X_person prog_1_method_7_code 3 (some .int) :: qT) (qrm 3 0 0 66) (qPc D cy b adK adV h [qr b x0, .int x1, .int x2]) (qQc D cy b qrI Q) 0 0 (qA b) := by
  refine qmet (L0 := [(0, .inr (.inr (.inl x0))), (1, .inl x1), (2, .inl x2)]) qm_X_person (plainFor_of_name (by decide)) [.inr (.inr (.inl x0)), .inl x1, .inl x2] rfl (Nat.le_of_ble_eq_true rfl) rfl (fun p e s m args below meth c X => ?_)
  unfold w_X_person at hw
  refine qx_aload_n (x := x0) X d_X_person_0 rfl 0 rfl ?_
  refine qx_iload_n (x := x1) X d_X_person_1 rfl 1 rfl ?_
  obtain ⟨g1, hw⟩ := hw
  refine qx_callVI (st := []) (As := [.int x1]) X (t_X_isPerson (adK := adK) (adV := adV) l D cy b N x0 x1 h _ hw) qm_X_isPerson wm_X_139 wi_X_isPerson wl_X_isPerson qcls11 g1 rfl rfl rfl ⟨Nat.le_of_ble_eq_true rfl, Nat.le_of_ble_eq_true rfl⟩ ⟨Nat.le_refl 0, Nat.le_refl 0⟩ (Nat.le_of_ble_eq_true rfl) rfl d_X_person_2 (fun r2 h3 hw => ?_)
  refine qx_if_ne X 10 d_X_person_5 (by decide) (fun q4 => ?_) (fun q4 => ?_)
  · have hw := hw.1 q4
    refine qx_iload_n (x := x2) X d_X_person_10 rfl 2 rfl ?_
    by_cases q5 : x2 = (0 : Int32)
    · have hw := hw.1 q5
      refine qx_tableIn (off := (37)) X 48 d_X_person_11 (by rw [q5]; decide) (by rw [q5]; decide) (by rw [q5]; rfl) (by decide) ?_
      refine qx_aload_n (x := x0) X d_X_person_48 rfl 0 rfl ?_
      obtain ⟨g6, hw⟩ := hw
      refine qx_getR X qcls11 g6 3 (by decide) rfl wf_X_37 d_X_person_49 ?_
      obtain ⟨g7, hw⟩ := hw
      refine qx_getR X qcls6 g7 2 (by decide) rfl wf_X_142 d_X_person_52 ?_
      refine qx_iload_n (x := x1) X d_X_person_55 rfl 1 rfl ?_
      obtain ⟨g8, hw⟩ := hw
      refine qx_ild X g8 d_X_person_56 ?_
      exact qx_iret X hw (Nat.le_refl 0) (Nat.le_refl 0) rfl d_X_person_57
    · have hw := hw.2 q5
      by_cases q9 : x2 = (1 : Int32)
      · have hw := hw.1 q9
        refine qx_tableIn (off := (47)) X 58 d_X_person_11 (by rw [q9]; decide) (by rw [q9]; decide) (by rw [q9]; rfl) (by decide) ?_
        refine qx_aload_n (x := x0) X d_X_person_58 rfl 0 rfl ?_
        obtain ⟨g10, hw⟩ := hw
        refine qx_getR X qcls11 g10 1 (by decide) rfl wf_X_19 d_X_person_59 ?_
        obtain ⟨g11, hw⟩ := hw
        refine qx_getR X qcls8 g11 5 (by decide) rfl wf_X_145 d_X_person_62 ?_
        refine qx_iload_n (x := x1) X d_X_person_65 rfl 1 rfl ?_
        obtain ⟨g12, hw⟩ := hw
        refine qx_ild X g12 d_X_person_66 ?_
        exact qx_iret X hw (Nat.le_refl 0) (Nat.le_refl 0) rfl d_X_person_67
      · have hw := hw.2 q9
        by_cases q13 : x2 = (2 : Int32)
        · have hw := hw.1 q13
          refine qx_tableIn (off := (57)) X 68 d_X_person_11 (by rw [q13]; decide) (by rw [q13]; decide) (by rw [q13]; rfl) (by decide) ?_
          refine qx_aload_n (x := x0) X d_X_person_68 rfl 0 rfl ?_
          obtain ⟨g14, hw⟩ := hw
          refine qx_getR X qcls11 g14 3 (by decide) rfl wf_X_37 d_X_person_69 ?_
          obtain ⟨g15, hw⟩ := hw
          refine qx_getR X qcls6 g15 3 (by decide) rfl wf_X_148 d_X_person_72 ?_
          refine qx_iload_n (x := x1) X d_X_person_75 rfl 1 rfl ?_
          obtain ⟨g16, hw⟩ := hw
          refine qx_ild X g16 d_X_person_76 ?_
          exact qx_iret X hw (Nat.le_refl 0) (Nat.le_refl 0) rfl d_X_person_77
        · have hw := hw.2 q13
          by_cases q17 : x2 = (3 : Int32)
          · have hw := hw.1 q17
            refine qx_tableIn (off := (67)) X 78 d_X_person_11 (by rw [q17]; decide) (by rw [q17]; decide) (by rw [q17]; rfl) (by decide) ?_
            refine qx_aload_n (x := x0) X d_X_person_78 rfl 0 rfl ?_
            obtain ⟨g18, hw⟩ := hw
            refine qx_getR X qcls11 g18 3 (by decide) rfl wf_X_37 d_X_person_79 ?_
            obtain ⟨g19, hw⟩ := hw
            refine qx_getR X qcls6 g19 4 (by decide) rfl wf_X_151 d_X_person_82 ?_
            refine qx_iload_n (x := x1) X d_X_person_85 rfl 1 rfl ?_
            obtain ⟨g20, hw⟩ := hw
            refine qx_ild X g20 d_X_person_86 ?_
            exact qx_iret X hw (Nat.le_refl 0) (Nat.le_refl 0) rfl d_X_person_87
          · have hw := hw.2 q17
            by_cases q21 : x2 = (4 : Int32)
            · have hw := hw.1 q21
              refine qx_tableIn (off := (77)) X 88 d_X_person_11 (by rw [q21]; decide) (by rw [q21]; decide) (by rw [q21]; rfl) (by decide) ?_
              refine qx_aload_n (x := x0) X d_X_person_88 rfl 0 rfl ?_
              obtain ⟨g22, hw⟩ := hw
              refine qx_getR X qcls11 g22 3 (by decide) rfl wf_X_37 d_X_person_89 ?_
              obtain ⟨g23, hw⟩ := hw
              refine qx_getR X qcls6 g23 5 (by decide) rfl wf_X_154 d_X_person_92 ?_
              refine qx_iload_n (x := x1) X d_X_person_95 rfl 1 rfl ?_
              obtain ⟨g24, hw⟩ := hw
              refine qx_ild X g24 d_X_person_96 ?_
              exact qx_iret X hw (Nat.le_refl 0) (Nat.le_refl 0) rfl d_X_person_97
            · have hw := hw.2 q21
              by_cases q25 : x2 = (5 : Int32)
              · have hw := hw.1 q25
                refine qx_tableIn (off := (87)) X 98 d_X_person_11 (by rw [q25]; decide) (by rw [q25]; decide) (by rw [q25]; rfl) (by decide) ?_
                refine qx_aload_n (x := x0) X d_X_person_98 rfl 0 rfl ?_
                obtain ⟨g26, hw⟩ := hw
                refine qx_getR X qcls11 g26 3 (by decide) rfl wf_X_37 d_X_person_99 ?_
                refine qx_iload_n (x := x1) X d_X_person_102 rfl 1 rfl ?_
                obtain ⟨g27, hw⟩ := hw
                refine qx_callVI (st := []) (As := [.int x1]) X (t_State_othersBeside (adK := adK) (adV := adV) l D cy b N (qR h3 x0 3) x1 h3 _ hw) qm_State_othersBeside wm_X_157 wi_State_othersBeside wl_State_othersBeside qcls6 g27 rfl rfl rfl ⟨Nat.le_of_ble_eq_true rfl, Nat.le_of_ble_eq_true rfl⟩ ⟨Nat.le_refl 0, Nat.le_refl 0⟩ (Nat.le_of_ble_eq_true rfl) rfl d_X_person_103 (fun r28 h29 hw => ?_)
                exact qx_iret X hw (Nat.le_refl 0) (Nat.le_refl 0) rfl d_X_person_106
              · have hw := hw.2 q25
                have gx : x2.toInt < 0 ∨ 5 < x2.toInt := by
                  have nq5 : x2.toInt ≠ 0 := fun z => q5 (Int32.toInt_inj.mp z)
                  have nq9 : x2.toInt ≠ 1 := fun z => q9 (Int32.toInt_inj.mp z)
                  have nq13 : x2.toInt ≠ 2 := fun z => q13 (Int32.toInt_inj.mp z)
                  have nq17 : x2.toInt ≠ 3 := fun z => q17 (Int32.toInt_inj.mp z)
                  have nq21 : x2.toInt ≠ 4 := fun z => q21 (Int32.toInt_inj.mp z)
                  have nq25 : x2.toInt ≠ 5 := fun z => q25 (Int32.toInt_inj.mp z)
                  omega
                refine qx_tableOut X 107 d_X_person_11 gx (by decide) ?_
                refine qx_iconst (v := (-1 : Int32)) X d_X_person_107 (by decide) ?_
                exact qx_iret X hw (Nat.le_refl 0) (Nat.le_refl 0) rfl d_X_person_108
  · have hw := hw.2 q4
    refine qx_iconst (v := (-1 : Int32)) X d_X_person_8 (by decide) ?_
    exact qx_iret X hw (Nat.le_refl 0) (Nat.le_refl 0) rfl d_X_person_9
set_option maxRecDepth 4000 in
theorem t_X_tells {adK adV : Nat → Nat} (l : Launch) (D : va_G) (cy : Nat → ClassId) (b : Nat) (N : Nat) (x0 : Nat) (x1 : Int32) (x2 : Int32) (h : qH) (Q : Int32 → qH → Prop) (hw : w_X_tells N x0 x1 x2 h Q) : Met l y_X_tells (Cond.code y_X_tells prog_1_method_8_code 3 (some .int) :: qT) (qrm 4 0 0 88) (qPc D cy b adK adV h [qr b x0, .int x1, .int x2]) (qQc D cy b qrI Q) 0 0 (qA b) := by
  refine qmet (L0 := [(0, .inr (.inr (.inl x0))), (1, .inl x1), (2, .inl x2)]) qm_X_tells (plainFor_of_name (by decide)) [.inr (.inr (.inl x0)), .inl x1, .inl x2] rfl (Nat.le_of_ble_eq_true rfl) rfl (fun p e s m args below meth c X => ?_)
  unfold w_X_tells at hw
  refine qx_aload_n (x := x0) X d_X_tells_0 rfl 0 rfl ?_
  refine qx_iload_n (x := x1) X d_X_tells_1 rfl 1 rfl ?_
  obtain ⟨g1, hw⟩ := hw
  refine qx_callVI (st := []) (As := [.int x1]) X (t_X_isPerson (adK := adK) (adV := adV) l D cy b N x0 x1 h _ hw) qm_X_isPerson wm_X_139 wi_X_isPerson wl_X_isPerson qcls11 g1 rfl rfl rfl ⟨Nat.le_of_ble_eq_true rfl, Nat.le_of_ble_eq_true rfl⟩ ⟨Nat.le_refl 0, Nat.le_refl 0⟩ (Nat.le_of_ble_eq_true rfl) rfl d_X_tells_2 (fun r2 h3 hw => ?_)
  refine qx_if_eq X 17 d_X_tells_5 (by decide) (fun q4 => ?_) (fun q4 => ?_)
  · have hw := hw.1 q4
    refine qx_iconst (v := (-1 : Int32)) X d_X_tells_17 (by decide) ?_
    exact qx_iret X hw (Nat.le_refl 0) (Nat.le_refl 0) rfl d_X_tells_18
  · have hw := hw.2 q4
    refine qx_iload_n (x := x2) X d_X_tells_8 rfl 2 rfl ?_
    refine qx_if_lt X 17 d_X_tells_9 (by decide) (fun q5 => ?_) (fun q5 => ?_)
    · have hw := hw.1 q5
      refine qx_iconst (v := (-1 : Int32)) X d_X_tells_17 (by decide) ?_
      exact qx_iret X hw (Nat.le_refl 0) (Nat.le_refl 0) rfl d_X_tells_18
    · have hw := hw.2 q5
      refine qx_iload_n (x := x2) X d_X_tells_12 rfl 2 rfl ?_
      refine qx_iconst (v := (3 : Int32)) X d_X_tells_13 (by decide) ?_
      refine qx_icmp_le X 19 d_X_tells_14 (by decide) (fun q6 => ?_) (fun q6 => ?_)
      · have hw := hw.1 q6
        refine qx_aload_n (x := x0) X d_X_tells_19 rfl 0 rfl ?_
        obtain ⟨g7, hw⟩ := hw
        refine qx_getR X qcls11 g7 3 (by decide) rfl wf_X_37 d_X_tells_20 ?_
        refine qx_iload_n (x := x1) X d_X_tells_23 rfl 1 rfl ?_
        obtain ⟨g8, hw⟩ := hw
        refine qx_callVI (st := []) (As := [.int x1]) X (t_State_isHung (adK := adK) (adV := adV) l D cy b N (qR h3 x0 3) x1 h3 _ hw) qm_State_isHung wm_X_160 wi_State_isHung wl_State_isHung qcls6 g8 rfl rfl rfl ⟨Nat.le_of_ble_eq_true rfl, Nat.le_of_ble_eq_true rfl⟩ ⟨Nat.le_refl 0, Nat.le_refl 0⟩ (Nat.le_of_ble_eq_true rfl) rfl d_X_tells_24 (fun r9 h10 hw => ?_)
        refine qx_if_ne X 33 d_X_tells_27 (by decide) (fun q11 => ?_) (fun q11 => ?_)
        · have hw := hw.1 q11
          refine qx_aload_n (x := x0) X d_X_tells_33 rfl 0 rfl ?_
          obtain ⟨g12, hw⟩ := hw
          refine qx_getR X qcls11 g12 5 (by decide) rfl wf_X_47 d_X_tells_34 ?_
          refine qx_aload_n (x := x0) X d_X_tells_37 rfl 0 rfl ?_
          refine qx_getR X qcls11 g12 3 (by decide) rfl wf_X_37 d_X_tells_38 ?_
          refine qx_iload_n (x := x1) X d_X_tells_41 rfl 1 rfl ?_
          obtain ⟨g13, hw⟩ := hw
          refine qx_callVV (st := []) (As := [qr b (qR h10 x0 3), .int x1]) X (t_Reck_lookAtHung (adK := adK) (adV := adV) l D cy b N (qR h10 x0 5) (qR h10 x0 3) x1 h10 _ hw) qm_Reck_lookAtHung wm_X_163 wi_Reck_lookAtHung wl_Reck_lookAtHung qcls5 g13 rfl rfl rfl ⟨Nat.le_of_ble_eq_true rfl, Nat.le_of_ble_eq_true rfl⟩ ⟨Nat.le_refl 0, Nat.le_refl 0⟩ (Nat.le_of_ble_eq_true rfl) rfl d_X_tells_42 (fun h14 hw => ?_)
          refine qx_aload_n (x := x0) X d_X_tells_45 rfl 0 rfl ?_
          obtain ⟨g15, hw⟩ := hw
          refine qx_getR X qcls11 g15 5 (by decide) rfl wf_X_47 d_X_tells_46 ?_
          refine qx_iload_n (x := x2) X d_X_tells_49 rfl 2 rfl ?_
          obtain ⟨g16, hw⟩ := hw
          refine qx_callVI (st := []) (As := [.int x2]) X (t_Reck_lawTells (adK := adK) (adV := adV) l D cy b N (qR h14 x0 5) x2 h14 _ hw) qm_Reck_lawTells wm_X_167 wi_Reck_lawTells wl_Reck_lawTells qcls5 g16 rfl rfl rfl ⟨Nat.le_of_ble_eq_true rfl, Nat.le_of_ble_eq_true rfl⟩ ⟨Nat.le_refl 0, Nat.le_refl 0⟩ (Nat.le_of_ble_eq_true rfl) rfl d_X_tells_50 (fun r17 h18 hw => ?_)
          exact qx_iret X hw (Nat.le_refl 0) (Nat.le_refl 0) rfl d_X_tells_53
        · have hw := hw.2 q11
          refine qx_bipush (v := (-2 : Int32)) X d_X_tells_30 (by decide) ?_
          exact qx_iret X hw (Nat.le_refl 0) (Nat.le_refl 0) rfl d_X_tells_32
      · have hw := hw.2 q6
        refine qx_iconst (v := (-1 : Int32)) X d_X_tells_17 (by decide) ?_
        exact qx_iret X hw (Nat.le_refl 0) (Nat.le_refl 0) rfl d_X_tells_18
set_option maxRecDepth 4000 in
theorem t_X_hang {adK adV : Nat → Nat} (l : Launch) (D : va_G) (cy : Nat → ClassId) (b : Nat) (N : Nat) (x0 : Nat) (x1 : Int32) (x2 : Int32) (h : qH) (Q : Int32 → qH → Prop) (hw : w_X_hang N x0 x1 x2 h Q) : Met l y_X_hang (Cond.code y_X_hang prog_1_method_9_code 3 (some .boolean) :: qT) (qrm 3 0 0 60) (qPc D cy b adK adV h [qr b x0, .int x1, .int x2]) (qQc D cy b qrI Q) 0 0 (qA b) := by
  refine qmet (L0 := [(0, .inr (.inr (.inl x0))), (1, .inl x1), (2, .inl x2)]) qm_X_hang (plainFor_of_name (by decide)) [.inr (.inr (.inl x0)), .inl x1, .inl x2] rfl (Nat.le_of_ble_eq_true rfl) rfl (fun p e s m args below meth c X => ?_)
  unfold w_X_hang at hw
  refine qx_aload_n (x := x0) X d_X_hang_0 rfl 0 rfl ?_
  refine qx_iload_n (x := x1) X d_X_hang_1 rfl 1 rfl ?_
  obtain ⟨g1, hw⟩ := hw
  refine qx_callVI (st := []) (As := [.int x1]) X (t_X_isPerson (adK := adK) (adV := adV) l D cy b N x0 x1 h _ hw) qm_X_isPerson wm_X_139 wi_X_isPerson wl_X_isPerson qcls11 g1 rfl rfl rfl ⟨Nat.le_of_ble_eq_true rfl, Nat.le_of_ble_eq_true rfl⟩ ⟨Nat.le_refl 0, Nat.le_refl 0⟩ (Nat.le_of_ble_eq_true rfl) rfl d_X_hang_2 (fun r2 h3 hw => ?_)
  refine qx_if_eq X 16 d_X_hang_5 (by decide) (fun q4 => ?_) (fun q4 => ?_)
  · have hw := hw.1 q4
    refine qx_iconst (v := (0 : Int32)) X d_X_hang_16 (by decide) ?_
    exact qx_zret X hw (Nat.le_refl 0) (Nat.le_refl 0) rfl d_X_hang_17
  · have hw := hw.2 q4
    refine qx_aload_n (x := x0) X d_X_hang_8 rfl 0 rfl ?_
    refine qx_iload_n (x := x2) X d_X_hang_9 rfl 2 rfl ?_
    obtain ⟨g5, hw⟩ := hw
    refine qx_callVI (st := []) (As := [.int x2]) X (t_X_isHanger (adK := adK) (adV := adV) l D cy b N x0 x2 h3 _ hw) qm_X_isHanger wm_X_122 wi_X_isHanger wl_X_isHanger qcls11 g5 rfl rfl rfl ⟨Nat.le_of_ble_eq_true rfl, Nat.le_of_ble_eq_true rfl⟩ ⟨Nat.le_refl 0, Nat.le_refl 0⟩ (Nat.le_of_ble_eq_true rfl) rfl d_X_hang_10 (fun r6 h7 hw => ?_)
    refine qx_if_ne X 18 d_X_hang_13 (by decide) (fun q8 => ?_) (fun q8 => ?_)
    · have hw := hw.1 q8
      refine qx_aload_n (x := x0) X d_X_hang_18 rfl 0 rfl ?_
      obtain ⟨g9, hw⟩ := hw
      refine qx_getR X qcls11 g9 3 (by decide) rfl wf_X_37 d_X_hang_19 ?_
      refine qx_iload_n (x := x1) X d_X_hang_22 rfl 1 rfl ?_
      obtain ⟨g10, hw⟩ := hw
      refine qx_callVI (st := []) (As := [.int x1]) X (t_State_isHung (adK := adK) (adV := adV) l D cy b N (qR h7 x0 3) x1 h7 _ hw) qm_State_isHung wm_X_160 wi_State_isHung wl_State_isHung qcls6 g10 rfl rfl rfl ⟨Nat.le_of_ble_eq_true rfl, Nat.le_of_ble_eq_true rfl⟩ ⟨Nat.le_refl 0, Nat.le_refl 0⟩ (Nat.le_of_ble_eq_true rfl) rfl d_X_hang_23 (fun r11 h12 hw => ?_)
      refine qx_if_ne X 40 d_X_hang_26 (by decide) (fun q13 => ?_) (fun q13 => ?_)
      · have hw := hw.1 q13
        refine qx_iconst (v := (0 : Int32)) X d_X_hang_40 (by decide) ?_
        exact qx_zret X hw (Nat.le_refl 0) (Nat.le_refl 0) rfl d_X_hang_41
      · have hw := hw.2 q13
        refine qx_aload_n (x := x0) X d_X_hang_29 rfl 0 rfl ?_
        obtain ⟨g14, hw⟩ := hw
        refine qx_getR X qcls11 g14 3 (by decide) rfl wf_X_37 d_X_hang_30 ?_
        refine qx_iload_n (x := x2) X d_X_hang_33 rfl 2 rfl ?_
        obtain ⟨g15, hw⟩ := hw
        refine qx_callVI (st := []) (As := [.int x2]) X (t_State_isTaken (adK := adK) (adV := adV) l D cy b N (qR h12 x0 3) x2 h12 _ hw) qm_State_isTaken wm_X_170 wi_State_isTaken wl_State_isTaken qcls6 g15 rfl rfl rfl ⟨Nat.le_of_ble_eq_true rfl, Nat.le_of_ble_eq_true rfl⟩ ⟨Nat.le_refl 0, Nat.le_refl 0⟩ (Nat.le_of_ble_eq_true rfl) rfl d_X_hang_34 (fun r16 h17 hw => ?_)
        refine qx_if_eq X 42 d_X_hang_37 (by decide) (fun q18 => ?_) (fun q18 => ?_)
        · have hw := hw.1 q18
          refine qx_aload_n (x := x0) X d_X_hang_42 rfl 0 rfl ?_
          obtain ⟨g19, hw⟩ := hw
          refine qx_getR X qcls11 g19 9 (by decide) rfl wf_X_79 d_X_hang_43 ?_
          refine qx_aload_n (x := x0) X d_X_hang_46 rfl 0 rfl ?_
          refine qx_getR X qcls11 g19 3 (by decide) rfl wf_X_37 d_X_hang_47 ?_
          obtain ⟨g20, hw⟩ := hw
          refine qx_callVV (st := []) (As := [qr b (qR h17 x0 3)]) X (t_Past_keep (adK := adK) (adV := adV) l D cy b N (qR h17 x0 9) (qR h17 x0 3) h17 _ hw) qm_Past_keep wm_X_173 wi_Past_keep wl_Past_keep qcls2 g20 rfl rfl rfl ⟨Nat.le_of_ble_eq_true rfl, Nat.le_of_ble_eq_true rfl⟩ ⟨Nat.le_refl 0, Nat.le_refl 0⟩ (Nat.le_of_ble_eq_true rfl) rfl d_X_hang_50 (fun h21 hw => ?_)
          refine qx_aload_n (x := x0) X d_X_hang_53 rfl 0 rfl ?_
          obtain ⟨g22, hw⟩ := hw
          refine qx_getR X qcls11 g22 3 (by decide) rfl wf_X_37 d_X_hang_54 ?_
          obtain ⟨g23, hw⟩ := hw
          refine qx_getR X qcls6 g23 3 (by decide) rfl wf_X_148 d_X_hang_57 ?_
          refine qx_iload_n (x := x1) X d_X_hang_60 rfl 1 rfl ?_
          refine qx_iload_n (x := x2) X d_X_hang_61 rfl 2 rfl ?_
          obtain ⟨g24, hw⟩ := hw
          refine qx_ist X g24 d_X_hang_62 ?_
          refine qx_toph (fun h25 eh25 => ?_)
          have hw := hw h25 eh25
          refine qx_iconst (v := (1 : Int32)) X d_X_hang_63 (by decide) ?_
          exact qx_zret X hw (Nat.le_refl 0) (Nat.le_refl 0) rfl d_X_hang_64
        · have hw := hw.2 q18
          refine qx_iconst (v := (0 : Int32)) X d_X_hang_40 (by decide) ?_
          exact qx_zret X hw (Nat.le_refl 0) (Nat.le_refl 0) rfl d_X_hang_41
    · have hw := hw.2 q8
      refine qx_iconst (v := (0 : Int32)) X d_X_hang_16 (by decide) ?_
      exact qx_zret X hw (Nat.le_refl 0) (Nat.le_refl 0) rfl d_X_hang_17
set_option maxRecDepth 4000 in
theorem t_X_take {adK adV : Nat → Nat} (l : Launch) (D : va_G) (cy : Nat → ClassId) (b : Nat) (N : Nat) (x0 : Nat) (x1 : Int32) (h : qH) (Q : Int32 → qH → Prop) (hw : w_X_take N x0 x1 h Q) : Met l y_X_take (Cond.code y_X_take prog_1_method_10_code 2 (some .boolean) :: qT) (qrm 3 0 0 60) (qPc D cy b adK adV h [qr b x0, .int x1]) (qQc D cy b qrI Q) 0 0 (qA b) := by
  refine qmet (L0 := [(0, .inr (.inr (.inl x0))), (1, .inl x1)]) qm_X_take (plainFor_of_name (by decide)) [.inr (.inr (.inl x0)), .inl x1] rfl (Nat.le_of_ble_eq_true rfl) rfl (fun p e s m args below meth c X => ?_)
  unfold w_X_take at hw
  refine qx_aload_n (x := x0) X d_X_take_0 rfl 0 rfl ?_
  refine qx_iload_n (x := x1) X d_X_take_1 rfl 1 rfl ?_
  obtain ⟨g1, hw⟩ := hw
  refine qx_callVI (st := []) (As := [.int x1]) X (t_X_isPerson (adK := adK) (adV := adV) l D cy b N x0 x1 h _ hw) qm_X_isPerson wm_X_139 wi_X_isPerson wl_X_isPerson qcls11 g1 rfl rfl rfl ⟨Nat.le_of_ble_eq_true rfl, Nat.le_of_ble_eq_true rfl⟩ ⟨Nat.le_refl 0, Nat.le_refl 0⟩ (Nat.le_of_ble_eq_true rfl) rfl d_X_take_2 (fun r2 h3 hw => ?_)
  refine qx_if_eq X 19 d_X_take_5 (by decide) (fun q4 => ?_) (fun q4 => ?_)
  · have hw := hw.1 q4
    refine qx_iconst (v := (0 : Int32)) X d_X_take_19 (by decide) ?_
    exact qx_zret X hw (Nat.le_refl 0) (Nat.le_refl 0) rfl d_X_take_20
  · have hw := hw.2 q4
    refine qx_aload_n (x := x0) X d_X_take_8 rfl 0 rfl ?_
    obtain ⟨g5, hw⟩ := hw
    refine qx_getR X qcls11 g5 3 (by decide) rfl wf_X_37 d_X_take_9 ?_
    refine qx_iload_n (x := x1) X d_X_take_12 rfl 1 rfl ?_
    obtain ⟨g6, hw⟩ := hw
    refine qx_callVI (st := []) (As := [.int x1]) X (t_State_isHung (adK := adK) (adV := adV) l D cy b N (qR h3 x0 3) x1 h3 _ hw) qm_State_isHung wm_X_160 wi_State_isHung wl_State_isHung qcls6 g6 rfl rfl rfl ⟨Nat.le_of_ble_eq_true rfl, Nat.le_of_ble_eq_true rfl⟩ ⟨Nat.le_refl 0, Nat.le_refl 0⟩ (Nat.le_of_ble_eq_true rfl) rfl d_X_take_13 (fun r7 h8 hw => ?_)
    refine qx_if_ne X 21 d_X_take_16 (by decide) (fun q9 => ?_) (fun q9 => ?_)
    · have hw := hw.1 q9
      refine qx_aload_n (x := x0) X d_X_take_21 rfl 0 rfl ?_
      obtain ⟨g10, hw⟩ := hw
      refine qx_getR X qcls11 g10 9 (by decide) rfl wf_X_79 d_X_take_22 ?_
      refine qx_aload_n (x := x0) X d_X_take_25 rfl 0 rfl ?_
      refine qx_getR X qcls11 g10 3 (by decide) rfl wf_X_37 d_X_take_26 ?_
      obtain ⟨g11, hw⟩ := hw
      refine qx_callVV (st := []) (As := [qr b (qR h8 x0 3)]) X (t_Past_keep (adK := adK) (adV := adV) l D cy b N (qR h8 x0 9) (qR h8 x0 3) h8 _ hw) qm_Past_keep wm_X_173 wi_Past_keep wl_Past_keep qcls2 g11 rfl rfl rfl ⟨Nat.le_of_ble_eq_true rfl, Nat.le_of_ble_eq_true rfl⟩ ⟨Nat.le_refl 0, Nat.le_refl 0⟩ (Nat.le_of_ble_eq_true rfl) rfl d_X_take_29 (fun h12 hw => ?_)
      refine qx_aload_n (x := x0) X d_X_take_32 rfl 0 rfl ?_
      obtain ⟨g13, hw⟩ := hw
      refine qx_getR X qcls11 g13 3 (by decide) rfl wf_X_37 d_X_take_33 ?_
      obtain ⟨g14, hw⟩ := hw
      refine qx_getR X qcls6 g14 3 (by decide) rfl wf_X_148 d_X_take_36 ?_
      refine qx_iload_n (x := x1) X d_X_take_39 rfl 1 rfl ?_
      refine qx_bipush (v := (-2 : Int32)) X d_X_take_40 (by decide) ?_
      obtain ⟨g15, hw⟩ := hw
      refine qx_ist X g15 d_X_take_42 ?_
      refine qx_toph (fun h16 eh16 => ?_)
      have hw := hw h16 eh16
      refine qx_iconst (v := (1 : Int32)) X d_X_take_43 (by decide) ?_
      exact qx_zret X hw (Nat.le_refl 0) (Nat.le_refl 0) rfl d_X_take_44
    · have hw := hw.2 q9
      refine qx_iconst (v := (0 : Int32)) X d_X_take_19 (by decide) ?_
      exact qx_zret X hw (Nat.le_refl 0) (Nat.le_refl 0) rfl d_X_take_20
set_option maxRecDepth 4000 in
theorem t_X_change {adK adV : Nat → Nat} (l : Launch) (D : va_G) (cy : Nat → ClassId) (b : Nat) (N : Nat) (x0 : Nat) (x1 : Int32) (x2 : Int32) (h : qH) (Q : Int32 → qH → Prop) (hw : w_X_change N x0 x1 x2 h Q) : Met l y_X_change (Cond.code y_X_change prog_1_method_11_code 3 (some .boolean) :: qT) (qrm 3 0 0 60) (qPc D cy b adK adV h [qr b x0, .int x1, .int x2]) (qQc D cy b qrI Q) 0 0 (qA b) := by
  refine qmet (L0 := [(0, .inr (.inr (.inl x0))), (1, .inl x1), (2, .inl x2)]) qm_X_change (plainFor_of_name (by decide)) [.inr (.inr (.inl x0)), .inl x1, .inl x2] rfl (Nat.le_of_ble_eq_true rfl) rfl (fun p e s m args below meth c X => ?_)
  unfold w_X_change at hw
  refine qx_aload_n (x := x0) X d_X_change_0 rfl 0 rfl ?_
  refine qx_iload_n (x := x1) X d_X_change_1 rfl 1 rfl ?_
  obtain ⟨g1, hw⟩ := hw
  refine qx_callVI (st := []) (As := [.int x1]) X (t_X_isPerson (adK := adK) (adV := adV) l D cy b N x0 x1 h _ hw) qm_X_isPerson wm_X_139 wi_X_isPerson wl_X_isPerson qcls11 g1 rfl rfl rfl ⟨Nat.le_of_ble_eq_true rfl, Nat.le_of_ble_eq_true rfl⟩ ⟨Nat.le_refl 0, Nat.le_refl 0⟩ (Nat.le_of_ble_eq_true rfl) rfl d_X_change_2 (fun r2 h3 hw => ?_)
  refine qx_if_eq X 21 d_X_change_5 (by decide) (fun q4 => ?_) (fun q4 => ?_)
  · have hw := hw.1 q4
    refine qx_iconst (v := (0 : Int32)) X d_X_change_21 (by decide) ?_
    exact qx_zret X hw (Nat.le_refl 0) (Nat.le_refl 0) rfl d_X_change_22
  · have hw := hw.2 q4
    refine qx_aload_n (x := x0) X d_X_change_8 rfl 0 rfl ?_
    refine qx_iload_n (x := x2) X d_X_change_9 rfl 2 rfl ?_
    obtain ⟨g5, hw⟩ := hw
    refine qx_callVI (st := []) (As := [.int x2]) X (t_X_isPerson (adK := adK) (adV := adV) l D cy b N x0 x2 h3 _ hw) qm_X_isPerson wm_X_139 wi_X_isPerson wl_X_isPerson qcls11 g5 rfl rfl rfl ⟨Nat.le_of_ble_eq_true rfl, Nat.le_of_ble_eq_true rfl⟩ ⟨Nat.le_refl 0, Nat.le_refl 0⟩ (Nat.le_of_ble_eq_true rfl) rfl d_X_change_10 (fun r6 h7 hw => ?_)
    refine qx_if_eq X 21 d_X_change_13 (by decide) (fun q8 => ?_) (fun q8 => ?_)
    · have hw := hw.1 q8
      refine qx_iconst (v := (0 : Int32)) X d_X_change_21 (by decide) ?_
      exact qx_zret X hw (Nat.le_refl 0) (Nat.le_refl 0) rfl d_X_change_22
    · have hw := hw.2 q8
      refine qx_iload_n (x := x1) X d_X_change_16 rfl 1 rfl ?_
      refine qx_iload_n (x := x2) X d_X_change_17 rfl 2 rfl ?_
      refine qx_icmp_ne X 23 d_X_change_18 (by decide) (fun q9 => ?_) (fun q9 => ?_)
      · have hw := hw.1 q9
        refine qx_aload_n (x := x0) X d_X_change_23 rfl 0 rfl ?_
        obtain ⟨g10, hw⟩ := hw
        refine qx_getR X qcls11 g10 3 (by decide) rfl wf_X_37 d_X_change_24 ?_
        refine qx_iload_n (x := x1) X d_X_change_27 rfl 1 rfl ?_
        obtain ⟨g11, hw⟩ := hw
        refine qx_callVI (st := []) (As := [.int x1]) X (t_State_isHung (adK := adK) (adV := adV) l D cy b N (qR h7 x0 3) x1 h7 _ hw) qm_State_isHung wm_X_160 wi_State_isHung wl_State_isHung qcls6 g11 rfl rfl rfl ⟨Nat.le_of_ble_eq_true rfl, Nat.le_of_ble_eq_true rfl⟩ ⟨Nat.le_refl 0, Nat.le_refl 0⟩ (Nat.le_of_ble_eq_true rfl) rfl d_X_change_28 (fun r12 h13 hw => ?_)
        refine qx_if_eq X 45 d_X_change_31 (by decide) (fun q14 => ?_) (fun q14 => ?_)
        · have hw := hw.1 q14
          refine qx_iconst (v := (0 : Int32)) X d_X_change_45 (by decide) ?_
          exact qx_zret X hw (Nat.le_refl 0) (Nat.le_refl 0) rfl d_X_change_46
        · have hw := hw.2 q14
          refine qx_aload_n (x := x0) X d_X_change_34 rfl 0 rfl ?_
          obtain ⟨g15, hw⟩ := hw
          refine qx_getR X qcls11 g15 3 (by decide) rfl wf_X_37 d_X_change_35 ?_
          refine qx_iload_n (x := x2) X d_X_change_38 rfl 2 rfl ?_
          obtain ⟨g16, hw⟩ := hw
          refine qx_callVI (st := []) (As := [.int x2]) X (t_State_isHung (adK := adK) (adV := adV) l D cy b N (qR h13 x0 3) x2 h13 _ hw) qm_State_isHung wm_X_160 wi_State_isHung wl_State_isHung qcls6 g16 rfl rfl rfl ⟨Nat.le_of_ble_eq_true rfl, Nat.le_of_ble_eq_true rfl⟩ ⟨Nat.le_refl 0, Nat.le_refl 0⟩ (Nat.le_of_ble_eq_true rfl) rfl d_X_change_39 (fun r17 h18 hw => ?_)
          refine qx_if_ne X 47 d_X_change_42 (by decide) (fun q19 => ?_) (fun q19 => ?_)
          · have hw := hw.1 q19
            refine qx_aload_n (x := x0) X d_X_change_47 rfl 0 rfl ?_
            obtain ⟨g20, hw⟩ := hw
            refine qx_getR X qcls11 g20 9 (by decide) rfl wf_X_79 d_X_change_48 ?_
            refine qx_aload_n (x := x0) X d_X_change_51 rfl 0 rfl ?_
            refine qx_getR X qcls11 g20 3 (by decide) rfl wf_X_37 d_X_change_52 ?_
            obtain ⟨g21, hw⟩ := hw
            refine qx_callVV (st := []) (As := [qr b (qR h18 x0 3)]) X (t_Past_keep (adK := adK) (adV := adV) l D cy b N (qR h18 x0 9) (qR h18 x0 3) h18 _ hw) qm_Past_keep wm_X_173 wi_Past_keep wl_Past_keep qcls2 g21 rfl rfl rfl ⟨Nat.le_of_ble_eq_true rfl, Nat.le_of_ble_eq_true rfl⟩ ⟨Nat.le_refl 0, Nat.le_refl 0⟩ (Nat.le_of_ble_eq_true rfl) rfl d_X_change_55 (fun h22 hw => ?_)
            refine qx_aload_n (x := x0) X d_X_change_58 rfl 0 rfl ?_
            obtain ⟨g23, hw⟩ := hw
            refine qx_getR X qcls11 g23 3 (by decide) rfl wf_X_37 d_X_change_59 ?_
            refine qx_iload_n (x := x1) X d_X_change_62 rfl 1 rfl ?_
            refine qx_iload_n (x := x2) X d_X_change_63 rfl 2 rfl ?_
            obtain ⟨g24, hw⟩ := hw
            refine qx_callVV (st := []) (As := [.int x1, .int x2]) X (t_State_exchange (adK := adK) (adV := adV) l D cy b N (qR h22 x0 3) x1 x2 h22 _ hw) qm_State_exchange wm_X_177 wi_State_exchange wl_State_exchange qcls6 g24 rfl rfl rfl ⟨Nat.le_of_ble_eq_true rfl, Nat.le_of_ble_eq_true rfl⟩ ⟨Nat.le_refl 0, Nat.le_refl 0⟩ (Nat.le_of_ble_eq_true rfl) rfl d_X_change_64 (fun h25 hw => ?_)
            refine qx_iconst (v := (1 : Int32)) X d_X_change_67 (by decide) ?_
            exact qx_zret X hw (Nat.le_refl 0) (Nat.le_refl 0) rfl d_X_change_68
          · have hw := hw.2 q19
            refine qx_iconst (v := (0 : Int32)) X d_X_change_45 (by decide) ?_
            exact qx_zret X hw (Nat.le_refl 0) (Nat.le_refl 0) rfl d_X_change_46
      · have hw := hw.2 q9
        refine qx_iconst (v := (0 : Int32)) X d_X_change_21 (by decide) ?_
        exact qx_zret X hw (Nat.le_refl 0) (Nat.le_refl 0) rfl d_X_change_22
set_option maxRecDepth 4000 in
theorem t_X_straighten {adK adV : Nat → Nat} (l : Launch) (D : va_G) (cy : Nat → ClassId) (b : Nat) (N : Nat) (x0 : Nat) (x1 : Int32) (h : qH) (Q : Int32 → qH → Prop) (hw : w_X_straighten N x0 x1 h Q) : Met l y_X_straighten (Cond.code y_X_straighten prog_1_method_12_code 2 (some .boolean) :: qT) (qrm 3 0 0 60) (qPc D cy b adK adV h [qr b x0, .int x1]) (qQc D cy b qrI Q) 0 0 (qA b) := by
  refine qmet (L0 := [(0, .inr (.inr (.inl x0))), (1, .inl x1)]) qm_X_straighten (plainFor_of_name (by decide)) [.inr (.inr (.inl x0)), .inl x1] rfl (Nat.le_of_ble_eq_true rfl) rfl (fun p e s m args below meth c X => ?_)
  unfold w_X_straighten at hw
  refine qx_aload_n (x := x0) X d_X_straighten_0 rfl 0 rfl ?_
  refine qx_iload_n (x := x1) X d_X_straighten_1 rfl 1 rfl ?_
  obtain ⟨g1, hw⟩ := hw
  refine qx_callVI (st := []) (As := [.int x1]) X (t_X_isHanger (adK := adK) (adV := adV) l D cy b N x0 x1 h _ hw) qm_X_isHanger wm_X_122 wi_X_isHanger wl_X_isHanger qcls11 g1 rfl rfl rfl ⟨Nat.le_of_ble_eq_true rfl, Nat.le_of_ble_eq_true rfl⟩ ⟨Nat.le_refl 0, Nat.le_refl 0⟩ (Nat.le_of_ble_eq_true rfl) rfl d_X_straighten_2 (fun r2 h3 hw => ?_)
  refine qx_if_eq X 31 d_X_straighten_5 (by decide) (fun q4 => ?_) (fun q4 => ?_)
  · have hw := hw.1 q4
    refine qx_iconst (v := (0 : Int32)) X d_X_straighten_31 (by decide) ?_
    exact qx_zret X hw (Nat.le_refl 0) (Nat.le_refl 0) rfl d_X_straighten_32
  · have hw := hw.2 q4
    refine qx_aload_n (x := x0) X d_X_straighten_8 rfl 0 rfl ?_
    obtain ⟨g5, hw⟩ := hw
    refine qx_getR X qcls11 g5 3 (by decide) rfl wf_X_37 d_X_straighten_9 ?_
    refine qx_iload_n (x := x1) X d_X_straighten_12 rfl 1 rfl ?_
    obtain ⟨g6, hw⟩ := hw
    refine qx_callVI (st := []) (As := [.int x1]) X (t_State_isTaken (adK := adK) (adV := adV) l D cy b N (qR h3 x0 3) x1 h3 _ hw) qm_State_isTaken wm_X_170 wi_State_isTaken wl_State_isTaken qcls6 g6 rfl rfl rfl ⟨Nat.le_of_ble_eq_true rfl, Nat.le_of_ble_eq_true rfl⟩ ⟨Nat.le_refl 0, Nat.le_refl 0⟩ (Nat.le_of_ble_eq_true rfl) rfl d_X_straighten_13 (fun r7 h8 hw => ?_)
    refine qx_if_ne X 31 d_X_straighten_16 (by decide) (fun q9 => ?_) (fun q9 => ?_)
    · have hw := hw.1 q9
      refine qx_iconst (v := (0 : Int32)) X d_X_straighten_31 (by decide) ?_
      exact qx_zret X hw (Nat.le_refl 0) (Nat.le_refl 0) rfl d_X_straighten_32
    · have hw := hw.2 q9
      refine qx_aload_n (x := x0) X d_X_straighten_19 rfl 0 rfl ?_
      obtain ⟨g10, hw⟩ := hw
      refine qx_getR X qcls11 g10 3 (by decide) rfl wf_X_37 d_X_straighten_20 ?_
      obtain ⟨g11, hw⟩ := hw
      refine qx_getR X qcls6 g11 6 (by decide) rfl wf_X_132 d_X_straighten_23 ?_
      refine qx_iload_n (x := x1) X d_X_straighten_26 rfl 1 rfl ?_
      obtain ⟨g12, hw⟩ := hw
      refine qx_ild X g12 d_X_straighten_27 ?_
      refine qx_if_ne X 33 d_X_straighten_28 (by decide) (fun q13 => ?_) (fun q13 => ?_)
      · have hw := hw.1 q13
        refine qx_aload_n (x := x0) X d_X_straighten_33 rfl 0 rfl ?_
        refine qx_getR X qcls11 g10 9 (by decide) rfl wf_X_79 d_X_straighten_34 ?_
        refine qx_aload_n (x := x0) X d_X_straighten_37 rfl 0 rfl ?_
        refine qx_getR X qcls11 g10 3 (by decide) rfl wf_X_37 d_X_straighten_38 ?_
        obtain ⟨g14, hw⟩ := hw
        refine qx_callVV (st := []) (As := [qr b (qR h8 x0 3)]) X (t_Past_keep (adK := adK) (adV := adV) l D cy b N (qR h8 x0 9) (qR h8 x0 3) h8 _ hw) qm_Past_keep wm_X_173 wi_Past_keep wl_Past_keep qcls2 g14 rfl rfl rfl ⟨Nat.le_of_ble_eq_true rfl, Nat.le_of_ble_eq_true rfl⟩ ⟨Nat.le_refl 0, Nat.le_refl 0⟩ (Nat.le_of_ble_eq_true rfl) rfl d_X_straighten_41 (fun h15 hw => ?_)
        refine qx_aload_n (x := x0) X d_X_straighten_44 rfl 0 rfl ?_
        obtain ⟨g16, hw⟩ := hw
        refine qx_getR X qcls11 g16 3 (by decide) rfl wf_X_37 d_X_straighten_45 ?_
        obtain ⟨g17, hw⟩ := hw
        refine qx_getR X qcls6 g17 6 (by decide) rfl wf_X_132 d_X_straighten_48 ?_
        refine qx_iload_n (x := x1) X d_X_straighten_51 rfl 1 rfl ?_
        refine qx_iconst (v := (0 : Int32)) X d_X_straighten_52 (by decide) ?_
        obtain ⟨g18, hw⟩ := hw
        refine qx_ist X g18 d_X_straighten_53 ?_
        refine qx_toph (fun h19 eh19 => ?_)
        have hw := hw h19 eh19
        refine qx_iconst (v := (1 : Int32)) X d_X_straighten_54 (by decide) ?_
        exact qx_zret X hw (Nat.le_refl 0) (Nat.le_refl 0) rfl d_X_straighten_55
      · have hw := hw.2 q13
        refine qx_iconst (v := (0 : Int32)) X d_X_straighten_31 (by decide) ?_
        exact qx_zret X hw (Nat.le_refl 0) (Nat.le_refl 0) rfl d_X_straighten_32
set_option maxRecDepth 4000 in
theorem t_X_isFewNights {adK adV : Nat → Nat} (l : Launch) (D : va_G) (cy : Nat → ClassId) (b : Nat) (N : Nat) (x0 : Int32) (h : qH) (Q : Int32 → qH → Prop) (hw : w_X_isFewNights N x0 h Q) : Met l y_X_isFewNights (Cond.code y_X_isFewNights prog_1_method_49_code 1 (some .boolean) :: qT) (qrm 0 0 0 0) (qPc D cy b adK adV h [.int x0]) (qQc D cy b qrI Q) 0 0 (qA b) := by
  refine qmet (L0 := [(0, .inl x0)]) qm_X_isFewNights (plainFor_of_name (by decide)) [.inl x0] rfl (Nat.le_of_ble_eq_true rfl) rfl (fun p e s m args below meth c X => ?_)
  unfold w_X_isFewNights at hw
  refine qx_iload_n (x := x0) X d_X_isFewNights_0 rfl 0 rfl ?_
  refine qx_if_lt X 14 d_X_isFewNights_1 (by decide) (fun q1 => ?_) (fun q1 => ?_)
  · have hw := hw.1 q1
    refine qx_iconst (v := (0 : Int32)) X d_X_isFewNights_14 (by decide) ?_
    exact qx_zret X hw (Nat.le_refl 0) (Nat.le_refl 0) rfl d_X_isFewNights_15
  · have hw := hw.2 q1
    refine qx_iload_n (x := x0) X d_X_isFewNights_4 rfl 0 rfl ?_
    refine qx_bipush (v := (60 : Int32)) X d_X_isFewNights_5 (by decide) ?_
    refine qx_icmp_gt X 14 d_X_isFewNights_7 (by decide) (fun q2 => ?_) (fun q2 => ?_)
    · have hw := hw.1 q2
      refine qx_iconst (v := (0 : Int32)) X d_X_isFewNights_14 (by decide) ?_
      exact qx_zret X hw (Nat.le_refl 0) (Nat.le_refl 0) rfl d_X_isFewNights_15
    · have hw := hw.2 q2
      refine qx_iconst (v := (1 : Int32)) X d_X_isFewNights_10 (by decide) ?_
      refine qx_goto X 15 d_X_isFewNights_11 (by decide) ?_
      exact qx_zret X hw (Nat.le_refl 0) (Nat.le_refl 0) rfl d_X_isFewNights_15
set_option maxRecDepth 4000 in
theorem t_X_nights {adK adV : Nat → Nat} (l : Launch) (D : va_G) (cy : Nat → ClassId) (b : Nat) (N : Nat) (x0 : Nat) (x1 : Int32) (h : qH) (Q : Int32 → qH → Prop) (hw : w_X_nights N x0 x1 h Q) : Met l y_X_nights (Cond.code y_X_nights prog_1_method_13_code 2 (some .int) :: qT) (qrm 6 0 0 139) (qPc D cy b adK adV h [qr b x0, .int x1]) (qQc D cy b qrI Q) 0 0 (qA b) := by
  refine qmet (L0 := [(0, .inr (.inr (.inl x0))), (1, .inl x1)]) qm_X_nights (plainFor_of_name (by decide)) [.inr (.inr (.inl x0)), .inl x1] rfl (Nat.le_of_ble_eq_true rfl) rfl (fun p e s m args below meth c X => ?_)
  unfold w_X_nights at hw
  refine qx_iload_n (x := x1) X d_X_nights_0 rfl 1 rfl ?_
  refine qx_callSI (st := []) (As := [.int x1]) X (t_X_isFewNights (adK := adK) (adV := adV) l D cy b N x1 h _ hw) qm_X_isFewNights wm_X_181 wi_X_isFewNights rfl rfl rfl ⟨Nat.le_of_ble_eq_true rfl, Nat.le_of_ble_eq_true rfl⟩ ⟨Nat.le_refl 0, Nat.le_refl 0⟩ (Nat.le_of_ble_eq_true rfl) rfl d_X_nights_1 (fun r1 h2 hw => ?_)
  refine qx_if_ne X 9 d_X_nights_4 (by decide) (fun q3 => ?_) (fun q3 => ?_)
  · have hw := hw.1 q3
    refine qx_iload_n (x := x1) X d_X_nights_9 rfl 1 rfl ?_
    refine qx_if_le X 43 d_X_nights_10 (by decide) (fun q4 => ?_) (fun q4 => ?_)
    · have hw := hw.1 q4
      refine qx_aload_n (x := x0) X d_X_nights_43 rfl 0 rfl ?_
      obtain ⟨g5, hw⟩ := hw
      refine qx_getR X qcls11 g5 3 (by decide) rfl wf_X_37 d_X_nights_44 ?_
      obtain ⟨g6, hw⟩ := hw
      refine qx_getI X qcls6 g6 1 (by decide) rfl wf_X_191 d_X_nights_47 ?_
      exact qx_iret X hw (Nat.le_refl 0) (Nat.le_refl 0) rfl d_X_nights_50
    · have hw := hw.2 q4
      refine qx_aload_n (x := x0) X d_X_nights_13 rfl 0 rfl ?_
      obtain ⟨g7, hw⟩ := hw
      refine qx_getR X qcls11 g7 9 (by decide) rfl wf_X_79 d_X_nights_14 ?_
      refine qx_aload_n (x := x0) X d_X_nights_17 rfl 0 rfl ?_
      refine qx_getR X qcls11 g7 3 (by decide) rfl wf_X_37 d_X_nights_18 ?_
      obtain ⟨g8, hw⟩ := hw
      refine qx_callVV (st := []) (As := [qr b (qR h2 x0 3)]) X (t_Past_keep (adK := adK) (adV := adV) l D cy b N (qR h2 x0 9) (qR h2 x0 3) h2 _ hw) qm_Past_keep wm_X_173 wi_Past_keep wl_Past_keep qcls2 g8 rfl rfl rfl ⟨Nat.le_of_ble_eq_true rfl, Nat.le_of_ble_eq_true rfl⟩ ⟨Nat.le_refl 0, Nat.le_refl 0⟩ (Nat.le_of_ble_eq_true rfl) rfl d_X_nights_21 (fun h9 hw => ?_)
      refine qx_aload_n (x := x0) X d_X_nights_24 rfl 0 rfl ?_
      obtain ⟨g10, hw⟩ := hw
      refine qx_getR X qcls11 g10 6 (by decide) rfl wf_X_56 d_X_nights_25 ?_
      refine qx_aload_n (x := x0) X d_X_nights_28 rfl 0 rfl ?_
      refine qx_getR X qcls11 g10 3 (by decide) rfl wf_X_37 d_X_nights_29 ?_
      refine qx_iload_n (x := x1) X d_X_nights_32 rfl 1 rfl ?_
      refine qx_aload_n (x := x0) X d_X_nights_33 rfl 0 rfl ?_
      refine qx_getR X qcls11 g10 1 (by decide) rfl wf_X_19 d_X_nights_34 ?_
      obtain ⟨g11, hw⟩ := hw
      refine qx_getI X qcls8 g11 12 (by decide) rfl wf_X_184 d_X_nights_37 ?_
      obtain ⟨g12, hw⟩ := hw
      refine qx_callVV (st := []) (As := [qr b (qR h9 x0 3), .int x1, .int (qI h9 (qR h9 x0 1) 12)]) X (t_Night_goByWithAll (adK := adK) (adV := adV) l D cy b N (qR h9 x0 6) (qR h9 x0 3) x1 (qI h9 (qR h9 x0 1) 12) h9 _ hw) qm_Night_goByWithAll wm_X_187 wi_Night_goByWithAll wl_Night_goByWithAll qcls1 g12 rfl rfl rfl ⟨Nat.le_of_ble_eq_true rfl, Nat.le_of_ble_eq_true rfl⟩ ⟨Nat.le_refl 0, Nat.le_refl 0⟩ (Nat.le_of_ble_eq_true rfl) rfl d_X_nights_40 (fun h13 hw => ?_)
      refine qx_aload_n (x := x0) X d_X_nights_43 rfl 0 rfl ?_
      obtain ⟨g14, hw⟩ := hw
      refine qx_getR X qcls11 g14 3 (by decide) rfl wf_X_37 d_X_nights_44 ?_
      obtain ⟨g15, hw⟩ := hw
      refine qx_getI X qcls6 g15 1 (by decide) rfl wf_X_191 d_X_nights_47 ?_
      exact qx_iret X hw (Nat.le_refl 0) (Nat.le_refl 0) rfl d_X_nights_50
  · have hw := hw.2 q3
    refine qx_iconst (v := (-1 : Int32)) X d_X_nights_7 (by decide) ?_
    exact qx_iret X hw (Nat.le_refl 0) (Nat.le_refl 0) rfl d_X_nights_8
set_option maxRecDepth 4000 in
theorem t_X_undo {adK adV : Nat → Nat} (l : Launch) (D : va_G) (cy : Nat → ClassId) (b : Nat) (N : Nat) (x0 : Nat) (h : qH) (Q : Int32 → qH → Prop) (hw : w_X_undo N x0 h Q) : Met l y_X_undo (Cond.code y_X_undo prog_1_method_14_code 1 (some .boolean) :: qT) (qrm 3 0 0 60) (qPc D cy b adK adV h [qr b x0]) (qQc D cy b qrI Q) 0 0 (qA b) := by
  refine qmet (L0 := [(0, .inr (.inr (.inl x0)))]) qm_X_undo (plainFor_of_name (by decide)) [.inr (.inr (.inl x0))] rfl (Nat.le_of_ble_eq_true rfl) rfl (fun p e s m args below meth c X => ?_)
  unfold w_X_undo at hw
  refine qx_aload_n (x := x0) X d_X_undo_0 rfl 0 rfl ?_
  obtain ⟨g1, hw⟩ := hw
  refine qx_getR X qcls11 g1 9 (by decide) rfl wf_X_79 d_X_undo_1 ?_
  refine qx_aload_n (x := x0) X d_X_undo_4 rfl 0 rfl ?_
  refine qx_getR X qcls11 g1 3 (by decide) rfl wf_X_37 d_X_undo_5 ?_
  obtain ⟨g2, hw⟩ := hw
  refine qx_callVI (st := []) (As := [qr b (qR h x0 3)]) X (t_Past_giveBack (adK := adK) (adV := adV) l D cy b N (qR h x0 9) (qR h x0 3) h _ hw) qm_Past_giveBack wm_X_193 wi_Past_giveBack wl_Past_giveBack qcls2 g2 rfl rfl rfl ⟨Nat.le_of_ble_eq_true rfl, Nat.le_of_ble_eq_true rfl⟩ ⟨Nat.le_refl 0, Nat.le_refl 0⟩ (Nat.le_of_ble_eq_true rfl) rfl d_X_undo_8 (fun r3 h4 hw => ?_)
  exact qx_zret X hw (Nat.le_refl 0) (Nat.le_refl 0) rfl d_X_undo_11
set_option maxRecDepth 4000 in
theorem t_X_planned_15 (X : qX p s m args meth c D cy b adK adV prog_1_method_17_code "CoatHangers" 4 (some .int) "planned") (N : Nat) (x0 : Nat) (x1 : Int32) (x2 : Int32) (h : qH) (Q : Int32 → qH → Prop)  (hw : w_X_planned_15 N x0 x1 x2 h Q ) : qW p l e (qrm 5 0 0 115) s m args below meth c D cy b 4 0 0 (MQ below (qQc D cy b qrI Q) args s 0 0 (qA b)) 15 [(0, .inr (.inr (.inl x0))), (1, .inl x1), (2, .inl x2)] [] h := by
  unfold w_X_planned_15 at hw
  refine qx_aload_n (x := x0) X d_X_planned_15 rfl 0 rfl ?_
  obtain ⟨g1, hw⟩ := hw
  refine qx_getR X qcls11 g1 7 (by decide) rfl wf_X_63 d_X_planned_16 ?_
  refine qx_aload_n (x := x0) X d_X_planned_19 rfl 0 rfl ?_
  refine qx_getR X qcls11 g1 3 (by decide) rfl wf_X_37 d_X_planned_20 ?_
  obtain ⟨g2, hw⟩ := hw
  refine qx_callVV (st := []) (As := [qr b (qR h x0 3)]) X (t_Plan_lookAtCosts (adK := adK) (adV := adV) l D cy b N (qR h x0 7) (qR h x0 3) h _ hw) qm_Plan_lookAtCosts wm_X_201 wi_Plan_lookAtCosts wl_Plan_lookAtCosts qcls3 g2 rfl rfl rfl ⟨Nat.le_of_ble_eq_true rfl, Nat.le_of_ble_eq_true rfl⟩ ⟨Nat.le_refl 0, Nat.le_refl 0⟩ (Nat.le_of_ble_eq_true rfl) rfl d_X_planned_23 (fun h3 hw => ?_)
  refine qx_aload_n (x := x0) X d_X_planned_26 rfl 0 rfl ?_
  obtain ⟨g4, hw⟩ := hw
  refine qx_getR X qcls11 g4 7 (by decide) rfl wf_X_63 d_X_planned_27 ?_
  refine qx_iload_n (x := x2) X d_X_planned_30 rfl 2 rfl ?_
  refine qx_bipush (v := (-2 : Int32)) X d_X_planned_31 (by decide) ?_
  obtain ⟨g5, hw⟩ := hw
  refine qx_callVI (st := []) (As := [.int x2, .int (-2 : Int32)]) X (t_Plan_findBest (adK := adK) (adV := adV) l D cy b N (qR h3 x0 7) x2 (-2 : Int32) h3 _ hw) qm_Plan_findBest wm_X_204 wi_Plan_findBest wl_Plan_findBest qcls3 g5 rfl rfl rfl ⟨Nat.le_of_ble_eq_true rfl, Nat.le_of_ble_eq_true rfl⟩ ⟨Nat.le_refl 0, Nat.le_refl 0⟩ (Nat.le_of_ble_eq_true rfl) rfl d_X_planned_33 (fun r6 h7 hw => ?_)
  refine qx_istore_n (L' := [(3, .inl r6), (0, .inr (.inr (.inl x0))), (1, .inl x1), (2, .inl x2)]) X d_X_planned_36 rfl (by decide) rfl ?_
  refine qx_iload_n (x := x1) X d_X_planned_37 rfl 2 rfl ?_
  refine qx_iconst (v := (-1 : Int32)) X d_X_planned_38 (by decide) ?_
  refine qx_icmp_ne X 53 d_X_planned_39 (by decide) (fun q8 => ?_) (fun q8 => ?_)
  · have hw := hw.1 q8
    refine qx_aload_n (x := x0) X d_X_planned_53 rfl 1 rfl ?_
    obtain ⟨g9, hw⟩ := hw
    refine qx_getR X qcls11 g9 7 (by decide) rfl wf_X_63 d_X_planned_54 ?_
    refine qx_iload_n (x := x1) X d_X_planned_57 rfl 2 rfl ?_
    refine qx_bipush (v := (-2 : Int32)) X d_X_planned_58 (by decide) ?_
    obtain ⟨g10, hw⟩ := hw
    refine qx_callVI (st := []) (As := [.int x1, .int (-2 : Int32)]) X (t_Plan_hangerFor (adK := adK) (adV := adV) l D cy b N (qR h7 x0 7) x1 (-2 : Int32) h7 _ hw) qm_Plan_hangerFor wm_X_211 wi_Plan_hangerFor wl_Plan_hangerFor qcls3 g10 rfl rfl rfl ⟨Nat.le_of_ble_eq_true rfl, Nat.le_of_ble_eq_true rfl⟩ ⟨Nat.le_refl 0, Nat.le_refl 0⟩ (Nat.le_of_ble_eq_true rfl) rfl d_X_planned_60 (fun r11 h12 hw => ?_)
    exact qx_iret X hw (Nat.le_refl 0) (Nat.le_refl 0) rfl d_X_planned_63
  · have hw := hw.2 q8
    refine qx_aload_n (x := x0) X d_X_planned_42 rfl 1 rfl ?_
    obtain ⟨g13, hw⟩ := hw
    refine qx_getR X qcls11 g13 7 (by decide) rfl wf_X_63 d_X_planned_43 ?_
    refine qx_iload_n (x := r6) X d_X_planned_46 rfl 0 rfl ?_
    obtain ⟨g14, hw⟩ := hw
    refine qx_callVI (st := []) (As := [.int r6]) X (t_Plan_costOf (adK := adK) (adV := adV) l D cy b N (qR h7 x0 7) r6 h7 _ hw) qm_Plan_costOf wm_X_208 wi_Plan_costOf wl_Plan_costOf qcls3 g14 rfl rfl rfl ⟨Nat.le_of_ble_eq_true rfl, Nat.le_of_ble_eq_true rfl⟩ ⟨Nat.le_refl 0, Nat.le_refl 0⟩ (Nat.le_of_ble_eq_true rfl) rfl d_X_planned_47 (fun r15 h16 hw => ?_)
    refine qx_goto X 63 d_X_planned_50 (by decide) ?_
    exact qx_iret X hw (Nat.le_refl 0) (Nat.le_refl 0) rfl d_X_planned_63
set_option maxRecDepth 4000 in
theorem t_X_planned {adK adV : Nat → Nat} (l : Launch) (D : va_G) (cy : Nat → ClassId) (b : Nat) (N : Nat) (x0 : Nat) (x1 : Int32) (x2 : Int32) (h : qH) (Q : Int32 → qH → Prop) (hw : w_X_planned N x0 x1 x2 h Q) : Met l y_X_planned (Cond.code y_X_planned prog_1_method_17_code 4 (some .int) :: qT) (qrm 5 0 0 115) (qPc D cy b adK adV h [qr b x0, .int x1, .int x2]) (qQc D cy b qrI Q) 0 0 (qA b) := by
  refine qmet (L0 := [(0, .inr (.inr (.inl x0))), (1, .inl x1), (2, .inl x2)]) qm_X_planned (plainFor_of_name (by decide)) [.inr (.inr (.inl x0)), .inl x1, .inl x2] rfl (Nat.le_of_ble_eq_true rfl) rfl (fun p e s m args below meth c X => ?_)
  unfold w_X_planned at hw
  refine qx_iload_n (x := x1) X d_X_planned_0 rfl 1 rfl ?_
  refine qx_iconst (v := (-1 : Int32)) X d_X_planned_1 (by decide) ?_
  refine qx_icmp_eq X 15 d_X_planned_2 (by decide) (fun q1 => ?_) (fun q1 => ?_)
  · have hw := hw.1 q1
    exact t_X_planned_15 X N x0 x1 x2 h Q  hw 
  · have hw := hw.2 q1
    refine qx_aload_n (x := x0) X d_X_planned_5 rfl 0 rfl ?_
    refine qx_iload_n (x := x1) X d_X_planned_6 rfl 1 rfl ?_
    obtain ⟨g2, hw⟩ := hw
    refine qx_callVI (st := []) (As := [.int x1]) X (t_X_isPerson (adK := adK) (adV := adV) l D cy b N x0 x1 h _ hw) qm_X_isPerson wm_X_139 wi_X_isPerson wl_X_isPerson qcls11 g2 rfl rfl rfl ⟨Nat.le_of_ble_eq_true rfl, Nat.le_of_ble_eq_true rfl⟩ ⟨Nat.le_refl 0, Nat.le_refl 0⟩ (Nat.le_of_ble_eq_true rfl) rfl d_X_planned_7 (fun r3 h4 hw => ?_)
    refine qx_if_ne X 15 d_X_planned_10 (by decide) (fun q5 => ?_) (fun q5 => ?_)
    · have hw := hw.1 q5
      exact t_X_planned_15 X N x0 x1 x2 h4 Q  hw 
    · have hw := hw.2 q5
      refine qx_iconst (v := (-1 : Int32)) X d_X_planned_13 (by decide) ?_
      exact qx_iret X hw (Nat.le_refl 0) (Nat.le_refl 0) rfl d_X_planned_14
set_option maxRecDepth 4000 in
theorem t_X_hanging {adK adV : Nat → Nat} (l : Launch) (D : va_G) (cy : Nat → ClassId) (b : Nat) (N : Nat) (x0 : Nat) (x1 : Int32) (h : qH) (Q : Int32 → qH → Prop) (hw : w_X_hanging N x0 x1 h Q) : Met l y_X_hanging (Cond.code y_X_hanging prog_1_method_15_code 2 (some .int) :: qT) (qrm 6 0 0 138) (qPc D cy b adK adV h [qr b x0, .int x1]) (qQc D cy b qrI Q) 0 0 (qA b) := by
  refine qmet (L0 := [(0, .inr (.inr (.inl x0))), (1, .inl x1)]) qm_X_hanging (plainFor_of_name (by decide)) [.inr (.inr (.inl x0)), .inl x1] rfl (Nat.le_of_ble_eq_true rfl) rfl (fun p e s m args below meth c X => ?_)
  unfold w_X_hanging at hw
  refine qx_aload_n (x := x0) X d_X_hanging_0 rfl 0 rfl ?_
  refine qx_iload_n (x := x1) X d_X_hanging_1 rfl 1 rfl ?_
  refine qx_iconst (v := (0 : Int32)) X d_X_hanging_2 (by decide) ?_
  obtain ⟨g1, hw⟩ := hw
  refine qx_callVI (st := []) (As := [.int x1, .int (0 : Int32)]) X (t_X_planned (adK := adK) (adV := adV) l D cy b N x0 x1 (0 : Int32) h _ hw) qm_X_planned wm_X_197 wi_X_planned wl_X_planned qcls11 g1 rfl rfl rfl ⟨Nat.le_of_ble_eq_true rfl, Nat.le_of_ble_eq_true rfl⟩ ⟨Nat.le_refl 0, Nat.le_refl 0⟩ (Nat.le_of_ble_eq_true rfl) rfl d_X_hanging_3 (fun r2 h3 hw => ?_)
  exact qx_iret X hw (Nat.le_refl 0) (Nat.le_refl 0) rfl d_X_hanging_6
set_option maxRecDepth 4000 in
theorem t_X_apart {adK adV : Nat → Nat} (l : Launch) (D : va_G) (cy : Nat → ClassId) (b : Nat) (N : Nat) (x0 : Nat) (x1 : Int32) (h : qH) (Q : Int32 → qH → Prop) (hw : w_X_apart N x0 x1 h Q) : Met l y_X_apart (Cond.code y_X_apart prog_1_method_16_code 2 (some .int) :: qT) (qrm 6 0 0 138) (qPc D cy b adK adV h [qr b x0, .int x1]) (qQc D cy b qrI Q) 0 0 (qA b) := by
  refine qmet (L0 := [(0, .inr (.inr (.inl x0))), (1, .inl x1)]) qm_X_apart (plainFor_of_name (by decide)) [.inr (.inr (.inl x0)), .inl x1] rfl (Nat.le_of_ble_eq_true rfl) rfl (fun p e s m args below meth c X => ?_)
  unfold w_X_apart at hw
  refine qx_aload_n (x := x0) X d_X_apart_0 rfl 0 rfl ?_
  refine qx_iload_n (x := x1) X d_X_apart_1 rfl 1 rfl ?_
  refine qx_iconst (v := (1 : Int32)) X d_X_apart_2 (by decide) ?_
  obtain ⟨g1, hw⟩ := hw
  refine qx_callVI (st := []) (As := [.int x1, .int (1 : Int32)]) X (t_X_planned (adK := adK) (adV := adV) l D cy b N x0 x1 (1 : Int32) h _ hw) qm_X_planned wm_X_197 wi_X_planned wl_X_planned qcls11 g1 rfl rfl rfl ⟨Nat.le_of_ble_eq_true rfl, Nat.le_of_ble_eq_true rfl⟩ ⟨Nat.le_refl 0, Nat.le_refl 0⟩ (Nat.le_of_ble_eq_true rfl) rfl d_X_apart_3 (fun r2 h3 hw => ?_)
  exact qx_iret X hw (Nat.le_refl 0) (Nat.le_refl 0) rfl d_X_apart_6
set_option maxRecDepth 4000 in
theorem t_X_ways {adK adV : Nat → Nat} (l : Launch) (D : va_G) (cy : Nat → ClassId) (b : Nat) (N : Nat) (x0 : Nat) (x1 : Int32) (h : qH) (Q : Int32 → qH → Prop) (hw : w_X_ways N x0 x1 h Q) : Met l y_X_ways (Cond.code y_X_ways prog_1_method_18_code 2 (some .int) :: qT) (qrm 5 0 0 115) (qPc D cy b adK adV h [qr b x0, .int x1]) (qQc D cy b qrI Q) 0 0 (qA b) := by
  refine qmet (L0 := [(0, .inr (.inr (.inl x0))), (1, .inl x1)]) qm_X_ways (plainFor_of_name (by decide)) [.inr (.inr (.inl x0)), .inl x1] rfl (Nat.le_of_ble_eq_true rfl) rfl (fun p e s m args below meth c X => ?_)
  unfold w_X_ways at hw
  refine qx_iload_n (x := x1) X d_X_ways_0 rfl 1 rfl ?_
  refine qx_if_lt X 10 d_X_ways_1 (by decide) (fun q1 => ?_) (fun q1 => ?_)
  · have hw := hw.1 q1
    refine qx_iconst (v := (-1 : Int32)) X d_X_ways_10 (by decide) ?_
    exact qx_iret X hw (Nat.le_refl 0) (Nat.le_refl 0) rfl d_X_ways_11
  · have hw := hw.2 q1
    refine qx_iload_n (x := x1) X d_X_ways_4 rfl 1 rfl ?_
    refine qx_bipush (v := (99 : Int32)) X d_X_ways_5 (by decide) ?_
    refine qx_icmp_le X 12 d_X_ways_7 (by decide) (fun q2 => ?_) (fun q2 => ?_)
    · have hw := hw.1 q2
      refine qx_aload_n (x := x0) X d_X_ways_12 rfl 0 rfl ?_
      obtain ⟨g3, hw⟩ := hw
      refine qx_getR X qcls11 g3 7 (by decide) rfl wf_X_63 d_X_ways_13 ?_
      refine qx_aload_n (x := x0) X d_X_ways_16 rfl 0 rfl ?_
      refine qx_getR X qcls11 g3 3 (by decide) rfl wf_X_37 d_X_ways_17 ?_
      obtain ⟨g4, hw⟩ := hw
      refine qx_callVV (st := []) (As := [qr b (qR h x0 3)]) X (t_Plan_lookAtCosts (adK := adK) (adV := adV) l D cy b N (qR h x0 7) (qR h x0 3) h _ hw) qm_Plan_lookAtCosts wm_X_201 wi_Plan_lookAtCosts wl_Plan_lookAtCosts qcls3 g4 rfl rfl rfl ⟨Nat.le_of_ble_eq_true rfl, Nat.le_of_ble_eq_true rfl⟩ ⟨Nat.le_refl 0, Nat.le_refl 0⟩ (Nat.le_of_ble_eq_true rfl) rfl d_X_ways_20 (fun h5 hw => ?_)
      refine qx_aload_n (x := x0) X d_X_ways_23 rfl 0 rfl ?_
      obtain ⟨g6, hw⟩ := hw
      refine qx_getR X qcls11 g6 7 (by decide) rfl wf_X_63 d_X_ways_24 ?_
      refine qx_iload_n (x := x1) X d_X_ways_27 rfl 1 rfl ?_
      obtain ⟨g7, hw⟩ := hw
      refine qx_callVI (st := []) (As := [.int x1]) X (t_Plan_waysWithin (adK := adK) (adV := adV) l D cy b N (qR h5 x0 7) x1 h5 _ hw) qm_Plan_waysWithin wm_X_215 wi_Plan_waysWithin wl_Plan_waysWithin qcls3 g7 rfl rfl rfl ⟨Nat.le_of_ble_eq_true rfl, Nat.le_of_ble_eq_true rfl⟩ ⟨Nat.le_refl 0, Nat.le_refl 0⟩ (Nat.le_of_ble_eq_true rfl) rfl d_X_ways_28 (fun r8 h9 hw => ?_)
      exact qx_iret X hw (Nat.le_refl 0) (Nat.le_refl 0) rfl d_X_ways_31
    · have hw := hw.2 q2
      refine qx_iconst (v := (-1 : Int32)) X d_X_ways_10 (by decide) ?_
      exact qx_iret X hw (Nat.le_refl 0) (Nat.le_refl 0) rfl d_X_ways_11
set_option maxRecDepth 4000 in
theorem t_X_ringFrom_7 (X : qX p s m args meth c D cy b adK adV prog_1_method_20_code "CoatHangers" 5 (some .int) "ringFrom") (N k : Nat) (x0 : Nat) (x2 : Int32) (x3 : Int32) (x4 : Int32) (h : qH) (Q : Int32 → qH → Prop)  (hw : w_X_ringFrom_7 N k x0 x2 x3 x4 h Q ) : qW p l e (qrm 0 0 0 0) s m args below meth c D cy b 5 0 0 (MQ below (qQc D cy b qrI Q) args s 0 0 (qA b)) 7 [(0, .inr (.inr (.inl x0))), (2, .inl x2), (3, .inl x3), (4, .inl x4)] [] h := by
  induction k generalizing x0 x2 x3 x4 h with
  | zero => exact hw.elim
  | succ k ih =>
    refine qx_iload (x := x4) X d_X_ringFrom_7 3 rfl ?_
    refine qx_aload_n (x := x0) X d_X_ringFrom_9 rfl 0 rfl ?_
    obtain ⟨g1, hw⟩ := hw
    refine qx_getR X qcls11 g1 1 (by decide) rfl wf_X_19 d_X_ringFrom_10 ?_
    obtain ⟨g2, hw⟩ := hw
    refine qx_getI X qcls8 g2 3 (by decide) rfl wf_X_218 d_X_ringFrom_13 ?_
    refine qx_icmp_ge X 41 d_X_ringFrom_16 (by decide) (fun q3 => ?_) (fun q3 => ?_)
    · have hw := hw.1 q3
      refine qx_iload_n (x := x2) X d_X_ringFrom_41 rfl 1 rfl ?_
      exact qx_iret X hw (Nat.le_refl 0) (Nat.le_refl 0) rfl d_X_ringFrom_42
    · have hw := hw.2 q3
      refine qx_iload_n (x := x2) X d_X_ringFrom_19 rfl 1 rfl ?_
      refine qx_iconst (v := (1 : Int32)) X d_X_ringFrom_20 (by decide) ?_
      refine qx_iload_n (x := x3) X d_X_ringFrom_21 rfl 2 rfl ?_
      refine qx_ishl X d_X_ringFrom_22 ?_
      refine qx_ior X d_X_ringFrom_23 ?_
      refine qx_topi (fun y4 ey4 => ?_)
      have hw := hw y4 ey4
      refine qx_istore_n (L' := [(2, .inl y4), (0, .inr (.inr (.inl x0))), (3, .inl x3), (4, .inl x4)]) X d_X_ringFrom_24 rfl (by decide) rfl ?_
      refine qx_aload_n (x := x0) X d_X_ringFrom_25 rfl 1 rfl ?_
      refine qx_getR X qcls11 g1 3 (by decide) rfl wf_X_37 d_X_ringFrom_26 ?_
      obtain ⟨g5, hw⟩ := hw
      refine qx_getR X qcls6 g5 4 (by decide) rfl wf_X_151 d_X_ringFrom_29 ?_
      refine qx_iload_n (x := x3) X d_X_ringFrom_32 rfl 2 rfl ?_
      obtain ⟨g6, hw⟩ := hw
      refine qx_ild X g6 d_X_ringFrom_33 ?_
      refine qx_topi (fun y7 ey7 => ?_)
      have hw := hw y7 ey7
      refine qx_istore_n (L' := [(3, .inl y7), (2, .inl y4), (0, .inr (.inr (.inl x0))), (4, .inl x4)]) X d_X_ringFrom_34 rfl (by decide) rfl ?_
      refine qx_iinc (v := (x4 + (1 : Int32))) (L' := [(4, .inl (x4 + (1 : Int32))), (3, .inl y7), (2, .inl y4), (0, .inr (.inr (.inl x0)))]) X d_X_ringFrom_35 3 rfl rfl (by decide) rfl ?_
      refine qx_goto X 7 d_X_ringFrom_38 (by decide) ?_
      refine qx_sub [3, 2, 1, 0] rfl ?_
      exact ih x0 y4 y7 (x4 + (1 : Int32)) h hw
set_option maxRecDepth 4000 in
theorem t_X_ringFrom {adK adV : Nat → Nat} (l : Launch) (D : va_G) (cy : Nat → ClassId) (b : Nat) (N : Nat) (x0 : Nat) (x1 : Int32) (h : qH) (Q : Int32 → qH → Prop) (hw : w_X_ringFrom N x0 x1 h Q) : Met l y_X_ringFrom (Cond.code y_X_ringFrom prog_1_method_20_code 5 (some .int) :: qT) (qrm 0 0 0 0) (qPc D cy b adK adV h [qr b x0, .int x1]) (qQc D cy b qrI Q) 0 0 (qA b) := by
  refine qmet (L0 := [(0, .inr (.inr (.inl x0))), (1, .inl x1)]) qm_X_ringFrom (plainFor_of_name (by decide)) [.inr (.inr (.inl x0)), .inl x1] rfl (Nat.le_of_ble_eq_true rfl) rfl (fun p e s m args below meth c X => ?_)
  unfold w_X_ringFrom at hw
  refine qx_iconst (v := (0 : Int32)) X d_X_ringFrom_0 (by decide) ?_
  refine qx_istore_n (L' := [(2, .inl (0 : Int32)), (0, .inr (.inr (.inl x0))), (1, .inl x1)]) X d_X_ringFrom_1 rfl (by decide) rfl ?_
  refine qx_iload_n (x := x1) X d_X_ringFrom_2 rfl 2 rfl ?_
  refine qx_istore_n (L' := [(3, .inl x1), (2, .inl (0 : Int32)), (0, .inr (.inr (.inl x0))), (1, .inl x1)]) X d_X_ringFrom_3 rfl (by decide) rfl ?_
  refine qx_iconst (v := (0 : Int32)) X d_X_ringFrom_4 (by decide) ?_
  refine qx_istore (L' := [(4, .inl (0 : Int32)), (3, .inl x1), (2, .inl (0 : Int32)), (0, .inr (.inr (.inl x0))), (1, .inl x1)]) X d_X_ringFrom_5 (by decide) rfl ?_
  refine qx_sub [3, 2, 1, 0] rfl ?_
  exact t_X_ringFrom_7 X N N x0 (0 : Int32) x1 (0 : Int32) h Q  hw 
set_option maxRecDepth 4000 in
theorem t_X_sets_6 (X : qX p s m args meth c D cy b adK adV prog_1_method_19_code "CoatHangers" 4 (some .int) "sets") (N k : Nat) (x0 : Nat) (x1 : Int32) (x2 : Int32) (x3 : Int32) (h : qH) (Q : Int32 → qH → Prop)  (hw : w_X_sets_6 N k x0 x1 x2 x3 h Q ) : qW p l e (qrm 1 0 0 24) s m args below meth c D cy b 4 0 0 (MQ below (qQc D cy b qrI Q) args s 0 0 (qA b)) 6 [(0, .inr (.inr (.inl x0))), (1, .inl x1), (2, .inl x2), (3, .inl x3)] [] h := by
  induction k generalizing x0 x1 x2 x3 h with
  | zero => exact hw.elim
  | succ k ih =>
    refine qx_iload_n (x := x3) X d_X_sets_6 rfl 3 rfl ?_
    refine qx_aload_n (x := x0) X d_X_sets_7 rfl 0 rfl ?_
    obtain ⟨g1, hw⟩ := hw
    refine qx_getR X qcls11 g1 1 (by decide) rfl wf_X_19 d_X_sets_8 ?_
    obtain ⟨g2, hw⟩ := hw
    refine qx_getI X qcls8 g2 3 (by decide) rfl wf_X_218 d_X_sets_11 ?_
    refine qx_icmp_ge X 42 d_X_sets_14 (by decide) (fun q3 => ?_) (fun q3 => ?_)
    · have hw := hw.1 q3
      refine qx_iload_n (x := x1) X d_X_sets_42 rfl 1 rfl ?_
      exact qx_iret X hw (Nat.le_refl 0) (Nat.le_refl 0) rfl d_X_sets_43
    · have hw := hw.2 q3
      refine qx_iload_n (x := x2) X d_X_sets_17 rfl 2 rfl ?_
      refine qx_iconst (v := (1 : Int32)) X d_X_sets_18 (by decide) ?_
      refine qx_iload_n (x := x3) X d_X_sets_19 rfl 3 rfl ?_
      refine qx_ishl X d_X_sets_20 ?_
      refine qx_iand X d_X_sets_21 ?_
      refine qx_if_ne X 36 d_X_sets_22 (by decide) (fun q4 => ?_) (fun q4 => ?_)
      · have hw := hw.1 q4
        refine qx_iinc (v := (x3 + (1 : Int32))) (L' := [(3, .inl (x3 + (1 : Int32))), (0, .inr (.inr (.inl x0))), (1, .inl x1), (2, .inl x2)]) X d_X_sets_36 3 rfl rfl (by decide) rfl ?_
        refine qx_goto X 6 d_X_sets_39 (by decide) ?_
        refine qx_sub [1, 2, 3, 0] rfl ?_
        exact ih x0 x1 x2 (x3 + (1 : Int32)) h hw
      · have hw := hw.2 q4
        refine qx_iinc (v := (x1 + (1 : Int32))) (L' := [(1, .inl (x1 + (1 : Int32))), (0, .inr (.inr (.inl x0))), (2, .inl x2), (3, .inl x3)]) X d_X_sets_25 1 rfl rfl (by decide) rfl ?_
        refine qx_iload_n (x := x2) X d_X_sets_28 rfl 2 rfl ?_
        refine qx_aload_n (x := x0) X d_X_sets_29 rfl 1 rfl ?_
        refine qx_iload_n (x := x3) X d_X_sets_30 rfl 3 rfl ?_
        refine qx_callVI (st := [.int x2]) (As := [.int x3]) X (t_X_ringFrom (adK := adK) (adV := adV) l D cy b N x0 x3 h _ hw) qm_X_ringFrom wm_X_221 wi_X_ringFrom wl_X_ringFrom qcls11 g1 rfl rfl rfl ⟨Nat.le_of_ble_eq_true rfl, Nat.le_of_ble_eq_true rfl⟩ ⟨Nat.le_refl 0, Nat.le_refl 0⟩ (Nat.le_of_ble_eq_true rfl) rfl d_X_sets_31 (fun r5 h6 hw => ?_)
        refine qx_ior X d_X_sets_34 ?_
        refine qx_topi (fun y7 ey7 => ?_)
        have hw := hw y7 ey7
        refine qx_istore_n (L' := [(2, .inl y7), (1, .inl (x1 + (1 : Int32))), (0, .inr (.inr (.inl x0))), (3, .inl x3)]) X d_X_sets_35 rfl (by decide) rfl ?_
        refine qx_iinc (v := (x3 + (1 : Int32))) (L' := [(3, .inl (x3 + (1 : Int32))), (2, .inl y7), (1, .inl (x1 + (1 : Int32))), (0, .inr (.inr (.inl x0)))]) X d_X_sets_36 3 rfl rfl (by decide) rfl ?_
        refine qx_goto X 6 d_X_sets_39 (by decide) ?_
        refine qx_sub [3, 2, 1, 0] rfl ?_
        exact ih x0 (x1 + (1 : Int32)) y7 (x3 + (1 : Int32)) h6 hw
set_option maxRecDepth 4000 in
theorem t_X_sets {adK adV : Nat → Nat} (l : Launch) (D : va_G) (cy : Nat → ClassId) (b : Nat) (N : Nat) (x0 : Nat) (h : qH) (Q : Int32 → qH → Prop) (hw : w_X_sets N x0 h Q) : Met l y_X_sets (Cond.code y_X_sets prog_1_method_19_code 4 (some .int) :: qT) (qrm 1 0 0 24) (qPc D cy b adK adV h [qr b x0]) (qQc D cy b qrI Q) 0 0 (qA b) := by
  refine qmet (L0 := [(0, .inr (.inr (.inl x0)))]) qm_X_sets (plainFor_of_name (by decide)) [.inr (.inr (.inl x0))] rfl (Nat.le_of_ble_eq_true rfl) rfl (fun p e s m args below meth c X => ?_)
  unfold w_X_sets at hw
  refine qx_iconst (v := (0 : Int32)) X d_X_sets_0 (by decide) ?_
  refine qx_istore_n (L' := [(1, .inl (0 : Int32)), (0, .inr (.inr (.inl x0)))]) X d_X_sets_1 rfl (by decide) rfl ?_
  refine qx_iconst (v := (0 : Int32)) X d_X_sets_2 (by decide) ?_
  refine qx_istore_n (L' := [(2, .inl (0 : Int32)), (1, .inl (0 : Int32)), (0, .inr (.inr (.inl x0)))]) X d_X_sets_3 rfl (by decide) rfl ?_
  refine qx_iconst (v := (0 : Int32)) X d_X_sets_4 (by decide) ?_
  refine qx_istore_n (L' := [(3, .inl (0 : Int32)), (2, .inl (0 : Int32)), (1, .inl (0 : Int32)), (0, .inr (.inr (.inl x0)))]) X d_X_sets_5 rfl (by decide) rfl ?_
  refine qx_sub [3, 2, 1, 0] rfl ?_
  exact t_X_sets_6 X N N x0 (0 : Int32) (0 : Int32) (0 : Int32) h Q  hw 
set_option maxRecDepth 4000 in
theorem t_X_changes {adK adV : Nat → Nat} (l : Launch) (D : va_G) (cy : Nat → ClassId) (b : Nat) (N : Nat) (x0 : Nat) (h : qH) (Q : Int32 → qH → Prop) (hw : w_X_changes N x0 h Q) : Met l y_X_changes (Cond.code y_X_changes prog_1_method_21_code 1 (some .int) :: qT) (qrm 2 0 0 47) (qPc D cy b adK adV h [qr b x0]) (qQc D cy b qrI Q) 0 0 (qA b) := by
  refine qmet (L0 := [(0, .inr (.inr (.inl x0)))]) qm_X_changes (plainFor_of_name (by decide)) [.inr (.inr (.inl x0))] rfl (Nat.le_of_ble_eq_true rfl) rfl (fun p e s m args below meth c X => ?_)
  unfold w_X_changes at hw
  refine qx_aload_n (x := x0) X d_X_changes_0 rfl 0 rfl ?_
  obtain ⟨g1, hw⟩ := hw
  refine qx_getR X qcls11 g1 1 (by decide) rfl wf_X_19 d_X_changes_1 ?_
  obtain ⟨g2, hw⟩ := hw
  refine qx_getI X qcls8 g2 3 (by decide) rfl wf_X_218 d_X_changes_4 ?_
  refine qx_aload_n (x := x0) X d_X_changes_7 rfl 0 rfl ?_
  refine qx_callVI (st := [.int (qI h (qR h x0 1) 3)]) (As := []) X (t_X_sets (adK := adK) (adV := adV) l D cy b N x0 h _ hw) qm_X_sets wm_X_224 wi_X_sets wl_X_sets qcls11 g1 rfl rfl rfl ⟨Nat.le_of_ble_eq_true rfl, Nat.le_of_ble_eq_true rfl⟩ ⟨Nat.le_refl 0, Nat.le_refl 0⟩ (Nat.le_of_ble_eq_true rfl) rfl d_X_changes_8 (fun r3 h4 hw => ?_)
  refine qx_isub X d_X_changes_11 ?_
  exact qx_iret X hw (Nat.le_refl 0) (Nat.le_refl 0) rfl d_X_changes_12
set_option maxRecDepth 4000 in
theorem t_X_themselves_25 (X : qX p s m args meth c D cy b adK adV prog_1_method_22_code "CoatHangers" 3 (some .int) "themselves") (N k : Nat) (x0 : Nat) (x1 : Int32) (x2 : Int32) (h : qH) (Q : Int32 → qH → Prop)  (hw : w_X_themselves_25 N k x0 x1 x2 h Q ) : qW p l e (qrm 3 0 0 69) s m args below meth c D cy b 3 0 0 (MQ below (qQc D cy b qrI Q) args s 0 0 (qA b)) 25 [(0, .inr (.inr (.inl x0))), (1, .inl x1), (2, .inl x2)] [] h := by
  induction k generalizing x0 x1 x2 h with
  | zero => exact hw.elim
  | succ k ih =>
    refine qx_iload_n (x := x2) X d_X_themselves_25 rfl 2 rfl ?_
    refine qx_sipush (v := (240 : Int32)) X d_X_themselves_26 (by decide) ?_
    refine qx_icmp_gt X 62 d_X_themselves_29 (by decide) (fun q1 => ?_) (fun q1 => ?_)
    · have hw := hw.1 q1
      refine qx_bipush (v := (-2 : Int32)) X d_X_themselves_62 (by decide) ?_
      exact qx_iret X hw (Nat.le_refl 0) (Nat.le_refl 0) rfl d_X_themselves_64
    · have hw := hw.2 q1
      refine qx_aload_n (x := x0) X d_X_themselves_32 rfl 0 rfl ?_
      obtain ⟨g2, hw⟩ := hw
      refine qx_getR X qcls11 g2 4 (by decide) rfl wf_X_41 d_X_themselves_33 ?_
      obtain ⟨g3, hw⟩ := hw
      refine qx_callVI (st := []) (As := []) X (t_State_bitsOfOwnSelves (adK := adK) (adV := adV) l D cy b N (qR h x0 4) h _ hw) qm_State_bitsOfOwnSelves wm_X_229 wi_State_bitsOfOwnSelves wl_State_bitsOfOwnSelves qcls6 g3 rfl rfl rfl ⟨Nat.le_of_ble_eq_true rfl, Nat.le_of_ble_eq_true rfl⟩ ⟨Nat.le_refl 0, Nat.le_refl 0⟩ (Nat.le_of_ble_eq_true rfl) rfl d_X_themselves_36 (fun r4 h5 hw => ?_)
      refine qx_iload_n (x := x1) X d_X_themselves_39 rfl 1 rfl ?_
      refine qx_icmp_ne X 45 d_X_themselves_40 (by decide) (fun q6 => ?_) (fun q6 => ?_)
      · have hw := hw.1 q6
        refine qx_aload_n (x := x0) X d_X_themselves_45 rfl 0 rfl ?_
        obtain ⟨g7, hw⟩ := hw
        refine qx_getR X qcls11 g7 6 (by decide) rfl wf_X_56 d_X_themselves_46 ?_
        refine qx_aload_n (x := x0) X d_X_themselves_49 rfl 0 rfl ?_
        refine qx_getR X qcls11 g7 4 (by decide) rfl wf_X_41 d_X_themselves_50 ?_
        obtain ⟨g8, hw⟩ := hw
        refine qx_callVV (st := []) (As := [qr b (qR h5 x0 4)]) X (t_Night_wakeAll (adK := adK) (adV := adV) l D cy b N (qR h5 x0 6) (qR h5 x0 4) h5 _ hw) qm_Night_wakeAll wm_X_232 wi_Night_wakeAll wl_Night_wakeAll qcls1 g8 rfl rfl rfl ⟨Nat.le_of_ble_eq_true rfl, Nat.le_of_ble_eq_true rfl⟩ ⟨Nat.le_refl 0, Nat.le_refl 0⟩ (Nat.le_of_ble_eq_true rfl) rfl d_X_themselves_53 (fun h9 hw => ?_)
        refine qx_iinc (v := (x2 + (1 : Int32))) (L' := [(2, .inl (x2 + (1 : Int32))), (0, .inr (.inr (.inl x0))), (1, .inl x1)]) X d_X_themselves_56 2 rfl rfl (by decide) rfl ?_
        refine qx_goto X 25 d_X_themselves_59 (by decide) ?_
        refine qx_sub [1, 2, 0] rfl ?_
        exact ih x0 x1 (x2 + (1 : Int32)) h9 hw
      · have hw := hw.2 q6
        refine qx_iload_n (x := x2) X d_X_themselves_43 rfl 2 rfl ?_
        exact qx_iret X hw (Nat.le_refl 0) (Nat.le_refl 0) rfl d_X_themselves_44
set_option maxRecDepth 4000 in
theorem t_X_themselves {adK adV : Nat → Nat} (l : Launch) (D : va_G) (cy : Nat → ClassId) (b : Nat) (N : Nat) (x0 : Nat) (h : qH) (Q : Int32 → qH → Prop) (hw : w_X_themselves N x0 h Q) : Met l y_X_themselves (Cond.code y_X_themselves prog_1_method_22_code 3 (some .int) :: qT) (qrm 3 0 0 69) (qPc D cy b adK adV h [qr b x0]) (qQc D cy b qrI Q) 0 0 (qA b) := by
  refine qmet (L0 := [(0, .inr (.inr (.inl x0)))]) qm_X_themselves (plainFor_of_name (by decide)) [.inr (.inr (.inl x0))] rfl (Nat.le_of_ble_eq_true rfl) rfl (fun p e s m args below meth c X => ?_)
  unfold w_X_themselves at hw
  refine qx_iconst (v := (1 : Int32)) X d_X_themselves_0 (by decide) ?_
  refine qx_aload_n (x := x0) X d_X_themselves_1 rfl 0 rfl ?_
  obtain ⟨g1, hw⟩ := hw
  refine qx_getR X qcls11 g1 1 (by decide) rfl wf_X_19 d_X_themselves_2 ?_
  obtain ⟨g2, hw⟩ := hw
  refine qx_getI X qcls8 g2 3 (by decide) rfl wf_X_218 d_X_themselves_5 ?_
  refine qx_ishl X d_X_themselves_8 ?_
  refine qx_iconst (v := (1 : Int32)) X d_X_themselves_9 (by decide) ?_
  refine qx_isub X d_X_themselves_10 ?_
  refine qx_topi (fun y3 ey3 => ?_)
  have hw := hw y3 ey3
  refine qx_istore_n (L' := [(1, .inl y3), (0, .inr (.inr (.inl x0)))]) X d_X_themselves_11 rfl (by decide) rfl ?_
  refine qx_aload_n (x := x0) X d_X_themselves_12 rfl 1 rfl ?_
  refine qx_getR X qcls11 g1 4 (by decide) rfl wf_X_41 d_X_themselves_13 ?_
  refine qx_aload_n (x := x0) X d_X_themselves_16 rfl 1 rfl ?_
  refine qx_getR X qcls11 g1 3 (by decide) rfl wf_X_37 d_X_themselves_17 ?_
  obtain ⟨g4, hw⟩ := hw
  refine qx_callVV (st := []) (As := [qr b (qR h x0 3)]) X (t_State_become (adK := adK) (adV := adV) l D cy b N (qR h x0 4) (qR h x0 3) h _ hw) qm_State_become wm_X_227 wi_State_become wl_State_become qcls6 g4 rfl rfl rfl ⟨Nat.le_of_ble_eq_true rfl, Nat.le_of_ble_eq_true rfl⟩ ⟨Nat.le_refl 0, Nat.le_refl 0⟩ (Nat.le_of_ble_eq_true rfl) rfl d_X_themselves_20 (fun h5 hw => ?_)
  refine qx_iconst (v := (0 : Int32)) X d_X_themselves_23 (by decide) ?_
  refine qx_istore_n (L' := [(2, .inl (0 : Int32)), (1, .inl y3), (0, .inr (.inr (.inl x0)))]) X d_X_themselves_24 rfl (by decide) rfl ?_
  refine qx_sub [2, 1, 0] rfl ?_
  exact t_X_themselves_25 X N N x0 y3 (0 : Int32) h5 Q  hw 
set_option maxRecDepth 4000 in
theorem t_X_crossed_8 (X : qX p s m args meth c D cy b adK adV prog_1_method_23_code "CoatHangers" 6 (some .int) "crossed") (N k : Nat) (x0 : Nat) (x1 : Int32) (x2 : Int32) (x3 : Int32) (x4 : Int32) (h : qH) (Q : Int32 → qH → Prop)  (hw : w_X_crossed_8 N k x0 x1 x2 x3 x4 h Q ) : qW p l e (qrm 0 0 0 0) s m args below meth c D cy b 6 0 0 (MQ below (qQc D cy b qrI Q) args s 0 0 (qA b)) 8 [(0, .inr (.inr (.inl x0))), (1, .inl x1), (2, .inl x2), (3, .inl x3), (4, .inl x4)] [] h := by
  induction k generalizing x0 x1 x2 x3 x4 h with
  | zero => exact hw.elim
  | succ k ih =>
    refine qx_iload (x := x4) X d_X_crossed_8 4 rfl ?_
    refine qx_aload_n (x := x0) X d_X_crossed_10 rfl 0 rfl ?_
    obtain ⟨g1, hw⟩ := hw
    refine qx_getR X qcls11 g1 1 (by decide) rfl wf_X_19 d_X_crossed_11 ?_
    obtain ⟨g2, hw⟩ := hw
    refine qx_getI X qcls8 g2 3 (by decide) rfl wf_X_218 d_X_crossed_14 ?_
    refine qx_icmp_ge X 82 d_X_crossed_17 (by decide) (fun q3 => ?_) (fun q3 => ?_)
    · have hw := hw.1 q3
      refine qx_iload_n (x := x1) X d_X_crossed_82 rfl 1 rfl ?_
      by_cases q4 : x1 = (0 : Int32)
      · have hw := hw.1 q4
        refine qx_lookup (off := (25)) X 108 d_X_crossed_83 rfl (by rw [q4]; rfl) (by decide) ?_
        refine qx_iload_n (x := x2) X d_X_crossed_108 rfl 2 rfl ?_
        exact qx_iret X hw (Nat.le_refl 0) (Nat.le_refl 0) rfl d_X_crossed_109
      · have hw := hw.2 q4
        by_cases q5 : x1 = (1 : Int32)
        · have hw := hw.1 q5
          refine qx_lookup (off := (27)) X 110 d_X_crossed_83 rfl (by rw [q5]; rfl) (by decide) ?_
          refine qx_iload_n (x := x3) X d_X_crossed_110 rfl 3 rfl ?_
          exact qx_iret X hw (Nat.le_refl 0) (Nat.le_refl 0) rfl d_X_crossed_111
        · have hw := hw.2 q5
          have nq4 : x1.toInt ≠ 0 := fun z => q4 (Int32.toInt_inj.mp z)
          have nq5 : x1.toInt ≠ 1 := fun z => q5 (Int32.toInt_inj.mp z)
          refine qx_lookup X 112 d_X_crossed_83 rfl (qlk_2 nq4 nq5) (by decide) ?_
          refine qx_iconst (v := (-1 : Int32)) X d_X_crossed_112 (by decide) ?_
          exact qx_iret X hw (Nat.le_refl 0) (Nat.le_refl 0) rfl d_X_crossed_113
    · have hw := hw.2 q3
      refine qx_aload_n (x := x0) X d_X_crossed_20 rfl 0 rfl ?_
      refine qx_getR X qcls11 g1 3 (by decide) rfl wf_X_37 d_X_crossed_21 ?_
      obtain ⟨g6, hw⟩ := hw
      refine qx_getR X qcls6 g6 4 (by decide) rfl wf_X_151 d_X_crossed_24 ?_
      refine qx_iload (x := x4) X d_X_crossed_27 4 rfl ?_
      obtain ⟨g7, hw⟩ := hw
      refine qx_ild X g7 d_X_crossed_29 ?_
      refine qx_topi (fun y8 ey8 => ?_)
      have hw := hw y8 ey8
      refine qx_istore (L' := [(5, .inl y8), (0, .inr (.inr (.inl x0))), (1, .inl x1), (2, .inl x2), (3, .inl x3), (4, .inl x4)]) X d_X_crossed_30 (by decide) rfl ?_
      refine qx_iload (x := x4) X d_X_crossed_32 5 rfl ?_
      refine qx_iload (x := y8) X d_X_crossed_34 0 rfl ?_
      refine qx_icmp_ge X 76 d_X_crossed_36 (by decide) (fun q9 => ?_) (fun q9 => ?_)
      · have hw := hw.1 q9
        refine qx_iinc (v := (x4 + (1 : Int32))) (L' := [(4, .inl (x4 + (1 : Int32))), (5, .inl y8), (0, .inr (.inr (.inl x0))), (1, .inl x1), (2, .inl x2), (3, .inl x3)]) X d_X_crossed_76 5 rfl rfl (by decide) rfl ?_
        refine qx_goto X 8 d_X_crossed_79 (by decide) ?_
        refine qx_sub [2, 3, 4, 5, 0] rfl ?_
        exact ih x0 x1 x2 x3 (x4 + (1 : Int32)) h hw
      · have hw := hw.2 q9
        refine qx_aload_n (x := x0) X d_X_crossed_39 rfl 1 rfl ?_
        refine qx_getR X qcls11 g1 3 (by decide) rfl wf_X_37 d_X_crossed_40 ?_
        refine qx_getR X qcls6 g6 4 (by decide) rfl wf_X_151 d_X_crossed_43 ?_
        refine qx_iload (x := y8) X d_X_crossed_46 0 rfl ?_
        obtain ⟨g10, hw⟩ := hw
        refine qx_ild X g10 d_X_crossed_48 ?_
        refine qx_iload (x := x4) X d_X_crossed_49 5 rfl ?_
        refine qx_icmp_ne X 76 d_X_crossed_51 (by decide) (fun q11 => ?_) (fun q11 => ?_)
        · have hw := hw.1 q11
          refine qx_iinc (v := (x4 + (1 : Int32))) (L' := [(4, .inl (x4 + (1 : Int32))), (5, .inl y8), (0, .inr (.inr (.inl x0))), (1, .inl x1), (2, .inl x2), (3, .inl x3)]) X d_X_crossed_76 5 rfl rfl (by decide) rfl ?_
          refine qx_goto X 8 d_X_crossed_79 (by decide) ?_
          refine qx_sub [2, 3, 4, 5, 0] rfl ?_
          exact ih x0 x1 x2 x3 (x4 + (1 : Int32)) h hw
        · have hw := hw.2 q11
          refine qx_iinc (v := (x2 + (1 : Int32))) (L' := [(2, .inl (x2 + (1 : Int32))), (5, .inl y8), (0, .inr (.inr (.inl x0))), (1, .inl x1), (3, .inl x3), (4, .inl x4)]) X d_X_crossed_54 3 rfl rfl (by decide) rfl ?_
          refine qx_iload_n (x := x3) X d_X_crossed_57 rfl 4 rfl ?_
          refine qx_bipush (v := (-2 : Int32)) X d_X_crossed_58 (by decide) ?_
          refine qx_icmp_ne X 74 d_X_crossed_60 (by decide) (fun q12 => ?_) (fun q12 => ?_)
          · have hw := hw.1 q12
            refine qx_iload_n (x := x3) X d_X_crossed_74 rfl 4 rfl ?_
            refine qx_istore_n (L' := [(3, .inl x3), (2, .inl (x2 + (1 : Int32))), (5, .inl y8), (0, .inr (.inr (.inl x0))), (1, .inl x1), (4, .inl x4)]) X d_X_crossed_75 rfl (by decide) rfl ?_
            refine qx_iinc (v := (x4 + (1 : Int32))) (L' := [(4, .inl (x4 + (1 : Int32))), (3, .inl x3), (2, .inl (x2 + (1 : Int32))), (5, .inl y8), (0, .inr (.inr (.inl x0))), (1, .inl x1)]) X d_X_crossed_76 5 rfl rfl (by decide) rfl ?_
            refine qx_goto X 8 d_X_crossed_79 (by decide) ?_
            refine qx_sub [4, 5, 2, 1, 0] rfl ?_
            exact ih x0 x1 (x2 + (1 : Int32)) x3 (x4 + (1 : Int32)) h hw
          · have hw := hw.2 q12
            refine qx_bipush (v := (10 : Int32)) X d_X_crossed_63 (by decide) ?_
            refine qx_iload (x := x4) X d_X_crossed_65 5 rfl ?_
            refine qx_imul X d_X_crossed_67 ?_
            refine qx_iload (x := y8) X d_X_crossed_68 1 rfl ?_
            refine qx_iadd X d_X_crossed_70 ?_
            refine qx_goto X 75 d_X_crossed_71 (by decide) ?_
            refine qx_topi (fun y13 ey13 => ?_)
            have hw := hw y13 ey13
            refine qx_istore_n (L' := [(3, .inl y13), (2, .inl (x2 + (1 : Int32))), (5, .inl y8), (0, .inr (.inr (.inl x0))), (1, .inl x1), (4, .inl x4)]) X d_X_crossed_75 rfl (by decide) rfl ?_
            refine qx_iinc (v := (x4 + (1 : Int32))) (L' := [(4, .inl (x4 + (1 : Int32))), (3, .inl y13), (2, .inl (x2 + (1 : Int32))), (5, .inl y8), (0, .inr (.inr (.inl x0))), (1, .inl x1)]) X d_X_crossed_76 5 rfl rfl (by decide) rfl ?_
            refine qx_goto X 8 d_X_crossed_79 (by decide) ?_
            refine qx_sub [4, 5, 2, 1, 0] rfl ?_
            exact ih x0 x1 (x2 + (1 : Int32)) y13 (x4 + (1 : Int32)) h hw
set_option maxRecDepth 4000 in
theorem t_X_crossed {adK adV : Nat → Nat} (l : Launch) (D : va_G) (cy : Nat → ClassId) (b : Nat) (N : Nat) (x0 : Nat) (x1 : Int32) (h : qH) (Q : Int32 → qH → Prop) (hw : w_X_crossed N x0 x1 h Q) : Met l y_X_crossed (Cond.code y_X_crossed prog_1_method_23_code 6 (some .int) :: qT) (qrm 0 0 0 0) (qPc D cy b adK adV h [qr b x0, .int x1]) (qQc D cy b qrI Q) 0 0 (qA b) := by
  refine qmet (L0 := [(0, .inr (.inr (.inl x0))), (1, .inl x1)]) qm_X_crossed (plainFor_of_name (by decide)) [.inr (.inr (.inl x0)), .inl x1] rfl (Nat.le_of_ble_eq_true rfl) rfl (fun p e s m args below meth c X => ?_)
  unfold w_X_crossed at hw
  refine qx_iconst (v := (0 : Int32)) X d_X_crossed_0 (by decide) ?_
  refine qx_istore_n (L' := [(2, .inl (0 : Int32)), (0, .inr (.inr (.inl x0))), (1, .inl x1)]) X d_X_crossed_1 rfl (by decide) rfl ?_
  refine qx_bipush (v := (-2 : Int32)) X d_X_crossed_2 (by decide) ?_
  refine qx_istore_n (L' := [(3, .inl (-2 : Int32)), (2, .inl (0 : Int32)), (0, .inr (.inr (.inl x0))), (1, .inl x1)]) X d_X_crossed_4 rfl (by decide) rfl ?_
  refine qx_iconst (v := (0 : Int32)) X d_X_crossed_5 (by decide) ?_
  refine qx_istore (L' := [(4, .inl (0 : Int32)), (3, .inl (-2 : Int32)), (2, .inl (0 : Int32)), (0, .inr (.inr (.inl x0))), (1, .inl x1)]) X d_X_crossed_6 (by decide) rfl ?_
  refine qx_sub [3, 4, 2, 1, 0] rfl ?_
  exact t_X_crossed_8 X N N x0 x1 (0 : Int32) (-2 : Int32) (0 : Int32) h Q  hw 
set_option maxRecDepth 4000 in
theorem t_X_isZeroOrOne {adK adV : Nat → Nat} (l : Launch) (D : va_G) (cy : Nat → ClassId) (b : Nat) (N : Nat) (x0 : Int32) (h : qH) (Q : Int32 → qH → Prop) (hw : w_X_isZeroOrOne N x0 h Q) : Met l y_X_isZeroOrOne (Cond.code y_X_isZeroOrOne prog_1_method_50_code 1 (some .boolean) :: qT) (qrm 0 0 0 0) (qPc D cy b adK adV h [.int x0]) (qQc D cy b qrI Q) 0 0 (qA b) := by
  refine qmet (L0 := [(0, .inl x0)]) qm_X_isZeroOrOne (plainFor_of_name (by decide)) [.inl x0] rfl (Nat.le_of_ble_eq_true rfl) rfl (fun p e s m args below meth c X => ?_)
  unfold w_X_isZeroOrOne at hw
  refine qx_iload_n (x := x0) X d_X_isZeroOrOne_0 rfl 0 rfl ?_
  refine qx_if_eq X 9 d_X_isZeroOrOne_1 (by decide) (fun q1 => ?_) (fun q1 => ?_)
  · have hw := hw.1 q1
    refine qx_iconst (v := (1 : Int32)) X d_X_isZeroOrOne_9 (by decide) ?_
    refine qx_goto X 14 d_X_isZeroOrOne_10 (by decide) ?_
    exact qx_zret X hw (Nat.le_refl 0) (Nat.le_refl 0) rfl d_X_isZeroOrOne_14
  · have hw := hw.2 q1
    refine qx_iload_n (x := x0) X d_X_isZeroOrOne_4 rfl 0 rfl ?_
    refine qx_iconst (v := (1 : Int32)) X d_X_isZeroOrOne_5 (by decide) ?_
    refine qx_icmp_ne X 13 d_X_isZeroOrOne_6 (by decide) (fun q2 => ?_) (fun q2 => ?_)
    · have hw := hw.1 q2
      refine qx_iconst (v := (0 : Int32)) X d_X_isZeroOrOne_13 (by decide) ?_
      exact qx_zret X hw (Nat.le_refl 0) (Nat.le_refl 0) rfl d_X_isZeroOrOne_14
    · have hw := hw.2 q2
      refine qx_iconst (v := (1 : Int32)) X d_X_isZeroOrOne_9 (by decide) ?_
      refine qx_goto X 14 d_X_isZeroOrOne_10 (by decide) ?_
      exact qx_zret X hw (Nat.le_refl 0) (Nat.le_refl 0) rfl d_X_isZeroOrOne_14
set_option maxRecDepth 4000 in
theorem t_X_fit_27 (X : qX p s m args meth c D cy b adK adV prog_1_method_24_code "CoatHangers" 7 (some .int) "fit") (N k : Nat) (x0 : Nat) (x1 : Int32) (x2 : Int32) (x3 : Int32) (x4 : Int32) (x5 : Int32) (h : qH) (Q : Int32 → qH → Prop)  (hw : w_X_fit_27 N k x0 x1 x2 x3 x4 x5 h Q ) : qW p l e (qrm 4 0 0 92) s m args below meth c D cy b 7 0 0 (MQ below (qQc D cy b qrI Q) args s 0 0 (qA b)) 27 [(0, .inr (.inr (.inl x0))), (1, .inl x1), (2, .inl x2), (3, .inl x3), (4, .inl x4), (5, .inl x5)] [] h := by
  induction k generalizing x0 x1 x2 x3 x4 x5 h with
  | zero => exact hw.elim
  | succ k ih =>
    refine qx_iload (x := x5) X d_X_fit_27 5 rfl ?_
    refine qx_aload_n (x := x0) X d_X_fit_29 rfl 0 rfl ?_
    obtain ⟨g1, hw⟩ := hw
    refine qx_getR X qcls11 g1 1 (by decide) rfl wf_X_19 d_X_fit_30 ?_
    obtain ⟨g2, hw⟩ := hw
    refine qx_getI X qcls8 g2 0 (by decide) rfl wf_X_238 d_X_fit_33 ?_
    refine qx_icmp_ge X 81 d_X_fit_36 (by decide) (fun q3 => ?_) (fun q3 => ?_)
    · have hw := hw.1 q3
      refine qx_iload_n (x := x2) X d_X_fit_81 rfl 2 rfl ?_
      refine qx_if_ne X 89 d_X_fit_82 (by decide) (fun q4 => ?_) (fun q4 => ?_)
      · have hw := hw.1 q4
        refine qx_iload (x := x4) X d_X_fit_89 4 rfl ?_
        exact qx_iret X hw (Nat.le_refl 0) (Nat.le_refl 0) rfl d_X_fit_91
      · have hw := hw.2 q4
        refine qx_iload_n (x := x3) X d_X_fit_85 rfl 3 rfl ?_
        refine qx_goto X 91 d_X_fit_86 (by decide) ?_
        exact qx_iret X hw (Nat.le_refl 0) (Nat.le_refl 0) rfl d_X_fit_91
    · have hw := hw.2 q3
      refine qx_aload_n (x := x0) X d_X_fit_39 rfl 0 rfl ?_
      refine qx_getR X qcls11 g1 5 (by decide) rfl wf_X_47 d_X_fit_40 ?_
      refine qx_aload_n (x := x0) X d_X_fit_43 rfl 0 rfl ?_
      refine qx_getR X qcls11 g1 3 (by decide) rfl wf_X_37 d_X_fit_44 ?_
      refine qx_iload_n (x := x1) X d_X_fit_47 rfl 1 rfl ?_
      refine qx_iload (x := x5) X d_X_fit_48 5 rfl ?_
      obtain ⟨g5, hw⟩ := hw
      refine qx_callVI (st := []) (As := [qr b (qR h x0 3), .int x1, .int x5]) X (t_Reck_costAlone (adK := adK) (adV := adV) l D cy b N (qR h x0 5) (qR h x0 3) x1 x5 h _ hw) qm_Reck_costAlone wm_X_241 wi_Reck_costAlone wl_Reck_costAlone qcls5 g5 rfl rfl rfl ⟨Nat.le_of_ble_eq_true rfl, Nat.le_of_ble_eq_true rfl⟩ ⟨Nat.le_refl 0, Nat.le_refl 0⟩ (Nat.le_of_ble_eq_true rfl) rfl d_X_fit_50 (fun r6 h7 hw => ?_)
      refine qx_istore (L' := [(6, .inl r6), (0, .inr (.inr (.inl x0))), (1, .inl x1), (2, .inl x2), (3, .inl x3), (4, .inl x4), (5, .inl x5)]) X d_X_fit_53 (by decide) rfl ?_
      refine qx_iload_n (x := x3) X d_X_fit_55 rfl 4 rfl ?_
      refine qx_bipush (v := (-2 : Int32)) X d_X_fit_56 (by decide) ?_
      refine qx_icmp_eq X 68 d_X_fit_58 (by decide) (fun q8 => ?_) (fun q8 => ?_)
      · have hw := hw.1 q8
        refine qx_iload (x := x5) X d_X_fit_68 6 rfl ?_
        refine qx_istore_n (L' := [(3, .inl x5), (6, .inl r6), (0, .inr (.inr (.inl x0))), (1, .inl x1), (2, .inl x2), (4, .inl x4), (5, .inl x5)]) X d_X_fit_70 rfl (by decide) rfl ?_
        refine qx_iload (x := r6) X d_X_fit_71 1 rfl ?_
        refine qx_istore (L' := [(4, .inl r6), (3, .inl x5), (6, .inl r6), (0, .inr (.inr (.inl x0))), (1, .inl x1), (2, .inl x2), (5, .inl x5)]) X d_X_fit_73 (by decide) rfl ?_
        refine qx_iinc (v := (x5 + (1 : Int32))) (L' := [(5, .inl (x5 + (1 : Int32))), (4, .inl r6), (3, .inl x5), (6, .inl r6), (0, .inr (.inr (.inl x0))), (1, .inl x1), (2, .inl x2)]) X d_X_fit_75 6 rfl rfl (by decide) rfl ?_
        refine qx_goto X 27 d_X_fit_78 (by decide) ?_
        refine qx_sub [4, 5, 6, 2, 1, 0] rfl ?_
        exact ih x0 x1 x2 x5 r6 (x5 + (1 : Int32)) h7 hw
      · have hw := hw.2 q8
        refine qx_iload (x := r6) X d_X_fit_61 0 rfl ?_
        refine qx_iload (x := x4) X d_X_fit_63 5 rfl ?_
        refine qx_icmp_ge X 75 d_X_fit_65 (by decide) (fun q9 => ?_) (fun q9 => ?_)
        · have hw := hw.1 q9
          refine qx_iinc (v := (x5 + (1 : Int32))) (L' := [(5, .inl (x5 + (1 : Int32))), (6, .inl r6), (0, .inr (.inr (.inl x0))), (1, .inl x1), (2, .inl x2), (3, .inl x3), (4, .inl x4)]) X d_X_fit_75 6 rfl rfl (by decide) rfl ?_
          refine qx_goto X 27 d_X_fit_78 (by decide) ?_
          refine qx_sub [2, 3, 4, 5, 6, 0] rfl ?_
          exact ih x0 x1 x2 x3 x4 (x5 + (1 : Int32)) h7 hw
        · have hw := hw.2 q9
          refine qx_iload (x := x5) X d_X_fit_68 6 rfl ?_
          refine qx_istore_n (L' := [(3, .inl x5), (6, .inl r6), (0, .inr (.inr (.inl x0))), (1, .inl x1), (2, .inl x2), (4, .inl x4), (5, .inl x5)]) X d_X_fit_70 rfl (by decide) rfl ?_
          refine qx_iload (x := r6) X d_X_fit_71 1 rfl ?_
          refine qx_istore (L' := [(4, .inl r6), (3, .inl x5), (6, .inl r6), (0, .inr (.inr (.inl x0))), (1, .inl x1), (2, .inl x2), (5, .inl x5)]) X d_X_fit_73 (by decide) rfl ?_
          refine qx_iinc (v := (x5 + (1 : Int32))) (L' := [(5, .inl (x5 + (1 : Int32))), (4, .inl r6), (3, .inl x5), (6, .inl r6), (0, .inr (.inr (.inl x0))), (1, .inl x1), (2, .inl x2)]) X d_X_fit_75 6 rfl rfl (by decide) rfl ?_
          refine qx_goto X 27 d_X_fit_78 (by decide) ?_
          refine qx_sub [4, 5, 6, 2, 1, 0] rfl ?_
          exact ih x0 x1 x2 x5 r6 (x5 + (1 : Int32)) h7 hw
set_option maxRecDepth 4000 in
theorem t_X_fit {adK adV : Nat → Nat} (l : Launch) (D : va_G) (cy : Nat → ClassId) (b : Nat) (N : Nat) (x0 : Nat) (x1 : Int32) (x2 : Int32) (h : qH) (Q : Int32 → qH → Prop) (hw : w_X_fit N x0 x1 x2 h Q) : Met l y_X_fit (Cond.code y_X_fit prog_1_method_24_code 7 (some .int) :: qT) (qrm 4 0 0 92) (qPc D cy b adK adV h [qr b x0, .int x1, .int x2]) (qQc D cy b qrI Q) 0 0 (qA b) := by
  refine qmet (L0 := [(0, .inr (.inr (.inl x0))), (1, .inl x1), (2, .inl x2)]) qm_X_fit (plainFor_of_name (by decide)) [.inr (.inr (.inl x0)), .inl x1, .inl x2] rfl (Nat.le_of_ble_eq_true rfl) rfl (fun p e s m args below meth c X => ?_)
  unfold w_X_fit at hw
  refine qx_aload_n (x := x0) X d_X_fit_0 rfl 0 rfl ?_
  refine qx_iload_n (x := x1) X d_X_fit_1 rfl 1 rfl ?_
  obtain ⟨g1, hw⟩ := hw
  refine qx_callVI (st := []) (As := [.int x1]) X (t_X_isPerson (adK := adK) (adV := adV) l D cy b N x0 x1 h _ hw) qm_X_isPerson wm_X_139 wi_X_isPerson wl_X_isPerson qcls11 g1 rfl rfl rfl ⟨Nat.le_of_ble_eq_true rfl, Nat.le_of_ble_eq_true rfl⟩ ⟨Nat.le_refl 0, Nat.le_refl 0⟩ (Nat.le_of_ble_eq_true rfl) rfl d_X_fit_2 (fun r2 h3 hw => ?_)
  refine qx_if_eq X 15 d_X_fit_5 (by decide) (fun q4 => ?_) (fun q4 => ?_)
  · have hw := hw.1 q4
    refine qx_iconst (v := (-1 : Int32)) X d_X_fit_15 (by decide) ?_
    exact qx_iret X hw (Nat.le_refl 0) (Nat.le_refl 0) rfl d_X_fit_16
  · have hw := hw.2 q4
    refine qx_iload_n (x := x2) X d_X_fit_8 rfl 2 rfl ?_
    refine qx_callSI (st := []) (As := [.int x2]) X (t_X_isZeroOrOne (adK := adK) (adV := adV) l D cy b N x2 h3 _ hw) qm_X_isZeroOrOne wm_X_235 wi_X_isZeroOrOne rfl rfl rfl ⟨Nat.le_of_ble_eq_true rfl, Nat.le_of_ble_eq_true rfl⟩ ⟨Nat.le_refl 0, Nat.le_refl 0⟩ (Nat.le_of_ble_eq_true rfl) rfl d_X_fit_9 (fun r5 h6 hw => ?_)
    refine qx_if_ne X 17 d_X_fit_12 (by decide) (fun q7 => ?_) (fun q7 => ?_)
    · have hw := hw.1 q7
      refine qx_bipush (v := (-2 : Int32)) X d_X_fit_17 (by decide) ?_
      refine qx_istore_n (L' := [(3, .inl (-2 : Int32)), (0, .inr (.inr (.inl x0))), (1, .inl x1), (2, .inl x2)]) X d_X_fit_19 rfl (by decide) rfl ?_
      refine qx_bipush (v := (-2 : Int32)) X d_X_fit_20 (by decide) ?_
      refine qx_istore (L' := [(4, .inl (-2 : Int32)), (3, .inl (-2 : Int32)), (0, .inr (.inr (.inl x0))), (1, .inl x1), (2, .inl x2)]) X d_X_fit_22 (by decide) rfl ?_
      refine qx_iconst (v := (0 : Int32)) X d_X_fit_24 (by decide) ?_
      refine qx_istore (L' := [(5, .inl (0 : Int32)), (4, .inl (-2 : Int32)), (3, .inl (-2 : Int32)), (0, .inr (.inr (.inl x0))), (1, .inl x1), (2, .inl x2)]) X d_X_fit_25 (by decide) rfl ?_
      refine qx_sub [3, 4, 5, 2, 1, 0] rfl ?_
      exact t_X_fit_27 X N N x0 x1 x2 (-2 : Int32) (-2 : Int32) (0 : Int32) h6 Q  hw 
    · have hw := hw.2 q7
      refine qx_iconst (v := (-1 : Int32)) X d_X_fit_15 (by decide) ?_
      exact qx_iret X hw (Nat.le_refl 0) (Nat.le_refl 0) rfl d_X_fit_16
set_option maxRecDepth 4000 in
theorem t_X_missed_28 (X : qX p s m args meth c D cy b adK adV prog_1_method_25_code "CoatHangers" 6 (some .int) "missed") (N k : Nat) (x0 : Nat) (x1 : Int32) (x2 : Int32) (x3 : Int32) (x4 : Int32) (h : qH) (Q : Int32 → qH → Prop) (K76 : Nat → Int32 → Int32 → Int32 → qH → Prop) (hw : w_X_missed_28 N k x0 x1 x2 x3 x4 h Q K76) (hK76 : ∀ (x0 : Nat) (x1 : Int32) (x2 : Int32) (x3 : Int32) (h : qH), K76 x0 x1 x2 x3 h → qW p l e (qrm 5 0 0 115) s m args below meth c D cy b 6 0 0 (MQ below (qQc D cy b qrI Q) args s 0 0 (qA b)) 76 [(0, .inr (.inr (.inl x0))), (1, .inl x1), (2, .inl x2), (3, .inl x3)] [] h) : qW p l e (qrm 5 0 0 115) s m args below meth c D cy b 6 0 0 (MQ below (qQc D cy b qrI Q) args s 0 0 (qA b)) 28 [(0, .inr (.inr (.inl x0))), (1, .inl x1), (2, .inl x2), (3, .inl x3), (4, .inl x4)] [] h := by
  induction k generalizing x0 x1 x2 x3 x4 h with
  | zero => exact hw.elim
  | succ k ih =>
    refine qx_iload (x := x4) X d_X_missed_28 4 rfl ?_
    refine qx_aload_n (x := x0) X d_X_missed_30 rfl 0 rfl ?_
    obtain ⟨g1, hw⟩ := hw
    refine qx_getR X qcls11 g1 1 (by decide) rfl wf_X_19 d_X_missed_31 ?_
    obtain ⟨g2, hw⟩ := hw
    refine qx_getI X qcls8 g2 0 (by decide) rfl wf_X_238 d_X_missed_34 ?_
    refine qx_icmp_ge X 76 d_X_missed_37 (by decide) (fun q3 => ?_) (fun q3 => ?_)
    · have hw := hw.1 q3
      refine qx_sub [0, 1, 2, 3] rfl ?_
      exact hK76 x0 x1 x2 x3 h hw
    · have hw := hw.2 q3
      refine qx_aload_n (x := x0) X d_X_missed_40 rfl 0 rfl ?_
      refine qx_getR X qcls11 g1 7 (by decide) rfl wf_X_63 d_X_missed_41 ?_
      refine qx_iconst (v := (0 : Int32)) X d_X_missed_44 (by decide) ?_
      refine qx_iload (x := x4) X d_X_missed_45 4 rfl ?_
      obtain ⟨g4, hw⟩ := hw
      refine qx_callVI (st := []) (As := [.int (0 : Int32), .int x4]) X (t_Plan_findBest (adK := adK) (adV := adV) l D cy b N (qR h x0 7) (0 : Int32) x4 h _ hw) qm_Plan_findBest wm_X_204 wi_Plan_findBest wl_Plan_findBest qcls3 g4 rfl rfl rfl ⟨Nat.le_of_ble_eq_true rfl, Nat.le_of_ble_eq_true rfl⟩ ⟨Nat.le_refl 0, Nat.le_refl 0⟩ (Nat.le_of_ble_eq_true rfl) rfl d_X_missed_47 (fun r5 h6 hw => ?_)
      refine qx_istore (L' := [(5, .inl r5), (0, .inr (.inr (.inl x0))), (1, .inl x1), (2, .inl x2), (3, .inl x3), (4, .inl x4)]) X d_X_missed_50 (by decide) rfl ?_
      refine qx_iload_n (x := x2) X d_X_missed_52 rfl 3 rfl ?_
      refine qx_bipush (v := (-2 : Int32)) X d_X_missed_53 (by decide) ?_
      refine qx_icmp_eq X 64 d_X_missed_55 (by decide) (fun q7 => ?_) (fun q7 => ?_)
      · have hw := hw.1 q7
        refine qx_iload (x := x4) X d_X_missed_64 5 rfl ?_
        refine qx_istore_n (L' := [(2, .inl x4), (5, .inl r5), (0, .inr (.inr (.inl x0))), (1, .inl x1), (3, .inl x3), (4, .inl x4)]) X d_X_missed_66 rfl (by decide) rfl ?_
        refine qx_iload (x := r5) X d_X_missed_67 1 rfl ?_
        refine qx_istore_n (L' := [(3, .inl r5), (2, .inl x4), (5, .inl r5), (0, .inr (.inr (.inl x0))), (1, .inl x1), (4, .inl x4)]) X d_X_missed_69 rfl (by decide) rfl ?_
        refine qx_iinc (v := (x4 + (1 : Int32))) (L' := [(4, .inl (x4 + (1 : Int32))), (3, .inl r5), (2, .inl x4), (5, .inl r5), (0, .inr (.inr (.inl x0))), (1, .inl x1)]) X d_X_missed_70 5 rfl rfl (by decide) rfl ?_
        refine qx_goto X 28 d_X_missed_73 (by decide) ?_
        refine qx_sub [4, 5, 2, 1, 0] rfl ?_
        exact ih x0 x1 x4 r5 (x4 + (1 : Int32)) h6 hw
      · have hw := hw.2 q7
        refine qx_iload (x := r5) X d_X_missed_58 0 rfl ?_
        refine qx_iload_n (x := x3) X d_X_missed_60 rfl 4 rfl ?_
        refine qx_icmp_le X 70 d_X_missed_61 (by decide) (fun q8 => ?_) (fun q8 => ?_)
        · have hw := hw.1 q8
          refine qx_iinc (v := (x4 + (1 : Int32))) (L' := [(4, .inl (x4 + (1 : Int32))), (5, .inl r5), (0, .inr (.inr (.inl x0))), (1, .inl x1), (2, .inl x2), (3, .inl x3)]) X d_X_missed_70 5 rfl rfl (by decide) rfl ?_
          refine qx_goto X 28 d_X_missed_73 (by decide) ?_
          refine qx_sub [2, 3, 4, 5, 0] rfl ?_
          exact ih x0 x1 x2 x3 (x4 + (1 : Int32)) h6 hw
        · have hw := hw.2 q8
          refine qx_iload (x := x4) X d_X_missed_64 5 rfl ?_
          refine qx_istore_n (L' := [(2, .inl x4), (5, .inl r5), (0, .inr (.inr (.inl x0))), (1, .inl x1), (3, .inl x3), (4, .inl x4)]) X d_X_missed_66 rfl (by decide) rfl ?_
          refine qx_iload (x := r5) X d_X_missed_67 1 rfl ?_
          refine qx_istore_n (L' := [(3, .inl r5), (2, .inl x4), (5, .inl r5), (0, .inr (.inr (.inl x0))), (1, .inl x1), (4, .inl x4)]) X d_X_missed_69 rfl (by decide) rfl ?_
          refine qx_iinc (v := (x4 + (1 : Int32))) (L' := [(4, .inl (x4 + (1 : Int32))), (3, .inl r5), (2, .inl x4), (5, .inl r5), (0, .inr (.inr (.inl x0))), (1, .inl x1)]) X d_X_missed_70 5 rfl rfl (by decide) rfl ?_
          refine qx_goto X 28 d_X_missed_73 (by decide) ?_
          refine qx_sub [4, 5, 2, 1, 0] rfl ?_
          exact ih x0 x1 x4 r5 (x4 + (1 : Int32)) h6 hw
set_option maxRecDepth 4000 in
theorem t_X_missed {adK adV : Nat → Nat} (l : Launch) (D : va_G) (cy : Nat → ClassId) (b : Nat) (N : Nat) (x0 : Nat) (x1 : Int32) (h : qH) (Q : Int32 → qH → Prop) (hw : w_X_missed N x0 x1 h Q) : Met l y_X_missed (Cond.code y_X_missed prog_1_method_25_code 6 (some .int) :: qT) (qrm 5 0 0 115) (qPc D cy b adK adV h [qr b x0, .int x1]) (qQc D cy b qrI Q) 0 0 (qA b) := by
  refine qmet (L0 := [(0, .inr (.inr (.inl x0))), (1, .inl x1)]) qm_X_missed (plainFor_of_name (by decide)) [.inr (.inr (.inl x0)), .inl x1] rfl (Nat.le_of_ble_eq_true rfl) rfl (fun p e s m args below meth c X => ?_)
  unfold w_X_missed at hw
  refine qx_iload_n (x := x1) X d_X_missed_0 rfl 1 rfl ?_
  refine qx_callSI (st := []) (As := [.int x1]) X (t_X_isZeroOrOne (adK := adK) (adV := adV) l D cy b N x1 h _ hw) qm_X_isZeroOrOne wm_X_235 wi_X_isZeroOrOne rfl rfl rfl ⟨Nat.le_of_ble_eq_true rfl, Nat.le_of_ble_eq_true rfl⟩ ⟨Nat.le_refl 0, Nat.le_refl 0⟩ (Nat.le_of_ble_eq_true rfl) rfl d_X_missed_1 (fun r1 h2 hw => ?_)
  refine qx_if_ne X 9 d_X_missed_4 (by decide) (fun q3 => ?_) (fun q3 => ?_)
  · have hw := hw.1 q3
    refine qx_aload_n (x := x0) X d_X_missed_9 rfl 0 rfl ?_
    obtain ⟨g4, hw⟩ := hw
    refine qx_getR X qcls11 g4 7 (by decide) rfl wf_X_63 d_X_missed_10 ?_
    refine qx_aload_n (x := x0) X d_X_missed_13 rfl 0 rfl ?_
    refine qx_getR X qcls11 g4 3 (by decide) rfl wf_X_37 d_X_missed_14 ?_
    obtain ⟨g5, hw⟩ := hw
    refine qx_callVV (st := []) (As := [qr b (qR h2 x0 3)]) X (t_Plan_lookAtCosts (adK := adK) (adV := adV) l D cy b N (qR h2 x0 7) (qR h2 x0 3) h2 _ hw) qm_Plan_lookAtCosts wm_X_201 wi_Plan_lookAtCosts wl_Plan_lookAtCosts qcls3 g5 rfl rfl rfl ⟨Nat.le_of_ble_eq_true rfl, Nat.le_of_ble_eq_true rfl⟩ ⟨Nat.le_refl 0, Nat.le_refl 0⟩ (Nat.le_of_ble_eq_true rfl) rfl d_X_missed_17 (fun h6 hw => ?_)
    refine qx_bipush (v := (-2 : Int32)) X d_X_missed_20 (by decide) ?_
    refine qx_istore_n (L' := [(2, .inl (-2 : Int32)), (0, .inr (.inr (.inl x0))), (1, .inl x1)]) X d_X_missed_22 rfl (by decide) rfl ?_
    refine qx_iconst (v := (0 : Int32)) X d_X_missed_23 (by decide) ?_
    refine qx_istore_n (L' := [(3, .inl (0 : Int32)), (2, .inl (-2 : Int32)), (0, .inr (.inr (.inl x0))), (1, .inl x1)]) X d_X_missed_24 rfl (by decide) rfl ?_
    refine qx_iconst (v := (0 : Int32)) X d_X_missed_25 (by decide) ?_
    refine qx_istore (L' := [(4, .inl (0 : Int32)), (3, .inl (0 : Int32)), (2, .inl (-2 : Int32)), (0, .inr (.inr (.inl x0))), (1, .inl x1)]) X d_X_missed_26 (by decide) rfl ?_
    refine qx_sub [3, 4, 2, 1, 0] rfl ?_
    refine t_X_missed_28 X N N x0 x1 (-2 : Int32) (0 : Int32) (0 : Int32) h6 Q _ hw (fun x7 x8 x9 x10 h11 hw => ?_)
    refine qx_iload_n (x := x8) X d_X_missed_76 rfl 1 rfl ?_
    refine qx_if_eq X 86 d_X_missed_77 (by decide) (fun q12 => ?_) (fun q12 => ?_)
    · have hw := hw.1 q12
      refine qx_iload_n (x := x9) X d_X_missed_86 rfl 2 rfl ?_
      refine qx_goto X 98 d_X_missed_87 (by decide) ?_
      exact qx_iret X hw (Nat.le_refl 0) (Nat.le_refl 0) rfl d_X_missed_98
    · have hw := hw.2 q12
      refine qx_iload_n (x := x9) X d_X_missed_80 rfl 2 rfl ?_
      refine qx_bipush (v := (-2 : Int32)) X d_X_missed_81 (by decide) ?_
      refine qx_icmp_ne X 90 d_X_missed_83 (by decide) (fun q13 => ?_) (fun q13 => ?_)
      · have hw := hw.1 q13
        refine qx_aload_n (x := x7) X d_X_missed_90 rfl 0 rfl ?_
        obtain ⟨g14, hw⟩ := hw
        refine qx_getR X qcls11 g14 7 (by decide) rfl wf_X_63 d_X_missed_91 ?_
        refine qx_iload_n (x := x10) X d_X_missed_94 rfl 3 rfl ?_
        obtain ⟨g15, hw⟩ := hw
        refine qx_callVI (st := []) (As := [.int x10]) X (t_Plan_costOf (adK := adK) (adV := adV) l D cy b N (qR h11 x7 7) x10 h11 _ hw) qm_Plan_costOf wm_X_208 wi_Plan_costOf wl_Plan_costOf qcls3 g15 rfl rfl rfl ⟨Nat.le_of_ble_eq_true rfl, Nat.le_of_ble_eq_true rfl⟩ ⟨Nat.le_refl 0, Nat.le_refl 0⟩ (Nat.le_of_ble_eq_true rfl) rfl d_X_missed_95 (fun r16 h17 hw => ?_)
        exact qx_iret X hw (Nat.le_refl 0) (Nat.le_refl 0) rfl d_X_missed_98
      · have hw := hw.2 q13
        refine qx_iload_n (x := x9) X d_X_missed_86 rfl 2 rfl ?_
        refine qx_goto X 98 d_X_missed_87 (by decide) ?_
        exact qx_iret X hw (Nat.le_refl 0) (Nat.le_refl 0) rfl d_X_missed_98
  · have hw := hw.2 q3
    refine qx_iconst (v := (-1 : Int32)) X d_X_missed_7 (by decide) ?_
    exact qx_iret X hw (Nat.le_refl 0) (Nat.le_refl 0) rfl d_X_missed_8
set_option maxRecDepth 4000 in
theorem t_X_crowded_7 (X : qX p s m args meth c D cy b adK adV prog_1_method_26_code "CoatHangers" 6 (some .int) "crowded") (N k : Nat) (x0 : Nat) (x1 : Int32) (x2 : Int32) (x3 : Int32) (x4 : Int32) (h : qH) (Q : Int32 → qH → Prop)  (hw : w_X_crowded_7 N k x0 x1 x2 x3 x4 h Q ) : qW p l e (qrm 2 0 0 45) s m args below meth c D cy b 6 0 0 (MQ below (qQc D cy b qrI Q) args s 0 0 (qA b)) 7 [(0, .inr (.inr (.inl x0))), (1, .inl x1), (2, .inl x2), (3, .inl x3), (4, .inl x4)] [] h := by
  induction k generalizing x0 x1 x2 x3 x4 h with
  | zero => exact hw.elim
  | succ k ih =>
    refine qx_iload (x := x4) X d_X_crowded_7 4 rfl ?_
    refine qx_iconst (v := (5 : Int32)) X d_X_crowded_9 (by decide) ?_
    refine qx_icmp_ge X 42 d_X_crowded_10 (by decide) (fun q1 => ?_) (fun q1 => ?_)
    · have hw := hw.1 q1
      refine qx_iload_n (x := x1) X d_X_crowded_42 rfl 1 rfl ?_
      by_cases q2 : x1 = (0 : Int32)
      · have hw := hw.1 q2
        refine qx_lookup (off := (25)) X 68 d_X_crowded_43 rfl (by rw [q2]; rfl) (by decide) ?_
        refine qx_iload_n (x := x2) X d_X_crowded_68 rfl 2 rfl ?_
        exact qx_iret X hw (Nat.le_refl 0) (Nat.le_refl 0) rfl d_X_crowded_69
      · have hw := hw.2 q2
        by_cases q3 : x1 = (1 : Int32)
        · have hw := hw.1 q3
          refine qx_lookup (off := (27)) X 70 d_X_crowded_43 rfl (by rw [q3]; rfl) (by decide) ?_
          refine qx_iload_n (x := x3) X d_X_crowded_70 rfl 3 rfl ?_
          exact qx_iret X hw (Nat.le_refl 0) (Nat.le_refl 0) rfl d_X_crowded_71
        · have hw := hw.2 q3
          have nq2 : x1.toInt ≠ 0 := fun z => q2 (Int32.toInt_inj.mp z)
          have nq3 : x1.toInt ≠ 1 := fun z => q3 (Int32.toInt_inj.mp z)
          refine qx_lookup X 72 d_X_crowded_43 rfl (qlk_2 nq2 nq3) (by decide) ?_
          refine qx_iconst (v := (-1 : Int32)) X d_X_crowded_72 (by decide) ?_
          exact qx_iret X hw (Nat.le_refl 0) (Nat.le_refl 0) rfl d_X_crowded_73
    · have hw := hw.2 q1
      refine qx_aload_n (x := x0) X d_X_crowded_13 rfl 0 rfl ?_
      obtain ⟨g4, hw⟩ := hw
      refine qx_getR X qcls11 g4 3 (by decide) rfl wf_X_37 d_X_crowded_14 ?_
      refine qx_iload (x := x4) X d_X_crowded_17 4 rfl ?_
      obtain ⟨g5, hw⟩ := hw
      refine qx_callVI (st := []) (As := [.int x4]) X (t_State_peopleOnNail (adK := adK) (adV := adV) l D cy b N (qR h x0 3) x4 h _ hw) qm_State_peopleOnNail wm_X_245 wi_State_peopleOnNail wl_State_peopleOnNail qcls6 g5 rfl rfl rfl ⟨Nat.le_of_ble_eq_true rfl, Nat.le_of_ble_eq_true rfl⟩ ⟨Nat.le_refl 0, Nat.le_refl 0⟩ (Nat.le_of_ble_eq_true rfl) rfl d_X_crowded_19 (fun r6 h7 hw => ?_)
      refine qx_istore (L' := [(5, .inl r6), (0, .inr (.inr (.inl x0))), (1, .inl x1), (2, .inl x2), (3, .inl x3), (4, .inl x4)]) X d_X_crowded_22 (by decide) rfl ?_
      refine qx_iload (x := r6) X d_X_crowded_24 0 rfl ?_
      refine qx_iload_n (x := x3) X d_X_crowded_26 rfl 4 rfl ?_
      refine qx_icmp_le X 36 d_X_crowded_27 (by decide) (fun q8 => ?_) (fun q8 => ?_)
      · have hw := hw.1 q8
        refine qx_iinc (v := (x4 + (1 : Int32))) (L' := [(4, .inl (x4 + (1 : Int32))), (5, .inl r6), (0, .inr (.inr (.inl x0))), (1, .inl x1), (2, .inl x2), (3, .inl x3)]) X d_X_crowded_36 5 rfl rfl (by decide) rfl ?_
        refine qx_goto X 7 d_X_crowded_39 (by decide) ?_
        refine qx_sub [2, 3, 4, 5, 0] rfl ?_
        exact ih x0 x1 x2 x3 (x4 + (1 : Int32)) h7 hw
      · have hw := hw.2 q8
        refine qx_iload (x := x4) X d_X_crowded_30 5 rfl ?_
        refine qx_istore_n (L' := [(2, .inl x4), (5, .inl r6), (0, .inr (.inr (.inl x0))), (1, .inl x1), (3, .inl x3), (4, .inl x4)]) X d_X_crowded_32 rfl (by decide) rfl ?_
        refine qx_iload (x := r6) X d_X_crowded_33 1 rfl ?_
        refine qx_istore_n (L' := [(3, .inl r6), (2, .inl x4), (5, .inl r6), (0, .inr (.inr (.inl x0))), (1, .inl x1), (4, .inl x4)]) X d_X_crowded_35 rfl (by decide) rfl ?_
        refine qx_iinc (v := (x4 + (1 : Int32))) (L' := [(4, .inl (x4 + (1 : Int32))), (3, .inl r6), (2, .inl x4), (5, .inl r6), (0, .inr (.inr (.inl x0))), (1, .inl x1)]) X d_X_crowded_36 5 rfl rfl (by decide) rfl ?_
        refine qx_goto X 7 d_X_crowded_39 (by decide) ?_
        refine qx_sub [4, 5, 2, 1, 0] rfl ?_
        exact ih x0 x1 x4 r6 (x4 + (1 : Int32)) h7 hw
set_option maxRecDepth 4000 in
theorem t_X_crowded {adK adV : Nat → Nat} (l : Launch) (D : va_G) (cy : Nat → ClassId) (b : Nat) (N : Nat) (x0 : Nat) (x1 : Int32) (h : qH) (Q : Int32 → qH → Prop) (hw : w_X_crowded N x0 x1 h Q) : Met l y_X_crowded (Cond.code y_X_crowded prog_1_method_26_code 6 (some .int) :: qT) (qrm 2 0 0 45) (qPc D cy b adK adV h [qr b x0, .int x1]) (qQc D cy b qrI Q) 0 0 (qA b) := by
  refine qmet (L0 := [(0, .inr (.inr (.inl x0))), (1, .inl x1)]) qm_X_crowded (plainFor_of_name (by decide)) [.inr (.inr (.inl x0)), .inl x1] rfl (Nat.le_of_ble_eq_true rfl) rfl (fun p e s m args below meth c X => ?_)
  unfold w_X_crowded at hw
  refine qx_iconst (v := (0 : Int32)) X d_X_crowded_0 (by decide) ?_
  refine qx_istore_n (L' := [(2, .inl (0 : Int32)), (0, .inr (.inr (.inl x0))), (1, .inl x1)]) X d_X_crowded_1 rfl (by decide) rfl ?_
  refine qx_iconst (v := (0 : Int32)) X d_X_crowded_2 (by decide) ?_
  refine qx_istore_n (L' := [(3, .inl (0 : Int32)), (2, .inl (0 : Int32)), (0, .inr (.inr (.inl x0))), (1, .inl x1)]) X d_X_crowded_3 rfl (by decide) rfl ?_
  refine qx_iconst (v := (0 : Int32)) X d_X_crowded_4 (by decide) ?_
  refine qx_istore (L' := [(4, .inl (0 : Int32)), (3, .inl (0 : Int32)), (2, .inl (0 : Int32)), (0, .inr (.inr (.inl x0))), (1, .inl x1)]) X d_X_crowded_5 (by decide) rfl ?_
  refine qx_sub [3, 4, 2, 1, 0] rfl ?_
  exact t_X_crowded_7 X N N x0 x1 (0 : Int32) (0 : Int32) (0 : Int32) h Q  hw 
set_option maxRecDepth 4000 in
theorem t_X_straight_7 (X : qX p s m args meth c D cy b adK adV prog_1_method_27_code "CoatHangers" 4 (some .int) "straight") (N k : Nat) (x0 : Nat) (x1 : Int32) (x2 : Int32) (x3 : Int32) (h : qH) (Q : Int32 → qH → Prop)  (hw : w_X_straight_7 N k x0 x1 x2 x3 h Q ) : qW p l e (qrm 1 0 0 21) s m args below meth c D cy b 4 0 0 (MQ below (qQc D cy b qrI Q) args s 0 0 (qA b)) 7 [(0, .inr (.inr (.inl x0))), (1, .inl x1), (2, .inl x2), (3, .inl x3)] [] h := by
  induction k generalizing x0 x1 x2 x3 h with
  | zero => exact hw.elim
  | succ k ih =>
    refine qx_iload_n (x := x3) X d_X_straight_7 rfl 3 rfl ?_
    refine qx_aload_n (x := x0) X d_X_straight_8 rfl 0 rfl ?_
    obtain ⟨g1, hw⟩ := hw
    refine qx_getR X qcls11 g1 1 (by decide) rfl wf_X_19 d_X_straight_9 ?_
    obtain ⟨g2, hw⟩ := hw
    refine qx_getI X qcls8 g2 3 (by decide) rfl wf_X_218 d_X_straight_12 ?_
    refine qx_icmp_ge X 66 d_X_straight_15 (by decide) (fun q3 => ?_) (fun q3 => ?_)
    · have hw := hw.1 q3
      refine qx_iload_n (x := x1) X d_X_straight_66 rfl 1 rfl ?_
      exact qx_iret X hw (Nat.le_refl 0) (Nat.le_refl 0) rfl d_X_straight_67
    · have hw := hw.2 q3
      refine qx_aload_n (x := x0) X d_X_straight_18 rfl 0 rfl ?_
      refine qx_getR X qcls11 g1 3 (by decide) rfl wf_X_37 d_X_straight_19 ?_
      refine qx_iload_n (x := x3) X d_X_straight_22 rfl 3 rfl ?_
      obtain ⟨g4, hw⟩ := hw
      refine qx_callVI (st := []) (As := [.int x3]) X (t_State_isHung (adK := adK) (adV := adV) l D cy b N (qR h x0 3) x3 h _ hw) qm_State_isHung wm_X_160 wi_State_isHung wl_State_isHung qcls6 g4 rfl rfl rfl ⟨Nat.le_of_ble_eq_true rfl, Nat.le_of_ble_eq_true rfl⟩ ⟨Nat.le_refl 0, Nat.le_refl 0⟩ (Nat.le_of_ble_eq_true rfl) rfl d_X_straight_23 (fun r5 h6 hw => ?_)
      refine qx_if_eq X 60 d_X_straight_26 (by decide) (fun q7 => ?_) (fun q7 => ?_)
      · have hw := hw.1 q7
        refine qx_iinc (v := (x3 + (1 : Int32))) (L' := [(3, .inl (x3 + (1 : Int32))), (0, .inr (.inr (.inl x0))), (1, .inl x1), (2, .inl x2)]) X d_X_straight_60 3 rfl rfl (by decide) rfl ?_
        refine qx_goto X 7 d_X_straight_63 (by decide) ?_
        refine qx_sub [1, 2, 3, 0] rfl ?_
        exact ih x0 x1 x2 (x3 + (1 : Int32)) h6 hw
      · have hw := hw.2 q7
        refine qx_iload_n (x := x1) X d_X_straight_29 rfl 1 rfl ?_
        refine qx_bipush (v := (-2 : Int32)) X d_X_straight_30 (by decide) ?_
        refine qx_icmp_eq X 48 d_X_straight_32 (by decide) (fun q8 => ?_) (fun q8 => ?_)
        · have hw := hw.1 q8
          refine qx_iload_n (x := x3) X d_X_straight_48 rfl 3 rfl ?_
          refine qx_istore_n (L' := [(1, .inl x3), (0, .inr (.inr (.inl x0))), (2, .inl x2), (3, .inl x3)]) X d_X_straight_49 rfl (by decide) rfl ?_
          refine qx_aload_n (x := x0) X d_X_straight_50 rfl 1 rfl ?_
          obtain ⟨g9, hw⟩ := hw
          refine qx_getR X qcls11 g9 3 (by decide) rfl wf_X_37 d_X_straight_51 ?_
          obtain ⟨g10, hw⟩ := hw
          refine qx_getR X qcls6 g10 5 (by decide) rfl wf_X_154 d_X_straight_54 ?_
          refine qx_iload_n (x := x3) X d_X_straight_57 rfl 3 rfl ?_
          obtain ⟨g11, hw⟩ := hw
          refine qx_ild X g11 d_X_straight_58 ?_
          refine qx_topi (fun y12 ey12 => ?_)
          have hw := hw y12 ey12
          refine qx_istore_n (L' := [(2, .inl y12), (1, .inl x3), (0, .inr (.inr (.inl x0))), (3, .inl x3)]) X d_X_straight_59 rfl (by decide) rfl ?_
          refine qx_iinc (v := (x3 + (1 : Int32))) (L' := [(3, .inl (x3 + (1 : Int32))), (2, .inl y12), (1, .inl x3), (0, .inr (.inr (.inl x0)))]) X d_X_straight_60 3 rfl rfl (by decide) rfl ?_
          refine qx_goto X 7 d_X_straight_63 (by decide) ?_
          refine qx_sub [3, 2, 1, 0] rfl ?_
          exact ih x0 x3 y12 (x3 + (1 : Int32)) h6 hw
        · have hw := hw.2 q8
          refine qx_aload_n (x := x0) X d_X_straight_35 rfl 0 rfl ?_
          obtain ⟨g13, hw⟩ := hw
          refine qx_getR X qcls11 g13 3 (by decide) rfl wf_X_37 d_X_straight_36 ?_
          obtain ⟨g14, hw⟩ := hw
          refine qx_getR X qcls6 g14 5 (by decide) rfl wf_X_154 d_X_straight_39 ?_
          refine qx_iload_n (x := x3) X d_X_straight_42 rfl 3 rfl ?_
          obtain ⟨g15, hw⟩ := hw
          refine qx_ild X g15 d_X_straight_43 ?_
          refine qx_iload_n (x := x2) X d_X_straight_44 rfl 2 rfl ?_
          refine qx_icmp_ge X 60 d_X_straight_45 (by decide) (fun q16 => ?_) (fun q16 => ?_)
          · have hw := hw.1 q16
            refine qx_iinc (v := (x3 + (1 : Int32))) (L' := [(3, .inl (x3 + (1 : Int32))), (0, .inr (.inr (.inl x0))), (1, .inl x1), (2, .inl x2)]) X d_X_straight_60 3 rfl rfl (by decide) rfl ?_
            refine qx_goto X 7 d_X_straight_63 (by decide) ?_
            refine qx_sub [1, 2, 3, 0] rfl ?_
            exact ih x0 x1 x2 (x3 + (1 : Int32)) h6 hw
          · have hw := hw.2 q16
            refine qx_iload_n (x := x3) X d_X_straight_48 rfl 3 rfl ?_
            refine qx_istore_n (L' := [(1, .inl x3), (0, .inr (.inr (.inl x0))), (2, .inl x2), (3, .inl x3)]) X d_X_straight_49 rfl (by decide) rfl ?_
            refine qx_aload_n (x := x0) X d_X_straight_50 rfl 1 rfl ?_
            refine qx_getR X qcls11 g13 3 (by decide) rfl wf_X_37 d_X_straight_51 ?_
            refine qx_getR X qcls6 g14 5 (by decide) rfl wf_X_154 d_X_straight_54 ?_
            refine qx_iload_n (x := x3) X d_X_straight_57 rfl 3 rfl ?_
            refine qx_ild X g15 d_X_straight_58 ?_
            refine qx_topi (fun y17 ey17 => ?_)
            have hw := hw y17 ey17
            refine qx_istore_n (L' := [(2, .inl y17), (1, .inl x3), (0, .inr (.inr (.inl x0))), (3, .inl x3)]) X d_X_straight_59 rfl (by decide) rfl ?_
            refine qx_iinc (v := (x3 + (1 : Int32))) (L' := [(3, .inl (x3 + (1 : Int32))), (2, .inl y17), (1, .inl x3), (0, .inr (.inr (.inl x0)))]) X d_X_straight_60 3 rfl rfl (by decide) rfl ?_
            refine qx_goto X 7 d_X_straight_63 (by decide) ?_
            refine qx_sub [3, 2, 1, 0] rfl ?_
            exact ih x0 x3 y17 (x3 + (1 : Int32)) h6 hw
set_option maxRecDepth 4000 in
theorem t_X_straight {adK adV : Nat → Nat} (l : Launch) (D : va_G) (cy : Nat → ClassId) (b : Nat) (N : Nat) (x0 : Nat) (h : qH) (Q : Int32 → qH → Prop) (hw : w_X_straight N x0 h Q) : Met l y_X_straight (Cond.code y_X_straight prog_1_method_27_code 4 (some .int) :: qT) (qrm 1 0 0 21) (qPc D cy b adK adV h [qr b x0]) (qQc D cy b qrI Q) 0 0 (qA b) := by
  refine qmet (L0 := [(0, .inr (.inr (.inl x0)))]) qm_X_straight (plainFor_of_name (by decide)) [.inr (.inr (.inl x0))] rfl (Nat.le_of_ble_eq_true rfl) rfl (fun p e s m args below meth c X => ?_)
  unfold w_X_straight at hw
  refine qx_bipush (v := (-2 : Int32)) X d_X_straight_0 (by decide) ?_
  refine qx_istore_n (L' := [(1, .inl (-2 : Int32)), (0, .inr (.inr (.inl x0)))]) X d_X_straight_2 rfl (by decide) rfl ?_
  refine qx_iconst (v := (0 : Int32)) X d_X_straight_3 (by decide) ?_
  refine qx_istore_n (L' := [(2, .inl (0 : Int32)), (1, .inl (-2 : Int32)), (0, .inr (.inr (.inl x0)))]) X d_X_straight_4 rfl (by decide) rfl ?_
  refine qx_iconst (v := (0 : Int32)) X d_X_straight_5 (by decide) ?_
  refine qx_istore_n (L' := [(3, .inl (0 : Int32)), (2, .inl (0 : Int32)), (1, .inl (-2 : Int32)), (0, .inr (.inr (.inl x0)))]) X d_X_straight_6 rfl (by decide) rfl ?_
  refine qx_sub [3, 2, 1, 0] rfl ?_
  exact t_X_straight_7 X N N x0 (-2 : Int32) (0 : Int32) (0 : Int32) h Q  hw 
set_option maxRecDepth 4000 in
theorem t_X_bill_24 (X : qX p s m args meth c D cy b adK adV prog_1_method_28_code "CoatHangers" 4 (some .int) "bill") (N k : Nat) (x0 : Nat) (x1 : Int32) (x2 : Int32) (x3 : Int32) (h : qH) (Q : Int32 → qH → Prop)  (hw : w_X_bill_24 N k x0 x1 x2 x3 h Q ) : qW p l e (qrm 5 0 0 114) s m args below meth c D cy b 4 0 0 (MQ below (qQc D cy b qrI Q) args s 0 0 (qA b)) 24 [(0, .inr (.inr (.inl x0))), (1, .inl x1), (2, .inl x2), (3, .inl x3)] [] h := by
  induction k generalizing x0 x1 x2 x3 h with
  | zero => exact hw.elim
  | succ k ih =>
    refine qx_iload_n (x := x3) X d_X_bill_24 rfl 3 rfl ?_
    refine qx_iload_n (x := x1) X d_X_bill_25 rfl 1 rfl ?_
    refine qx_icmp_ge X 60 d_X_bill_26 (by decide) (fun q1 => ?_) (fun q1 => ?_)
    · have hw := hw.1 q1
      refine qx_iload_n (x := x2) X d_X_bill_60 rfl 2 rfl ?_
      exact qx_iret X hw (Nat.le_refl 0) (Nat.le_refl 0) rfl d_X_bill_61
    · have hw := hw.2 q1
      refine qx_iload_n (x := x2) X d_X_bill_29 rfl 2 rfl ?_
      refine qx_aload_n (x := x0) X d_X_bill_30 rfl 0 rfl ?_
      obtain ⟨g2, hw⟩ := hw
      refine qx_getR X qcls11 g2 5 (by decide) rfl wf_X_47 d_X_bill_31 ?_
      refine qx_aload_n (x := x0) X d_X_bill_34 rfl 0 rfl ?_
      refine qx_getR X qcls11 g2 4 (by decide) rfl wf_X_41 d_X_bill_35 ?_
      obtain ⟨g3, hw⟩ := hw
      refine qx_callVI (st := [.int x2]) (As := [qr b (qR h x0 4)]) X (t_Reck_costOfAll (adK := adK) (adV := adV) l D cy b N (qR h x0 5) (qR h x0 4) h _ hw) qm_Reck_costOfAll wm_X_248 wi_Reck_costOfAll wl_Reck_costOfAll qcls5 g3 rfl rfl rfl ⟨Nat.le_of_ble_eq_true rfl, Nat.le_of_ble_eq_true rfl⟩ ⟨Nat.le_refl 0, Nat.le_refl 0⟩ (Nat.le_of_ble_eq_true rfl) rfl d_X_bill_38 (fun r4 h5 hw => ?_)
      refine qx_iadd X d_X_bill_41 ?_
      refine qx_topi (fun y6 ey6 => ?_)
      have hw := hw y6 ey6
      refine qx_istore_n (L' := [(2, .inl y6), (0, .inr (.inr (.inl x0))), (1, .inl x1), (3, .inl x3)]) X d_X_bill_42 rfl (by decide) rfl ?_
      refine qx_aload_n (x := x0) X d_X_bill_43 rfl 1 rfl ?_
      obtain ⟨g7, hw⟩ := hw
      refine qx_getR X qcls11 g7 6 (by decide) rfl wf_X_56 d_X_bill_44 ?_
      refine qx_aload_n (x := x0) X d_X_bill_47 rfl 1 rfl ?_
      refine qx_getR X qcls11 g7 4 (by decide) rfl wf_X_41 d_X_bill_48 ?_
      obtain ⟨g8, hw⟩ := hw
      refine qx_callVV (st := []) (As := [qr b (qR h5 x0 4)]) X (t_Night_goByQuietly (adK := adK) (adV := adV) l D cy b N (qR h5 x0 6) (qR h5 x0 4) h5 _ hw) qm_Night_goByQuietly wm_X_252 wi_Night_goByQuietly wl_Night_goByQuietly qcls1 g8 rfl rfl rfl ⟨Nat.le_of_ble_eq_true rfl, Nat.le_of_ble_eq_true rfl⟩ ⟨Nat.le_refl 0, Nat.le_refl 0⟩ (Nat.le_of_ble_eq_true rfl) rfl d_X_bill_51 (fun h9 hw => ?_)
      refine qx_iinc (v := (x3 + (1 : Int32))) (L' := [(3, .inl (x3 + (1 : Int32))), (2, .inl y6), (0, .inr (.inr (.inl x0))), (1, .inl x1)]) X d_X_bill_54 3 rfl rfl (by decide) rfl ?_
      refine qx_goto X 24 d_X_bill_57 (by decide) ?_
      refine qx_sub [2, 3, 1, 0] rfl ?_
      exact ih x0 x1 y6 (x3 + (1 : Int32)) h9 hw
set_option maxRecDepth 4000 in
theorem t_X_bill {adK adV : Nat → Nat} (l : Launch) (D : va_G) (cy : Nat → ClassId) (b : Nat) (N : Nat) (x0 : Nat) (x1 : Int32) (h : qH) (Q : Int32 → qH → Prop) (hw : w_X_bill N x0 x1 h Q) : Met l y_X_bill (Cond.code y_X_bill prog_1_method_28_code 4 (some .int) :: qT) (qrm 5 0 0 114) (qPc D cy b adK adV h [qr b x0, .int x1]) (qQc D cy b qrI Q) 0 0 (qA b) := by
  refine qmet (L0 := [(0, .inr (.inr (.inl x0))), (1, .inl x1)]) qm_X_bill (plainFor_of_name (by decide)) [.inr (.inr (.inl x0)), .inl x1] rfl (Nat.le_of_ble_eq_true rfl) rfl (fun p e s m args below meth c X => ?_)
  unfold w_X_bill at hw
  refine qx_iload_n (x := x1) X d_X_bill_0 rfl 1 rfl ?_
  refine qx_callSI (st := []) (As := [.int x1]) X (t_X_isFewNights (adK := adK) (adV := adV) l D cy b N x1 h _ hw) qm_X_isFewNights wm_X_181 wi_X_isFewNights rfl rfl rfl ⟨Nat.le_of_ble_eq_true rfl, Nat.le_of_ble_eq_true rfl⟩ ⟨Nat.le_refl 0, Nat.le_refl 0⟩ (Nat.le_of_ble_eq_true rfl) rfl d_X_bill_1 (fun r1 h2 hw => ?_)
  refine qx_if_ne X 9 d_X_bill_4 (by decide) (fun q3 => ?_) (fun q3 => ?_)
  · have hw := hw.1 q3
    refine qx_iconst (v := (0 : Int32)) X d_X_bill_9 (by decide) ?_
    refine qx_istore_n (L' := [(2, .inl (0 : Int32)), (0, .inr (.inr (.inl x0))), (1, .inl x1)]) X d_X_bill_10 rfl (by decide) rfl ?_
    refine qx_aload_n (x := x0) X d_X_bill_11 rfl 1 rfl ?_
    obtain ⟨g4, hw⟩ := hw
    refine qx_getR X qcls11 g4 4 (by decide) rfl wf_X_41 d_X_bill_12 ?_
    refine qx_aload_n (x := x0) X d_X_bill_15 rfl 1 rfl ?_
    refine qx_getR X qcls11 g4 3 (by decide) rfl wf_X_37 d_X_bill_16 ?_
    obtain ⟨g5, hw⟩ := hw
    refine qx_callVV (st := []) (As := [qr b (qR h2 x0 3)]) X (t_State_become (adK := adK) (adV := adV) l D cy b N (qR h2 x0 4) (qR h2 x0 3) h2 _ hw) qm_State_become wm_X_227 wi_State_become wl_State_become qcls6 g5 rfl rfl rfl ⟨Nat.le_of_ble_eq_true rfl, Nat.le_of_ble_eq_true rfl⟩ ⟨Nat.le_refl 0, Nat.le_refl 0⟩ (Nat.le_of_ble_eq_true rfl) rfl d_X_bill_19 (fun h6 hw => ?_)
    refine qx_iconst (v := (0 : Int32)) X d_X_bill_22 (by decide) ?_
    refine qx_istore_n (L' := [(3, .inl (0 : Int32)), (2, .inl (0 : Int32)), (0, .inr (.inr (.inl x0))), (1, .inl x1)]) X d_X_bill_23 rfl (by decide) rfl ?_
    refine qx_sub [2, 3, 1, 0] rfl ?_
    exact t_X_bill_24 X N N x0 x1 (0 : Int32) (0 : Int32) h6 Q  hw 
  · have hw := hw.2 q3
    refine qx_iconst (v := (-1 : Int32)) X d_X_bill_7 (by decide) ?_
    exact qx_iret X hw (Nat.le_refl 0) (Nat.le_refl 0) rfl d_X_bill_8
set_option maxRecDepth 4000 in
theorem t_X_costIfExchanged {adK adV : Nat → Nat} (l : Launch) (D : va_G) (cy : Nat → ClassId) (b : Nat) (N : Nat) (x0 : Nat) (x1 : Int32) (x2 : Int32) (x3 : Int32) (h : qH) (Q : Int32 → qH → Prop) (hw : w_X_costIfExchanged N x0 x1 x2 x3 h Q) : Met l y_X_costIfExchanged (Cond.code y_X_costIfExchanged prog_1_method_30_code 4 (some .int) :: qT) (qrm 5 0 0 111) (qPc D cy b adK adV h [qr b x0, .int x1, .int x2, .int x3]) (qQc D cy b qrI Q) 0 0 (qA b) := by
  refine qmet (L0 := [(0, .inr (.inr (.inl x0))), (1, .inl x1), (2, .inl x2), (3, .inl x3)]) qm_X_costIfExchanged (plainFor_of_name (by decide)) [.inr (.inr (.inl x0)), .inl x1, .inl x2, .inl x3] rfl (Nat.le_of_ble_eq_true rfl) rfl (fun p e s m args below meth c X => ?_)
  unfold w_X_costIfExchanged at hw
  refine qx_aload_n (x := x0) X d_X_costIfExchanged_0 rfl 0 rfl ?_
  obtain ⟨g1, hw⟩ := hw
  refine qx_getR X qcls11 g1 3 (by decide) rfl wf_X_37 d_X_costIfExchanged_1 ?_
  refine qx_iload_n (x := x1) X d_X_costIfExchanged_4 rfl 1 rfl ?_
  obtain ⟨g2, hw⟩ := hw
  refine qx_callVI (st := []) (As := [.int x1]) X (t_State_isHung (adK := adK) (adV := adV) l D cy b N (qR h x0 3) x1 h _ hw) qm_State_isHung wm_X_160 wi_State_isHung wl_State_isHung qcls6 g2 rfl rfl rfl ⟨Nat.le_of_ble_eq_true rfl, Nat.le_of_ble_eq_true rfl⟩ ⟨Nat.le_refl 0, Nat.le_refl 0⟩ (Nat.le_of_ble_eq_true rfl) rfl d_X_costIfExchanged_5 (fun r3 h4 hw => ?_)
  refine qx_if_eq X 22 d_X_costIfExchanged_8 (by decide) (fun q5 => ?_) (fun q5 => ?_)
  · have hw := hw.1 q5
    refine qx_iload_n (x := x3) X d_X_costIfExchanged_22 rfl 3 rfl ?_
    exact qx_iret X hw (Nat.le_refl 0) (Nat.le_refl 0) rfl d_X_costIfExchanged_23
  · have hw := hw.2 q5
    refine qx_aload_n (x := x0) X d_X_costIfExchanged_11 rfl 0 rfl ?_
    obtain ⟨g6, hw⟩ := hw
    refine qx_getR X qcls11 g6 3 (by decide) rfl wf_X_37 d_X_costIfExchanged_12 ?_
    refine qx_iload_n (x := x2) X d_X_costIfExchanged_15 rfl 2 rfl ?_
    obtain ⟨g7, hw⟩ := hw
    refine qx_callVI (st := []) (As := [.int x2]) X (t_State_isHung (adK := adK) (adV := adV) l D cy b N (qR h4 x0 3) x2 h4 _ hw) qm_State_isHung wm_X_160 wi_State_isHung wl_State_isHung qcls6 g7 rfl rfl rfl ⟨Nat.le_of_ble_eq_true rfl, Nat.le_of_ble_eq_true rfl⟩ ⟨Nat.le_refl 0, Nat.le_refl 0⟩ (Nat.le_of_ble_eq_true rfl) rfl d_X_costIfExchanged_16 (fun r8 h9 hw => ?_)
    refine qx_if_ne X 24 d_X_costIfExchanged_19 (by decide) (fun q10 => ?_) (fun q10 => ?_)
    · have hw := hw.1 q10
      refine qx_aload_n (x := x0) X d_X_costIfExchanged_24 rfl 0 rfl ?_
      obtain ⟨g11, hw⟩ := hw
      refine qx_getR X qcls11 g11 4 (by decide) rfl wf_X_41 d_X_costIfExchanged_25 ?_
      refine qx_aload_n (x := x0) X d_X_costIfExchanged_28 rfl 0 rfl ?_
      refine qx_getR X qcls11 g11 3 (by decide) rfl wf_X_37 d_X_costIfExchanged_29 ?_
      obtain ⟨g12, hw⟩ := hw
      refine qx_callVV (st := []) (As := [qr b (qR h9 x0 3)]) X (t_State_become (adK := adK) (adV := adV) l D cy b N (qR h9 x0 4) (qR h9 x0 3) h9 _ hw) qm_State_become wm_X_227 wi_State_become wl_State_become qcls6 g12 rfl rfl rfl ⟨Nat.le_of_ble_eq_true rfl, Nat.le_of_ble_eq_true rfl⟩ ⟨Nat.le_refl 0, Nat.le_refl 0⟩ (Nat.le_of_ble_eq_true rfl) rfl d_X_costIfExchanged_32 (fun h13 hw => ?_)
      refine qx_aload_n (x := x0) X d_X_costIfExchanged_35 rfl 0 rfl ?_
      obtain ⟨g14, hw⟩ := hw
      refine qx_getR X qcls11 g14 4 (by decide) rfl wf_X_41 d_X_costIfExchanged_36 ?_
      refine qx_iload_n (x := x1) X d_X_costIfExchanged_39 rfl 1 rfl ?_
      refine qx_iload_n (x := x2) X d_X_costIfExchanged_40 rfl 2 rfl ?_
      obtain ⟨g15, hw⟩ := hw
      refine qx_callVV (st := []) (As := [.int x1, .int x2]) X (t_State_exchange (adK := adK) (adV := adV) l D cy b N (qR h13 x0 4) x1 x2 h13 _ hw) qm_State_exchange wm_X_177 wi_State_exchange wl_State_exchange qcls6 g15 rfl rfl rfl ⟨Nat.le_of_ble_eq_true rfl, Nat.le_of_ble_eq_true rfl⟩ ⟨Nat.le_refl 0, Nat.le_refl 0⟩ (Nat.le_of_ble_eq_true rfl) rfl d_X_costIfExchanged_41 (fun h16 hw => ?_)
      refine qx_aload_n (x := x0) X d_X_costIfExchanged_44 rfl 0 rfl ?_
      obtain ⟨g17, hw⟩ := hw
      refine qx_getR X qcls11 g17 5 (by decide) rfl wf_X_47 d_X_costIfExchanged_45 ?_
      refine qx_aload_n (x := x0) X d_X_costIfExchanged_48 rfl 0 rfl ?_
      refine qx_getR X qcls11 g17 4 (by decide) rfl wf_X_41 d_X_costIfExchanged_49 ?_
      obtain ⟨g18, hw⟩ := hw
      refine qx_callVI (st := []) (As := [qr b (qR h16 x0 4)]) X (t_Reck_costOfAll (adK := adK) (adV := adV) l D cy b N (qR h16 x0 5) (qR h16 x0 4) h16 _ hw) qm_Reck_costOfAll wm_X_248 wi_Reck_costOfAll wl_Reck_costOfAll qcls5 g18 rfl rfl rfl ⟨Nat.le_of_ble_eq_true rfl, Nat.le_of_ble_eq_true rfl⟩ ⟨Nat.le_refl 0, Nat.le_refl 0⟩ (Nat.le_of_ble_eq_true rfl) rfl d_X_costIfExchanged_52 (fun r19 h20 hw => ?_)
      exact qx_iret X hw (Nat.le_refl 0) (Nat.le_refl 0) rfl d_X_costIfExchanged_55
    · have hw := hw.2 q10
      refine qx_iload_n (x := x3) X d_X_costIfExchanged_22 rfl 3 rfl ?_
      exact qx_iret X hw (Nat.le_refl 0) (Nat.le_refl 0) rfl d_X_costIfExchanged_23
set_option maxRecDepth 4000 in
theorem t_X_swap_48 (X : qX p s m args meth c D cy b adK adV prog_1_method_29_code "CoatHangers" 8 (some .int) "swap") (N k : Nat) (x0 : Nat) (x1 : Int32) (x2 : Int32) (x3 : Int32) (x4 : Int32) (x5 : Int32) (x6 : Int32) (h : qH) (Q : Int32 → qH → Prop) (K99 : Nat → Int32 → Int32 → Int32 → Int32 → Int32 → qH → Prop) (hw : w_X_swap_48 N k x0 x1 x2 x3 x4 x5 x6 h Q K99) (hK99 : ∀ (x0 : Nat) (x1 : Int32) (x2 : Int32) (x3 : Int32) (x4 : Int32) (x5 : Int32) (h : qH), K99 x0 x1 x2 x3 x4 x5 h → qW p l e (qrm 6 0 0 134) s m args below meth c D cy b 8 0 0 (MQ below (qQc D cy b qrI Q) args s 0 0 (qA b)) 99 [(0, .inr (.inr (.inl x0))), (1, .inl x1), (2, .inl x2), (3, .inl x3), (4, .inl x4), (5, .inl x5)] [] h) : qW p l e (qrm 6 0 0 134) s m args below meth c D cy b 8 0 0 (MQ below (qQc D cy b qrI Q) args s 0 0 (qA b)) 48 [(0, .inr (.inr (.inl x0))), (1, .inl x1), (2, .inl x2), (3, .inl x3), (4, .inl x4), (5, .inl x5), (6, .inl x6)] [] h := by
  induction k generalizing x0 x1 x2 x3 x4 x5 x6 h with
  | zero => exact hw.elim
  | succ k ih =>
    refine qx_iload (x := x6) X d_X_swap_48 6 rfl ?_
    refine qx_aload_n (x := x0) X d_X_swap_50 rfl 0 rfl ?_
    obtain ⟨g1, hw⟩ := hw
    refine qx_getR X qcls11 g1 1 (by decide) rfl wf_X_19 d_X_swap_51 ?_
    obtain ⟨g2, hw⟩ := hw
    refine qx_getI X qcls8 g2 3 (by decide) rfl wf_X_218 d_X_swap_54 ?_
    refine qx_icmp_ge X 99 d_X_swap_57 (by decide) (fun q3 => ?_) (fun q3 => ?_)
    · have hw := hw.1 q3
      refine qx_sub [0, 1, 2, 3, 4, 5] rfl ?_
      exact hK99 x0 x1 x2 x3 x4 x5 h hw
    · have hw := hw.2 q3
      refine qx_iload_n (x := x2) X d_X_swap_60 rfl 2 rfl ?_
      refine qx_aload_n (x := x0) X d_X_swap_61 rfl 0 rfl ?_
      refine qx_iload (x := x5) X d_X_swap_62 5 rfl ?_
      refine qx_iload (x := x6) X d_X_swap_64 6 rfl ?_
      refine qx_iload_n (x := x2) X d_X_swap_66 rfl 2 rfl ?_
      refine qx_callVI (st := [.int x2]) (As := [.int x5, .int x6, .int x2]) X (t_X_costIfExchanged (adK := adK) (adV := adV) l D cy b N x0 x5 x6 x2 h _ hw) qm_X_costIfExchanged wm_X_255 wi_X_costIfExchanged wl_X_costIfExchanged qcls11 g1 rfl rfl rfl ⟨Nat.le_of_ble_eq_true rfl, Nat.le_of_ble_eq_true rfl⟩ ⟨Nat.le_refl 0, Nat.le_refl 0⟩ (Nat.le_of_ble_eq_true rfl) rfl d_X_swap_67 (fun r4 h5 hw => ?_)
      refine qx_isub X d_X_swap_70 ?_
      refine qx_topi (fun y6 ey6 => ?_)
      have hw := hw y6 ey6
      refine qx_istore (L' := [(7, .inl y6), (0, .inr (.inr (.inl x0))), (1, .inl x1), (2, .inl x2), (3, .inl x3), (4, .inl x4), (5, .inl x5), (6, .inl x6)]) X d_X_swap_71 (by decide) rfl ?_
      refine qx_iload (x := y6) X d_X_swap_73 0 rfl ?_
      refine qx_iload (x := x4) X d_X_swap_75 5 rfl ?_
      refine qx_icmp_le X 93 d_X_swap_77 (by decide) (fun q7 => ?_) (fun q7 => ?_)
      · have hw := hw.1 q7
        refine qx_iinc (v := (x6 + (1 : Int32))) (L' := [(6, .inl (x6 + (1 : Int32))), (7, .inl y6), (0, .inr (.inr (.inl x0))), (1, .inl x1), (2, .inl x2), (3, .inl x3), (4, .inl x4), (5, .inl x5)]) X d_X_swap_93 7 rfl rfl (by decide) rfl ?_
        refine qx_goto X 48 d_X_swap_96 (by decide) ?_
        refine qx_sub [2, 3, 4, 5, 6, 7, 0] rfl ?_
        exact ih x0 x1 x2 x3 x4 x5 (x6 + (1 : Int32)) h5 hw
      · have hw := hw.2 q7
        refine qx_bipush (v := (10 : Int32)) X d_X_swap_80 (by decide) ?_
        refine qx_iload (x := x5) X d_X_swap_82 6 rfl ?_
        refine qx_imul X d_X_swap_84 ?_
        refine qx_iload (x := x6) X d_X_swap_85 7 rfl ?_
        refine qx_iadd X d_X_swap_87 ?_
        refine qx_topi (fun y8 ey8 => ?_)
        have hw := hw y8 ey8
        refine qx_istore_n (L' := [(3, .inl y8), (7, .inl y6), (0, .inr (.inr (.inl x0))), (1, .inl x1), (2, .inl x2), (4, .inl x4), (5, .inl x5), (6, .inl x6)]) X d_X_swap_88 rfl (by decide) rfl ?_
        refine qx_iload (x := y6) X d_X_swap_89 1 rfl ?_
        refine qx_istore (L' := [(4, .inl y6), (3, .inl y8), (7, .inl y6), (0, .inr (.inr (.inl x0))), (1, .inl x1), (2, .inl x2), (5, .inl x5), (6, .inl x6)]) X d_X_swap_91 (by decide) rfl ?_
        refine qx_iinc (v := (x6 + (1 : Int32))) (L' := [(6, .inl (x6 + (1 : Int32))), (4, .inl y6), (3, .inl y8), (7, .inl y6), (0, .inr (.inr (.inl x0))), (1, .inl x1), (2, .inl x2), (5, .inl x5)]) X d_X_swap_93 7 rfl rfl (by decide) rfl ?_
        refine qx_goto X 48 d_X_swap_96 (by decide) ?_
        refine qx_sub [4, 5, 6, 2, 1, 7, 0] rfl ?_
        exact ih x0 x1 x2 y8 y6 x5 (x6 + (1 : Int32)) h5 hw
set_option maxRecDepth 4000 in
theorem t_X_swap_30 (X : qX p s m args meth c D cy b adK adV prog_1_method_29_code "CoatHangers" 8 (some .int) "swap") (N k : Nat) (x0 : Nat) (x1 : Int32) (x2 : Int32) (x3 : Int32) (x4 : Int32) (x5 : Int32) (h : qH) (Q : Int32 → qH → Prop) (K105 : Int32 → Int32 → Int32 → qH → Prop) (hw : w_X_swap_30 N k x0 x1 x2 x3 x4 x5 h Q K105) (hK105 : ∀ (x1 : Int32) (x3 : Int32) (x4 : Int32) (h : qH), K105 x1 x3 x4 h → qW p l e (qrm 6 0 0 134) s m args below meth c D cy b 8 0 0 (MQ below (qQc D cy b qrI Q) args s 0 0 (qA b)) 105 [(1, .inl x1), (3, .inl x3), (4, .inl x4)] [] h) : qW p l e (qrm 6 0 0 134) s m args below meth c D cy b 8 0 0 (MQ below (qQc D cy b qrI Q) args s 0 0 (qA b)) 30 [(0, .inr (.inr (.inl x0))), (1, .inl x1), (2, .inl x2), (3, .inl x3), (4, .inl x4), (5, .inl x5)] [] h := by
  induction k generalizing x0 x1 x2 x3 x4 x5 h with
  | zero => exact hw.elim
  | succ k ih =>
    refine qx_iload (x := x5) X d_X_swap_30 5 rfl ?_
    refine qx_aload_n (x := x0) X d_X_swap_32 rfl 0 rfl ?_
    obtain ⟨g1, hw⟩ := hw
    refine qx_getR X qcls11 g1 1 (by decide) rfl wf_X_19 d_X_swap_33 ?_
    obtain ⟨g2, hw⟩ := hw
    refine qx_getI X qcls8 g2 3 (by decide) rfl wf_X_218 d_X_swap_36 ?_
    refine qx_icmp_ge X 105 d_X_swap_39 (by decide) (fun q3 => ?_) (fun q3 => ?_)
    · have hw := hw.1 q3
      refine qx_sub [1, 3, 4] rfl ?_
      exact hK105 x1 x3 x4 h hw
    · have hw := hw.2 q3
      refine qx_iload (x := x5) X d_X_swap_42 5 rfl ?_
      refine qx_iconst (v := (1 : Int32)) X d_X_swap_44 (by decide) ?_
      refine qx_iadd X d_X_swap_45 ?_
      refine qx_topi (fun y4 ey4 => ?_)
      have hw := hw y4 ey4
      refine qx_istore (L' := [(6, .inl y4), (0, .inr (.inr (.inl x0))), (1, .inl x1), (2, .inl x2), (3, .inl x3), (4, .inl x4), (5, .inl x5)]) X d_X_swap_46 (by decide) rfl ?_
      refine qx_sub [1, 2, 3, 4, 5, 6, 0] rfl ?_
      refine t_X_swap_48 X N N x0 x1 x2 x3 x4 x5 y4 h Q _ hw (fun x5 x6 x7 x8 x9 x10 h11 hw => ?_)
      refine qx_iinc (v := (x10 + (1 : Int32))) (L' := [(5, .inl (x10 + (1 : Int32))), (0, .inr (.inr (.inl x5))), (1, .inl x6), (2, .inl x7), (3, .inl x8), (4, .inl x9)]) X d_X_swap_99 5 rfl rfl (by decide) rfl ?_
      refine qx_goto X 30 d_X_swap_102 (by decide) ?_
      refine qx_sub [1, 2, 3, 4, 5, 0] rfl ?_
      exact ih x5 x6 x7 x8 x9 (x10 + (1 : Int32)) h11 hw
set_option maxRecDepth 4000 in
theorem t_X_swap {adK adV : Nat → Nat} (l : Launch) (D : va_G) (cy : Nat → ClassId) (b : Nat) (N : Nat) (x0 : Nat) (x1 : Int32) (h : qH) (Q : Int32 → qH → Prop) (hw : w_X_swap N x0 x1 h Q) : Met l y_X_swap (Cond.code y_X_swap prog_1_method_29_code 8 (some .int) :: qT) (qrm 6 0 0 134) (qPc D cy b adK adV h [qr b x0, .int x1]) (qQc D cy b qrI Q) 0 0 (qA b) := by
  refine qmet (L0 := [(0, .inr (.inr (.inl x0))), (1, .inl x1)]) qm_X_swap (plainFor_of_name (by decide)) [.inr (.inr (.inl x0)), .inl x1] rfl (Nat.le_of_ble_eq_true rfl) rfl (fun p e s m args below meth c X => ?_)
  unfold w_X_swap at hw
  refine qx_iload_n (x := x1) X d_X_swap_0 rfl 1 rfl ?_
  refine qx_callSI (st := []) (As := [.int x1]) X (t_X_isZeroOrOne (adK := adK) (adV := adV) l D cy b N x1 h _ hw) qm_X_isZeroOrOne wm_X_235 wi_X_isZeroOrOne rfl rfl rfl ⟨Nat.le_of_ble_eq_true rfl, Nat.le_of_ble_eq_true rfl⟩ ⟨Nat.le_refl 0, Nat.le_refl 0⟩ (Nat.le_of_ble_eq_true rfl) rfl d_X_swap_1 (fun r1 h2 hw => ?_)
  refine qx_if_ne X 9 d_X_swap_4 (by decide) (fun q3 => ?_) (fun q3 => ?_)
  · have hw := hw.1 q3
    refine qx_aload_n (x := x0) X d_X_swap_9 rfl 0 rfl ?_
    obtain ⟨g4, hw⟩ := hw
    refine qx_getR X qcls11 g4 5 (by decide) rfl wf_X_47 d_X_swap_10 ?_
    refine qx_aload_n (x := x0) X d_X_swap_13 rfl 0 rfl ?_
    refine qx_getR X qcls11 g4 3 (by decide) rfl wf_X_37 d_X_swap_14 ?_
    obtain ⟨g5, hw⟩ := hw
    refine qx_callVI (st := []) (As := [qr b (qR h2 x0 3)]) X (t_Reck_costOfAll (adK := adK) (adV := adV) l D cy b N (qR h2 x0 5) (qR h2 x0 3) h2 _ hw) qm_Reck_costOfAll wm_X_248 wi_Reck_costOfAll wl_Reck_costOfAll qcls5 g5 rfl rfl rfl ⟨Nat.le_of_ble_eq_true rfl, Nat.le_of_ble_eq_true rfl⟩ ⟨Nat.le_refl 0, Nat.le_refl 0⟩ (Nat.le_of_ble_eq_true rfl) rfl d_X_swap_17 (fun r6 h7 hw => ?_)
    refine qx_istore_n (L' := [(2, .inl r6), (0, .inr (.inr (.inl x0))), (1, .inl x1)]) X d_X_swap_20 rfl (by decide) rfl ?_
    refine qx_bipush (v := (-2 : Int32)) X d_X_swap_21 (by decide) ?_
    refine qx_istore_n (L' := [(3, .inl (-2 : Int32)), (2, .inl r6), (0, .inr (.inr (.inl x0))), (1, .inl x1)]) X d_X_swap_23 rfl (by decide) rfl ?_
    refine qx_iconst (v := (0 : Int32)) X d_X_swap_24 (by decide) ?_
    refine qx_istore (L' := [(4, .inl (0 : Int32)), (3, .inl (-2 : Int32)), (2, .inl r6), (0, .inr (.inr (.inl x0))), (1, .inl x1)]) X d_X_swap_25 (by decide) rfl ?_
    refine qx_iconst (v := (0 : Int32)) X d_X_swap_27 (by decide) ?_
    refine qx_istore (L' := [(5, .inl (0 : Int32)), (4, .inl (0 : Int32)), (3, .inl (-2 : Int32)), (2, .inl r6), (0, .inr (.inr (.inl x0))), (1, .inl x1)]) X d_X_swap_28 (by decide) rfl ?_
    refine qx_sub [4, 5, 3, 2, 1, 0] rfl ?_
    refine t_X_swap_30 X N N x0 x1 r6 (-2 : Int32) (0 : Int32) (0 : Int32) h7 Q _ hw (fun x8 x9 x10 h11 hw => ?_)
    refine qx_iload_n (x := x8) X d_X_swap_105 rfl 0 rfl ?_
    refine qx_if_eq X 115 d_X_swap_106 (by decide) (fun q12 => ?_) (fun q12 => ?_)
    · have hw := hw.1 q12
      refine qx_iload_n (x := x9) X d_X_swap_115 rfl 1 rfl ?_
      refine qx_goto X 121 d_X_swap_116 (by decide) ?_
      exact qx_iret X hw (Nat.le_refl 0) (Nat.le_refl 0) rfl d_X_swap_121
    · have hw := hw.2 q12
      refine qx_iload_n (x := x9) X d_X_swap_109 rfl 1 rfl ?_
      refine qx_bipush (v := (-2 : Int32)) X d_X_swap_110 (by decide) ?_
      refine qx_icmp_ne X 119 d_X_swap_112 (by decide) (fun q13 => ?_) (fun q13 => ?_)
      · have hw := hw.1 q13
        refine qx_iload (x := x10) X d_X_swap_119 2 rfl ?_
        exact qx_iret X hw (Nat.le_refl 0) (Nat.le_refl 0) rfl d_X_swap_121
      · have hw := hw.2 q13
        refine qx_iload_n (x := x9) X d_X_swap_115 rfl 1 rfl ?_
        refine qx_goto X 121 d_X_swap_116 (by decide) ?_
        exact qx_iret X hw (Nat.le_refl 0) (Nat.le_refl 0) rfl d_X_swap_121
  · have hw := hw.2 q3
    refine qx_iconst (v := (-1 : Int32)) X d_X_swap_7 (by decide) ?_
    exact qx_iret X hw (Nat.le_refl 0) (Nat.le_refl 0) rfl d_X_swap_8
set_option maxRecDepth 4000 in
theorem t_X_round_13 (X : qX p s m args meth c D cy b adK adV prog_1_method_31_code "CoatHangers" 2 (some .int) "round") (N k : Nat) (x0 : Nat) (x1 : Int32) (h : qH) (Q : Int32 → qH → Prop)  (hw : w_X_round_13 N k x0 x1 h Q ) : qW p l e (qrm 3 0 0 69) s m args below meth c D cy b 2 0 0 (MQ below (qQc D cy b qrI Q) args s 0 0 (qA b)) 13 [(0, .inr (.inr (.inl x0))), (1, .inl x1)] [] h := by
  induction k generalizing x0 x1 h with
  | zero => exact hw.elim
  | succ k ih =>
    refine qx_iload_n (x := x1) X d_X_round_13 rfl 1 rfl ?_
    refine qx_sipush (v := (240 : Int32)) X d_X_round_14 (by decide) ?_
    refine qx_icmp_gt X 53 d_X_round_17 (by decide) (fun q1 => ?_) (fun q1 => ?_)
    · have hw := hw.1 q1
      refine qx_bipush (v := (-2 : Int32)) X d_X_round_53 (by decide) ?_
      exact qx_iret X hw (Nat.le_refl 0) (Nat.le_refl 0) rfl d_X_round_55
    · have hw := hw.2 q1
      refine qx_aload_n (x := x0) X d_X_round_20 rfl 0 rfl ?_
      obtain ⟨g2, hw⟩ := hw
      refine qx_getR X qcls11 g2 6 (by decide) rfl wf_X_56 d_X_round_21 ?_
      refine qx_aload_n (x := x0) X d_X_round_24 rfl 0 rfl ?_
      refine qx_getR X qcls11 g2 4 (by decide) rfl wf_X_41 d_X_round_25 ?_
      obtain ⟨g3, hw⟩ := hw
      refine qx_callVV (st := []) (As := [qr b (qR h x0 4)]) X (t_Night_wakeAll (adK := adK) (adV := adV) l D cy b N (qR h x0 6) (qR h x0 4) h _ hw) qm_Night_wakeAll wm_X_232 wi_Night_wakeAll wl_Night_wakeAll qcls1 g3 rfl rfl rfl ⟨Nat.le_of_ble_eq_true rfl, Nat.le_of_ble_eq_true rfl⟩ ⟨Nat.le_refl 0, Nat.le_refl 0⟩ (Nat.le_of_ble_eq_true rfl) rfl d_X_round_28 (fun h4 hw => ?_)
      refine qx_aload_n (x := x0) X d_X_round_31 rfl 0 rfl ?_
      obtain ⟨g5, hw⟩ := hw
      refine qx_getR X qcls11 g5 4 (by decide) rfl wf_X_41 d_X_round_32 ?_
      refine qx_aload_n (x := x0) X d_X_round_35 rfl 0 rfl ?_
      refine qx_getR X qcls11 g5 3 (by decide) rfl wf_X_37 d_X_round_36 ?_
      obtain ⟨g6, hw⟩ := hw
      refine qx_callVI (st := []) (As := [qr b (qR h4 x0 3)]) X (t_State_hasSelvesOf (adK := adK) (adV := adV) l D cy b N (qR h4 x0 4) (qR h4 x0 3) h4 _ hw) qm_State_hasSelvesOf wm_X_259 wi_State_hasSelvesOf wl_State_hasSelvesOf qcls6 g6 rfl rfl rfl ⟨Nat.le_of_ble_eq_true rfl, Nat.le_of_ble_eq_true rfl⟩ ⟨Nat.le_refl 0, Nat.le_refl 0⟩ (Nat.le_of_ble_eq_true rfl) rfl d_X_round_39 (fun r7 h8 hw => ?_)
      refine qx_if_eq X 47 d_X_round_42 (by decide) (fun q9 => ?_) (fun q9 => ?_)
      · have hw := hw.1 q9
        refine qx_iinc (v := (x1 + (1 : Int32))) (L' := [(1, .inl (x1 + (1 : Int32))), (0, .inr (.inr (.inl x0)))]) X d_X_round_47 1 rfl rfl (by decide) rfl ?_
        refine qx_goto X 13 d_X_round_50 (by decide) ?_
        refine qx_sub [1, 0] rfl ?_
        exact ih x0 (x1 + (1 : Int32)) h8 hw
      · have hw := hw.2 q9
        refine qx_iload_n (x := x1) X d_X_round_45 rfl 1 rfl ?_
        exact qx_iret X hw (Nat.le_refl 0) (Nat.le_refl 0) rfl d_X_round_46
set_option maxRecDepth 4000 in
theorem t_X_round {adK adV : Nat → Nat} (l : Launch) (D : va_G) (cy : Nat → ClassId) (b : Nat) (N : Nat) (x0 : Nat) (h : qH) (Q : Int32 → qH → Prop) (hw : w_X_round N x0 h Q) : Met l y_X_round (Cond.code y_X_round prog_1_method_31_code 2 (some .int) :: qT) (qrm 3 0 0 69) (qPc D cy b adK adV h [qr b x0]) (qQc D cy b qrI Q) 0 0 (qA b) := by
  refine qmet (L0 := [(0, .inr (.inr (.inl x0)))]) qm_X_round (plainFor_of_name (by decide)) [.inr (.inr (.inl x0))] rfl (Nat.le_of_ble_eq_true rfl) rfl (fun p e s m args below meth c X => ?_)
  unfold w_X_round at hw
  refine qx_aload_n (x := x0) X d_X_round_0 rfl 0 rfl ?_
  obtain ⟨g1, hw⟩ := hw
  refine qx_getR X qcls11 g1 4 (by decide) rfl wf_X_41 d_X_round_1 ?_
  refine qx_aload_n (x := x0) X d_X_round_4 rfl 0 rfl ?_
  refine qx_getR X qcls11 g1 3 (by decide) rfl wf_X_37 d_X_round_5 ?_
  obtain ⟨g2, hw⟩ := hw
  refine qx_callVV (st := []) (As := [qr b (qR h x0 3)]) X (t_State_become (adK := adK) (adV := adV) l D cy b N (qR h x0 4) (qR h x0 3) h _ hw) qm_State_become wm_X_227 wi_State_become wl_State_become qcls6 g2 rfl rfl rfl ⟨Nat.le_of_ble_eq_true rfl, Nat.le_of_ble_eq_true rfl⟩ ⟨Nat.le_refl 0, Nat.le_refl 0⟩ (Nat.le_of_ble_eq_true rfl) rfl d_X_round_8 (fun h3 hw => ?_)
  refine qx_iconst (v := (1 : Int32)) X d_X_round_11 (by decide) ?_
  refine qx_istore_n (L' := [(1, .inl (1 : Int32)), (0, .inr (.inr (.inl x0)))]) X d_X_round_12 rfl (by decide) rfl ?_
  refine qx_sub [1, 0] rfl ?_
  exact t_X_round_13 X N N x0 (1 : Int32) h3 Q  hw 
set_option maxRecDepth 4000 in
theorem t_X_upright_34 (X : qX p s m args meth c D cy b adK adV prog_1_method_32_code "CoatHangers" 5 (some .int) "upright") (N k : Nat) (x0 : Nat) (x1 : Int32) (x2 : Int32) (x3 : Int32) (h : qH) (Q : Int32 → qH → Prop) (K56 : Nat → Int32 → qH → Prop) (hw : w_X_upright_34 N k x0 x1 x2 x3 h Q K56) (hK56 : ∀ (x0 : Nat) (x2 : Int32) (h : qH), K56 x0 x2 h → qW p l e (qrm 5 0 0 114) s m args below meth c D cy b 5 0 0 (MQ below (qQc D cy b qrI Q) args s 0 0 (qA b)) 56 [(0, .inr (.inr (.inl x0))), (2, .inl x2)] [] h) : qW p l e (qrm 5 0 0 114) s m args below meth c D cy b 5 0 0 (MQ below (qQc D cy b qrI Q) args s 0 0 (qA b)) 34 [(0, .inr (.inr (.inl x0))), (1, .inl x1), (2, .inl x2), (3, .inl x3)] [] h := by
  induction k generalizing x0 x1 x2 x3 h with
  | zero => exact hw.elim
  | succ k ih =>
    refine qx_iload_n (x := x3) X d_X_upright_34 rfl 3 rfl ?_
    refine qx_iload_n (x := x1) X d_X_upright_35 rfl 1 rfl ?_
    refine qx_icmp_ge X 56 d_X_upright_36 (by decide) (fun q1 => ?_) (fun q1 => ?_)
    · have hw := hw.1 q1
      refine qx_sub [0, 2] rfl ?_
      exact hK56 x0 x2 h hw
    · have hw := hw.2 q1
      refine qx_aload_n (x := x0) X d_X_upright_39 rfl 0 rfl ?_
      obtain ⟨g2, hw⟩ := hw
      refine qx_getR X qcls11 g2 6 (by decide) rfl wf_X_56 d_X_upright_40 ?_
      refine qx_aload_n (x := x0) X d_X_upright_43 rfl 0 rfl ?_
      refine qx_getR X qcls11 g2 4 (by decide) rfl wf_X_41 d_X_upright_44 ?_
      obtain ⟨g3, hw⟩ := hw
      refine qx_callVV (st := []) (As := [qr b (qR h x0 4)]) X (t_Night_goByQuietly (adK := adK) (adV := adV) l D cy b N (qR h x0 6) (qR h x0 4) h _ hw) qm_Night_goByQuietly wm_X_252 wi_Night_goByQuietly wl_Night_goByQuietly qcls1 g3 rfl rfl rfl ⟨Nat.le_of_ble_eq_true rfl, Nat.le_of_ble_eq_true rfl⟩ ⟨Nat.le_refl 0, Nat.le_refl 0⟩ (Nat.le_of_ble_eq_true rfl) rfl d_X_upright_47 (fun h4 hw => ?_)
      refine qx_iinc (v := (x3 + (1 : Int32))) (L' := [(3, .inl (x3 + (1 : Int32))), (0, .inr (.inr (.inl x0))), (1, .inl x1), (2, .inl x2)]) X d_X_upright_50 3 rfl rfl (by decide) rfl ?_
      refine qx_goto X 34 d_X_upright_53 (by decide) ?_
      refine qx_sub [1, 2, 3, 0] rfl ?_
      exact ih x0 x1 x2 (x3 + (1 : Int32)) h4 hw
set_option maxRecDepth 4000 in
theorem t_X_upright_61 (X : qX p s m args meth c D cy b adK adV prog_1_method_32_code "CoatHangers" 5 (some .int) "upright") (N k : Nat) (x0 : Nat) (x2 : Int32) (x3 : Int32) (x4 : Int32) (h : qH) (Q : Int32 → qH → Prop)  (hw : w_X_upright_61 N k x0 x2 x3 x4 h Q ) : qW p l e (qrm 5 0 0 114) s m args below meth c D cy b 5 0 0 (MQ below (qQc D cy b qrI Q) args s 0 0 (qA b)) 61 [(0, .inr (.inr (.inl x0))), (2, .inl x2), (3, .inl x3), (4, .inl x4)] [] h := by
  induction k generalizing x0 x2 x3 x4 h with
  | zero => exact hw.elim
  | succ k ih =>
    refine qx_iload (x := x4) X d_X_upright_61 3 rfl ?_
    refine qx_aload_n (x := x0) X d_X_upright_63 rfl 0 rfl ?_
    obtain ⟨g1, hw⟩ := hw
    refine qx_getR X qcls11 g1 1 (by decide) rfl wf_X_19 d_X_upright_64 ?_
    obtain ⟨g2, hw⟩ := hw
    refine qx_getI X qcls8 g2 3 (by decide) rfl wf_X_218 d_X_upright_67 ?_
    refine qx_icmp_ge X 104 d_X_upright_70 (by decide) (fun q3 => ?_) (fun q3 => ?_)
    · have hw := hw.1 q3
      refine qx_iload_n (x := x3) X d_X_upright_104 rfl 2 rfl ?_
      exact qx_iret X hw (Nat.le_refl 0) (Nat.le_refl 0) rfl d_X_upright_105
    · have hw := hw.2 q3
      refine qx_iload_n (x := x3) X d_X_upright_73 rfl 2 rfl ?_
      refine qx_aload_n (x := x0) X d_X_upright_74 rfl 0 rfl ?_
      refine qx_getR X qcls11 g1 4 (by decide) rfl wf_X_41 d_X_upright_75 ?_
      obtain ⟨g4, hw⟩ := hw
      refine qx_getR X qcls6 g4 5 (by decide) rfl wf_X_154 d_X_upright_78 ?_
      refine qx_iload (x := x4) X d_X_upright_81 3 rfl ?_
      obtain ⟨g5, hw⟩ := hw
      refine qx_ild X g5 d_X_upright_83 ?_
      refine qx_iload_n (x := x2) X d_X_upright_84 rfl 1 rfl ?_
      refine qx_icmp_ge X 95 d_X_upright_85 (by decide) (fun q6 => ?_) (fun q6 => ?_)
      · have hw := hw.1 q6
        refine qx_iconst (v := (0 : Int32)) X d_X_upright_95 (by decide) ?_
        refine qx_ior X d_X_upright_96 ?_
        refine qx_topi (fun y7 ey7 => ?_)
        have hw := hw y7 ey7
        refine qx_istore_n (L' := [(3, .inl y7), (0, .inr (.inr (.inl x0))), (2, .inl x2), (4, .inl x4)]) X d_X_upright_97 rfl (by decide) rfl ?_
        refine qx_iinc (v := (x4 + (1 : Int32))) (L' := [(4, .inl (x4 + (1 : Int32))), (3, .inl y7), (0, .inr (.inr (.inl x0))), (2, .inl x2)]) X d_X_upright_98 3 rfl rfl (by decide) rfl ?_
        refine qx_goto X 61 d_X_upright_101 (by decide) ?_
        refine qx_sub [2, 3, 1, 0] rfl ?_
        exact ih x0 x2 y7 (x4 + (1 : Int32)) h hw
      · have hw := hw.2 q6
        refine qx_iconst (v := (1 : Int32)) X d_X_upright_88 (by decide) ?_
        refine qx_iload (x := x4) X d_X_upright_89 3 rfl ?_
        refine qx_ishl X d_X_upright_91 ?_
        refine qx_goto X 96 d_X_upright_92 (by decide) ?_
        refine qx_ior X d_X_upright_96 ?_
        refine qx_topi (fun y8 ey8 => ?_)
        have hw := hw y8 ey8
        refine qx_istore_n (L' := [(3, .inl y8), (0, .inr (.inr (.inl x0))), (2, .inl x2), (4, .inl x4)]) X d_X_upright_97 rfl (by decide) rfl ?_
        refine qx_iinc (v := (x4 + (1 : Int32))) (L' := [(4, .inl (x4 + (1 : Int32))), (3, .inl y8), (0, .inr (.inr (.inl x0))), (2, .inl x2)]) X d_X_upright_98 3 rfl rfl (by decide) rfl ?_
        refine qx_goto X 61 d_X_upright_101 (by decide) ?_
        refine qx_sub [2, 3, 1, 0] rfl ?_
        exact ih x0 x2 y8 (x4 + (1 : Int32)) h hw
set_option maxRecDepth 4000 in
theorem t_X_upright {adK adV : Nat → Nat} (l : Launch) (D : va_G) (cy : Nat → ClassId) (b : Nat) (N : Nat) (x0 : Nat) (x1 : Int32) (x2 : Int32) (h : qH) (Q : Int32 → qH → Prop) (hw : w_X_upright N x0 x1 x2 h Q) : Met l y_X_upright (Cond.code y_X_upright prog_1_method_32_code 5 (some .int) :: qT) (qrm 5 0 0 114) (qPc D cy b adK adV h [qr b x0, .int x1, .int x2]) (qQc D cy b qrI Q) 0 0 (qA b) := by
  refine qmet (L0 := [(0, .inr (.inr (.inl x0))), (1, .inl x1), (2, .inl x2)]) qm_X_upright (plainFor_of_name (by decide)) [.inr (.inr (.inl x0)), .inl x1, .inl x2] rfl (Nat.le_of_ble_eq_true rfl) rfl (fun p e s m args below meth c X => ?_)
  unfold w_X_upright at hw
  refine qx_iload_n (x := x1) X d_X_upright_0 rfl 1 rfl ?_
  refine qx_callSI (st := []) (As := [.int x1]) X (t_X_isFewNights (adK := adK) (adV := adV) l D cy b N x1 h _ hw) qm_X_isFewNights wm_X_181 wi_X_isFewNights rfl rfl rfl ⟨Nat.le_of_ble_eq_true rfl, Nat.le_of_ble_eq_true rfl⟩ ⟨Nat.le_refl 0, Nat.le_refl 0⟩ (Nat.le_of_ble_eq_true rfl) rfl d_X_upright_1 (fun r1 h2 hw => ?_)
  refine qx_if_eq X 19 d_X_upright_4 (by decide) (fun q3 => ?_) (fun q3 => ?_)
  · have hw := hw.1 q3
    refine qx_iconst (v := (-1 : Int32)) X d_X_upright_19 (by decide) ?_
    exact qx_iret X hw (Nat.le_refl 0) (Nat.le_refl 0) rfl d_X_upright_20
  · have hw := hw.2 q3
    refine qx_iload_n (x := x2) X d_X_upright_7 rfl 2 rfl ?_
    refine qx_iconst (v := (1 : Int32)) X d_X_upright_8 (by decide) ?_
    refine qx_icmp_lt X 19 d_X_upright_9 (by decide) (fun q4 => ?_) (fun q4 => ?_)
    · have hw := hw.1 q4
      refine qx_iconst (v := (-1 : Int32)) X d_X_upright_19 (by decide) ?_
      exact qx_iret X hw (Nat.le_refl 0) (Nat.le_refl 0) rfl d_X_upright_20
    · have hw := hw.2 q4
      refine qx_iload_n (x := x2) X d_X_upright_12 rfl 2 rfl ?_
      refine qx_sipush (v := (999 : Int32)) X d_X_upright_13 (by decide) ?_
      refine qx_icmp_le X 21 d_X_upright_16 (by decide) (fun q5 => ?_) (fun q5 => ?_)
      · have hw := hw.1 q5
        refine qx_aload_n (x := x0) X d_X_upright_21 rfl 0 rfl ?_
        obtain ⟨g6, hw⟩ := hw
        refine qx_getR X qcls11 g6 4 (by decide) rfl wf_X_41 d_X_upright_22 ?_
        refine qx_aload_n (x := x0) X d_X_upright_25 rfl 0 rfl ?_
        refine qx_getR X qcls11 g6 3 (by decide) rfl wf_X_37 d_X_upright_26 ?_
        obtain ⟨g7, hw⟩ := hw
        refine qx_callVV (st := []) (As := [qr b (qR h2 x0 3)]) X (t_State_become (adK := adK) (adV := adV) l D cy b N (qR h2 x0 4) (qR h2 x0 3) h2 _ hw) qm_State_become wm_X_227 wi_State_become wl_State_become qcls6 g7 rfl rfl rfl ⟨Nat.le_of_ble_eq_true rfl, Nat.le_of_ble_eq_true rfl⟩ ⟨Nat.le_refl 0, Nat.le_refl 0⟩ (Nat.le_of_ble_eq_true rfl) rfl d_X_upright_29 (fun h8 hw => ?_)
        refine qx_iconst (v := (0 : Int32)) X d_X_upright_32 (by decide) ?_
        refine qx_istore_n (L' := [(3, .inl (0 : Int32)), (0, .inr (.inr (.inl x0))), (1, .inl x1), (2, .inl x2)]) X d_X_upright_33 rfl (by decide) rfl ?_
        refine qx_sub [1, 2, 3, 0] rfl ?_
        refine t_X_upright_34 X N N x0 x1 x2 (0 : Int32) h8 Q _ hw (fun x9 x10 h11 hw => ?_)
        refine qx_iconst (v := (0 : Int32)) X d_X_upright_56 (by decide) ?_
        refine qx_istore_n (L' := [(3, .inl (0 : Int32)), (0, .inr (.inr (.inl x9))), (2, .inl x10)]) X d_X_upright_57 rfl (by decide) rfl ?_
        refine qx_iconst (v := (0 : Int32)) X d_X_upright_58 (by decide) ?_
        refine qx_istore (L' := [(4, .inl (0 : Int32)), (3, .inl (0 : Int32)), (0, .inr (.inr (.inl x9))), (2, .inl x10)]) X d_X_upright_59 (by decide) rfl ?_
        refine qx_sub [2, 3, 1, 0] rfl ?_
        exact t_X_upright_61 X N N x9 x10 (0 : Int32) (0 : Int32) h11 Q  hw 
      · have hw := hw.2 q5
        refine qx_iconst (v := (-1 : Int32)) X d_X_upright_19 (by decide) ?_
        exact qx_iret X hw (Nat.le_refl 0) (Nat.le_refl 0) rfl d_X_upright_20
set_option maxRecDepth 4000 in
theorem t_X_holder_2 (X : qX p s m args meth c D cy b adK adV prog_1_method_33_code "CoatHangers" 3 (some .int) "holder") (N k : Nat) (x0 : Nat) (x1 : Int32) (x2 : Int32) (h : qH) (Q : Int32 → qH → Prop)  (hw : w_X_holder_2 N k x0 x1 x2 h Q ) : qW p l e (qrm 0 0 0 0) s m args below meth c D cy b 3 0 0 (MQ below (qQc D cy b qrI Q) args s 0 0 (qA b)) 2 [(0, .inr (.inr (.inl x0))), (1, .inl x1), (2, .inl x2)] [] h := by
  induction k generalizing x0 x1 x2 h with
  | zero => exact hw.elim
  | succ k ih =>
    refine qx_iload_n (x := x2) X d_X_holder_2 rfl 2 rfl ?_
    refine qx_aload_n (x := x0) X d_X_holder_3 rfl 0 rfl ?_
    obtain ⟨g1, hw⟩ := hw
    refine qx_getR X qcls11 g1 1 (by decide) rfl wf_X_19 d_X_holder_4 ?_
    obtain ⟨g2, hw⟩ := hw
    refine qx_getI X qcls8 g2 3 (by decide) rfl wf_X_218 d_X_holder_7 ?_
    refine qx_icmp_ge X 34 d_X_holder_10 (by decide) (fun q3 => ?_) (fun q3 => ?_)
    · have hw := hw.1 q3
      refine qx_iconst (v := (-1 : Int32)) X d_X_holder_34 (by decide) ?_
      exact qx_iret X hw (Nat.le_refl 0) (Nat.le_refl 0) rfl d_X_holder_35
    · have hw := hw.2 q3
      refine qx_aload_n (x := x0) X d_X_holder_13 rfl 0 rfl ?_
      refine qx_getR X qcls11 g1 3 (by decide) rfl wf_X_37 d_X_holder_14 ?_
      obtain ⟨g4, hw⟩ := hw
      refine qx_getR X qcls6 g4 4 (by decide) rfl wf_X_151 d_X_holder_17 ?_
      refine qx_iload_n (x := x2) X d_X_holder_20 rfl 2 rfl ?_
      obtain ⟨g5, hw⟩ := hw
      refine qx_ild X g5 d_X_holder_21 ?_
      refine qx_iload_n (x := x1) X d_X_holder_22 rfl 1 rfl ?_
      refine qx_icmp_ne X 28 d_X_holder_23 (by decide) (fun q6 => ?_) (fun q6 => ?_)
      · have hw := hw.1 q6
        refine qx_iinc (v := (x2 + (1 : Int32))) (L' := [(2, .inl (x2 + (1 : Int32))), (0, .inr (.inr (.inl x0))), (1, .inl x1)]) X d_X_holder_28 2 rfl rfl (by decide) rfl ?_
        refine qx_goto X 2 d_X_holder_31 (by decide) ?_
        refine qx_sub [1, 2, 0] rfl ?_
        exact ih x0 x1 (x2 + (1 : Int32)) h hw
      · have hw := hw.2 q6
        refine qx_iload_n (x := x2) X d_X_holder_26 rfl 2 rfl ?_
        exact qx_iret X hw (Nat.le_refl 0) (Nat.le_refl 0) rfl d_X_holder_27
set_option maxRecDepth 4000 in
theorem t_X_holder {adK adV : Nat → Nat} (l : Launch) (D : va_G) (cy : Nat → ClassId) (b : Nat) (N : Nat) (x0 : Nat) (x1 : Int32) (h : qH) (Q : Int32 → qH → Prop) (hw : w_X_holder N x0 x1 h Q) : Met l y_X_holder (Cond.code y_X_holder prog_1_method_33_code 3 (some .int) :: qT) (qrm 0 0 0 0) (qPc D cy b adK adV h [qr b x0, .int x1]) (qQc D cy b qrI Q) 0 0 (qA b) := by
  refine qmet (L0 := [(0, .inr (.inr (.inl x0))), (1, .inl x1)]) qm_X_holder (plainFor_of_name (by decide)) [.inr (.inr (.inl x0)), .inl x1] rfl (Nat.le_of_ble_eq_true rfl) rfl (fun p e s m args below meth c X => ?_)
  unfold w_X_holder at hw
  refine qx_iconst (v := (0 : Int32)) X d_X_holder_0 (by decide) ?_
  refine qx_istore_n (L' := [(2, .inl (0 : Int32)), (0, .inr (.inr (.inl x0))), (1, .inl x1)]) X d_X_holder_1 rfl (by decide) rfl ?_
  refine qx_sub [1, 2, 0] rfl ?_
  exact t_X_holder_2 X N N x0 x1 (0 : Int32) h Q  hw 
set_option maxRecDepth 4000 in
theorem t_X_free_9 (X : qX p s m args meth c D cy b adK adV prog_1_method_34_code "CoatHangers" 5 (some .int) "free") (N k : Nat) (x0 : Nat) (x1 : Int32) (x2 : Int32) (x3 : Int32) (x4 : Int32) (h : qH) (Q : Int32 → qH → Prop)  (hw : w_X_free_9 N k x0 x1 x2 x3 x4 h Q ) : qW p l e (qrm 2 0 0 43) s m args below meth c D cy b 5 0 0 (MQ below (qQc D cy b qrI Q) args s 0 0 (qA b)) 9 [(0, .inr (.inr (.inl x0))), (1, .inl x1), (2, .inl x2), (3, .inl x3), (4, .inl x4)] [] h := by
  induction k generalizing x0 x1 x2 x3 x4 h with
  | zero => exact hw.elim
  | succ k ih =>
    refine qx_iload (x := x4) X d_X_free_9 4 rfl ?_
    refine qx_aload_n (x := x0) X d_X_free_11 rfl 0 rfl ?_
    obtain ⟨g1, hw⟩ := hw
    refine qx_getR X qcls11 g1 1 (by decide) rfl wf_X_19 d_X_free_12 ?_
    obtain ⟨g2, hw⟩ := hw
    refine qx_getI X qcls8 g2 0 (by decide) rfl wf_X_238 d_X_free_15 ?_
    refine qx_icmp_ge X 67 d_X_free_18 (by decide) (fun q3 => ?_) (fun q3 => ?_)
    · have hw := hw.1 q3
      refine qx_iload_n (x := x1) X d_X_free_67 rfl 1 rfl ?_
      by_cases q4 : x1 = (0 : Int32)
      · have hw := hw.1 q4
        refine qx_lookup (off := (28)) X 96 d_X_free_68 rfl (by rw [q4]; rfl) (by decide) ?_
        refine qx_iload_n (x := x2) X d_X_free_96 rfl 2 rfl ?_
        exact qx_iret X hw (Nat.le_refl 0) (Nat.le_refl 0) rfl d_X_free_97
      · have hw := hw.2 q4
        by_cases q5 : x1 = (1 : Int32)
        · have hw := hw.1 q5
          refine qx_lookup (off := (30)) X 98 d_X_free_68 rfl (by rw [q5]; rfl) (by decide) ?_
          refine qx_iload_n (x := x3) X d_X_free_98 rfl 3 rfl ?_
          exact qx_iret X hw (Nat.le_refl 0) (Nat.le_refl 0) rfl d_X_free_99
        · have hw := hw.2 q5
          have nq4 : x1.toInt ≠ 0 := fun z => q4 (Int32.toInt_inj.mp z)
          have nq5 : x1.toInt ≠ 1 := fun z => q5 (Int32.toInt_inj.mp z)
          refine qx_lookup X 100 d_X_free_68 rfl (qlk_2 nq4 nq5) (by decide) ?_
          refine qx_iconst (v := (-1 : Int32)) X d_X_free_100 (by decide) ?_
          exact qx_iret X hw (Nat.le_refl 0) (Nat.le_refl 0) rfl d_X_free_101
    · have hw := hw.2 q3
      refine qx_aload_n (x := x0) X d_X_free_21 rfl 0 rfl ?_
      refine qx_getR X qcls11 g1 3 (by decide) rfl wf_X_37 d_X_free_22 ?_
      refine qx_iload (x := x4) X d_X_free_25 4 rfl ?_
      obtain ⟨g6, hw⟩ := hw
      refine qx_callVI (st := []) (As := [.int x4]) X (t_State_isTaken (adK := adK) (adV := adV) l D cy b N (qR h x0 3) x4 h _ hw) qm_State_isTaken wm_X_170 wi_State_isTaken wl_State_isTaken qcls6 g6 rfl rfl rfl ⟨Nat.le_of_ble_eq_true rfl, Nat.le_of_ble_eq_true rfl⟩ ⟨Nat.le_refl 0, Nat.le_refl 0⟩ (Nat.le_of_ble_eq_true rfl) rfl d_X_free_27 (fun r7 h8 hw => ?_)
      refine qx_if_ne X 61 d_X_free_30 (by decide) (fun q9 => ?_) (fun q9 => ?_)
      · have hw := hw.1 q9
        refine qx_iinc (v := (x4 + (1 : Int32))) (L' := [(4, .inl (x4 + (1 : Int32))), (0, .inr (.inr (.inl x0))), (1, .inl x1), (2, .inl x2), (3, .inl x3)]) X d_X_free_61 4 rfl rfl (by decide) rfl ?_
        refine qx_goto X 9 d_X_free_64 (by decide) ?_
        refine qx_sub [1, 2, 3, 4, 0] rfl ?_
        exact ih x0 x1 x2 x3 (x4 + (1 : Int32)) h8 hw
      · have hw := hw.2 q9
        refine qx_aload_n (x := x0) X d_X_free_33 rfl 0 rfl ?_
        obtain ⟨g10, hw⟩ := hw
        refine qx_getR X qcls11 g10 1 (by decide) rfl wf_X_19 d_X_free_34 ?_
        obtain ⟨g11, hw⟩ := hw
        refine qx_getR X qcls8 g11 2 (by decide) rfl wf_X_129 d_X_free_37 ?_
        refine qx_iload (x := x4) X d_X_free_40 4 rfl ?_
        obtain ⟨g12, hw⟩ := hw
        refine qx_ild X g12 d_X_free_42 ?_
        refine qx_iload_n (x := x3) X d_X_free_43 rfl 3 rfl ?_
        refine qx_icmp_le X 61 d_X_free_44 (by decide) (fun q13 => ?_) (fun q13 => ?_)
        · have hw := hw.1 q13
          refine qx_iinc (v := (x4 + (1 : Int32))) (L' := [(4, .inl (x4 + (1 : Int32))), (0, .inr (.inr (.inl x0))), (1, .inl x1), (2, .inl x2), (3, .inl x3)]) X d_X_free_61 4 rfl rfl (by decide) rfl ?_
          refine qx_goto X 9 d_X_free_64 (by decide) ?_
          refine qx_sub [1, 2, 3, 4, 0] rfl ?_
          exact ih x0 x1 x2 x3 (x4 + (1 : Int32)) h8 hw
        · have hw := hw.2 q13
          refine qx_iload (x := x4) X d_X_free_47 4 rfl ?_
          refine qx_istore_n (L' := [(2, .inl x4), (0, .inr (.inr (.inl x0))), (1, .inl x1), (3, .inl x3), (4, .inl x4)]) X d_X_free_49 rfl (by decide) rfl ?_
          refine qx_aload_n (x := x0) X d_X_free_50 rfl 1 rfl ?_
          refine qx_getR X qcls11 g10 1 (by decide) rfl wf_X_19 d_X_free_51 ?_
          refine qx_getR X qcls8 g11 2 (by decide) rfl wf_X_129 d_X_free_54 ?_
          refine qx_iload (x := x4) X d_X_free_57 4 rfl ?_
          refine qx_ild X g12 d_X_free_59 ?_
          refine qx_topi (fun y14 ey14 => ?_)
          have hw := hw y14 ey14
          refine qx_istore_n (L' := [(3, .inl y14), (2, .inl x4), (0, .inr (.inr (.inl x0))), (1, .inl x1), (4, .inl x4)]) X d_X_free_60 rfl (by decide) rfl ?_
          refine qx_iinc (v := (x4 + (1 : Int32))) (L' := [(4, .inl (x4 + (1 : Int32))), (3, .inl y14), (2, .inl x4), (0, .inr (.inr (.inl x0))), (1, .inl x1)]) X d_X_free_61 4 rfl rfl (by decide) rfl ?_
          refine qx_goto X 9 d_X_free_64 (by decide) ?_
          refine qx_sub [3, 4, 2, 1, 0] rfl ?_
          exact ih x0 x1 x4 y14 (x4 + (1 : Int32)) h8 hw
set_option maxRecDepth 4000 in
theorem t_X_free {adK adV : Nat → Nat} (l : Launch) (D : va_G) (cy : Nat → ClassId) (b : Nat) (N : Nat) (x0 : Nat) (x1 : Int32) (h : qH) (Q : Int32 → qH → Prop) (hw : w_X_free N x0 x1 h Q) : Met l y_X_free (Cond.code y_X_free prog_1_method_34_code 5 (some .int) :: qT) (qrm 2 0 0 43) (qPc D cy b adK adV h [qr b x0, .int x1]) (qQc D cy b qrI Q) 0 0 (qA b) := by
  refine qmet (L0 := [(0, .inr (.inr (.inl x0))), (1, .inl x1)]) qm_X_free (plainFor_of_name (by decide)) [.inr (.inr (.inl x0)), .inl x1] rfl (Nat.le_of_ble_eq_true rfl) rfl (fun p e s m args below meth c X => ?_)
  unfold w_X_free at hw
  refine qx_bipush (v := (-2 : Int32)) X d_X_free_0 (by decide) ?_
  refine qx_istore_n (L' := [(2, .inl (-2 : Int32)), (0, .inr (.inr (.inl x0))), (1, .inl x1)]) X d_X_free_2 rfl (by decide) rfl ?_
  refine qx_bipush (v := (-2 : Int32)) X d_X_free_3 (by decide) ?_
  refine qx_istore_n (L' := [(3, .inl (-2 : Int32)), (2, .inl (-2 : Int32)), (0, .inr (.inr (.inl x0))), (1, .inl x1)]) X d_X_free_5 rfl (by decide) rfl ?_
  refine qx_iconst (v := (0 : Int32)) X d_X_free_6 (by decide) ?_
  refine qx_istore (L' := [(4, .inl (0 : Int32)), (3, .inl (-2 : Int32)), (2, .inl (-2 : Int32)), (0, .inr (.inr (.inl x0))), (1, .inl x1)]) X d_X_free_7 (by decide) rfl ?_
  refine qx_sub [3, 4, 2, 1, 0] rfl ?_
  exact t_X_free_9 X N N x0 x1 (-2 : Int32) (-2 : Int32) (0 : Int32) h Q  hw 
set_option maxRecDepth 4000 in
theorem t_X_day_23 (X : qX p s m args meth c D cy b adK adV prog_1_method_35_code "CoatHangers" 3 (some .int) "day") (N k : Nat) (x0 : Nat) (x1 : Int32) (x2 : Int32) (h : qH) (Q : Int32 → qH → Prop)  (hw : w_X_day_23 N k x0 x1 x2 h Q ) : qW p l e (qrm 3 0 0 69) s m args below meth c D cy b 3 0 0 (MQ below (qQc D cy b qrI Q) args s 0 0 (qA b)) 23 [(0, .inr (.inr (.inl x0))), (1, .inl x1), (2, .inl x2)] [] h := by
  induction k generalizing x0 x1 x2 h with
  | zero => exact hw.elim
  | succ k ih =>
    refine qx_iload_n (x := x2) X d_X_day_23 rfl 2 rfl ?_
    refine qx_sipush (v := (240 : Int32)) X d_X_day_24 (by decide) ?_
    refine qx_icmp_gt X 62 d_X_day_27 (by decide) (fun q1 => ?_) (fun q1 => ?_)
    · have hw := hw.1 q1
      refine qx_bipush (v := (-2 : Int32)) X d_X_day_62 (by decide) ?_
      exact qx_iret X hw (Nat.le_refl 0) (Nat.le_refl 0) rfl d_X_day_64
    · have hw := hw.2 q1
      refine qx_aload_n (x := x0) X d_X_day_30 rfl 0 rfl ?_
      obtain ⟨g2, hw⟩ := hw
      refine qx_getR X qcls11 g2 4 (by decide) rfl wf_X_41 d_X_day_31 ?_
      obtain ⟨g3, hw⟩ := hw
      refine qx_getR X qcls6 g3 4 (by decide) rfl wf_X_151 d_X_day_34 ?_
      refine qx_iload_n (x := x1) X d_X_day_37 rfl 1 rfl ?_
      obtain ⟨g4, hw⟩ := hw
      refine qx_ild X g4 d_X_day_38 ?_
      refine qx_iload_n (x := x1) X d_X_day_39 rfl 1 rfl ?_
      refine qx_icmp_ne X 45 d_X_day_40 (by decide) (fun q5 => ?_) (fun q5 => ?_)
      · have hw := hw.1 q5
        refine qx_aload_n (x := x0) X d_X_day_45 rfl 0 rfl ?_
        refine qx_getR X qcls11 g2 6 (by decide) rfl wf_X_56 d_X_day_46 ?_
        refine qx_aload_n (x := x0) X d_X_day_49 rfl 0 rfl ?_
        refine qx_getR X qcls11 g2 4 (by decide) rfl wf_X_41 d_X_day_50 ?_
        obtain ⟨g6, hw⟩ := hw
        refine qx_callVV (st := []) (As := [qr b (qR h x0 4)]) X (t_Night_wakeAll (adK := adK) (adV := adV) l D cy b N (qR h x0 6) (qR h x0 4) h _ hw) qm_Night_wakeAll wm_X_232 wi_Night_wakeAll wl_Night_wakeAll qcls1 g6 rfl rfl rfl ⟨Nat.le_of_ble_eq_true rfl, Nat.le_of_ble_eq_true rfl⟩ ⟨Nat.le_refl 0, Nat.le_refl 0⟩ (Nat.le_of_ble_eq_true rfl) rfl d_X_day_53 (fun h7 hw => ?_)
        refine qx_iinc (v := (x2 + (1 : Int32))) (L' := [(2, .inl (x2 + (1 : Int32))), (0, .inr (.inr (.inl x0))), (1, .inl x1)]) X d_X_day_56 2 rfl rfl (by decide) rfl ?_
        refine qx_goto X 23 d_X_day_59 (by decide) ?_
        refine qx_sub [1, 2, 0] rfl ?_
        exact ih x0 x1 (x2 + (1 : Int32)) h7 hw
      · have hw := hw.2 q5
        refine qx_iload_n (x := x2) X d_X_day_43 rfl 2 rfl ?_
        exact qx_iret X hw (Nat.le_refl 0) (Nat.le_refl 0) rfl d_X_day_44
set_option maxRecDepth 4000 in
theorem t_X_day {adK adV : Nat → Nat} (l : Launch) (D : va_G) (cy : Nat → ClassId) (b : Nat) (N : Nat) (x0 : Nat) (x1 : Int32) (h : qH) (Q : Int32 → qH → Prop) (hw : w_X_day N x0 x1 h Q) : Met l y_X_day (Cond.code y_X_day prog_1_method_35_code 3 (some .int) :: qT) (qrm 3 0 0 69) (qPc D cy b adK adV h [qr b x0, .int x1]) (qQc D cy b qrI Q) 0 0 (qA b) := by
  refine qmet (L0 := [(0, .inr (.inr (.inl x0))), (1, .inl x1)]) qm_X_day (plainFor_of_name (by decide)) [.inr (.inr (.inl x0)), .inl x1] rfl (Nat.le_of_ble_eq_true rfl) rfl (fun p e s m args below meth c X => ?_)
  unfold w_X_day at hw
  refine qx_aload_n (x := x0) X d_X_day_0 rfl 0 rfl ?_
  refine qx_iload_n (x := x1) X d_X_day_1 rfl 1 rfl ?_
  obtain ⟨g1, hw⟩ := hw
  refine qx_callVI (st := []) (As := [.int x1]) X (t_X_isPerson (adK := adK) (adV := adV) l D cy b N x0 x1 h _ hw) qm_X_isPerson wm_X_139 wi_X_isPerson wl_X_isPerson qcls11 g1 rfl rfl rfl ⟨Nat.le_of_ble_eq_true rfl, Nat.le_of_ble_eq_true rfl⟩ ⟨Nat.le_refl 0, Nat.le_refl 0⟩ (Nat.le_of_ble_eq_true rfl) rfl d_X_day_2 (fun r2 h3 hw => ?_)
  refine qx_if_ne X 10 d_X_day_5 (by decide) (fun q4 => ?_) (fun q4 => ?_)
  · have hw := hw.1 q4
    refine qx_aload_n (x := x0) X d_X_day_10 rfl 0 rfl ?_
    obtain ⟨g5, hw⟩ := hw
    refine qx_getR X qcls11 g5 4 (by decide) rfl wf_X_41 d_X_day_11 ?_
    refine qx_aload_n (x := x0) X d_X_day_14 rfl 0 rfl ?_
    refine qx_getR X qcls11 g5 3 (by decide) rfl wf_X_37 d_X_day_15 ?_
    obtain ⟨g6, hw⟩ := hw
    refine qx_callVV (st := []) (As := [qr b (qR h3 x0 3)]) X (t_State_become (adK := adK) (adV := adV) l D cy b N (qR h3 x0 4) (qR h3 x0 3) h3 _ hw) qm_State_become wm_X_227 wi_State_become wl_State_become qcls6 g6 rfl rfl rfl ⟨Nat.le_of_ble_eq_true rfl, Nat.le_of_ble_eq_true rfl⟩ ⟨Nat.le_refl 0, Nat.le_refl 0⟩ (Nat.le_of_ble_eq_true rfl) rfl d_X_day_18 (fun h7 hw => ?_)
    refine qx_iconst (v := (0 : Int32)) X d_X_day_21 (by decide) ?_
    refine qx_istore_n (L' := [(2, .inl (0 : Int32)), (0, .inr (.inr (.inl x0))), (1, .inl x1)]) X d_X_day_22 rfl (by decide) rfl ?_
    refine qx_sub [1, 2, 0] rfl ?_
    exact t_X_day_23 X N N x0 x1 (0 : Int32) h7 Q  hw 
  · have hw := hw.2 q4
    refine qx_iconst (v := (-1 : Int32)) X d_X_day_8 (by decide) ?_
    exact qx_iret X hw (Nat.le_refl 0) (Nat.le_refl 0) rfl d_X_day_9
set_option maxRecDepth 4000 in
theorem t_X_then {adK adV : Nat → Nat} (l : Launch) (D : va_G) (cy : Nat → ClassId) (b : Nat) (N : Nat) (x0 : Nat) (x1 : Int32) (x2 : Int32) (x3 : Int32) (h : qH) (Q : Int32 → qH → Prop) (hw : w_X_then N x0 x1 x2 x3 h Q) : Met l y_X_then (Cond.code y_X_then prog_1_method_36_code 4 (some .int) :: qT) (qrm 6 0 0 139) (qPc D cy b adK adV h [qr b x0, .int x1, .int x2, .int x3]) (qQc D cy b qrI Q) 0 0 (qA b) := by
  refine qmet (L0 := [(0, .inr (.inr (.inl x0))), (1, .inl x1), (2, .inl x2), (3, .inl x3)]) qm_X_then (plainFor_of_name (by decide)) [.inr (.inr (.inl x0)), .inl x1, .inl x2, .inl x3] rfl (Nat.le_of_ble_eq_true rfl) rfl (fun p e s m args below meth c X => ?_)
  unfold w_X_then at hw
  refine qx_aload_n (x := x0) X d_X_then_0 rfl 0 rfl ?_
  refine qx_iload_n (x := x1) X d_X_then_1 rfl 1 rfl ?_
  obtain ⟨g1, hw⟩ := hw
  refine qx_callVI (st := []) (As := [.int x1]) X (t_X_isPerson (adK := adK) (adV := adV) l D cy b N x0 x1 h _ hw) qm_X_isPerson wm_X_139 wi_X_isPerson wl_X_isPerson qcls11 g1 rfl rfl rfl ⟨Nat.le_of_ble_eq_true rfl, Nat.le_of_ble_eq_true rfl⟩ ⟨Nat.le_refl 0, Nat.le_refl 0⟩ (Nat.le_of_ble_eq_true rfl) rfl d_X_then_2 (fun r2 h3 hw => ?_)
  refine qx_if_eq X 24 d_X_then_5 (by decide) (fun q4 => ?_) (fun q4 => ?_)
  · have hw := hw.1 q4
    refine qx_iconst (v := (-1 : Int32)) X d_X_then_24 (by decide) ?_
    exact qx_iret X hw (Nat.le_refl 0) (Nat.le_refl 0) rfl d_X_then_25
  · have hw := hw.2 q4
    refine qx_iload_n (x := x2) X d_X_then_8 rfl 2 rfl ?_
    refine qx_callSI (st := []) (As := [.int x2]) X (t_X_isFewNights (adK := adK) (adV := adV) l D cy b N x2 h3 _ hw) qm_X_isFewNights wm_X_181 wi_X_isFewNights rfl rfl rfl ⟨Nat.le_of_ble_eq_true rfl, Nat.le_of_ble_eq_true rfl⟩ ⟨Nat.le_refl 0, Nat.le_refl 0⟩ (Nat.le_of_ble_eq_true rfl) rfl d_X_then_9 (fun r5 h6 hw => ?_)
    refine qx_if_eq X 24 d_X_then_12 (by decide) (fun q7 => ?_) (fun q7 => ?_)
    · have hw := hw.1 q7
      refine qx_iconst (v := (-1 : Int32)) X d_X_then_24 (by decide) ?_
      exact qx_iret X hw (Nat.le_refl 0) (Nat.le_refl 0) rfl d_X_then_25
    · have hw := hw.2 q7
      refine qx_iload_n (x := x3) X d_X_then_15 rfl 3 rfl ?_
      refine qx_if_lt X 24 d_X_then_16 (by decide) (fun q8 => ?_) (fun q8 => ?_)
      · have hw := hw.1 q8
        refine qx_iconst (v := (-1 : Int32)) X d_X_then_24 (by decide) ?_
        exact qx_iret X hw (Nat.le_refl 0) (Nat.le_refl 0) rfl d_X_then_25
      · have hw := hw.2 q8
        refine qx_iload_n (x := x3) X d_X_then_19 rfl 3 rfl ?_
        refine qx_iconst (v := (2 : Int32)) X d_X_then_20 (by decide) ?_
        refine qx_icmp_le X 26 d_X_then_21 (by decide) (fun q9 => ?_) (fun q9 => ?_)
        · have hw := hw.1 q9
          refine qx_aload_n (x := x0) X d_X_then_26 rfl 0 rfl ?_
          obtain ⟨g10, hw⟩ := hw
          refine qx_getR X qcls11 g10 4 (by decide) rfl wf_X_41 d_X_then_27 ?_
          refine qx_aload_n (x := x0) X d_X_then_30 rfl 0 rfl ?_
          refine qx_getR X qcls11 g10 3 (by decide) rfl wf_X_37 d_X_then_31 ?_
          obtain ⟨g11, hw⟩ := hw
          refine qx_callVV (st := []) (As := [qr b (qR h6 x0 3)]) X (t_State_become (adK := adK) (adV := adV) l D cy b N (qR h6 x0 4) (qR h6 x0 3) h6 _ hw) qm_State_become wm_X_227 wi_State_become wl_State_become qcls6 g11 rfl rfl rfl ⟨Nat.le_of_ble_eq_true rfl, Nat.le_of_ble_eq_true rfl⟩ ⟨Nat.le_refl 0, Nat.le_refl 0⟩ (Nat.le_of_ble_eq_true rfl) rfl d_X_then_34 (fun h12 hw => ?_)
          refine qx_aload_n (x := x0) X d_X_then_37 rfl 0 rfl ?_
          obtain ⟨g13, hw⟩ := hw
          refine qx_getR X qcls11 g13 6 (by decide) rfl wf_X_56 d_X_then_38 ?_
          refine qx_aload_n (x := x0) X d_X_then_41 rfl 0 rfl ?_
          refine qx_getR X qcls11 g13 4 (by decide) rfl wf_X_41 d_X_then_42 ?_
          refine qx_iload_n (x := x2) X d_X_then_45 rfl 2 rfl ?_
          refine qx_aload_n (x := x0) X d_X_then_46 rfl 0 rfl ?_
          refine qx_getR X qcls11 g13 1 (by decide) rfl wf_X_19 d_X_then_47 ?_
          obtain ⟨g14, hw⟩ := hw
          refine qx_getI X qcls8 g14 12 (by decide) rfl wf_X_184 d_X_then_50 ?_
          obtain ⟨g15, hw⟩ := hw
          refine qx_callVV (st := []) (As := [qr b (qR h12 x0 4), .int x2, .int (qI h12 (qR h12 x0 1) 12)]) X (t_Night_goByWithAll (adK := adK) (adV := adV) l D cy b N (qR h12 x0 6) (qR h12 x0 4) x2 (qI h12 (qR h12 x0 1) 12) h12 _ hw) qm_Night_goByWithAll wm_X_187 wi_Night_goByWithAll wl_Night_goByWithAll qcls1 g15 rfl rfl rfl ⟨Nat.le_of_ble_eq_true rfl, Nat.le_of_ble_eq_true rfl⟩ ⟨Nat.le_refl 0, Nat.le_refl 0⟩ (Nat.le_of_ble_eq_true rfl) rfl d_X_then_53 (fun h16 hw => ?_)
          refine qx_iload_n (x := x3) X d_X_then_56 rfl 3 rfl ?_
          by_cases q17 : x3 = (0 : Int32)
          · have hw := hw.1 q17
            refine qx_lookup (off := (27)) X 84 d_X_then_57 rfl (by rw [q17]; rfl) (by decide) ?_
            refine qx_aload_n (x := x0) X d_X_then_84 rfl 0 rfl ?_
            obtain ⟨g18, hw⟩ := hw
            refine qx_getR X qcls11 g18 4 (by decide) rfl wf_X_41 d_X_then_85 ?_
            obtain ⟨g19, hw⟩ := hw
            refine qx_getR X qcls6 g19 4 (by decide) rfl wf_X_151 d_X_then_88 ?_
            refine qx_iload_n (x := x1) X d_X_then_91 rfl 1 rfl ?_
            obtain ⟨g20, hw⟩ := hw
            refine qx_ild X g20 d_X_then_92 ?_
            exact qx_iret X hw (Nat.le_refl 0) (Nat.le_refl 0) rfl d_X_then_93
          · have hw := hw.2 q17
            by_cases q21 : x3 = (1 : Int32)
            · have hw := hw.1 q21
              refine qx_lookup (off := (37)) X 94 d_X_then_57 rfl (by rw [q21]; rfl) (by decide) ?_
              refine qx_aload_n (x := x0) X d_X_then_94 rfl 0 rfl ?_
              obtain ⟨g22, hw⟩ := hw
              refine qx_getR X qcls11 g22 4 (by decide) rfl wf_X_41 d_X_then_95 ?_
              obtain ⟨g23, hw⟩ := hw
              refine qx_getR X qcls6 g23 5 (by decide) rfl wf_X_154 d_X_then_98 ?_
              refine qx_iload_n (x := x1) X d_X_then_101 rfl 1 rfl ?_
              obtain ⟨g24, hw⟩ := hw
              refine qx_ild X g24 d_X_then_102 ?_
              exact qx_iret X hw (Nat.le_refl 0) (Nat.le_refl 0) rfl d_X_then_103
            · have hw := hw.2 q21
              have nq17 : x3.toInt ≠ 0 := fun z => q17 (Int32.toInt_inj.mp z)
              have nq21 : x3.toInt ≠ 1 := fun z => q21 (Int32.toInt_inj.mp z)
              refine qx_lookup X 104 d_X_then_57 rfl (qlk_2 nq17 nq21) (by decide) ?_
              refine qx_aload_n (x := x0) X d_X_then_104 rfl 0 rfl ?_
              obtain ⟨g25, hw⟩ := hw
              refine qx_getR X qcls11 g25 4 (by decide) rfl wf_X_41 d_X_then_105 ?_
              obtain ⟨g26, hw⟩ := hw
              refine qx_getR X qcls6 g26 3 (by decide) rfl wf_X_148 d_X_then_108 ?_
              refine qx_iload_n (x := x1) X d_X_then_111 rfl 1 rfl ?_
              obtain ⟨g27, hw⟩ := hw
              refine qx_ild X g27 d_X_then_112 ?_
              exact qx_iret X hw (Nat.le_refl 0) (Nat.le_refl 0) rfl d_X_then_113
        · have hw := hw.2 q9
          refine qx_iconst (v := (-1 : Int32)) X d_X_then_24 (by decide) ?_
          exact qx_iret X hw (Nat.le_refl 0) (Nat.le_refl 0) rfl d_X_then_25
set_option maxRecDepth 4000 in
theorem t_X_bentIn {adK adV : Nat → Nat} (l : Launch) (D : va_G) (cy : Nat → ClassId) (b : Nat) (N : Nat) (x0 : Nat) (x1 : Int32) (x2 : Int32) (h : qH) (Q : Int32 → qH → Prop) (hw : w_X_bentIn N x0 x1 x2 h Q) : Met l y_X_bentIn (Cond.code y_X_bentIn prog_1_method_37_code 3 (some .int) :: qT) (qrm 6 0 0 139) (qPc D cy b adK adV h [qr b x0, .int x1, .int x2]) (qQc D cy b qrI Q) 0 0 (qA b) := by
  refine qmet (L0 := [(0, .inr (.inr (.inl x0))), (1, .inl x1), (2, .inl x2)]) qm_X_bentIn (plainFor_of_name (by decide)) [.inr (.inr (.inl x0)), .inl x1, .inl x2] rfl (Nat.le_of_ble_eq_true rfl) rfl (fun p e s m args below meth c X => ?_)
  unfold w_X_bentIn at hw
  refine qx_aload_n (x := x0) X d_X_bentIn_0 rfl 0 rfl ?_
  refine qx_iload_n (x := x1) X d_X_bentIn_1 rfl 1 rfl ?_
  obtain ⟨g1, hw⟩ := hw
  refine qx_callVI (st := []) (As := [.int x1]) X (t_X_isHanger (adK := adK) (adV := adV) l D cy b N x0 x1 h _ hw) qm_X_isHanger wm_X_122 wi_X_isHanger wl_X_isHanger qcls11 g1 rfl rfl rfl ⟨Nat.le_of_ble_eq_true rfl, Nat.le_of_ble_eq_true rfl⟩ ⟨Nat.le_refl 0, Nat.le_refl 0⟩ (Nat.le_of_ble_eq_true rfl) rfl d_X_bentIn_2 (fun r2 h3 hw => ?_)
  refine qx_if_eq X 15 d_X_bentIn_5 (by decide) (fun q4 => ?_) (fun q4 => ?_)
  · have hw := hw.1 q4
    refine qx_iconst (v := (-1 : Int32)) X d_X_bentIn_15 (by decide) ?_
    exact qx_iret X hw (Nat.le_refl 0) (Nat.le_refl 0) rfl d_X_bentIn_16
  · have hw := hw.2 q4
    refine qx_iload_n (x := x2) X d_X_bentIn_8 rfl 2 rfl ?_
    refine qx_callSI (st := []) (As := [.int x2]) X (t_X_isFewNights (adK := adK) (adV := adV) l D cy b N x2 h3 _ hw) qm_X_isFewNights wm_X_181 wi_X_isFewNights rfl rfl rfl ⟨Nat.le_of_ble_eq_true rfl, Nat.le_of_ble_eq_true rfl⟩ ⟨Nat.le_refl 0, Nat.le_refl 0⟩ (Nat.le_of_ble_eq_true rfl) rfl d_X_bentIn_9 (fun r5 h6 hw => ?_)
    refine qx_if_ne X 17 d_X_bentIn_12 (by decide) (fun q7 => ?_) (fun q7 => ?_)
    · have hw := hw.1 q7
      refine qx_aload_n (x := x0) X d_X_bentIn_17 rfl 0 rfl ?_
      obtain ⟨g8, hw⟩ := hw
      refine qx_getR X qcls11 g8 4 (by decide) rfl wf_X_41 d_X_bentIn_18 ?_
      refine qx_aload_n (x := x0) X d_X_bentIn_21 rfl 0 rfl ?_
      refine qx_getR X qcls11 g8 3 (by decide) rfl wf_X_37 d_X_bentIn_22 ?_
      obtain ⟨g9, hw⟩ := hw
      refine qx_callVV (st := []) (As := [qr b (qR h6 x0 3)]) X (t_State_become (adK := adK) (adV := adV) l D cy b N (qR h6 x0 4) (qR h6 x0 3) h6 _ hw) qm_State_become wm_X_227 wi_State_become wl_State_become qcls6 g9 rfl rfl rfl ⟨Nat.le_of_ble_eq_true rfl, Nat.le_of_ble_eq_true rfl⟩ ⟨Nat.le_refl 0, Nat.le_refl 0⟩ (Nat.le_of_ble_eq_true rfl) rfl d_X_bentIn_25 (fun h10 hw => ?_)
      refine qx_aload_n (x := x0) X d_X_bentIn_28 rfl 0 rfl ?_
      obtain ⟨g11, hw⟩ := hw
      refine qx_getR X qcls11 g11 6 (by decide) rfl wf_X_56 d_X_bentIn_29 ?_
      refine qx_aload_n (x := x0) X d_X_bentIn_32 rfl 0 rfl ?_
      refine qx_getR X qcls11 g11 4 (by decide) rfl wf_X_41 d_X_bentIn_33 ?_
      refine qx_iload_n (x := x2) X d_X_bentIn_36 rfl 2 rfl ?_
      refine qx_aload_n (x := x0) X d_X_bentIn_37 rfl 0 rfl ?_
      refine qx_getR X qcls11 g11 1 (by decide) rfl wf_X_19 d_X_bentIn_38 ?_
      obtain ⟨g12, hw⟩ := hw
      refine qx_getI X qcls8 g12 12 (by decide) rfl wf_X_184 d_X_bentIn_41 ?_
      obtain ⟨g13, hw⟩ := hw
      refine qx_callVV (st := []) (As := [qr b (qR h10 x0 4), .int x2, .int (qI h10 (qR h10 x0 1) 12)]) X (t_Night_goByWithAll (adK := adK) (adV := adV) l D cy b N (qR h10 x0 6) (qR h10 x0 4) x2 (qI h10 (qR h10 x0 1) 12) h10 _ hw) qm_Night_goByWithAll wm_X_187 wi_Night_goByWithAll wl_Night_goByWithAll qcls1 g13 rfl rfl rfl ⟨Nat.le_of_ble_eq_true rfl, Nat.le_of_ble_eq_true rfl⟩ ⟨Nat.le_refl 0, Nat.le_refl 0⟩ (Nat.le_of_ble_eq_true rfl) rfl d_X_bentIn_44 (fun h14 hw => ?_)
      refine qx_aload_n (x := x0) X d_X_bentIn_47 rfl 0 rfl ?_
      obtain ⟨g15, hw⟩ := hw
      refine qx_getR X qcls11 g15 4 (by decide) rfl wf_X_41 d_X_bentIn_48 ?_
      obtain ⟨g16, hw⟩ := hw
      refine qx_getR X qcls6 g16 6 (by decide) rfl wf_X_132 d_X_bentIn_51 ?_
      refine qx_iload_n (x := x1) X d_X_bentIn_54 rfl 1 rfl ?_
      obtain ⟨g17, hw⟩ := hw
      refine qx_ild X g17 d_X_bentIn_55 ?_
      exact qx_iret X hw (Nat.le_refl 0) (Nat.le_refl 0) rfl d_X_bentIn_56
    · have hw := hw.2 q7
      refine qx_iconst (v := (-1 : Int32)) X d_X_bentIn_15 (by decide) ?_
      exact qx_iret X hw (Nat.le_refl 0) (Nat.le_refl 0) rfl d_X_bentIn_16
set_option maxRecDepth 4000 in
theorem t_X_year_34 (X : qX p s m args meth c D cy b adK adV prog_1_method_38_code "CoatHangers" 6 (some .int) "year") (N k : Nat) (x0 : Nat) (x1 : Int32) (x2 : Int32) (x3 : Int32) (x4 : Int32) (x5 : Int32) (h : qH) (Q : Int32 → qH → Prop)  (hw : w_X_year_34 N k x0 x1 x2 x3 x4 x5 h Q ) : qW p l e (qrm 6 0 0 140) s m args below meth c D cy b 6 0 0 (MQ below (qQc D cy b qrI Q) args s 0 0 (qA b)) 34 [(0, .inr (.inr (.inl x0))), (1, .inl x1), (2, .inl x2), (3, .inl x3), (4, .inl x4), (5, .inl x5)] [] h := by
  induction k generalizing x0 x1 x2 x3 x4 x5 h with
  | zero => exact hw.elim
  | succ k ih =>
    refine qx_iload (x := x5) X d_X_year_34 5 rfl ?_
    refine qx_iload_n (x := x3) X d_X_year_36 rfl 3 rfl ?_
    refine qx_icmp_ge X 93 d_X_year_37 (by decide) (fun q1 => ?_) (fun q1 => ?_)
    · have hw := hw.1 q1
      refine qx_iload (x := x4) X d_X_year_93 4 rfl ?_
      exact qx_iret X hw (Nat.le_refl 0) (Nat.le_refl 0) rfl d_X_year_95
    · have hw := hw.2 q1
      refine qx_aload_n (x := x0) X d_X_year_40 rfl 0 rfl ?_
      obtain ⟨g2, hw⟩ := hw
      refine qx_getR X qcls11 g2 4 (by decide) rfl wf_X_41 d_X_year_41 ?_
      refine qx_aload_n (x := x0) X d_X_year_44 rfl 0 rfl ?_
      refine qx_getR X qcls11 g2 3 (by decide) rfl wf_X_37 d_X_year_45 ?_
      obtain ⟨g3, hw⟩ := hw
      refine qx_callVV (st := []) (As := [qr b (qR h x0 3)]) X (t_State_become (adK := adK) (adV := adV) l D cy b N (qR h x0 4) (qR h x0 3) h _ hw) qm_State_become wm_X_227 wi_State_become wl_State_become qcls6 g3 rfl rfl rfl ⟨Nat.le_of_ble_eq_true rfl, Nat.le_of_ble_eq_true rfl⟩ ⟨Nat.le_refl 0, Nat.le_refl 0⟩ (Nat.le_of_ble_eq_true rfl) rfl d_X_year_48 (fun h4 hw => ?_)
      refine qx_iload (x := x4) X d_X_year_51 4 rfl ?_
      refine qx_aload_n (x := x0) X d_X_year_53 rfl 0 rfl ?_
      obtain ⟨g5, hw⟩ := hw
      refine qx_getR X qcls11 g5 6 (by decide) rfl wf_X_56 d_X_year_54 ?_
      refine qx_aload_n (x := x0) X d_X_year_57 rfl 0 rfl ?_
      refine qx_getR X qcls11 g5 4 (by decide) rfl wf_X_41 d_X_year_58 ?_
      refine qx_iload_n (x := x2) X d_X_year_61 rfl 2 rfl ?_
      refine qx_aload_n (x := x0) X d_X_year_62 rfl 0 rfl ?_
      refine qx_getR X qcls11 g5 1 (by decide) rfl wf_X_19 d_X_year_63 ?_
      obtain ⟨g6, hw⟩ := hw
      refine qx_getI X qcls8 g6 12 (by decide) rfl wf_X_184 d_X_year_66 ?_
      refine qx_iload (x := x5) X d_X_year_69 5 rfl ?_
      refine qx_iadd X d_X_year_71 ?_
      refine qx_iload_n (x := x1) X d_X_year_72 rfl 1 rfl ?_
      obtain ⟨g7, hw⟩ := hw
      refine qx_callVI (st := [.int x4]) (As := [qr b (qR h4 x0 4), .int x2, .int ((qI h4 (qR h4 x0 1) 12) + x5), .int x1]) X (t_Night_staysHung (adK := adK) (adV := adV) l D cy b N (qR h4 x0 6) (qR h4 x0 4) x2 ((qI h4 (qR h4 x0 1) 12) + x5) x1 h4 _ hw) qm_Night_staysHung wm_X_262 wi_Night_staysHung wl_Night_staysHung qcls1 g7 rfl rfl rfl ⟨Nat.le_of_ble_eq_true rfl, Nat.le_of_ble_eq_true rfl⟩ ⟨Nat.le_refl 0, Nat.le_refl 0⟩ (Nat.le_of_ble_eq_true rfl) rfl d_X_year_73 (fun r8 h9 hw => ?_)
      refine qx_if_eq X 83 d_X_year_76 (by decide) (fun q10 => ?_) (fun q10 => ?_)
      · have hw := hw.1 q10
        refine qx_iconst (v := (0 : Int32)) X d_X_year_83 (by decide) ?_
        refine qx_iadd X d_X_year_84 ?_
        refine qx_topi (fun y11 ey11 => ?_)
        have hw := hw y11 ey11
        refine qx_istore (L' := [(4, .inl y11), (0, .inr (.inr (.inl x0))), (1, .inl x1), (2, .inl x2), (3, .inl x3), (5, .inl x5)]) X d_X_year_85 (by decide) rfl ?_
        refine qx_iinc (v := (x5 + (1 : Int32))) (L' := [(5, .inl (x5 + (1 : Int32))), (4, .inl y11), (0, .inr (.inr (.inl x0))), (1, .inl x1), (2, .inl x2), (3, .inl x3)]) X d_X_year_87 5 rfl rfl (by decide) rfl ?_
        refine qx_goto X 34 d_X_year_90 (by decide) ?_
        refine qx_sub [2, 3, 4, 5, 1, 0] rfl ?_
        exact ih x0 x1 x2 x3 y11 (x5 + (1 : Int32)) h9 hw
      · have hw := hw.2 q10
        refine qx_iconst (v := (1 : Int32)) X d_X_year_79 (by decide) ?_
        refine qx_goto X 84 d_X_year_80 (by decide) ?_
        refine qx_iadd X d_X_year_84 ?_
        refine qx_topi (fun y12 ey12 => ?_)
        have hw := hw y12 ey12
        refine qx_istore (L' := [(4, .inl y12), (0, .inr (.inr (.inl x0))), (1, .inl x1), (2, .inl x2), (3, .inl x3), (5, .inl x5)]) X d_X_year_85 (by decide) rfl ?_
        refine qx_iinc (v := (x5 + (1 : Int32))) (L' := [(5, .inl (x5 + (1 : Int32))), (4, .inl y12), (0, .inr (.inr (.inl x0))), (1, .inl x1), (2, .inl x2), (3, .inl x3)]) X d_X_year_87 5 rfl rfl (by decide) rfl ?_
        refine qx_goto X 34 d_X_year_90 (by decide) ?_
        refine qx_sub [2, 3, 4, 5, 1, 0] rfl ?_
        exact ih x0 x1 x2 x3 y12 (x5 + (1 : Int32)) h9 hw
set_option maxRecDepth 4000 in
theorem t_X_year {adK adV : Nat → Nat} (l : Launch) (D : va_G) (cy : Nat → ClassId) (b : Nat) (N : Nat) (x0 : Nat) (x1 : Int32) (x2 : Int32) (x3 : Int32) (h : qH) (Q : Int32 → qH → Prop) (hw : w_X_year N x0 x1 x2 x3 h Q) : Met l y_X_year (Cond.code y_X_year prog_1_method_38_code 6 (some .int) :: qT) (qrm 6 0 0 140) (qPc D cy b adK adV h [qr b x0, .int x1, .int x2, .int x3]) (qQc D cy b qrI Q) 0 0 (qA b) := by
  refine qmet (L0 := [(0, .inr (.inr (.inl x0))), (1, .inl x1), (2, .inl x2), (3, .inl x3)]) qm_X_year (plainFor_of_name (by decide)) [.inr (.inr (.inl x0)), .inl x1, .inl x2, .inl x3] rfl (Nat.le_of_ble_eq_true rfl) rfl (fun p e s m args below meth c X => ?_)
  unfold w_X_year at hw
  refine qx_aload_n (x := x0) X d_X_year_0 rfl 0 rfl ?_
  refine qx_iload_n (x := x1) X d_X_year_1 rfl 1 rfl ?_
  obtain ⟨g1, hw⟩ := hw
  refine qx_callVI (st := []) (As := [.int x1]) X (t_X_isPerson (adK := adK) (adV := adV) l D cy b N x0 x1 h _ hw) qm_X_isPerson wm_X_139 wi_X_isPerson wl_X_isPerson qcls11 g1 rfl rfl rfl ⟨Nat.le_of_ble_eq_true rfl, Nat.le_of_ble_eq_true rfl⟩ ⟨Nat.le_refl 0, Nat.le_refl 0⟩ (Nat.le_of_ble_eq_true rfl) rfl d_X_year_2 (fun r2 h3 hw => ?_)
  refine qx_if_eq X 26 d_X_year_5 (by decide) (fun q4 => ?_) (fun q4 => ?_)
  · have hw := hw.1 q4
    refine qx_iconst (v := (-1 : Int32)) X d_X_year_26 (by decide) ?_
    exact qx_iret X hw (Nat.le_refl 0) (Nat.le_refl 0) rfl d_X_year_27
  · have hw := hw.2 q4
    refine qx_iload_n (x := x2) X d_X_year_8 rfl 2 rfl ?_
    refine qx_callSI (st := []) (As := [.int x2]) X (t_X_isFewNights (adK := adK) (adV := adV) l D cy b N x2 h3 _ hw) qm_X_isFewNights wm_X_181 wi_X_isFewNights rfl rfl rfl ⟨Nat.le_of_ble_eq_true rfl, Nat.le_of_ble_eq_true rfl⟩ ⟨Nat.le_refl 0, Nat.le_refl 0⟩ (Nat.le_of_ble_eq_true rfl) rfl d_X_year_9 (fun r5 h6 hw => ?_)
    refine qx_if_eq X 26 d_X_year_12 (by decide) (fun q7 => ?_) (fun q7 => ?_)
    · have hw := hw.1 q7
      refine qx_iconst (v := (-1 : Int32)) X d_X_year_26 (by decide) ?_
      exact qx_iret X hw (Nat.le_refl 0) (Nat.le_refl 0) rfl d_X_year_27
    · have hw := hw.2 q7
      refine qx_iload_n (x := x3) X d_X_year_15 rfl 3 rfl ?_
      refine qx_iconst (v := (1 : Int32)) X d_X_year_16 (by decide) ?_
      refine qx_icmp_lt X 26 d_X_year_17 (by decide) (fun q8 => ?_) (fun q8 => ?_)
      · have hw := hw.1 q8
        refine qx_iconst (v := (-1 : Int32)) X d_X_year_26 (by decide) ?_
        exact qx_iret X hw (Nat.le_refl 0) (Nat.le_refl 0) rfl d_X_year_27
      · have hw := hw.2 q8
        refine qx_iload_n (x := x3) X d_X_year_20 rfl 3 rfl ?_
        refine qx_bipush (v := (20 : Int32)) X d_X_year_21 (by decide) ?_
        refine qx_icmp_le X 28 d_X_year_23 (by decide) (fun q9 => ?_) (fun q9 => ?_)
        · have hw := hw.1 q9
          refine qx_iconst (v := (0 : Int32)) X d_X_year_28 (by decide) ?_
          refine qx_istore (L' := [(4, .inl (0 : Int32)), (0, .inr (.inr (.inl x0))), (1, .inl x1), (2, .inl x2), (3, .inl x3)]) X d_X_year_29 (by decide) rfl ?_
          refine qx_iconst (v := (0 : Int32)) X d_X_year_31 (by decide) ?_
          refine qx_istore (L' := [(5, .inl (0 : Int32)), (4, .inl (0 : Int32)), (0, .inr (.inr (.inl x0))), (1, .inl x1), (2, .inl x2), (3, .inl x3)]) X d_X_year_32 (by decide) rfl ?_
          refine qx_sub [2, 3, 4, 5, 1, 0] rfl ?_
          exact t_X_year_34 X N N x0 x1 x2 x3 (0 : Int32) (0 : Int32) h6 Q  hw 
        · have hw := hw.2 q9
          refine qx_iconst (v := (-1 : Int32)) X d_X_year_26 (by decide) ?_
          exact qx_iret X hw (Nat.le_refl 0) (Nat.le_refl 0) rfl d_X_year_27
set_option maxRecDepth 4000 in
theorem t_X_tell {adK adV : Nat → Nat} (l : Launch) (D : va_G) (cy : Nat → ClassId) (b : Nat) (N : Nat) (x0 : Nat) (x1 : Int32) (x2 : Int32) (x3 : Int32) (h : qH) (Q : Int32 → qH → Prop) (hw : w_X_tell N x0 x1 x2 x3 h Q) : Met l y_X_tell (Cond.code y_X_tell prog_1_method_39_code 4 (some .int) :: qT) (qrm 2 0 0 43) (qPc D cy b adK adV h [qr b x0, .int x1, .int x2, .int x3]) (qQc D cy b qrI Q) 0 0 (qA b) := by
  refine qmet (L0 := [(0, .inr (.inr (.inl x0))), (1, .inl x1), (2, .inl x2), (3, .inl x3)]) qm_X_tell (plainFor_of_name (by decide)) [.inr (.inr (.inl x0)), .inl x1, .inl x2, .inl x3] rfl (Nat.le_of_ble_eq_true rfl) rfl (fun p e s m args below meth c X => ?_)
  unfold w_X_tell at hw
  refine qx_aload_n (x := x0) X d_X_tell_0 rfl 0 rfl ?_
  refine qx_iload_n (x := x1) X d_X_tell_1 rfl 1 rfl ?_
  obtain ⟨g1, hw⟩ := hw
  refine qx_callVI (st := []) (As := [.int x1]) X (t_X_isPerson (adK := adK) (adV := adV) l D cy b N x0 x1 h _ hw) qm_X_isPerson wm_X_139 wi_X_isPerson wl_X_isPerson qcls11 g1 rfl rfl rfl ⟨Nat.le_of_ble_eq_true rfl, Nat.le_of_ble_eq_true rfl⟩ ⟨Nat.le_refl 0, Nat.le_refl 0⟩ (Nat.le_of_ble_eq_true rfl) rfl d_X_tell_2 (fun r2 h3 hw => ?_)
  refine qx_if_eq X 26 d_X_tell_5 (by decide) (fun q4 => ?_) (fun q4 => ?_)
  · have hw := hw.1 q4
    refine qx_iconst (v := (-1 : Int32)) X d_X_tell_26 (by decide) ?_
    exact qx_iret X hw (Nat.le_refl 0) (Nat.le_refl 0) rfl d_X_tell_27
  · have hw := hw.2 q4
    refine qx_aload_n (x := x0) X d_X_tell_8 rfl 0 rfl ?_
    refine qx_iload_n (x := x2) X d_X_tell_9 rfl 2 rfl ?_
    obtain ⟨g5, hw⟩ := hw
    refine qx_callVI (st := []) (As := [.int x2]) X (t_X_isPerson (adK := adK) (adV := adV) l D cy b N x0 x2 h3 _ hw) qm_X_isPerson wm_X_139 wi_X_isPerson wl_X_isPerson qcls11 g5 rfl rfl rfl ⟨Nat.le_of_ble_eq_true rfl, Nat.le_of_ble_eq_true rfl⟩ ⟨Nat.le_refl 0, Nat.le_refl 0⟩ (Nat.le_of_ble_eq_true rfl) rfl d_X_tell_10 (fun r6 h7 hw => ?_)
    refine qx_if_eq X 26 d_X_tell_13 (by decide) (fun q8 => ?_) (fun q8 => ?_)
    · have hw := hw.1 q8
      refine qx_iconst (v := (-1 : Int32)) X d_X_tell_26 (by decide) ?_
      exact qx_iret X hw (Nat.le_refl 0) (Nat.le_refl 0) rfl d_X_tell_27
    · have hw := hw.2 q8
      refine qx_aload_n (x := x0) X d_X_tell_16 rfl 0 rfl ?_
      obtain ⟨g9, hw⟩ := hw
      refine qx_getR X qcls11 g9 8 (by decide) rfl wf_X_72 d_X_tell_17 ?_
      obtain ⟨g10, hw⟩ := hw
      refine qx_callVI (st := []) (As := []) X (t_Told_hasRoom (adK := adK) (adV := adV) l D cy b N (qR h7 x0 8) h7 _ hw) qm_Told_hasRoom wm_X_266 wi_Told_hasRoom wl_Told_hasRoom qcls9 g10 rfl rfl rfl ⟨Nat.le_of_ble_eq_true rfl, Nat.le_of_ble_eq_true rfl⟩ ⟨Nat.le_refl 0, Nat.le_refl 0⟩ (Nat.le_of_ble_eq_true rfl) rfl d_X_tell_20 (fun r11 h12 hw => ?_)
      refine qx_if_ne X 28 d_X_tell_23 (by decide) (fun q13 => ?_) (fun q13 => ?_)
      · have hw := hw.1 q13
        refine qx_aload_n (x := x0) X d_X_tell_28 rfl 0 rfl ?_
        obtain ⟨g14, hw⟩ := hw
        refine qx_getR X qcls11 g14 8 (by decide) rfl wf_X_72 d_X_tell_29 ?_
        refine qx_iload_n (x := x1) X d_X_tell_32 rfl 1 rfl ?_
        refine qx_iload_n (x := x2) X d_X_tell_33 rfl 2 rfl ?_
        refine qx_iload_n (x := x3) X d_X_tell_34 rfl 3 rfl ?_
        obtain ⟨g15, hw⟩ := hw
        refine qx_callVI (st := []) (As := [.int x1, .int x2, .int x3]) X (t_Told_add (adK := adK) (adV := adV) l D cy b N (qR h12 x0 8) x1 x2 x3 h12 _ hw) qm_Told_add wm_X_270 wi_Told_add wl_Told_add qcls9 g15 rfl rfl rfl ⟨Nat.le_of_ble_eq_true rfl, Nat.le_of_ble_eq_true rfl⟩ ⟨Nat.le_refl 0, Nat.le_refl 0⟩ (Nat.le_of_ble_eq_true rfl) rfl d_X_tell_35 (fun r16 h17 hw => ?_)
        exact qx_iret X hw (Nat.le_refl 0) (Nat.le_refl 0) rfl d_X_tell_38
      · have hw := hw.2 q13
        refine qx_iconst (v := (-1 : Int32)) X d_X_tell_26 (by decide) ?_
        exact qx_iret X hw (Nat.le_refl 0) (Nat.le_refl 0) rfl d_X_tell_27
set_option maxRecDepth 4000 in
theorem t_X_forget {adK adV : Nat → Nat} (l : Launch) (D : va_G) (cy : Nat → ClassId) (b : Nat) (N : Nat) (x0 : Nat) (h : qH) (Q : Int32 → qH → Prop) (hw : w_X_forget N x0 h Q) : Met l y_X_forget (Cond.code y_X_forget prog_1_method_40_code 2 (some .int) :: qT) (qrm 0 0 0 0) (qPc D cy b adK adV h [qr b x0]) (qQc D cy b qrI Q) 0 0 (qA b) := by
  refine qmet (L0 := [(0, .inr (.inr (.inl x0)))]) qm_X_forget (plainFor_of_name (by decide)) [.inr (.inr (.inl x0))] rfl (Nat.le_of_ble_eq_true rfl) rfl (fun p e s m args below meth c X => ?_)
  unfold w_X_forget at hw
  refine qx_aload_n (x := x0) X d_X_forget_0 rfl 0 rfl ?_
  obtain ⟨g1, hw⟩ := hw
  refine qx_getR X qcls11 g1 8 (by decide) rfl wf_X_72 d_X_forget_1 ?_
  obtain ⟨g2, hw⟩ := hw
  refine qx_getI X qcls9 g2 7 (by decide) rfl wf_X_118 d_X_forget_4 ?_
  refine qx_topi (fun y3 ey3 => ?_)
  have hw := hw y3 ey3
  refine qx_istore_n (L' := [(1, .inl y3), (0, .inr (.inr (.inl x0)))]) X d_X_forget_7 rfl (by decide) rfl ?_
  refine qx_aload_n (x := x0) X d_X_forget_8 rfl 1 rfl ?_
  refine qx_getR X qcls11 g1 8 (by decide) rfl wf_X_72 d_X_forget_9 ?_
  refine qx_iconst (v := (0 : Int32)) X d_X_forget_12 (by decide) ?_
  refine qx_putI X qcls9 g2 7 (by decide) rfl wf_X_118 rfl rfl rfl d_X_forget_13 ?_
  refine qx_toph (fun h4 eh4 => ?_)
  have hw := hw h4 eh4
  refine qx_iload_n (x := y3) X d_X_forget_16 rfl 0 rfl ?_
  exact qx_iret X hw (Nat.le_refl 0) (Nat.le_refl 0) rfl d_X_forget_17
set_option maxRecDepth 4000 in
theorem t_X_isKnown {adK adV : Nat → Nat} (l : Launch) (D : va_G) (cy : Nat → ClassId) (b : Nat) (N : Nat) (x0 : Nat) (x1 : Int32) (h : qH) (Q : Int32 → qH → Prop) (hw : w_X_isKnown N x0 x1 h Q) : Met l y_X_isKnown (Cond.code y_X_isKnown prog_1_method_48_code 2 (some .boolean) :: qT) (qrm 0 0 0 0) (qPc D cy b adK adV h [qr b x0, .int x1]) (qQc D cy b qrI Q) 0 0 (qA b) := by
  refine qmet (L0 := [(0, .inr (.inr (.inl x0))), (1, .inl x1)]) qm_X_isKnown (plainFor_of_name (by decide)) [.inr (.inr (.inl x0)), .inl x1] rfl (Nat.le_of_ble_eq_true rfl) rfl (fun p e s m args below meth c X => ?_)
  unfold w_X_isKnown at hw
  refine qx_iload_n (x := x1) X d_X_isKnown_0 rfl 1 rfl ?_
  refine qx_if_lt X 19 d_X_isKnown_1 (by decide) (fun q1 => ?_) (fun q1 => ?_)
  · have hw := hw.1 q1
    refine qx_iconst (v := (0 : Int32)) X d_X_isKnown_19 (by decide) ?_
    exact qx_zret X hw (Nat.le_refl 0) (Nat.le_refl 0) rfl d_X_isKnown_20
  · have hw := hw.2 q1
    refine qx_iload_n (x := x1) X d_X_isKnown_4 rfl 1 rfl ?_
    refine qx_aload_n (x := x0) X d_X_isKnown_5 rfl 0 rfl ?_
    obtain ⟨g2, hw⟩ := hw
    refine qx_getR X qcls11 g2 8 (by decide) rfl wf_X_72 d_X_isKnown_6 ?_
    obtain ⟨g3, hw⟩ := hw
    refine qx_getI X qcls9 g3 7 (by decide) rfl wf_X_118 d_X_isKnown_9 ?_
    refine qx_icmp_gt X 19 d_X_isKnown_12 (by decide) (fun q4 => ?_) (fun q4 => ?_)
    · have hw := hw.1 q4
      refine qx_iconst (v := (0 : Int32)) X d_X_isKnown_19 (by decide) ?_
      exact qx_zret X hw (Nat.le_refl 0) (Nat.le_refl 0) rfl d_X_isKnown_20
    · have hw := hw.2 q4
      refine qx_iconst (v := (1 : Int32)) X d_X_isKnown_15 (by decide) ?_
      refine qx_goto X 20 d_X_isKnown_16 (by decide) ?_
      exact qx_zret X hw (Nat.le_refl 0) (Nat.le_refl 0) rfl d_X_isKnown_20
set_option maxRecDepth 4000 in
theorem t_X_two {adK adV : Nat → Nat} (l : Launch) (D : va_G) (cy : Nat → ClassId) (b : Nat) (N : Nat) (x0 : Nat) (x1 : Int32) (x2 : Int32) (h : qH) (Q : Int32 → qH → Prop) (hw : w_X_two N x0 x1 x2 h Q) : Met l y_X_two (Cond.code y_X_two prog_1_method_41_code 3 (some .int) :: qT) (qrm 5 0 0 120) (qPc D cy b adK adV h [qr b x0, .int x1, .int x2]) (qQc D cy b qrI Q) 0 0 (qA b) := by
  refine qmet (L0 := [(0, .inr (.inr (.inl x0))), (1, .inl x1), (2, .inl x2)]) qm_X_two (plainFor_of_name (by decide)) [.inr (.inr (.inl x0)), .inl x1, .inl x2] rfl (Nat.le_of_ble_eq_true rfl) rfl (fun p e s m args below meth c X => ?_)
  unfold w_X_two at hw
  refine qx_aload_n (x := x0) X d_X_two_0 rfl 0 rfl ?_
  refine qx_iload_n (x := x1) X d_X_two_1 rfl 1 rfl ?_
  obtain ⟨g1, hw⟩ := hw
  refine qx_callVI (st := []) (As := [.int x1]) X (t_X_isKnown (adK := adK) (adV := adV) l D cy b N x0 x1 h _ hw) qm_X_isKnown wm_X_274 wi_X_isKnown wl_X_isKnown qcls11 g1 rfl rfl rfl ⟨Nat.le_of_ble_eq_true rfl, Nat.le_of_ble_eq_true rfl⟩ ⟨Nat.le_refl 0, Nat.le_refl 0⟩ (Nat.le_of_ble_eq_true rfl) rfl d_X_two_2 (fun r2 h3 hw => ?_)
  refine qx_if_eq X 13 d_X_two_5 (by decide) (fun q4 => ?_) (fun q4 => ?_)
  · have hw := hw.1 q4
    refine qx_iconst (v := (-1 : Int32)) X d_X_two_13 (by decide) ?_
    exact qx_iret X hw (Nat.le_refl 0) (Nat.le_refl 0) rfl d_X_two_14
  · have hw := hw.2 q4
    refine qx_iload_n (x := x2) X d_X_two_8 rfl 2 rfl ?_
    refine qx_iconst (v := (-1 : Int32)) X d_X_two_9 (by decide) ?_
    refine qx_icmp_ge X 15 d_X_two_10 (by decide) (fun q5 => ?_) (fun q5 => ?_)
    · have hw := hw.1 q5
      refine qx_iload_n (x := x2) X d_X_two_15 rfl 2 rfl ?_
      refine qx_iconst (v := (-1 : Int32)) X d_X_two_16 (by decide) ?_
      refine qx_icmp_ne X 35 d_X_two_17 (by decide) (fun q6 => ?_) (fun q6 => ?_)
      · have hw := hw.1 q6
        refine qx_aload_n (x := x0) X d_X_two_35 rfl 0 rfl ?_
        obtain ⟨g7, hw⟩ := hw
        refine qx_getR X qcls11 g7 8 (by decide) rfl wf_X_72 d_X_two_36 ?_
        refine qx_aload_n (x := x0) X d_X_two_39 rfl 0 rfl ?_
        refine qx_getR X qcls11 g7 3 (by decide) rfl wf_X_37 d_X_two_40 ?_
        refine qx_iload_n (x := x1) X d_X_two_43 rfl 1 rfl ?_
        refine qx_iload_n (x := x2) X d_X_two_44 rfl 2 rfl ?_
        obtain ⟨g8, hw⟩ := hw
        refine qx_callVI (st := []) (As := [qr b (qR h3 x0 3), .int x1, .int x2]) X (t_Told_pairLeft (adK := adK) (adV := adV) l D cy b N (qR h3 x0 8) (qR h3 x0 3) x1 x2 h3 _ hw) qm_Told_pairLeft wm_X_281 wi_Told_pairLeft wl_Told_pairLeft qcls9 g8 rfl rfl rfl ⟨Nat.le_of_ble_eq_true rfl, Nat.le_of_ble_eq_true rfl⟩ ⟨Nat.le_refl 0, Nat.le_refl 0⟩ (Nat.le_of_ble_eq_true rfl) rfl d_X_two_45 (fun r9 h10 hw => ?_)
        exact qx_iret X hw (Nat.le_refl 0) (Nat.le_refl 0) rfl d_X_two_48
      · have hw := hw.2 q6
        refine qx_aload_n (x := x0) X d_X_two_20 rfl 0 rfl ?_
        obtain ⟨g11, hw⟩ := hw
        refine qx_getR X qcls11 g11 8 (by decide) rfl wf_X_72 d_X_two_21 ?_
        refine qx_aload_n (x := x0) X d_X_two_24 rfl 0 rfl ?_
        refine qx_getR X qcls11 g11 3 (by decide) rfl wf_X_37 d_X_two_25 ?_
        refine qx_iload_n (x := x1) X d_X_two_28 rfl 1 rfl ?_
        obtain ⟨g12, hw⟩ := hw
        refine qx_callVI (st := []) (As := [qr b (qR h3 x0 3), .int x1]) X (t_Told_pairsLeft (adK := adK) (adV := adV) l D cy b N (qR h3 x0 8) (qR h3 x0 3) x1 h3 _ hw) qm_Told_pairsLeft wm_X_277 wi_Told_pairsLeft wl_Told_pairsLeft qcls9 g12 rfl rfl rfl ⟨Nat.le_of_ble_eq_true rfl, Nat.le_of_ble_eq_true rfl⟩ ⟨Nat.le_refl 0, Nat.le_refl 0⟩ (Nat.le_of_ble_eq_true rfl) rfl d_X_two_29 (fun r13 h14 hw => ?_)
        refine qx_goto X 48 d_X_two_32 (by decide) ?_
        exact qx_iret X hw (Nat.le_refl 0) (Nat.le_refl 0) rfl d_X_two_48
    · have hw := hw.2 q5
      refine qx_iconst (v := (-1 : Int32)) X d_X_two_13 (by decide) ?_
      exact qx_iret X hw (Nat.le_refl 0) (Nat.le_refl 0) rfl d_X_two_14
set_option maxRecDepth 4000 in
theorem t_X_ask {adK adV : Nat → Nat} (l : Launch) (D : va_G) (cy : Nat → ClassId) (b : Nat) (N : Nat) (x0 : Nat) (x1 : Int32) (h : qH) (Q : Int32 → qH → Prop) (hw : w_X_ask N x0 x1 h Q) : Met l y_X_ask (Cond.code y_X_ask prog_1_method_42_code 2 (some .int) :: qT) (qrm 5 0 0 119) (qPc D cy b adK adV h [qr b x0, .int x1]) (qQc D cy b qrI Q) 0 0 (qA b) := by
  refine qmet (L0 := [(0, .inr (.inr (.inl x0))), (1, .inl x1)]) qm_X_ask (plainFor_of_name (by decide)) [.inr (.inr (.inl x0)), .inl x1] rfl (Nat.le_of_ble_eq_true rfl) rfl (fun p e s m args below meth c X => ?_)
  unfold w_X_ask at hw
  refine qx_aload_n (x := x0) X d_X_ask_0 rfl 0 rfl ?_
  refine qx_iload_n (x := x1) X d_X_ask_1 rfl 1 rfl ?_
  obtain ⟨g1, hw⟩ := hw
  refine qx_callVI (st := []) (As := [.int x1]) X (t_X_isKnown (adK := adK) (adV := adV) l D cy b N x0 x1 h _ hw) qm_X_isKnown wm_X_274 wi_X_isKnown wl_X_isKnown qcls11 g1 rfl rfl rfl ⟨Nat.le_of_ble_eq_true rfl, Nat.le_of_ble_eq_true rfl⟩ ⟨Nat.le_refl 0, Nat.le_refl 0⟩ (Nat.le_of_ble_eq_true rfl) rfl d_X_ask_2 (fun r2 h3 hw => ?_)
  refine qx_if_eq X 23 d_X_ask_5 (by decide) (fun q4 => ?_) (fun q4 => ?_)
  · have hw := hw.1 q4
    refine qx_iconst (v := (-1 : Int32)) X d_X_ask_23 (by decide) ?_
    exact qx_iret X hw (Nat.le_refl 0) (Nat.le_refl 0) rfl d_X_ask_24
  · have hw := hw.2 q4
    refine qx_aload_n (x := x0) X d_X_ask_8 rfl 0 rfl ?_
    obtain ⟨g5, hw⟩ := hw
    refine qx_getR X qcls11 g5 8 (by decide) rfl wf_X_72 d_X_ask_9 ?_
    refine qx_aload_n (x := x0) X d_X_ask_12 rfl 0 rfl ?_
    refine qx_getR X qcls11 g5 3 (by decide) rfl wf_X_37 d_X_ask_13 ?_
    refine qx_iload_n (x := x1) X d_X_ask_16 rfl 1 rfl ?_
    obtain ⟨g6, hw⟩ := hw
    refine qx_callVI (st := []) (As := [qr b (qR h3 x0 3), .int x1]) X (t_Told_whomToAsk (adK := adK) (adV := adV) l D cy b N (qR h3 x0 8) (qR h3 x0 3) x1 h3 _ hw) qm_Told_whomToAsk wm_X_284 wi_Told_whomToAsk wl_Told_whomToAsk qcls9 g6 rfl rfl rfl ⟨Nat.le_of_ble_eq_true rfl, Nat.le_of_ble_eq_true rfl⟩ ⟨Nat.le_refl 0, Nat.le_refl 0⟩ (Nat.le_of_ble_eq_true rfl) rfl d_X_ask_17 (fun r7 h8 hw => ?_)
    refine qx_goto X 24 d_X_ask_20 (by decide) ?_
    exact qx_iret X hw (Nat.le_refl 0) (Nat.le_refl 0) rfl d_X_ask_24
set_option maxRecDepth 4000 in
theorem t_X_isSlot {adK adV : Nat → Nat} (l : Launch) (D : va_G) (cy : Nat → ClassId) (b : Nat) (N : Nat) (x0 : Int32) (h : qH) (Q : Int32 → qH → Prop) (hw : w_X_isSlot N x0 h Q) : Met l y_X_isSlot (Cond.code y_X_isSlot prog_1_method_51_code 1 (some .boolean) :: qT) (qrm 0 0 0 0) (qPc D cy b adK adV h [.int x0]) (qQc D cy b qrI Q) 0 0 (qA b) := by
  refine qmet (L0 := [(0, .inl x0)]) qm_X_isSlot (plainFor_of_name (by decide)) [.inl x0] rfl (Nat.le_of_ble_eq_true rfl) rfl (fun p e s m args below meth c X => ?_)
  unfold w_X_isSlot at hw
  refine qx_iload_n (x := x0) X d_X_isSlot_0 rfl 0 rfl ?_
  refine qx_if_lt X 13 d_X_isSlot_1 (by decide) (fun q1 => ?_) (fun q1 => ?_)
  · have hw := hw.1 q1
    refine qx_iconst (v := (0 : Int32)) X d_X_isSlot_13 (by decide) ?_
    exact qx_zret X hw (Nat.le_refl 0) (Nat.le_refl 0) rfl d_X_isSlot_14
  · have hw := hw.2 q1
    refine qx_iload_n (x := x0) X d_X_isSlot_4 rfl 0 rfl ?_
    refine qx_iconst (v := (3 : Int32)) X d_X_isSlot_5 (by decide) ?_
    refine qx_icmp_ge X 13 d_X_isSlot_6 (by decide) (fun q2 => ?_) (fun q2 => ?_)
    · have hw := hw.1 q2
      refine qx_iconst (v := (0 : Int32)) X d_X_isSlot_13 (by decide) ?_
      exact qx_zret X hw (Nat.le_refl 0) (Nat.le_refl 0) rfl d_X_isSlot_14
    · have hw := hw.2 q2
      refine qx_iconst (v := (1 : Int32)) X d_X_isSlot_9 (by decide) ?_
      refine qx_goto X 14 d_X_isSlot_10 (by decide) ?_
      exact qx_zret X hw (Nat.le_refl 0) (Nat.le_refl 0) rfl d_X_isSlot_14
set_option maxRecDepth 4000 in
theorem t_X_hold {adK adV : Nat → Nat} (l : Launch) (D : va_G) (cy : Nat → ClassId) (b : Nat) (N : Nat) (x0 : Nat) (x1 : Int32) (h : qH) (Q : Int32 → qH → Prop) (hw : w_X_hold N x0 x1 h Q) : Met l y_X_hold (Cond.code y_X_hold prog_1_method_43_code 2 (some .boolean) :: qT) (qrm 2 0 0 39) (qPc D cy b adK adV h [qr b x0, .int x1]) (qQc D cy b qrI Q) 0 0 (qA b) := by
  refine qmet (L0 := [(0, .inr (.inr (.inl x0))), (1, .inl x1)]) qm_X_hold (plainFor_of_name (by decide)) [.inr (.inr (.inl x0)), .inl x1] rfl (Nat.le_of_ble_eq_true rfl) rfl (fun p e s m args below meth c X => ?_)
  unfold w_X_hold at hw
  refine qx_iload_n (x := x1) X d_X_hold_0 rfl 1 rfl ?_
  refine qx_callSI (st := []) (As := [.int x1]) X (t_X_isSlot (adK := adK) (adV := adV) l D cy b N x1 h _ hw) qm_X_isSlot wm_X_287 wi_X_isSlot rfl rfl rfl ⟨Nat.le_of_ble_eq_true rfl, Nat.le_of_ble_eq_true rfl⟩ ⟨Nat.le_refl 0, Nat.le_refl 0⟩ (Nat.le_of_ble_eq_true rfl) rfl d_X_hold_1 (fun r1 h2 hw => ?_)
  refine qx_if_ne X 9 d_X_hold_4 (by decide) (fun q3 => ?_) (fun q3 => ?_)
  · have hw := hw.1 q3
    refine qx_aload_n (x := x0) X d_X_hold_9 rfl 0 rfl ?_
    obtain ⟨g4, hw⟩ := hw
    refine qx_getR X qcls11 g4 10 (by decide) rfl wf_X_83 d_X_hold_10 ?_
    refine qx_iload_n (x := x1) X d_X_hold_13 rfl 1 rfl ?_
    obtain ⟨g5, hw⟩ := hw
    refine qx_ald X g5 d_X_hold_14 ?_
    refine qx_aload_n (x := x0) X d_X_hold_15 rfl 0 rfl ?_
    refine qx_getR X qcls11 g4 3 (by decide) rfl wf_X_37 d_X_hold_16 ?_
    obtain ⟨g6, hw⟩ := hw
    refine qx_callVV (st := []) (As := [qr b (qR h2 x0 3)]) X (t_State_become (adK := adK) (adV := adV) l D cy b N (qR h2 (qR h2 x0 10) (x1).toNatClampNeg) (qR h2 x0 3) h2 _ hw) qm_State_become wm_X_227 wi_State_become wl_State_become qcls6 g6 rfl rfl rfl ⟨Nat.le_of_ble_eq_true rfl, Nat.le_of_ble_eq_true rfl⟩ ⟨Nat.le_refl 0, Nat.le_refl 0⟩ (Nat.le_of_ble_eq_true rfl) rfl d_X_hold_19 (fun h7 hw => ?_)
    refine qx_aload_n (x := x0) X d_X_hold_22 rfl 0 rfl ?_
    refine qx_dup X (qr_cat _ _) d_X_hold_23 ?_
    obtain ⟨g8, hw⟩ := hw
    refine qx_getI X qcls11 g8 11 (by decide) rfl wf_X_87 d_X_hold_24 ?_
    refine qx_iconst (v := (1 : Int32)) X d_X_hold_27 (by decide) ?_
    refine qx_iload_n (x := x1) X d_X_hold_28 rfl 1 rfl ?_
    refine qx_ishl X d_X_hold_29 ?_
    refine qx_ior X d_X_hold_30 ?_
    refine qx_putI X qcls11 g8 11 (by decide) rfl wf_X_87 rfl rfl rfl d_X_hold_31 ?_
    refine qx_toph (fun h9 eh9 => ?_)
    have hw := hw h9 eh9
    refine qx_iconst (v := (1 : Int32)) X d_X_hold_34 (by decide) ?_
    exact qx_zret X hw (Nat.le_refl 0) (Nat.le_refl 0) rfl d_X_hold_35
  · have hw := hw.2 q3
    refine qx_iconst (v := (0 : Int32)) X d_X_hold_7 (by decide) ?_
    exact qx_zret X hw (Nat.le_refl 0) (Nat.le_refl 0) rfl d_X_hold_8
set_option maxRecDepth 4000 in
theorem t_X_restore {adK adV : Nat → Nat} (l : Launch) (D : va_G) (cy : Nat → ClassId) (b : Nat) (N : Nat) (x0 : Nat) (x1 : Int32) (h : qH) (Q : Int32 → qH → Prop) (hw : w_X_restore N x0 x1 h Q) : Met l y_X_restore (Cond.code y_X_restore prog_1_method_44_code 2 (some .boolean) :: qT) (qrm 2 0 0 39) (qPc D cy b adK adV h [qr b x0, .int x1]) (qQc D cy b qrI Q) 0 0 (qA b) := by
  refine qmet (L0 := [(0, .inr (.inr (.inl x0))), (1, .inl x1)]) qm_X_restore (plainFor_of_name (by decide)) [.inr (.inr (.inl x0)), .inl x1] rfl (Nat.le_of_ble_eq_true rfl) rfl (fun p e s m args below meth c X => ?_)
  unfold w_X_restore at hw
  refine qx_iload_n (x := x1) X d_X_restore_0 rfl 1 rfl ?_
  refine qx_callSI (st := []) (As := [.int x1]) X (t_X_isSlot (adK := adK) (adV := adV) l D cy b N x1 h _ hw) qm_X_isSlot wm_X_287 wi_X_isSlot rfl rfl rfl ⟨Nat.le_of_ble_eq_true rfl, Nat.le_of_ble_eq_true rfl⟩ ⟨Nat.le_refl 0, Nat.le_refl 0⟩ (Nat.le_of_ble_eq_true rfl) rfl d_X_restore_1 (fun r1 h2 hw => ?_)
  refine qx_if_eq X 18 d_X_restore_4 (by decide) (fun q3 => ?_) (fun q3 => ?_)
  · have hw := hw.1 q3
    refine qx_iconst (v := (0 : Int32)) X d_X_restore_18 (by decide) ?_
    exact qx_zret X hw (Nat.le_refl 0) (Nat.le_refl 0) rfl d_X_restore_19
  · have hw := hw.2 q3
    refine qx_aload_n (x := x0) X d_X_restore_7 rfl 0 rfl ?_
    obtain ⟨g4, hw⟩ := hw
    refine qx_getI X qcls11 g4 11 (by decide) rfl wf_X_87 d_X_restore_8 ?_
    refine qx_iconst (v := (1 : Int32)) X d_X_restore_11 (by decide) ?_
    refine qx_iload_n (x := x1) X d_X_restore_12 rfl 1 rfl ?_
    refine qx_ishl X d_X_restore_13 ?_
    refine qx_iand X d_X_restore_14 ?_
    refine qx_if_ne X 20 d_X_restore_15 (by decide) (fun q5 => ?_) (fun q5 => ?_)
    · have hw := hw.1 q5
      refine qx_aload_n (x := x0) X d_X_restore_20 rfl 0 rfl ?_
      refine qx_getR X qcls11 g4 3 (by decide) rfl wf_X_37 d_X_restore_21 ?_
      refine qx_aload_n (x := x0) X d_X_restore_24 rfl 0 rfl ?_
      refine qx_getR X qcls11 g4 10 (by decide) rfl wf_X_83 d_X_restore_25 ?_
      refine qx_iload_n (x := x1) X d_X_restore_28 rfl 1 rfl ?_
      obtain ⟨g6, hw⟩ := hw
      refine qx_ald X g6 d_X_restore_29 ?_
      obtain ⟨g7, hw⟩ := hw
      refine qx_callVV (st := []) (As := [qr b (qR h2 (qR h2 x0 10) (x1).toNatClampNeg)]) X (t_State_become (adK := adK) (adV := adV) l D cy b N (qR h2 x0 3) (qR h2 (qR h2 x0 10) (x1).toNatClampNeg) h2 _ hw) qm_State_become wm_X_227 wi_State_become wl_State_become qcls6 g7 rfl rfl rfl ⟨Nat.le_of_ble_eq_true rfl, Nat.le_of_ble_eq_true rfl⟩ ⟨Nat.le_refl 0, Nat.le_refl 0⟩ (Nat.le_of_ble_eq_true rfl) rfl d_X_restore_30 (fun h8 hw => ?_)
      refine qx_aload_n (x := x0) X d_X_restore_33 rfl 0 rfl ?_
      obtain ⟨g9, hw⟩ := hw
      refine qx_getR X qcls11 g9 9 (by decide) rfl wf_X_79 d_X_restore_34 ?_
      obtain ⟨g10, hw⟩ := hw
      refine qx_callVV (st := []) (As := []) X (t_Past_drop (adK := adK) (adV := adV) l D cy b N (qR h8 x0 9) h8 _ hw) qm_Past_drop wm_X_115 wi_Past_drop wl_Past_drop qcls2 g10 rfl rfl rfl ⟨Nat.le_of_ble_eq_true rfl, Nat.le_of_ble_eq_true rfl⟩ ⟨Nat.le_refl 0, Nat.le_refl 0⟩ (Nat.le_of_ble_eq_true rfl) rfl d_X_restore_37 (fun h11 hw => ?_)
      refine qx_iconst (v := (1 : Int32)) X d_X_restore_40 (by decide) ?_
      exact qx_zret X hw (Nat.le_refl 0) (Nat.le_refl 0) rfl d_X_restore_41
    · have hw := hw.2 q5
      refine qx_iconst (v := (0 : Int32)) X d_X_restore_18 (by decide) ?_
      exact qx_zret X hw (Nat.le_refl 0) (Nat.le_refl 0) rfl d_X_restore_19
set_option maxRecDepth 4000 in
theorem t_X_sumOfFirst_4 (X : qX p s m args meth c D cy b adK adV prog_1_method_52_code "CoatHangers" 4 (some .int) "sumOfFirst") (N k : Nat) (x0 : Nat) (x1 : Int32) (x2 : Int32) (x3 : Int32) (h : qH) (Q : Int32 → qH → Prop)  (hw : w_X_sumOfFirst_4 N k x0 x1 x2 x3 h Q ) : qW p l e (qrm 0 0 0 0) s m args below meth c D cy b 4 0 0 (MQ below (qQc D cy b qrI Q) args s 0 0 (qA b)) 4 [(0, .inr (.inr (.inl x0))), (1, .inl x1), (2, .inl x2), (3, .inl x3)] [] h := by
  induction k generalizing x0 x1 x2 x3 h with
  | zero => exact hw.elim
  | succ k ih =>
    refine qx_iload_n (x := x3) X d_X_sumOfFirst_4 rfl 3 rfl ?_
    refine qx_iload_n (x := x1) X d_X_sumOfFirst_5 rfl 1 rfl ?_
    refine qx_icmp_ge X 27 d_X_sumOfFirst_6 (by decide) (fun q1 => ?_) (fun q1 => ?_)
    · have hw := hw.1 q1
      refine qx_iload_n (x := x2) X d_X_sumOfFirst_27 rfl 2 rfl ?_
      exact qx_iret X hw (Nat.le_refl 0) (Nat.le_refl 0) rfl d_X_sumOfFirst_28
    · have hw := hw.2 q1
      refine qx_iload_n (x := x3) X d_X_sumOfFirst_9 rfl 3 rfl ?_
      refine qx_aload_n (x := x0) X d_X_sumOfFirst_10 rfl 0 rfl ?_
      obtain ⟨n2, g3, hw⟩ := hw
      refine qx_len X g3 (by decide) d_X_sumOfFirst_11 ?_
      refine qx_icmp_ge X 27 d_X_sumOfFirst_12 (by decide) (fun q4 => ?_) (fun q4 => ?_)
      · have hw := hw.1 q4
        refine qx_iload_n (x := x2) X d_X_sumOfFirst_27 rfl 2 rfl ?_
        exact qx_iret X hw (Nat.le_refl 0) (Nat.le_refl 0) rfl d_X_sumOfFirst_28
      · have hw := hw.2 q4
        refine qx_iload_n (x := x2) X d_X_sumOfFirst_15 rfl 2 rfl ?_
        refine qx_aload_n (x := x0) X d_X_sumOfFirst_16 rfl 0 rfl ?_
        refine qx_iload_n (x := x3) X d_X_sumOfFirst_17 rfl 3 rfl ?_
        obtain ⟨g5, hw⟩ := hw
        refine qx_ild X g5 d_X_sumOfFirst_18 ?_
        refine qx_iadd X d_X_sumOfFirst_19 ?_
        refine qx_topi (fun y6 ey6 => ?_)
        have hw := hw y6 ey6
        refine qx_istore_n (L' := [(2, .inl y6), (0, .inr (.inr (.inl x0))), (1, .inl x1), (3, .inl x3)]) X d_X_sumOfFirst_20 rfl (by decide) rfl ?_
        refine qx_iinc (v := (x3 + (1 : Int32))) (L' := [(3, .inl (x3 + (1 : Int32))), (2, .inl y6), (0, .inr (.inr (.inl x0))), (1, .inl x1)]) X d_X_sumOfFirst_21 3 rfl rfl (by decide) rfl ?_
        refine qx_goto X 4 d_X_sumOfFirst_24 (by decide) ?_
        refine qx_sub [2, 3, 1, 0] rfl ?_
        exact ih x0 x1 y6 (x3 + (1 : Int32)) h hw
set_option maxRecDepth 4000 in
theorem t_X_sumOfFirst {adK adV : Nat → Nat} (l : Launch) (D : va_G) (cy : Nat → ClassId) (b : Nat) (N : Nat) (x0 : Nat) (x1 : Int32) (h : qH) (Q : Int32 → qH → Prop) (hw : w_X_sumOfFirst N x0 x1 h Q) : Met l y_X_sumOfFirst (Cond.code y_X_sumOfFirst prog_1_method_52_code 4 (some .int) :: qT) (qrm 0 0 0 0) (qPc D cy b adK adV h [qr b x0, .int x1]) (qQc D cy b qrI Q) 0 0 (qA b) := by
  refine qmet (L0 := [(0, .inr (.inr (.inl x0))), (1, .inl x1)]) qm_X_sumOfFirst (plainFor_of_name (by decide)) [.inr (.inr (.inl x0)), .inl x1] rfl (Nat.le_of_ble_eq_true rfl) rfl (fun p e s m args below meth c X => ?_)
  unfold w_X_sumOfFirst at hw
  refine qx_iconst (v := (0 : Int32)) X d_X_sumOfFirst_0 (by decide) ?_
  refine qx_istore_n (L' := [(2, .inl (0 : Int32)), (0, .inr (.inr (.inl x0))), (1, .inl x1)]) X d_X_sumOfFirst_1 rfl (by decide) rfl ?_
  refine qx_iconst (v := (0 : Int32)) X d_X_sumOfFirst_2 (by decide) ?_
  refine qx_istore_n (L' := [(3, .inl (0 : Int32)), (2, .inl (0 : Int32)), (0, .inr (.inr (.inl x0))), (1, .inl x1)]) X d_X_sumOfFirst_3 rfl (by decide) rfl ?_
  refine qx_sub [2, 3, 1, 0] rfl ?_
  exact t_X_sumOfFirst_4 X N N x0 x1 (0 : Int32) (0 : Int32) h Q  hw 
set_option maxRecDepth 4000 in
theorem t_X_count {adK adV : Nat → Nat} (l : Launch) (D : va_G) (cy : Nat → ClassId) (b : Nat) (N : Nat) (x0 : Nat) (x1 : Int32) (h : qH) (Q : Int32 → qH → Prop) (hw : w_X_count N x0 x1 h Q) : Met l y_X_count (Cond.code y_X_count prog_1_method_45_code 2 (some .int) :: qT) (qrm 5 0 0 111) (qPc D cy b adK adV h [qr b x0, .int x1]) (qQc D cy b qrI Q) 0 0 (qA b) := by
  refine qmet (L0 := [(0, .inr (.inr (.inl x0))), (1, .inl x1)]) qm_X_count (plainFor_of_name (by decide)) [.inr (.inr (.inl x0)), .inl x1] rfl (Nat.le_of_ble_eq_true rfl) rfl (fun p e s m args below meth c X => ?_)
  unfold w_X_count at hw
  refine qx_iload_n (x := x1) X d_X_count_0 rfl 1 rfl ?_
  by_cases q1 : x1 = (0 : Int32)
  · have hw := hw.1 q1
    refine qx_tableIn (off := (75)) X 76 d_X_count_1 (by rw [q1]; decide) (by rw [q1]; decide) (by rw [q1]; rfl) (by decide) ?_
    refine qx_aload_n (x := x0) X d_X_count_76 rfl 0 rfl ?_
    obtain ⟨g2, hw⟩ := hw
    refine qx_getR X qcls11 g2 1 (by decide) rfl wf_X_19 d_X_count_77 ?_
    obtain ⟨g3, hw⟩ := hw
    refine qx_getI X qcls8 g3 0 (by decide) rfl wf_X_238 d_X_count_80 ?_
    exact qx_iret X hw (Nat.le_refl 0) (Nat.le_refl 0) rfl d_X_count_83
  · have hw := hw.2 q1
    by_cases q4 : x1 = (1 : Int32)
    · have hw := hw.1 q4
      refine qx_tableIn (off := (83)) X 84 d_X_count_1 (by rw [q4]; decide) (by rw [q4]; decide) (by rw [q4]; rfl) (by decide) ?_
      refine qx_aload_n (x := x0) X d_X_count_84 rfl 0 rfl ?_
      obtain ⟨g5, hw⟩ := hw
      refine qx_getR X qcls11 g5 1 (by decide) rfl wf_X_19 d_X_count_85 ?_
      obtain ⟨g6, hw⟩ := hw
      refine qx_getI X qcls8 g6 3 (by decide) rfl wf_X_218 d_X_count_88 ?_
      exact qx_iret X hw (Nat.le_refl 0) (Nat.le_refl 0) rfl d_X_count_91
    · have hw := hw.2 q4
      by_cases q7 : x1 = (2 : Int32)
      · have hw := hw.1 q7
        refine qx_tableIn (off := (91)) X 92 d_X_count_1 (by rw [q7]; decide) (by rw [q7]; decide) (by rw [q7]; rfl) (by decide) ?_
        refine qx_aload_n (x := x0) X d_X_count_92 rfl 0 rfl ?_
        obtain ⟨g8, hw⟩ := hw
        refine qx_getR X qcls11 g8 3 (by decide) rfl wf_X_37 d_X_count_93 ?_
        obtain ⟨g9, hw⟩ := hw
        refine qx_getI X qcls6 g9 1 (by decide) rfl wf_X_191 d_X_count_96 ?_
        exact qx_iret X hw (Nat.le_refl 0) (Nat.le_refl 0) rfl d_X_count_99
      · have hw := hw.2 q7
        by_cases q10 : x1 = (3 : Int32)
        · have hw := hw.1 q10
          refine qx_tableIn (off := (99)) X 100 d_X_count_1 (by rw [q10]; decide) (by rw [q10]; decide) (by rw [q10]; rfl) (by decide) ?_
          refine qx_aload_n (x := x0) X d_X_count_100 rfl 0 rfl ?_
          obtain ⟨g11, hw⟩ := hw
          refine qx_getR X qcls11 g11 3 (by decide) rfl wf_X_37 d_X_count_101 ?_
          obtain ⟨g12, hw⟩ := hw
          refine qx_callVI (st := []) (As := []) X (t_State_bitsOfHung (adK := adK) (adV := adV) l D cy b N (qR h x0 3) h _ hw) qm_State_bitsOfHung wm_X_290 wi_State_bitsOfHung wl_State_bitsOfHung qcls6 g12 rfl rfl rfl ⟨Nat.le_of_ble_eq_true rfl, Nat.le_of_ble_eq_true rfl⟩ ⟨Nat.le_refl 0, Nat.le_refl 0⟩ (Nat.le_of_ble_eq_true rfl) rfl d_X_count_104 (fun r13 h14 hw => ?_)
          exact qx_iret X hw (Nat.le_refl 0) (Nat.le_refl 0) rfl d_X_count_107
        · have hw := hw.2 q10
          by_cases q15 : x1 = (4 : Int32)
          · have hw := hw.1 q15
            refine qx_tableIn (off := (107)) X 108 d_X_count_1 (by rw [q15]; decide) (by rw [q15]; decide) (by rw [q15]; rfl) (by decide) ?_
            refine qx_aload_n (x := x0) X d_X_count_108 rfl 0 rfl ?_
            obtain ⟨g16, hw⟩ := hw
            refine qx_getR X qcls11 g16 3 (by decide) rfl wf_X_37 d_X_count_109 ?_
            obtain ⟨g17, hw⟩ := hw
            refine qx_callVI (st := []) (As := []) X (t_State_bitsOfTaken (adK := adK) (adV := adV) l D cy b N (qR h x0 3) h _ hw) qm_State_bitsOfTaken wm_X_293 wi_State_bitsOfTaken wl_State_bitsOfTaken qcls6 g17 rfl rfl rfl ⟨Nat.le_of_ble_eq_true rfl, Nat.le_of_ble_eq_true rfl⟩ ⟨Nat.le_refl 0, Nat.le_refl 0⟩ (Nat.le_of_ble_eq_true rfl) rfl d_X_count_112 (fun r18 h19 hw => ?_)
            exact qx_iret X hw (Nat.le_refl 0) (Nat.le_refl 0) rfl d_X_count_115
          · have hw := hw.2 q15
            by_cases q20 : x1 = (5 : Int32)
            · have hw := hw.1 q20
              refine qx_tableIn (off := (115)) X 116 d_X_count_1 (by rw [q20]; decide) (by rw [q20]; decide) (by rw [q20]; rfl) (by decide) ?_
              refine qx_aload_n (x := x0) X d_X_count_116 rfl 0 rfl ?_
              obtain ⟨g21, hw⟩ := hw
              refine qx_getR X qcls11 g21 3 (by decide) rfl wf_X_37 d_X_count_117 ?_
              obtain ⟨g22, hw⟩ := hw
              refine qx_callVI (st := []) (As := []) X (t_State_bitsOfOwnSelves (adK := adK) (adV := adV) l D cy b N (qR h x0 3) h _ hw) qm_State_bitsOfOwnSelves wm_X_229 wi_State_bitsOfOwnSelves wl_State_bitsOfOwnSelves qcls6 g22 rfl rfl rfl ⟨Nat.le_of_ble_eq_true rfl, Nat.le_of_ble_eq_true rfl⟩ ⟨Nat.le_refl 0, Nat.le_refl 0⟩ (Nat.le_of_ble_eq_true rfl) rfl d_X_count_120 (fun r23 h24 hw => ?_)
              exact qx_iret X hw (Nat.le_refl 0) (Nat.le_refl 0) rfl d_X_count_123
            · have hw := hw.2 q20
              by_cases q25 : x1 = (6 : Int32)
              · have hw := hw.1 q25
                refine qx_tableIn (off := (123)) X 124 d_X_count_1 (by rw [q25]; decide) (by rw [q25]; decide) (by rw [q25]; rfl) (by decide) ?_
                refine qx_aload_n (x := x0) X d_X_count_124 rfl 0 rfl ?_
                obtain ⟨g26, hw⟩ := hw
                refine qx_getR X qcls11 g26 3 (by decide) rfl wf_X_37 d_X_count_125 ?_
                obtain ⟨g27, hw⟩ := hw
                refine qx_getR X qcls6 g27 5 (by decide) rfl wf_X_154 d_X_count_128 ?_
                refine qx_aload_n (x := x0) X d_X_count_131 rfl 0 rfl ?_
                refine qx_getR X qcls11 g26 1 (by decide) rfl wf_X_19 d_X_count_132 ?_
                obtain ⟨g28, hw⟩ := hw
                refine qx_getI X qcls8 g28 3 (by decide) rfl wf_X_218 d_X_count_135 ?_
                refine qx_callSI (st := []) (As := [qr b (qR h (qR h x0 3) 5), .int (qI h (qR h x0 1) 3)]) X (t_X_sumOfFirst (adK := adK) (adV := adV) l D cy b N (qR h (qR h x0 3) 5) (qI h (qR h x0 1) 3) h _ hw) qm_X_sumOfFirst wm_X_296 wi_X_sumOfFirst rfl rfl rfl ⟨Nat.le_of_ble_eq_true rfl, Nat.le_of_ble_eq_true rfl⟩ ⟨Nat.le_refl 0, Nat.le_refl 0⟩ (Nat.le_of_ble_eq_true rfl) rfl d_X_count_138 (fun r29 h30 hw => ?_)
                exact qx_iret X hw (Nat.le_refl 0) (Nat.le_refl 0) rfl d_X_count_141
              · have hw := hw.2 q25
                by_cases q31 : x1 = (7 : Int32)
                · have hw := hw.1 q31
                  refine qx_tableIn (off := (141)) X 142 d_X_count_1 (by rw [q31]; decide) (by rw [q31]; decide) (by rw [q31]; rfl) (by decide) ?_
                  refine qx_aload_n (x := x0) X d_X_count_142 rfl 0 rfl ?_
                  obtain ⟨g32, hw⟩ := hw
                  refine qx_getR X qcls11 g32 3 (by decide) rfl wf_X_37 d_X_count_143 ?_
                  obtain ⟨g33, hw⟩ := hw
                  refine qx_getR X qcls6 g33 6 (by decide) rfl wf_X_132 d_X_count_146 ?_
                  refine qx_aload_n (x := x0) X d_X_count_149 rfl 0 rfl ?_
                  refine qx_getR X qcls11 g32 1 (by decide) rfl wf_X_19 d_X_count_150 ?_
                  obtain ⟨g34, hw⟩ := hw
                  refine qx_getI X qcls8 g34 0 (by decide) rfl wf_X_238 d_X_count_153 ?_
                  refine qx_callSI (st := []) (As := [qr b (qR h (qR h x0 3) 6), .int (qI h (qR h x0 1) 0)]) X (t_X_sumOfFirst (adK := adK) (adV := adV) l D cy b N (qR h (qR h x0 3) 6) (qI h (qR h x0 1) 0) h _ hw) qm_X_sumOfFirst wm_X_296 wi_X_sumOfFirst rfl rfl rfl ⟨Nat.le_of_ble_eq_true rfl, Nat.le_of_ble_eq_true rfl⟩ ⟨Nat.le_refl 0, Nat.le_refl 0⟩ (Nat.le_of_ble_eq_true rfl) rfl d_X_count_156 (fun r35 h36 hw => ?_)
                  exact qx_iret X hw (Nat.le_refl 0) (Nat.le_refl 0) rfl d_X_count_159
                · have hw := hw.2 q31
                  by_cases q37 : x1 = (8 : Int32)
                  · have hw := hw.1 q37
                    refine qx_tableIn (off := (159)) X 160 d_X_count_1 (by rw [q37]; decide) (by rw [q37]; decide) (by rw [q37]; rfl) (by decide) ?_
                    refine qx_aload_n (x := x0) X d_X_count_160 rfl 0 rfl ?_
                    obtain ⟨g38, hw⟩ := hw
                    refine qx_getR X qcls11 g38 0 (by decide) rfl wf_X_10 d_X_count_161 ?_
                    obtain ⟨g39, hw⟩ := hw
                    refine qx_getI X qcls7 g39 1 (by decide) rfl wf_X_99 d_X_count_164 ?_
                    exact qx_iret X hw (Nat.le_refl 0) (Nat.le_refl 0) rfl d_X_count_167
                  · have hw := hw.2 q37
                    by_cases q40 : x1 = (9 : Int32)
                    · have hw := hw.1 q40
                      refine qx_tableIn (off := (167)) X 168 d_X_count_1 (by rw [q40]; decide) (by rw [q40]; decide) (by rw [q40]; rfl) (by decide) ?_
                      refine qx_aload_n (x := x0) X d_X_count_168 rfl 0 rfl ?_
                      obtain ⟨g41, hw⟩ := hw
                      refine qx_getR X qcls11 g41 9 (by decide) rfl wf_X_79 d_X_count_169 ?_
                      obtain ⟨g42, hw⟩ := hw
                      refine qx_getI X qcls2 g42 2 (by decide) rfl wf_X_300 d_X_count_172 ?_
                      exact qx_iret X hw (Nat.le_refl 0) (Nat.le_refl 0) rfl d_X_count_175
                    · have hw := hw.2 q40
                      by_cases q43 : x1 = (10 : Int32)
                      · have hw := hw.1 q43
                        refine qx_tableIn (off := (175)) X 176 d_X_count_1 (by rw [q43]; decide) (by rw [q43]; decide) (by rw [q43]; rfl) (by decide) ?_
                        refine qx_aload_n (x := x0) X d_X_count_176 rfl 0 rfl ?_
                        obtain ⟨g44, hw⟩ := hw
                        refine qx_getR X qcls11 g44 8 (by decide) rfl wf_X_72 d_X_count_177 ?_
                        obtain ⟨g45, hw⟩ := hw
                        refine qx_getI X qcls9 g45 7 (by decide) rfl wf_X_118 d_X_count_180 ?_
                        exact qx_iret X hw (Nat.le_refl 0) (Nat.le_refl 0) rfl d_X_count_183
                      · have hw := hw.2 q43
                        by_cases q46 : x1 = (11 : Int32)
                        · have hw := hw.1 q46
                          refine qx_tableIn (off := (183)) X 184 d_X_count_1 (by rw [q46]; decide) (by rw [q46]; decide) (by rw [q46]; rfl) (by decide) ?_
                          refine qx_aload_n (x := x0) X d_X_count_184 rfl 0 rfl ?_
                          obtain ⟨g47, hw⟩ := hw
                          refine qx_getI X qcls11 g47 11 (by decide) rfl wf_X_87 d_X_count_185 ?_
                          refine qx_callSI (st := []) (As := [.int (qI h x0 11)]) X (t_Integer_bitCount (adK := adK) (adV := adV) l D cy b N (qI h x0 11) h _ hw) qm_Integer_bitCount wm_X_301 wi_Integer_bitCount rfl rfl rfl ⟨Nat.le_of_ble_eq_true rfl, Nat.le_of_ble_eq_true rfl⟩ ⟨Nat.le_refl 0, Nat.le_refl 0⟩ (Nat.le_of_ble_eq_true rfl) rfl d_X_count_188 (fun r48 h49 hw => ?_)
                          exact qx_iret X hw (Nat.le_refl 0) (Nat.le_refl 0) rfl d_X_count_191
                        · have hw := hw.2 q46
                          by_cases q50 : x1 = (12 : Int32)
                          · have hw := hw.1 q50
                            refine qx_tableIn (off := (191)) X 192 d_X_count_1 (by rw [q50]; decide) (by rw [q50]; decide) (by rw [q50]; rfl) (by decide) ?_
                            refine qx_aload_n (x := x0) X d_X_count_192 rfl 0 rfl ?_
                            obtain ⟨g51, hw⟩ := hw
                            refine qx_getR X qcls11 g51 6 (by decide) rfl wf_X_56 d_X_count_193 ?_
                            refine qx_aload_n (x := x0) X d_X_count_196 rfl 0 rfl ?_
                            refine qx_getR X qcls11 g51 1 (by decide) rfl wf_X_19 d_X_count_197 ?_
                            obtain ⟨g52, hw⟩ := hw
                            refine qx_getI X qcls8 g52 12 (by decide) rfl wf_X_184 d_X_count_200 ?_
                            refine qx_aload_n (x := x0) X d_X_count_203 rfl 0 rfl ?_
                            refine qx_getR X qcls11 g51 3 (by decide) rfl wf_X_37 d_X_count_204 ?_
                            obtain ⟨g53, hw⟩ := hw
                            refine qx_getI X qcls6 g53 1 (by decide) rfl wf_X_191 d_X_count_207 ?_
                            obtain ⟨g54, hw⟩ := hw
                            refine qx_callVI (st := []) (As := [.int (qI h (qR h x0 1) 12), .int (qI h (qR h x0 3) 1)]) X (t_Night_hasMoth (adK := adK) (adV := adV) l D cy b N (qR h x0 6) (qI h (qR h x0 1) 12) (qI h (qR h x0 3) 1) h _ hw) qm_Night_hasMoth wm_X_306 wi_Night_hasMoth wl_Night_hasMoth qcls1 g54 rfl rfl rfl ⟨Nat.le_of_ble_eq_true rfl, Nat.le_of_ble_eq_true rfl⟩ ⟨Nat.le_refl 0, Nat.le_refl 0⟩ (Nat.le_of_ble_eq_true rfl) rfl d_X_count_210 (fun r55 h56 hw => ?_)
                            refine qx_if_eq X 220 d_X_count_213 (by decide) (fun q57 => ?_) (fun q57 => ?_)
                            · have hw := hw.1 q57
                              refine qx_iconst (v := (0 : Int32)) X d_X_count_220 (by decide) ?_
                              exact qx_iret X hw (Nat.le_refl 0) (Nat.le_refl 0) rfl d_X_count_221
                            · have hw := hw.2 q57
                              refine qx_iconst (v := (1 : Int32)) X d_X_count_216 (by decide) ?_
                              refine qx_goto X 221 d_X_count_217 (by decide) ?_
                              exact qx_iret X hw (Nat.le_refl 0) (Nat.le_refl 0) rfl d_X_count_221
                          · have hw := hw.2 q50
                            by_cases q58 : x1 = (13 : Int32)
                            · have hw := hw.1 q58
                              refine qx_tableIn (off := (221)) X 222 d_X_count_1 (by rw [q58]; decide) (by rw [q58]; decide) (by rw [q58]; rfl) (by decide) ?_
                              refine qx_aload_n (x := x0) X d_X_count_222 rfl 0 rfl ?_
                              obtain ⟨g59, hw⟩ := hw
                              refine qx_getR X qcls11 g59 5 (by decide) rfl wf_X_47 d_X_count_223 ?_
                              refine qx_aload_n (x := x0) X d_X_count_226 rfl 0 rfl ?_
                              refine qx_getR X qcls11 g59 3 (by decide) rfl wf_X_37 d_X_count_227 ?_
                              obtain ⟨g60, hw⟩ := hw
                              refine qx_callVI (st := []) (As := [qr b (qR h x0 3)]) X (t_Reck_costOfAll (adK := adK) (adV := adV) l D cy b N (qR h x0 5) (qR h x0 3) h _ hw) qm_Reck_costOfAll wm_X_248 wi_Reck_costOfAll wl_Reck_costOfAll qcls5 g60 rfl rfl rfl ⟨Nat.le_of_ble_eq_true rfl, Nat.le_of_ble_eq_true rfl⟩ ⟨Nat.le_refl 0, Nat.le_refl 0⟩ (Nat.le_of_ble_eq_true rfl) rfl d_X_count_230 (fun r61 h62 hw => ?_)
                              exact qx_iret X hw (Nat.le_refl 0) (Nat.le_refl 0) rfl d_X_count_233
                            · have hw := hw.2 q58
                              by_cases q63 : x1 = (14 : Int32)
                              · have hw := hw.1 q63
                                refine qx_tableIn (off := (233)) X 234 d_X_count_1 (by rw [q63]; decide) (by rw [q63]; decide) (by rw [q63]; rfl) (by decide) ?_
                                refine qx_aload_n (x := x0) X d_X_count_234 rfl 0 rfl ?_
                                obtain ⟨g64, hw⟩ := hw
                                refine qx_getR X qcls11 g64 3 (by decide) rfl wf_X_37 d_X_count_235 ?_
                                obtain ⟨g65, hw⟩ := hw
                                refine qx_callVI (st := []) (As := []) X (t_State_bitsOfSharedNails (adK := adK) (adV := adV) l D cy b N (qR h x0 3) h _ hw) qm_State_bitsOfSharedNails wm_X_310 wi_State_bitsOfSharedNails wl_State_bitsOfSharedNails qcls6 g65 rfl rfl rfl ⟨Nat.le_of_ble_eq_true rfl, Nat.le_of_ble_eq_true rfl⟩ ⟨Nat.le_refl 0, Nat.le_refl 0⟩ (Nat.le_of_ble_eq_true rfl) rfl d_X_count_238 (fun r66 h67 hw => ?_)
                                exact qx_iret X hw (Nat.le_refl 0) (Nat.le_refl 0) rfl d_X_count_241
                              · have hw := hw.2 q63
                                have gx : x1.toInt < 0 ∨ 14 < x1.toInt := by
                                  have nq1 : x1.toInt ≠ 0 := fun z => q1 (Int32.toInt_inj.mp z)
                                  have nq4 : x1.toInt ≠ 1 := fun z => q4 (Int32.toInt_inj.mp z)
                                  have nq7 : x1.toInt ≠ 2 := fun z => q7 (Int32.toInt_inj.mp z)
                                  have nq10 : x1.toInt ≠ 3 := fun z => q10 (Int32.toInt_inj.mp z)
                                  have nq15 : x1.toInt ≠ 4 := fun z => q15 (Int32.toInt_inj.mp z)
                                  have nq20 : x1.toInt ≠ 5 := fun z => q20 (Int32.toInt_inj.mp z)
                                  have nq25 : x1.toInt ≠ 6 := fun z => q25 (Int32.toInt_inj.mp z)
                                  have nq31 : x1.toInt ≠ 7 := fun z => q31 (Int32.toInt_inj.mp z)
                                  have nq37 : x1.toInt ≠ 8 := fun z => q37 (Int32.toInt_inj.mp z)
                                  have nq40 : x1.toInt ≠ 9 := fun z => q40 (Int32.toInt_inj.mp z)
                                  have nq43 : x1.toInt ≠ 10 := fun z => q43 (Int32.toInt_inj.mp z)
                                  have nq46 : x1.toInt ≠ 11 := fun z => q46 (Int32.toInt_inj.mp z)
                                  have nq50 : x1.toInt ≠ 12 := fun z => q50 (Int32.toInt_inj.mp z)
                                  have nq58 : x1.toInt ≠ 13 := fun z => q58 (Int32.toInt_inj.mp z)
                                  have nq63 : x1.toInt ≠ 14 := fun z => q63 (Int32.toInt_inj.mp z)
                                  omega
                                refine qx_tableOut X 242 d_X_count_1 gx (by decide) ?_
                                refine qx_iconst (v := (-1 : Int32)) X d_X_count_242 (by decide) ?_
                                exact qx_iret X hw (Nat.le_refl 0) (Nat.le_refl 0) rfl d_X_count_243
end QG
