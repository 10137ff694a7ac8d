/-! constructors: written by wip/whole/emit.py out of the bytecode -/
def y_Law_init : MethodName := ⟨"CoatHangers$Law", "<init>", "()V"⟩
theorem qm_Law_init : qMt y_Law_init prog_2_method_1_code 1 (none) 0 := ⟨qT_1 (i := 128) (by decide +kernel) rfl, qT_1 (i := 8) (by decide +kernel) rfl, by decide, by decide, by decide +kernel⟩
theorem wi_Law_init : Cond.instanceMethod y_Law_init ∈ qT := qT_1 (i := 127) (by decide +kernel) rfl
def y_Night_init : MethodName := ⟨"CoatHangers$Night", "<init>", "(LCoatHangers$Text;LCoatHangers$Reckoner;)V"⟩
theorem qm_Night_init : qMt y_Night_init prog_3_method_1_code 3 (none) 2 := ⟨qT_2 (i := 125) (by decide +kernel) rfl, qT_1 (i := 13) (by decide +kernel) rfl, by decide, by decide, by decide +kernel⟩
theorem wi_Night_init : Cond.instanceMethod y_Night_init ∈ qT := qT_2 (i := 124) (by decide +kernel) rfl
def y_State_init : MethodName := ⟨"CoatHangers$State", "<init>", "(LCoatHangers$Text;)V"⟩
theorem qm_State_init : qMt y_State_init prog_8_method_1_code 2 (none) 1 := ⟨qT_2 (i := 59) (by decide +kernel) rfl, qT_1 (i := 11) (by decide +kernel) rfl, by decide, by decide, by decide +kernel⟩
theorem wi_State_init : Cond.instanceMethod y_State_init ∈ qT := qT_2 (i := 58) (by decide +kernel) rfl
def y_Past_init : MethodName := ⟨"CoatHangers$Past", "<init>", "(LCoatHangers$Text;)V"⟩
theorem qm_Past_init : qMt y_Past_init prog_4_method_1_code 3 (none) 1 := ⟨qT_2 (i := 201) (by decide +kernel) rfl, qT_1 (i := 16) (by decide +kernel) rfl, by decide, by decide, by decide +kernel⟩
theorem wi_Past_init : Cond.instanceMethod y_Past_init ∈ qT := qT_2 (i := 200) (by decide +kernel) rfl
def y_Plan_init : MethodName := ⟨"CoatHangers$Plan", "<init>", "(LCoatHangers$Text;LCoatHangers$Reckoner;)V"⟩
theorem qm_Plan_init : qMt y_Plan_init prog_5_method_1_code 3 (none) 2 := ⟨qT_2 (i := 141) (by decide +kernel) rfl, qT_1 (i := 14) (by decide +kernel) rfl, by decide, by decide, by decide +kernel⟩
theorem wi_Plan_init : Cond.instanceMethod y_Plan_init ∈ qT := qT_2 (i := 140) (by decide +kernel) rfl
def y_Text_init : MethodName := ⟨"CoatHangers$Text", "<init>", "()V"⟩
theorem qm_Text_init : qMt y_Text_init prog_10_method_1_code 1 (none) 0 := ⟨qT_1 (i := 122) (by decide +kernel) rfl, qT_1 (i := 7) (by decide +kernel) rfl, by decide, by decide, by decide +kernel⟩
theorem wi_Text_init : Cond.instanceMethod y_Text_init ∈ qT := qT_1 (i := 121) (by decide +kernel) rfl
def y_Waits_init : MethodName := ⟨"CoatHangers$Waiters", "<init>", "()V"⟩
theorem qm_Waits_init : qMt y_Waits_init prog_12_method_1_code 1 (none) 0 := ⟨qT_1 (i := 237) (by decide +kernel) rfl, qT_1 (i := 10) (by decide +kernel) rfl, by decide, by decide, by decide +kernel⟩
theorem wi_Waits_init : Cond.instanceMethod y_Waits_init ∈ qT := qT_1 (i := 236) (by decide +kernel) rfl
def y_Reader_init : MethodName := ⟨"CoatHangers$Reader", "<init>", "(LCoatHangers$Tape;)V"⟩
theorem qm_Reader_init : qMt y_Reader_init prog_6_method_1_code 2 (none) 1 := ⟨qT_1 (i := 229) (by decide +kernel) rfl, qT_1 (i := 9) (by decide +kernel) rfl, by decide, by decide, by decide +kernel⟩
theorem wi_Reader_init : Cond.instanceMethod y_Reader_init ∈ qT := qT_1 (i := 228) (by decide +kernel) rfl
def y_Reck_init : MethodName := ⟨"CoatHangers$Reckoner", "<init>", "(LCoatHangers$Text;)V"⟩
theorem qm_Reck_init : qMt y_Reck_init prog_7_method_1_code 2 (none) 1 := ⟨qT_2 (i := 109) (by decide +kernel) rfl, qT_1 (i := 12) (by decide +kernel) rfl, by decide, by decide, by decide +kernel⟩
theorem wi_Reck_init : Cond.instanceMethod y_Reck_init ∈ qT := qT_2 (i := 108) (by decide +kernel) rfl
def y_Tape_init : MethodName := ⟨"CoatHangers$Tape", "<init>", "()V"⟩
theorem qm_Tape_init : qMt y_Tape_init prog_9_method_1_code 4 (none) 0 := ⟨qT_1 (i := 34) (by decide +kernel) rfl, qT_1 (i := 2) (by decide +kernel) rfl, by decide, by decide, by decide +kernel⟩
theorem wi_Tape_init : Cond.instanceMethod y_Tape_init ∈ qT := qT_1 (i := 33) (by decide +kernel) rfl
def y_Told_init : MethodName := ⟨"CoatHangers$Told", "<init>", "(LCoatHangers$Text;LCoatHangers$Night;)V"⟩
theorem qm_Told_init : qMt y_Told_init prog_11_method_1_code 3 (none) 2 := ⟨qT_2 (i := 165) (by decide +kernel) rfl, qT_1 (i := 15) (by decide +kernel) rfl, by decide, by decide, by decide +kernel⟩
theorem wi_Told_init : Cond.instanceMethod y_Told_init ∈ qT := qT_2 (i := 164) (by decide +kernel) rfl
def y_X_init : MethodName := ⟨"CoatHangers", "<init>", "()V"⟩
theorem qm_X_init : qMt y_X_init prog_1_method_1_code 2 (none) 0 := ⟨qT_1 (i := 26) (by decide +kernel) rfl, qT_1 (i := 1) (by decide +kernel) rfl, by decide, by decide, by decide +kernel⟩
theorem wi_X_init : Cond.instanceMethod y_X_init ∈ qT := qT_1 (i := 25) (by decide +kernel) rfl
theorem wm_Law_3 : Cond.methodLink "CoatHangers$Law" 3 objectInit ∈ qT := qT_1 (i := 129) (by decide +kernel) rfl
theorem wa_I : Cond.arrayClass (qty 0) ∈ qT := qT_1 (i := 117) (by decide +kernel) rfl
theorem wm_Night_3 : Cond.methodLink "CoatHangers$Night" 3 objectInit ∈ qT := qT_2 (i := 126) (by decide +kernel) rfl
theorem wm_State_3 : Cond.methodLink "CoatHangers$State" 3 objectInit ∈ qT := qT_2 (i := 60) (by decide +kernel) rfl
theorem wm_State_31 : Cond.methodLink "CoatHangers$State" 31 y_State_begin ∈ qT := qT_2 (i := 61) (by decide +kernel) rfl
theorem wm_Past_1 : Cond.methodLink "CoatHangers$Past" 1 objectInit ∈ qT := qT_2 (i := 202) (by decide +kernel) rfl
theorem wc_Past_9 : Cond.classLink "CoatHangers$Past" 9 "CoatHangers$State" ∈ qT := qT_2 (i := 203) (by decide +kernel) rfl
theorem wn_State : Cond.instantiable "CoatHangers$State" 7 ∈ qT := qT_2 (i := 56) (by decide +kernel) rfl
theorem wz_State : Cond.initialized "CoatHangers$State" ∈ qT := qT_1 (i := 11) (by decide +kernel) rfl
theorem wm_Past_22 : Cond.methodLink "CoatHangers$Past" 22 y_State_init ∈ qT := qT_2 (i := 205) (by decide +kernel) rfl
theorem wm_Plan_3 : Cond.methodLink "CoatHangers$Plan" 3 objectInit ∈ qT := qT_2 (i := 142) (by decide +kernel) rfl
theorem wc_Plan_9 : Cond.classLink "CoatHangers$Plan" 9 "[[I" ∈ qT := qT_2 (i := 143) (by decide +kernel) rfl
theorem wm_Text_3 : Cond.methodLink "CoatHangers$Text" 3 objectInit ∈ qT := qT_1 (i := 123) (by decide +kernel) rfl
theorem wc_Text_27 : Cond.classLink "CoatHangers$Text" 27 "CoatHangers$Law" ∈ qT := qT_1 (i := 124) (by decide +kernel) rfl
theorem wn_Law : Cond.instantiable "CoatHangers$Law" 3 ∈ qT := qT_1 (i := 125) (by decide +kernel) rfl
theorem wz_Law : Cond.initialized "CoatHangers$Law" ∈ qT := qT_1 (i := 8) (by decide +kernel) rfl
theorem wm_Text_43 : Cond.methodLink "CoatHangers$Text" 43 y_Text_clear ∈ qT := qT_1 (i := 144) (by decide +kernel) rfl
theorem wm_Waits_1 : Cond.methodLink "CoatHangers$Waiters" 1 objectInit ∈ qT := qT_1 (i := 238) (by decide +kernel) rfl
theorem wm_Reader_3 : Cond.methodLink "CoatHangers$Reader" 3 objectInit ∈ qT := qT_1 (i := 230) (by decide +kernel) rfl
theorem wc_Reader_9 : Cond.classLink "CoatHangers$Reader" 9 "CoatHangers$Text" ∈ qT := qT_1 (i := 231) (by decide +kernel) rfl
theorem wn_Text : Cond.instantiable "CoatHangers$Text" 13 ∈ qT := qT_1 (i := 119) (by decide +kernel) rfl
theorem wz_Text : Cond.initialized "CoatHangers$Text" ∈ qT := qT_1 (i := 7) (by decide +kernel) rfl
theorem wm_Reader_11 : Cond.methodLink "CoatHangers$Reader" 11 y_Text_init ∈ qT := qT_1 (i := 232) (by decide +kernel) rfl
theorem wa_J : Cond.arrayClass (qty 3) ∈ qT := qT_1 (i := 116) (by decide +kernel) rfl
theorem wc_Reader_25 : Cond.classLink "CoatHangers$Reader" 25 "CoatHangers$Waiters" ∈ qT := qT_1 (i := 233) (by decide +kernel) rfl
theorem wn_Waits : Cond.instantiable "CoatHangers$Waiters" 3 ∈ qT := qT_1 (i := 234) (by decide +kernel) rfl
theorem wz_Waits : Cond.initialized "CoatHangers$Waiters" ∈ qT := qT_1 (i := 10) (by decide +kernel) rfl
theorem wm_Reck_3 : Cond.methodLink "CoatHangers$Reckoner" 3 objectInit ∈ qT := qT_2 (i := 110) (by decide +kernel) rfl
theorem wm_Tape_5 : Cond.methodLink "CoatHangers$Tape" 5 objectInit ∈ qT := qT_1 (i := 35) (by decide +kernel) rfl
theorem wa_B : Cond.arrayClass (qty 1) ∈ qT := qT_1 (i := 115) (by decide +kernel) rfl
theorem wm_Tape_35 : Cond.methodLink "CoatHangers$Tape" 35 y_String_length ∈ qT := qT_1 (i := 37) (by decide +kernel) rfl
theorem wm_Tape_41 : Cond.methodLink "CoatHangers$Tape" 41 y_String_charAt ∈ qT := qT_1 (i := 47) (by decide +kernel) rfl
theorem wm_Told_3 : Cond.methodLink "CoatHangers$Told" 3 objectInit ∈ qT := qT_2 (i := 166) (by decide +kernel) rfl
theorem wa_Z : Cond.arrayClass (qty 2) ∈ qT := qT_2 (i := 196) (by decide +kernel) rfl
theorem wc_Told_22 : Cond.classLink "CoatHangers$Told" 22 "[[I" ∈ qT := qT_2 (i := 167) (by decide +kernel) rfl
theorem wc_Told_39 : Cond.classLink "CoatHangers$Told" 39 "CoatHangers$State" ∈ qT := qT_2 (i := 168) (by decide +kernel) rfl
theorem wm_Told_41 : Cond.methodLink "CoatHangers$Told" 41 y_State_init ∈ qT := qT_2 (i := 169) (by decide +kernel) rfl
theorem wm_X_1 : Cond.methodLink "CoatHangers" 1 objectInit ∈ qT := qT_1 (i := 27) (by decide +kernel) rfl
theorem wc_X_7 : Cond.classLink "CoatHangers" 7 "CoatHangers$Tape" ∈ qT := qT_1 (i := 30) (by decide +kernel) rfl
theorem wn_Tape : Cond.instantiable "CoatHangers$Tape" 7 ∈ qT := qT_1 (i := 31) (by decide +kernel) rfl
theorem wz_Tape : Cond.initialized "CoatHangers$Tape" ∈ qT := qT_1 (i := 2) (by decide +kernel) rfl
theorem wm_X_9 : Cond.methodLink "CoatHangers" 9 y_Tape_init ∈ qT := qT_1 (i := 32) (by decide +kernel) rfl
theorem wc_X_16 : Cond.classLink "CoatHangers" 16 "CoatHangers$Text" ∈ qT := qT_1 (i := 118) (by decide +kernel) rfl
theorem wm_X_18 : Cond.methodLink "CoatHangers" 18 y_Text_init ∈ qT := qT_1 (i := 120) (by decide +kernel) rfl
theorem wc_X_23 : Cond.classLink "CoatHangers" 23 "CoatHangers$Reader" ∈ qT := qT_1 (i := 225) (by decide +kernel) rfl
theorem wn_Reader : Cond.instantiable "CoatHangers$Reader" 14 ∈ qT := qT_1 (i := 226) (by decide +kernel) rfl
theorem wz_Reader : Cond.initialized "CoatHangers$Reader" ∈ qT := qT_1 (i := 9) (by decide +kernel) rfl
theorem wm_X_25 : Cond.methodLink "CoatHangers" 25 y_Reader_init ∈ qT := qT_1 (i := 227) (by decide +kernel) rfl
theorem wc_X_32 : Cond.classLink "CoatHangers" 32 "CoatHangers$State" ∈ qT := qT_2 (i := 55) (by decide +kernel) rfl
theorem wm_X_34 : Cond.methodLink "CoatHangers" 34 y_State_init ∈ qT := qT_2 (i := 57) (by decide +kernel) rfl
theorem wc_X_44 : Cond.classLink "CoatHangers" 44 "CoatHangers$Reckoner" ∈ qT := qT_2 (i := 105) (by decide +kernel) rfl
theorem wn_Reck : Cond.instantiable "CoatHangers$Reckoner" 3 ∈ qT := qT_2 (i := 106) (by decide +kernel) rfl
theorem wz_Reck : Cond.initialized "CoatHangers$Reckoner" ∈ qT := qT_1 (i := 12) (by decide +kernel) rfl
theorem wm_X_46 : Cond.methodLink "CoatHangers" 46 y_Reck_init ∈ qT := qT_2 (i := 107) (by decide +kernel) rfl
theorem wc_X_51 : Cond.classLink "CoatHangers" 51 "CoatHangers$Night" ∈ qT := qT_2 (i := 121) (by decide +kernel) rfl
theorem wn_Night : Cond.instantiable "CoatHangers$Night" 3 ∈ qT := qT_2 (i := 122) (by decide +kernel) rfl
theorem wz_Night : Cond.initialized "CoatHangers$Night" ∈ qT := qT_1 (i := 13) (by decide +kernel) rfl
theorem wm_X_53 : Cond.methodLink "CoatHangers" 53 y_Night_init ∈ qT := qT_2 (i := 123) (by decide +kernel) rfl
theorem wc_X_60 : Cond.classLink "CoatHangers" 60 "CoatHangers$Plan" ∈ qT := qT_2 (i := 137) (by decide +kernel) rfl
theorem wn_Plan : Cond.instantiable "CoatHangers$Plan" 5 ∈ qT := qT_2 (i := 138) (by decide +kernel) rfl
theorem wz_Plan : Cond.initialized "CoatHangers$Plan" ∈ qT := qT_1 (i := 14) (by decide +kernel) rfl
theorem wm_X_62 : Cond.methodLink "CoatHangers" 62 y_Plan_init ∈ qT := qT_2 (i := 139) (by decide +kernel) rfl
theorem wc_X_67 : Cond.classLink "CoatHangers" 67 "CoatHangers$Told" ∈ qT := qT_2 (i := 161) (by decide +kernel) rfl
theorem wn_Told : Cond.instantiable "CoatHangers$Told" 8 ∈ qT := qT_2 (i := 162) (by decide +kernel) rfl
theorem wz_Told : Cond.initialized "CoatHangers$Told" ∈ qT := qT_1 (i := 15) (by decide +kernel) rfl
theorem wm_X_69 : Cond.methodLink "CoatHangers" 69 y_Told_init ∈ qT := qT_2 (i := 163) (by decide +kernel) rfl
theorem wc_X_76 : Cond.classLink "CoatHangers" 76 "CoatHangers$Past" ∈ qT := qT_2 (i := 197) (by decide +kernel) rfl
theorem wn_Past : Cond.instantiable "CoatHangers$Past" 3 ∈ qT := qT_2 (i := 198) (by decide +kernel) rfl
theorem wz_Past : Cond.initialized "CoatHangers$Past" ∈ qT := qT_1 (i := 16) (by decide +kernel) rfl
theorem wm_X_78 : Cond.methodLink "CoatHangers" 78 y_Past_init ∈ qT := qT_2 (i := 199) (by decide +kernel) rfl
theorem d_Law_init_0 : decode prog_2_method_1_code 0 = .ok (.aload_n 0, 1) := by decide +kernel
theorem d_Law_init_1 : decode prog_2_method_1_code 1 = .ok (.invokespecial 3, 3) := by decide +kernel
theorem d_Law_init_4 : decode prog_2_method_1_code 4 = .ok (.aload_n 0, 1) := by decide +kernel
theorem d_Law_init_5 : decode prog_2_method_1_code 5 = .ok (.sipush 400, 3) := by decide +kernel
theorem d_Law_init_8 : decode prog_2_method_1_code 8 = .ok (.newarray .int, 2) := by decide +kernel
theorem d_Law_init_10 : decode prog_2_method_1_code 10 = .ok (.putfield 11, 3) := by decide +kernel
theorem d_Law_init_13 : decode prog_2_method_1_code 13 = .ok (.aload_n 0, 1) := by decide +kernel
theorem d_Law_init_14 : decode prog_2_method_1_code 14 = .ok (.sipush 400, 3) := by decide +kernel
theorem d_Law_init_17 : decode prog_2_method_1_code 17 = .ok (.newarray .int, 2) := by decide +kernel
theorem d_Law_init_19 : decode prog_2_method_1_code 19 = .ok (.putfield 15, 3) := by decide +kernel
theorem d_Law_init_22 : decode prog_2_method_1_code 22 = .ok (.aload_n 0, 1) := by decide +kernel
theorem d_Law_init_23 : decode prog_2_method_1_code 23 = .ok (.iconst 0, 1) := by decide +kernel
theorem d_Law_init_24 : decode prog_2_method_1_code 24 = .ok (.putfield 18, 3) := by decide +kernel
theorem d_Law_init_27 : decode prog_2_method_1_code 27 = .ok (.return_, 1) := by decide +kernel
theorem d_Night_init_0 : decode prog_3_method_1_code 0 = .ok (.aload_n 0, 1) := by decide +kernel
theorem d_Night_init_1 : decode prog_3_method_1_code 1 = .ok (.invokespecial 3, 3) := by decide +kernel
theorem d_Night_init_4 : decode prog_3_method_1_code 4 = .ok (.aload_n 0, 1) := by decide +kernel
theorem d_Night_init_5 : decode prog_3_method_1_code 5 = .ok (.bipush 6, 2) := by decide +kernel
theorem d_Night_init_7 : decode prog_3_method_1_code 7 = .ok (.newarray .int, 2) := by decide +kernel
theorem d_Night_init_9 : decode prog_3_method_1_code 9 = .ok (.putfield 9, 3) := by decide +kernel
theorem d_Night_init_12 : decode prog_3_method_1_code 12 = .ok (.aload_n 0, 1) := by decide +kernel
theorem d_Night_init_13 : decode prog_3_method_1_code 13 = .ok (.aload_n 1, 1) := by decide +kernel
theorem d_Night_init_14 : decode prog_3_method_1_code 14 = .ok (.putfield 15, 3) := by decide +kernel
theorem d_Night_init_17 : decode prog_3_method_1_code 17 = .ok (.aload_n 0, 1) := by decide +kernel
theorem d_Night_init_18 : decode prog_3_method_1_code 18 = .ok (.aload_n 2, 1) := by decide +kernel
theorem d_Night_init_19 : decode prog_3_method_1_code 19 = .ok (.putfield 19, 3) := by decide +kernel
theorem d_Night_init_22 : decode prog_3_method_1_code 22 = .ok (.return_, 1) := by decide +kernel
theorem d_State_init_0 : decode prog_8_method_1_code 0 = .ok (.aload_n 0, 1) := by decide +kernel
theorem d_State_init_1 : decode prog_8_method_1_code 1 = .ok (.invokespecial 3, 3) := by decide +kernel
theorem d_State_init_4 : decode prog_8_method_1_code 4 = .ok (.aload_n 0, 1) := by decide +kernel
theorem d_State_init_5 : decode prog_8_method_1_code 5 = .ok (.bipush 6, 2) := by decide +kernel
theorem d_State_init_7 : decode prog_8_method_1_code 7 = .ok (.newarray .int, 2) := by decide +kernel
theorem d_State_init_9 : decode prog_8_method_1_code 9 = .ok (.putfield 9, 3) := by decide +kernel
theorem d_State_init_12 : decode prog_8_method_1_code 12 = .ok (.aload_n 0, 1) := by decide +kernel
theorem d_State_init_13 : decode prog_8_method_1_code 13 = .ok (.bipush 6, 2) := by decide +kernel
theorem d_State_init_15 : decode prog_8_method_1_code 15 = .ok (.newarray .int, 2) := by decide +kernel
theorem d_State_init_17 : decode prog_8_method_1_code 17 = .ok (.putfield 15, 3) := by decide +kernel
theorem d_State_init_20 : decode prog_8_method_1_code 20 = .ok (.aload_n 0, 1) := by decide +kernel
theorem d_State_init_21 : decode prog_8_method_1_code 21 = .ok (.bipush 6, 2) := by decide +kernel
theorem d_State_init_23 : decode prog_8_method_1_code 23 = .ok (.newarray .int, 2) := by decide +kernel
theorem d_State_init_25 : decode prog_8_method_1_code 25 = .ok (.putfield 18, 3) := by decide +kernel
theorem d_State_init_28 : decode prog_8_method_1_code 28 = .ok (.aload_n 0, 1) := by decide +kernel
theorem d_State_init_29 : decode prog_8_method_1_code 29 = .ok (.bipush 6, 2) := by decide +kernel
theorem d_State_init_31 : decode prog_8_method_1_code 31 = .ok (.newarray .int, 2) := by decide +kernel
theorem d_State_init_33 : decode prog_8_method_1_code 33 = .ok (.putfield 21, 3) := by decide +kernel
theorem d_State_init_36 : decode prog_8_method_1_code 36 = .ok (.aload_n 0, 1) := by decide +kernel
theorem d_State_init_37 : decode prog_8_method_1_code 37 = .ok (.bipush 7, 2) := by decide +kernel
theorem d_State_init_39 : decode prog_8_method_1_code 39 = .ok (.newarray .int, 2) := by decide +kernel
theorem d_State_init_41 : decode prog_8_method_1_code 41 = .ok (.putfield 24, 3) := by decide +kernel
theorem d_State_init_44 : decode prog_8_method_1_code 44 = .ok (.aload_n 0, 1) := by decide +kernel
theorem d_State_init_45 : decode prog_8_method_1_code 45 = .ok (.aload_n 1, 1) := by decide +kernel
theorem d_State_init_46 : decode prog_8_method_1_code 46 = .ok (.putfield 27, 3) := by decide +kernel
theorem d_State_init_49 : decode prog_8_method_1_code 49 = .ok (.aload_n 0, 1) := by decide +kernel
theorem d_State_init_50 : decode prog_8_method_1_code 50 = .ok (.invokevirtual 31, 3) := by decide +kernel
theorem d_State_init_53 : decode prog_8_method_1_code 53 = .ok (.return_, 1) := by decide +kernel
theorem d_Past_init_0 : decode prog_4_method_1_code 0 = .ok (.aload_n 0, 1) := by decide +kernel
theorem d_Past_init_1 : decode prog_4_method_1_code 1 = .ok (.invokespecial 1, 3) := by decide +kernel
theorem d_Past_init_4 : decode prog_4_method_1_code 4 = .ok (.aload_n 0, 1) := by decide +kernel
theorem d_Past_init_5 : decode prog_4_method_1_code 5 = .ok (.bipush 40, 2) := by decide +kernel
theorem d_Past_init_7 : decode prog_4_method_1_code 7 = .ok (.anewarray 9, 3) := by decide +kernel
theorem d_Past_init_10 : decode prog_4_method_1_code 10 = .ok (.putfield 11, 3) := by decide +kernel
theorem d_Past_init_13 : decode prog_4_method_1_code 13 = .ok (.aload_n 0, 1) := by decide +kernel
theorem d_Past_init_14 : decode prog_4_method_1_code 14 = .ok (.iconst 0, 1) := by decide +kernel
theorem d_Past_init_15 : decode prog_4_method_1_code 15 = .ok (.putfield 15, 3) := by decide +kernel
theorem d_Past_init_18 : decode prog_4_method_1_code 18 = .ok (.aload_n 0, 1) := by decide +kernel
theorem d_Past_init_19 : decode prog_4_method_1_code 19 = .ok (.iconst 0, 1) := by decide +kernel
theorem d_Past_init_20 : decode prog_4_method_1_code 20 = .ok (.putfield 19, 3) := by decide +kernel
theorem d_Past_init_23 : decode prog_4_method_1_code 23 = .ok (.iconst 0, 1) := by decide +kernel
theorem d_Past_init_24 : decode prog_4_method_1_code 24 = .ok (.istore_n 2, 1) := by decide +kernel
theorem d_Past_init_25 : decode prog_4_method_1_code 25 = .ok (.iload_n 2, 1) := by decide +kernel
theorem d_Past_init_26 : decode prog_4_method_1_code 26 = .ok (.bipush 40, 2) := by decide +kernel
theorem d_Past_init_28 : decode prog_4_method_1_code 28 = .ok (.if_icmp .ge 23, 3) := by decide +kernel
theorem d_Past_init_31 : decode prog_4_method_1_code 31 = .ok (.aload_n 0, 1) := by decide +kernel
theorem d_Past_init_32 : decode prog_4_method_1_code 32 = .ok (.getfield 11, 3) := by decide +kernel
theorem d_Past_init_35 : decode prog_4_method_1_code 35 = .ok (.iload_n 2, 1) := by decide +kernel
theorem d_Past_init_36 : decode prog_4_method_1_code 36 = .ok (.new 9, 3) := by decide +kernel
theorem d_Past_init_39 : decode prog_4_method_1_code 39 = .ok (.dup, 1) := by decide +kernel
theorem d_Past_init_40 : decode prog_4_method_1_code 40 = .ok (.aload_n 1, 1) := by decide +kernel
theorem d_Past_init_41 : decode prog_4_method_1_code 41 = .ok (.invokespecial 22, 3) := by decide +kernel
theorem d_Past_init_44 : decode prog_4_method_1_code 44 = .ok (.aastore, 1) := by decide +kernel
theorem d_Past_init_45 : decode prog_4_method_1_code 45 = .ok (.iinc 2 1, 3) := by decide +kernel
theorem d_Past_init_48 : decode prog_4_method_1_code 48 = .ok (.goto (-23), 3) := by decide +kernel
theorem d_Past_init_51 : decode prog_4_method_1_code 51 = .ok (.return_, 1) := by decide +kernel
theorem d_Plan_init_0 : decode prog_5_method_1_code 0 = .ok (.aload_n 0, 1) := by decide +kernel
theorem d_Plan_init_1 : decode prog_5_method_1_code 1 = .ok (.invokespecial 3, 3) := by decide +kernel
theorem d_Plan_init_4 : decode prog_5_method_1_code 4 = .ok (.aload_n 0, 1) := by decide +kernel
theorem d_Plan_init_5 : decode prog_5_method_1_code 5 = .ok (.bipush 6, 2) := by decide +kernel
theorem d_Plan_init_7 : decode prog_5_method_1_code 7 = .ok (.bipush 7, 2) := by decide +kernel
theorem d_Plan_init_9 : decode prog_5_method_1_code 9 = .ok (.multianewarray 9 2, 4) := by decide +kernel
theorem d_Plan_init_13 : decode prog_5_method_1_code 13 = .ok (.putfield 11, 3) := by decide +kernel
theorem d_Plan_init_16 : decode prog_5_method_1_code 16 = .ok (.aload_n 0, 1) := by decide +kernel
theorem d_Plan_init_17 : decode prog_5_method_1_code 17 = .ok (.bipush 7, 2) := by decide +kernel
theorem d_Plan_init_19 : decode prog_5_method_1_code 19 = .ok (.newarray .int, 2) := by decide +kernel
theorem d_Plan_init_21 : decode prog_5_method_1_code 21 = .ok (.putfield 16, 3) := by decide +kernel
theorem d_Plan_init_24 : decode prog_5_method_1_code 24 = .ok (.aload_n 0, 1) := by decide +kernel
theorem d_Plan_init_25 : decode prog_5_method_1_code 25 = .ok (.bipush 7, 2) := by decide +kernel
theorem d_Plan_init_27 : decode prog_5_method_1_code 27 = .ok (.sipush 128, 3) := by decide +kernel
theorem d_Plan_init_30 : decode prog_5_method_1_code 30 = .ok (.multianewarray 9 2, 4) := by decide +kernel
theorem d_Plan_init_34 : decode prog_5_method_1_code 34 = .ok (.putfield 20, 3) := by decide +kernel
theorem d_Plan_init_37 : decode prog_5_method_1_code 37 = .ok (.aload_n 0, 1) := by decide +kernel
theorem d_Plan_init_38 : decode prog_5_method_1_code 38 = .ok (.aload_n 1, 1) := by decide +kernel
theorem d_Plan_init_39 : decode prog_5_method_1_code 39 = .ok (.putfield 23, 3) := by decide +kernel
theorem d_Plan_init_42 : decode prog_5_method_1_code 42 = .ok (.aload_n 0, 1) := by decide +kernel
theorem d_Plan_init_43 : decode prog_5_method_1_code 43 = .ok (.aload_n 2, 1) := by decide +kernel
theorem d_Plan_init_44 : decode prog_5_method_1_code 44 = .ok (.putfield 27, 3) := by decide +kernel
theorem d_Plan_init_47 : decode prog_5_method_1_code 47 = .ok (.return_, 1) := by decide +kernel
theorem d_Text_init_0 : decode prog_10_method_1_code 0 = .ok (.aload_n 0, 1) := by decide +kernel
theorem d_Text_init_1 : decode prog_10_method_1_code 1 = .ok (.invokespecial 3, 3) := by decide +kernel
theorem d_Text_init_4 : decode prog_10_method_1_code 4 = .ok (.aload_n 0, 1) := by decide +kernel
theorem d_Text_init_5 : decode prog_10_method_1_code 5 = .ok (.bipush 7, 2) := by decide +kernel
theorem d_Text_init_7 : decode prog_10_method_1_code 7 = .ok (.newarray .int, 2) := by decide +kernel
theorem d_Text_init_9 : decode prog_10_method_1_code 9 = .ok (.putfield 9, 3) := by decide +kernel
theorem d_Text_init_12 : decode prog_10_method_1_code 12 = .ok (.aload_n 0, 1) := by decide +kernel
theorem d_Text_init_13 : decode prog_10_method_1_code 13 = .ok (.bipush 7, 2) := by decide +kernel
theorem d_Text_init_15 : decode prog_10_method_1_code 15 = .ok (.newarray .int, 2) := by decide +kernel
theorem d_Text_init_17 : decode prog_10_method_1_code 17 = .ok (.putfield 15, 3) := by decide +kernel
theorem d_Text_init_20 : decode prog_10_method_1_code 20 = .ok (.aload_n 0, 1) := by decide +kernel
theorem d_Text_init_21 : decode prog_10_method_1_code 21 = .ok (.bipush 6, 2) := by decide +kernel
theorem d_Text_init_23 : decode prog_10_method_1_code 23 = .ok (.newarray .int, 2) := by decide +kernel
theorem d_Text_init_25 : decode prog_10_method_1_code 25 = .ok (.putfield 18, 3) := by decide +kernel
theorem d_Text_init_28 : decode prog_10_method_1_code 28 = .ok (.aload_n 0, 1) := by decide +kernel
theorem d_Text_init_29 : decode prog_10_method_1_code 29 = .ok (.bipush 6, 2) := by decide +kernel
theorem d_Text_init_31 : decode prog_10_method_1_code 31 = .ok (.newarray .int, 2) := by decide +kernel
theorem d_Text_init_33 : decode prog_10_method_1_code 33 = .ok (.putfield 21, 3) := by decide +kernel
theorem d_Text_init_36 : decode prog_10_method_1_code 36 = .ok (.aload_n 0, 1) := by decide +kernel
theorem d_Text_init_37 : decode prog_10_method_1_code 37 = .ok (.bipush 6, 2) := by decide +kernel
theorem d_Text_init_39 : decode prog_10_method_1_code 39 = .ok (.newarray .int, 2) := by decide +kernel
theorem d_Text_init_41 : decode prog_10_method_1_code 41 = .ok (.putfield 24, 3) := by decide +kernel
theorem d_Text_init_44 : decode prog_10_method_1_code 44 = .ok (.aload_n 0, 1) := by decide +kernel
theorem d_Text_init_45 : decode prog_10_method_1_code 45 = .ok (.new 27, 3) := by decide +kernel
theorem d_Text_init_48 : decode prog_10_method_1_code 48 = .ok (.dup, 1) := by decide +kernel
theorem d_Text_init_49 : decode prog_10_method_1_code 49 = .ok (.invokespecial 29, 3) := by decide +kernel
theorem d_Text_init_52 : decode prog_10_method_1_code 52 = .ok (.putfield 30, 3) := by decide +kernel
theorem d_Text_init_55 : decode prog_10_method_1_code 55 = .ok (.aload_n 0, 1) := by decide +kernel
theorem d_Text_init_56 : decode prog_10_method_1_code 56 = .ok (.new 27, 3) := by decide +kernel
theorem d_Text_init_59 : decode prog_10_method_1_code 59 = .ok (.dup, 1) := by decide +kernel
theorem d_Text_init_60 : decode prog_10_method_1_code 60 = .ok (.invokespecial 29, 3) := by decide +kernel
theorem d_Text_init_63 : decode prog_10_method_1_code 63 = .ok (.putfield 34, 3) := by decide +kernel
theorem d_Text_init_66 : decode prog_10_method_1_code 66 = .ok (.aload_n 0, 1) := by decide +kernel
theorem d_Text_init_67 : decode prog_10_method_1_code 67 = .ok (.new 27, 3) := by decide +kernel
theorem d_Text_init_70 : decode prog_10_method_1_code 70 = .ok (.dup, 1) := by decide +kernel
theorem d_Text_init_71 : decode prog_10_method_1_code 71 = .ok (.invokespecial 29, 3) := by decide +kernel
theorem d_Text_init_74 : decode prog_10_method_1_code 74 = .ok (.putfield 37, 3) := by decide +kernel
theorem d_Text_init_77 : decode prog_10_method_1_code 77 = .ok (.aload_n 0, 1) := by decide +kernel
theorem d_Text_init_78 : decode prog_10_method_1_code 78 = .ok (.new 27, 3) := by decide +kernel
theorem d_Text_init_81 : decode prog_10_method_1_code 81 = .ok (.dup, 1) := by decide +kernel
theorem d_Text_init_82 : decode prog_10_method_1_code 82 = .ok (.invokespecial 29, 3) := by decide +kernel
theorem d_Text_init_85 : decode prog_10_method_1_code 85 = .ok (.putfield 40, 3) := by decide +kernel
theorem d_Text_init_88 : decode prog_10_method_1_code 88 = .ok (.aload_n 0, 1) := by decide +kernel
theorem d_Text_init_89 : decode prog_10_method_1_code 89 = .ok (.invokevirtual 43, 3) := by decide +kernel
theorem d_Text_init_92 : decode prog_10_method_1_code 92 = .ok (.return_, 1) := by decide +kernel
theorem d_Waits_init_0 : decode prog_12_method_1_code 0 = .ok (.aload_n 0, 1) := by decide +kernel
theorem d_Waits_init_1 : decode prog_12_method_1_code 1 = .ok (.invokespecial 1, 3) := by decide +kernel
theorem d_Waits_init_4 : decode prog_12_method_1_code 4 = .ok (.aload_n 0, 1) := by decide +kernel
theorem d_Waits_init_5 : decode prog_12_method_1_code 5 = .ok (.bipush 32, 2) := by decide +kernel
theorem d_Waits_init_7 : decode prog_12_method_1_code 7 = .ok (.newarray .int, 2) := by decide +kernel
theorem d_Waits_init_9 : decode prog_12_method_1_code 9 = .ok (.putfield 9, 3) := by decide +kernel
theorem d_Waits_init_12 : decode prog_12_method_1_code 12 = .ok (.return_, 1) := by decide +kernel
theorem d_Reader_init_0 : decode prog_6_method_1_code 0 = .ok (.aload_n 0, 1) := by decide +kernel
theorem d_Reader_init_1 : decode prog_6_method_1_code 1 = .ok (.invokespecial 3, 3) := by decide +kernel
theorem d_Reader_init_4 : decode prog_6_method_1_code 4 = .ok (.aload_n 0, 1) := by decide +kernel
theorem d_Reader_init_5 : decode prog_6_method_1_code 5 = .ok (.new 9, 3) := by decide +kernel
theorem d_Reader_init_8 : decode prog_6_method_1_code 8 = .ok (.dup, 1) := by decide +kernel
theorem d_Reader_init_9 : decode prog_6_method_1_code 9 = .ok (.invokespecial 11, 3) := by decide +kernel
theorem d_Reader_init_12 : decode prog_6_method_1_code 12 = .ok (.putfield 12, 3) := by decide +kernel
theorem d_Reader_init_15 : decode prog_6_method_1_code 15 = .ok (.aload_n 0, 1) := by decide +kernel
theorem d_Reader_init_16 : decode prog_6_method_1_code 16 = .ok (.bipush 7, 2) := by decide +kernel
theorem d_Reader_init_18 : decode prog_6_method_1_code 18 = .ok (.newarray .long, 2) := by decide +kernel
theorem d_Reader_init_20 : decode prog_6_method_1_code 20 = .ok (.putfield 18, 3) := by decide +kernel
theorem d_Reader_init_23 : decode prog_6_method_1_code 23 = .ok (.aload_n 0, 1) := by decide +kernel
theorem d_Reader_init_24 : decode prog_6_method_1_code 24 = .ok (.bipush 6, 2) := by decide +kernel
theorem d_Reader_init_26 : decode prog_6_method_1_code 26 = .ok (.newarray .long, 2) := by decide +kernel
theorem d_Reader_init_28 : decode prog_6_method_1_code 28 = .ok (.putfield 22, 3) := by decide +kernel
theorem d_Reader_init_31 : decode prog_6_method_1_code 31 = .ok (.aload_n 0, 1) := by decide +kernel
theorem d_Reader_init_32 : decode prog_6_method_1_code 32 = .ok (.new 25, 3) := by decide +kernel
theorem d_Reader_init_35 : decode prog_6_method_1_code 35 = .ok (.dup, 1) := by decide +kernel
theorem d_Reader_init_36 : decode prog_6_method_1_code 36 = .ok (.invokespecial 27, 3) := by decide +kernel
theorem d_Reader_init_39 : decode prog_6_method_1_code 39 = .ok (.putfield 28, 3) := by decide +kernel
theorem d_Reader_init_42 : decode prog_6_method_1_code 42 = .ok (.aload_n 0, 1) := by decide +kernel
theorem d_Reader_init_43 : decode prog_6_method_1_code 43 = .ok (.iconst (-1), 1) := by decide +kernel
theorem d_Reader_init_44 : decode prog_6_method_1_code 44 = .ok (.putfield 32, 3) := by decide +kernel
theorem d_Reader_init_47 : decode prog_6_method_1_code 47 = .ok (.aload_n 0, 1) := by decide +kernel
theorem d_Reader_init_48 : decode prog_6_method_1_code 48 = .ok (.aload_n 1, 1) := by decide +kernel
theorem d_Reader_init_49 : decode prog_6_method_1_code 49 = .ok (.putfield 36, 3) := by decide +kernel
theorem d_Reader_init_52 : decode prog_6_method_1_code 52 = .ok (.return_, 1) := by decide +kernel
theorem d_Reck_init_0 : decode prog_7_method_1_code 0 = .ok (.aload_n 0, 1) := by decide +kernel
theorem d_Reck_init_1 : decode prog_7_method_1_code 1 = .ok (.invokespecial 3, 3) := by decide +kernel
theorem d_Reck_init_4 : decode prog_7_method_1_code 4 = .ok (.aload_n 0, 1) := by decide +kernel
theorem d_Reck_init_5 : decode prog_7_method_1_code 5 = .ok (.bipush 9, 2) := by decide +kernel
theorem d_Reck_init_7 : decode prog_7_method_1_code 7 = .ok (.newarray .int, 2) := by decide +kernel
theorem d_Reck_init_9 : decode prog_7_method_1_code 9 = .ok (.putfield 11, 3) := by decide +kernel
theorem d_Reck_init_12 : decode prog_7_method_1_code 12 = .ok (.aload_n 0, 1) := by decide +kernel
theorem d_Reck_init_13 : decode prog_7_method_1_code 13 = .ok (.bipush 32, 2) := by decide +kernel
theorem d_Reck_init_15 : decode prog_7_method_1_code 15 = .ok (.newarray .int, 2) := by decide +kernel
theorem d_Reck_init_17 : decode prog_7_method_1_code 17 = .ok (.putfield 15, 3) := by decide +kernel
theorem d_Reck_init_20 : decode prog_7_method_1_code 20 = .ok (.aload_n 0, 1) := by decide +kernel
theorem d_Reck_init_21 : decode prog_7_method_1_code 21 = .ok (.aload_n 1, 1) := by decide +kernel
theorem d_Reck_init_22 : decode prog_7_method_1_code 22 = .ok (.putfield 18, 3) := by decide +kernel
theorem d_Reck_init_25 : decode prog_7_method_1_code 25 = .ok (.return_, 1) := by decide +kernel
theorem d_Tape_init_0 : decode prog_9_method_1_code 0 = .ok (.aload_n 0, 1) := by decide +kernel
theorem d_Tape_init_1 : decode prog_9_method_1_code 1 = .ok (.invokespecial 5, 3) := by decide +kernel
theorem d_Tape_init_4 : decode prog_9_method_1_code 4 = .ok (.aload_n 0, 1) := by decide +kernel
theorem d_Tape_init_5 : decode prog_9_method_1_code 5 = .ok (.sipush 2000, 3) := by decide +kernel
theorem d_Tape_init_8 : decode prog_9_method_1_code 8 = .ok (.newarray .byte, 2) := by decide +kernel
theorem d_Tape_init_10 : decode prog_9_method_1_code 10 = .ok (.putfield 11, 3) := by decide +kernel
theorem d_Tape_init_13 : decode prog_9_method_1_code 13 = .ok (.aload_n 0, 1) := by decide +kernel
theorem d_Tape_init_14 : decode prog_9_method_1_code 14 = .ok (.iconst 0, 1) := by decide +kernel
theorem d_Tape_init_15 : decode prog_9_method_1_code 15 = .ok (.putfield 15, 3) := by decide +kernel
theorem d_Tape_init_18 : decode prog_9_method_1_code 18 = .ok (.aload_n 0, 1) := by decide +kernel
theorem d_Tape_init_19 : decode prog_9_method_1_code 19 = .ok (.bipush 21, 2) := by decide +kernel
theorem d_Tape_init_21 : decode prog_9_method_1_code 21 = .ok (.newarray .long, 2) := by decide +kernel
theorem d_Tape_init_23 : decode prog_9_method_1_code 23 = .ok (.putfield 19, 3) := by decide +kernel
theorem d_Tape_init_26 : decode prog_9_method_1_code 26 = .ok (.aload_n 0, 1) := by decide +kernel
theorem d_Tape_init_27 : decode prog_9_method_1_code 27 = .ok (.sipush 402, 3) := by decide +kernel
theorem d_Tape_init_30 : decode prog_9_method_1_code 30 = .ok (.newarray .int, 2) := by decide +kernel
theorem d_Tape_init_32 : decode prog_9_method_1_code 32 = .ok (.putfield 23, 3) := by decide +kernel
theorem d_Tape_init_35 : decode prog_9_method_1_code 35 = .ok (.aload_n 0, 1) := by decide +kernel
theorem d_Tape_init_36 : decode prog_9_method_1_code 36 = .ok (.sipush 402, 3) := by decide +kernel
theorem d_Tape_init_39 : decode prog_9_method_1_code 39 = .ok (.newarray .int, 2) := by decide +kernel
theorem d_Tape_init_41 : decode prog_9_method_1_code 41 = .ok (.putfield 27, 3) := by decide +kernel
theorem d_Tape_init_44 : decode prog_9_method_1_code 44 = .ok (.aload_n 0, 1) := by decide +kernel
theorem d_Tape_init_45 : decode prog_9_method_1_code 45 = .ok (.sipush 402, 3) := by decide +kernel
theorem d_Tape_init_48 : decode prog_9_method_1_code 48 = .ok (.newarray .long, 2) := by decide +kernel
theorem d_Tape_init_50 : decode prog_9_method_1_code 50 = .ok (.putfield 30, 3) := by decide +kernel
theorem d_Tape_init_53 : decode prog_9_method_1_code 53 = .ok (.iconst 0, 1) := by decide +kernel
theorem d_Tape_init_54 : decode prog_9_method_1_code 54 = .ok (.istore_n 1, 1) := by decide +kernel
theorem d_Tape_init_55 : decode prog_9_method_1_code 55 = .ok (.iconst 0, 1) := by decide +kernel
theorem d_Tape_init_56 : decode prog_9_method_1_code 56 = .ok (.istore_n 2, 1) := by decide +kernel
theorem d_Tape_init_57 : decode prog_9_method_1_code 57 = .ok (.iload_n 2, 1) := by decide +kernel
theorem d_Tape_init_58 : decode prog_9_method_1_code 58 = .ok (.ldc 33, 2) := by decide +kernel
theorem d_Tape_init_60 : decode prog_9_method_1_code 60 = .ok (.invokevirtual 35, 3) := by decide +kernel
theorem d_Tape_init_63 : decode prog_9_method_1_code 63 = .ok (.if_icmp .ge 50, 3) := by decide +kernel
theorem d_Tape_init_66 : decode prog_9_method_1_code 66 = .ok (.iload_n 1, 1) := by decide +kernel
theorem d_Tape_init_67 : decode prog_9_method_1_code 67 = .ok (.bipush 21, 2) := by decide +kernel
theorem d_Tape_init_69 : decode prog_9_method_1_code 69 = .ok (.if_icmp .ge 44, 3) := by decide +kernel
theorem d_Tape_init_72 : decode prog_9_method_1_code 72 = .ok (.ldc 33, 2) := by decide +kernel
theorem d_Tape_init_74 : decode prog_9_method_1_code 74 = .ok (.iload_n 2, 1) := by decide +kernel
theorem d_Tape_init_75 : decode prog_9_method_1_code 75 = .ok (.invokevirtual 41, 3) := by decide +kernel
theorem d_Tape_init_78 : decode prog_9_method_1_code 78 = .ok (.istore_n 3, 1) := by decide +kernel
theorem d_Tape_init_79 : decode prog_9_method_1_code 79 = .ok (.iload_n 3, 1) := by decide +kernel
theorem d_Tape_init_80 : decode prog_9_method_1_code 80 = .ok (.bipush 32, 2) := by decide +kernel
theorem d_Tape_init_82 : decode prog_9_method_1_code 82 = .ok (.if_icmp .ne 9, 3) := by decide +kernel
theorem d_Tape_init_85 : decode prog_9_method_1_code 85 = .ok (.iinc 1 1, 3) := by decide +kernel
theorem d_Tape_init_88 : decode prog_9_method_1_code 88 = .ok (.goto 19, 3) := by decide +kernel
theorem d_Tape_init_91 : decode prog_9_method_1_code 91 = .ok (.aload_n 0, 1) := by decide +kernel
theorem d_Tape_init_92 : decode prog_9_method_1_code 92 = .ok (.getfield 19, 3) := by decide +kernel
theorem d_Tape_init_95 : decode prog_9_method_1_code 95 = .ok (.iload_n 1, 1) := by decide +kernel
theorem d_Tape_init_96 : decode prog_9_method_1_code 96 = .ok (.aload_n 0, 1) := by decide +kernel
theorem d_Tape_init_97 : decode prog_9_method_1_code 97 = .ok (.getfield 19, 3) := by decide +kernel
theorem d_Tape_init_100 : decode prog_9_method_1_code 100 = .ok (.iload_n 1, 1) := by decide +kernel
theorem d_Tape_init_101 : decode prog_9_method_1_code 101 = .ok (.laload, 1) := by decide +kernel
theorem d_Tape_init_102 : decode prog_9_method_1_code 102 = .ok (.iload_n 3, 1) := by decide +kernel
theorem d_Tape_init_103 : decode prog_9_method_1_code 103 = .ok (.invokestatic 45, 3) := by decide +kernel
theorem d_Tape_init_106 : decode prog_9_method_1_code 106 = .ok (.lastore, 1) := by decide +kernel
theorem d_Tape_init_107 : decode prog_9_method_1_code 107 = .ok (.iinc 2 1, 3) := by decide +kernel
theorem d_Tape_init_110 : decode prog_9_method_1_code 110 = .ok (.goto (-53), 3) := by decide +kernel
theorem d_Tape_init_113 : decode prog_9_method_1_code 113 = .ok (.return_, 1) := by decide +kernel
theorem d_Told_init_0 : decode prog_11_method_1_code 0 = .ok (.aload_n 0, 1) := by decide +kernel
theorem d_Told_init_1 : decode prog_11_method_1_code 1 = .ok (.invokespecial 3, 3) := by decide +kernel
theorem d_Told_init_4 : decode prog_11_method_1_code 4 = .ok (.aload_n 0, 1) := by decide +kernel
theorem d_Told_init_5 : decode prog_11_method_1_code 5 = .ok (.bipush 20, 2) := by decide +kernel
theorem d_Told_init_7 : decode prog_11_method_1_code 7 = .ok (.newarray .int, 2) := by decide +kernel
theorem d_Told_init_9 : decode prog_11_method_1_code 9 = .ok (.putfield 11, 3) := by decide +kernel
theorem d_Told_init_12 : decode prog_11_method_1_code 12 = .ok (.aload_n 0, 1) := by decide +kernel
theorem d_Told_init_13 : decode prog_11_method_1_code 13 = .ok (.bipush 20, 2) := by decide +kernel
theorem d_Told_init_15 : decode prog_11_method_1_code 15 = .ok (.newarray .int, 2) := by decide +kernel
theorem d_Told_init_17 : decode prog_11_method_1_code 17 = .ok (.putfield 15, 3) := by decide +kernel
theorem d_Told_init_20 : decode prog_11_method_1_code 20 = .ok (.aload_n 0, 1) := by decide +kernel
theorem d_Told_init_21 : decode prog_11_method_1_code 21 = .ok (.bipush 20, 2) := by decide +kernel
theorem d_Told_init_23 : decode prog_11_method_1_code 23 = .ok (.newarray .boolean, 2) := by decide +kernel
theorem d_Told_init_25 : decode prog_11_method_1_code 25 = .ok (.putfield 18, 3) := by decide +kernel
theorem d_Told_init_28 : decode prog_11_method_1_code 28 = .ok (.aload_n 0, 1) := by decide +kernel
theorem d_Told_init_29 : decode prog_11_method_1_code 29 = .ok (.bipush 6, 2) := by decide +kernel
theorem d_Told_init_31 : decode prog_11_method_1_code 31 = .ok (.bipush 6, 2) := by decide +kernel
theorem d_Told_init_33 : decode prog_11_method_1_code 33 = .ok (.multianewarray 22 2, 4) := by decide +kernel
theorem d_Told_init_37 : decode prog_11_method_1_code 37 = .ok (.putfield 24, 3) := by decide +kernel
theorem d_Told_init_40 : decode prog_11_method_1_code 40 = .ok (.aload_n 0, 1) := by decide +kernel
theorem d_Told_init_41 : decode prog_11_method_1_code 41 = .ok (.iconst 0, 1) := by decide +kernel
theorem d_Told_init_42 : decode prog_11_method_1_code 42 = .ok (.putfield 27, 3) := by decide +kernel
theorem d_Told_init_45 : decode prog_11_method_1_code 45 = .ok (.aload_n 0, 1) := by decide +kernel
theorem d_Told_init_46 : decode prog_11_method_1_code 46 = .ok (.aload_n 1, 1) := by decide +kernel
theorem d_Told_init_47 : decode prog_11_method_1_code 47 = .ok (.putfield 31, 3) := by decide +kernel
theorem d_Told_init_50 : decode prog_11_method_1_code 50 = .ok (.aload_n 0, 1) := by decide +kernel
theorem d_Told_init_51 : decode prog_11_method_1_code 51 = .ok (.aload_n 2, 1) := by decide +kernel
theorem d_Told_init_52 : decode prog_11_method_1_code 52 = .ok (.putfield 35, 3) := by decide +kernel
theorem d_Told_init_55 : decode prog_11_method_1_code 55 = .ok (.aload_n 0, 1) := by decide +kernel
theorem d_Told_init_56 : decode prog_11_method_1_code 56 = .ok (.new 39, 3) := by decide +kernel
theorem d_Told_init_59 : decode prog_11_method_1_code 59 = .ok (.dup, 1) := by decide +kernel
theorem d_Told_init_60 : decode prog_11_method_1_code 60 = .ok (.aload_n 1, 1) := by decide +kernel
theorem d_Told_init_61 : decode prog_11_method_1_code 61 = .ok (.invokespecial 41, 3) := by decide +kernel
theorem d_Told_init_64 : decode prog_11_method_1_code 64 = .ok (.putfield 44, 3) := by decide +kernel
theorem d_Told_init_67 : decode prog_11_method_1_code 67 = .ok (.return_, 1) := by decide +kernel
theorem d_X_init_0 : decode prog_1_method_1_code 0 = .ok (.aload_n 0, 1) := by decide +kernel
theorem d_X_init_1 : decode prog_1_method_1_code 1 = .ok (.invokespecial 1, 3) := by decide +kernel
theorem d_X_init_4 : decode prog_1_method_1_code 4 = .ok (.aload_n 0, 1) := by decide +kernel
theorem d_X_init_5 : decode prog_1_method_1_code 5 = .ok (.new 7, 3) := by decide +kernel
theorem d_X_init_8 : decode prog_1_method_1_code 8 = .ok (.dup, 1) := by decide +kernel
theorem d_X_init_9 : decode prog_1_method_1_code 9 = .ok (.invokespecial 9, 3) := by decide +kernel
theorem d_X_init_12 : decode prog_1_method_1_code 12 = .ok (.putfield 10, 3) := by decide +kernel
theorem d_X_init_15 : decode prog_1_method_1_code 15 = .ok (.aload_n 0, 1) := by decide +kernel
theorem d_X_init_16 : decode prog_1_method_1_code 16 = .ok (.new 16, 3) := by decide +kernel
theorem d_X_init_19 : decode prog_1_method_1_code 19 = .ok (.dup, 1) := by decide +kernel
theorem d_X_init_20 : decode prog_1_method_1_code 20 = .ok (.invokespecial 18, 3) := by decide +kernel
theorem d_X_init_23 : decode prog_1_method_1_code 23 = .ok (.putfield 19, 3) := by decide +kernel
theorem d_X_init_26 : decode prog_1_method_1_code 26 = .ok (.aload_n 0, 1) := by decide +kernel
theorem d_X_init_27 : decode prog_1_method_1_code 27 = .ok (.new 23, 3) := by decide +kernel
theorem d_X_init_30 : decode prog_1_method_1_code 30 = .ok (.dup, 1) := by decide +kernel
theorem d_X_init_31 : decode prog_1_method_1_code 31 = .ok (.aload_n 0, 1) := by decide +kernel
theorem d_X_init_32 : decode prog_1_method_1_code 32 = .ok (.getfield 10, 3) := by decide +kernel
theorem d_X_init_35 : decode prog_1_method_1_code 35 = .ok (.invokespecial 25, 3) := by decide +kernel
theorem d_X_init_38 : decode prog_1_method_1_code 38 = .ok (.putfield 28, 3) := by decide +kernel
theorem d_X_init_41 : decode prog_1_method_1_code 41 = .ok (.aload_n 0, 1) := by decide +kernel
theorem d_X_init_42 : decode prog_1_method_1_code 42 = .ok (.new 32, 3) := by decide +kernel
theorem d_X_init_45 : decode prog_1_method_1_code 45 = .ok (.dup, 1) := by decide +kernel
theorem d_X_init_46 : decode prog_1_method_1_code 46 = .ok (.aload_n 0, 1) := by decide +kernel
theorem d_X_init_47 : decode prog_1_method_1_code 47 = .ok (.getfield 19, 3) := by decide +kernel
theorem d_X_init_50 : decode prog_1_method_1_code 50 = .ok (.invokespecial 34, 3) := by decide +kernel
theorem d_X_init_53 : decode prog_1_method_1_code 53 = .ok (.putfield 37, 3) := by decide +kernel
theorem d_X_init_56 : decode prog_1_method_1_code 56 = .ok (.aload_n 0, 1) := by decide +kernel
theorem d_X_init_57 : decode prog_1_method_1_code 57 = .ok (.new 32, 3) := by decide +kernel
theorem d_X_init_60 : decode prog_1_method_1_code 60 = .ok (.dup, 1) := by decide +kernel
theorem d_X_init_61 : decode prog_1_method_1_code 61 = .ok (.aload_n 0, 1) := by decide +kernel
theorem d_X_init_62 : decode prog_1_method_1_code 62 = .ok (.getfield 19, 3) := by decide +kernel
theorem d_X_init_65 : decode prog_1_method_1_code 65 = .ok (.invokespecial 34, 3) := by decide +kernel
theorem d_X_init_68 : decode prog_1_method_1_code 68 = .ok (.putfield 41, 3) := by decide +kernel
theorem d_X_init_71 : decode prog_1_method_1_code 71 = .ok (.aload_n 0, 1) := by decide +kernel
theorem d_X_init_72 : decode prog_1_method_1_code 72 = .ok (.new 44, 3) := by decide +kernel
theorem d_X_init_75 : decode prog_1_method_1_code 75 = .ok (.dup, 1) := by decide +kernel
theorem d_X_init_76 : decode prog_1_method_1_code 76 = .ok (.aload_n 0, 1) := by decide +kernel
theorem d_X_init_77 : decode prog_1_method_1_code 77 = .ok (.getfield 19, 3) := by decide +kernel
theorem d_X_init_80 : decode prog_1_method_1_code 80 = .ok (.invokespecial 46, 3) := by decide +kernel
theorem d_X_init_83 : decode prog_1_method_1_code 83 = .ok (.putfield 47, 3) := by decide +kernel
theorem d_X_init_86 : decode prog_1_method_1_code 86 = .ok (.aload_n 0, 1) := by decide +kernel
theorem d_X_init_87 : decode prog_1_method_1_code 87 = .ok (.new 51, 3) := by decide +kernel
theorem d_X_init_90 : decode prog_1_method_1_code 90 = .ok (.dup, 1) := by decide +kernel
theorem d_X_init_91 : decode prog_1_method_1_code 91 = .ok (.aload_n 0, 1) := by decide +kernel
theorem d_X_init_92 : decode prog_1_method_1_code 92 = .ok (.getfield 19, 3) := by decide +kernel
theorem d_X_init_95 : decode prog_1_method_1_code 95 = .ok (.aload_n 0, 1) := by decide +kernel
theorem d_X_init_96 : decode prog_1_method_1_code 96 = .ok (.getfield 47, 3) := by decide +kernel
theorem d_X_init_99 : decode prog_1_method_1_code 99 = .ok (.invokespecial 53, 3) := by decide +kernel
theorem d_X_init_102 : decode prog_1_method_1_code 102 = .ok (.putfield 56, 3) := by decide +kernel
theorem d_X_init_105 : decode prog_1_method_1_code 105 = .ok (.aload_n 0, 1) := by decide +kernel
theorem d_X_init_106 : decode prog_1_method_1_code 106 = .ok (.new 60, 3) := by decide +kernel
theorem d_X_init_109 : decode prog_1_method_1_code 109 = .ok (.dup, 1) := by decide +kernel
theorem d_X_init_110 : decode prog_1_method_1_code 110 = .ok (.aload_n 0, 1) := by decide +kernel
theorem d_X_init_111 : decode prog_1_method_1_code 111 = .ok (.getfield 19, 3) := by decide +kernel
theorem d_X_init_114 : decode prog_1_method_1_code 114 = .ok (.aload_n 0, 1) := by decide +kernel
theorem d_X_init_115 : decode prog_1_method_1_code 115 = .ok (.getfield 47, 3) := by decide +kernel
theorem d_X_init_118 : decode prog_1_method_1_code 118 = .ok (.invokespecial 62, 3) := by decide +kernel
theorem d_X_init_121 : decode prog_1_method_1_code 121 = .ok (.putfield 63, 3) := by decide +kernel
theorem d_X_init_124 : decode prog_1_method_1_code 124 = .ok (.aload_n 0, 1) := by decide +kernel
theorem d_X_init_125 : decode prog_1_method_1_code 125 = .ok (.new 67, 3) := by decide +kernel
theorem d_X_init_128 : decode prog_1_method_1_code 128 = .ok (.dup, 1) := by decide +kernel
theorem d_X_init_129 : decode prog_1_method_1_code 129 = .ok (.aload_n 0, 1) := by decide +kernel
theorem d_X_init_130 : decode prog_1_method_1_code 130 = .ok (.getfield 19, 3) := by decide +kernel
theorem d_X_init_133 : decode prog_1_method_1_code 133 = .ok (.aload_n 0, 1) := by decide +kernel
theorem d_X_init_134 : decode prog_1_method_1_code 134 = .ok (.getfield 56, 3) := by decide +kernel
theorem d_X_init_137 : decode prog_1_method_1_code 137 = .ok (.invokespecial 69, 3) := by decide +kernel
theorem d_X_init_140 : decode prog_1_method_1_code 140 = .ok (.putfield 72, 3) := by decide +kernel
theorem d_X_init_143 : decode prog_1_method_1_code 143 = .ok (.aload_n 0, 1) := by decide +kernel
theorem d_X_init_144 : decode prog_1_method_1_code 144 = .ok (.new 76, 3) := by decide +kernel
theorem d_X_init_147 : decode prog_1_method_1_code 147 = .ok (.dup, 1) := by decide +kernel
theorem d_X_init_148 : decode prog_1_method_1_code 148 = .ok (.aload_n 0, 1) := by decide +kernel
theorem d_X_init_149 : decode prog_1_method_1_code 149 = .ok (.getfield 19, 3) := by decide +kernel
theorem d_X_init_152 : decode prog_1_method_1_code 152 = .ok (.invokespecial 78, 3) := by decide +kernel
theorem d_X_init_155 : decode prog_1_method_1_code 155 = .ok (.putfield 79, 3) := by decide +kernel
theorem d_X_init_158 : decode prog_1_method_1_code 158 = .ok (.aload_n 0, 1) := by decide +kernel
theorem d_X_init_159 : decode prog_1_method_1_code 159 = .ok (.iconst 3, 1) := by decide +kernel
theorem d_X_init_160 : decode prog_1_method_1_code 160 = .ok (.anewarray 32, 3) := by decide +kernel
theorem d_X_init_163 : decode prog_1_method_1_code 163 = .ok (.putfield 83, 3) := by decide +kernel
theorem d_X_init_166 : decode prog_1_method_1_code 166 = .ok (.iconst 0, 1) := by decide +kernel
theorem d_X_init_167 : decode prog_1_method_1_code 167 = .ok (.istore_n 1, 1) := by decide +kernel
theorem d_X_init_168 : decode prog_1_method_1_code 168 = .ok (.iload_n 1, 1) := by decide +kernel
theorem d_X_init_169 : decode prog_1_method_1_code 169 = .ok (.iconst 3, 1) := by decide +kernel
theorem d_X_init_170 : decode prog_1_method_1_code 170 = .ok (.if_icmp .ge 26, 3) := by decide +kernel
theorem d_X_init_173 : decode prog_1_method_1_code 173 = .ok (.aload_n 0, 1) := by decide +kernel
theorem d_X_init_174 : decode prog_1_method_1_code 174 = .ok (.getfield 83, 3) := by decide +kernel
theorem d_X_init_177 : decode prog_1_method_1_code 177 = .ok (.iload_n 1, 1) := by decide +kernel
theorem d_X_init_178 : decode prog_1_method_1_code 178 = .ok (.new 32, 3) := by decide +kernel
theorem d_X_init_181 : decode prog_1_method_1_code 181 = .ok (.dup, 1) := by decide +kernel
theorem d_X_init_182 : decode prog_1_method_1_code 182 = .ok (.aload_n 0, 1) := by decide +kernel
theorem d_X_init_183 : decode prog_1_method_1_code 183 = .ok (.getfield 19, 3) := by decide +kernel
theorem d_X_init_186 : decode prog_1_method_1_code 186 = .ok (.invokespecial 34, 3) := by decide +kernel
theorem d_X_init_189 : decode prog_1_method_1_code 189 = .ok (.aastore, 1) := by decide +kernel
theorem d_X_init_190 : decode prog_1_method_1_code 190 = .ok (.iinc 1 1, 3) := by decide +kernel
theorem d_X_init_193 : decode prog_1_method_1_code 193 = .ok (.goto (-25), 3) := by decide +kernel
theorem d_X_init_196 : decode prog_1_method_1_code 196 = .ok (.aload_n 0, 1) := by decide +kernel
theorem d_X_init_197 : decode prog_1_method_1_code 197 = .ok (.iconst 0, 1) := by decide +kernel
theorem d_X_init_198 : decode prog_1_method_1_code 198 = .ok (.putfield 87, 3) := by decide +kernel
theorem d_X_init_201 : decode prog_1_method_1_code 201 = .ok (.return_, 1) := by decide +kernel
def w_Law_init (N : Nat) (x0 : Nat) (h : qH) (Q : qH → Prop) : Prop := (0 < x0 ∧ (0 + 1 ≤ 2 ∧ 0 + 400 ≤ 800 ∧ ∀ y5 : Nat, y5 = qN h + 1 → ∀ h4 : qH, h4 = qnew h (.inr (0, 400)) → (qS h4 x0 = .inl 0 ∧ ∀ h7 : qH, h7 = qsR h4 x0 0 y5 → (1 + 1 ≤ 2 ∧ 400 + 400 ≤ 800 ∧ ∀ y11 : Nat, y11 = qN h7 + 1 → ∀ h10 : qH, h10 = qnew h7 (.inr (0, 400)) → (qS h10 x0 = .inl 0 ∧ ∀ h13 : qH, h13 = qsR h10 x0 1 y11 → (qS h13 x0 = .inl 0 ∧ ∀ h15 : qH, h15 = qsI h13 x0 2 (0 : Int32) → (2 ≤ 2 ∧ 800 ≤ 800 ∧ Q h15)))))))
def w_Night_init (N : Nat) (x0 : Nat) (x1 : Nat) (x2 : Nat) (h : qH) (Q : qH → Prop) : Prop := (0 < x0 ∧ (0 + 1 ≤ 1 ∧ 0 + 6 ≤ 6 ∧ ∀ y5 : Nat, y5 = qN h + 1 → ∀ h4 : qH, h4 = qnew h (.inr (0, 6)) → (qS h4 x0 = .inl 1 ∧ ∀ h7 : qH, h7 = qsR h4 x0 2 y5 → (qS h7 x0 = .inl 1 ∧ ∀ h9 : qH, h9 = qsR h7 x0 0 x1 → (qS h9 x0 = .inl 1 ∧ ∀ h11 : qH, h11 = qsR h9 x0 1 x2 → (1 ≤ 1 ∧ 6 ≤ 6 ∧ Q h11))))))
def w_State_init (N : Nat) (x0 : Nat) (x1 : Nat) (h : qH) (Q : qH → Prop) : Prop := (0 < x0 ∧ (0 + 1 ≤ 5 ∧ 0 + 6 ≤ 31 ∧ ∀ y5 : Nat, y5 = qN h + 1 → ∀ h4 : qH, h4 = qnew h (.inr (0, 6)) → (qS h4 x0 = .inl 6 ∧ ∀ h7 : qH, h7 = qsR h4 x0 2 y5 → (1 + 1 ≤ 5 ∧ 6 + 6 ≤ 31 ∧ ∀ y11 : Nat, y11 = qN h7 + 1 → ∀ h10 : qH, h10 = qnew h7 (.inr (0, 6)) → (qS h10 x0 = .inl 6 ∧ ∀ h13 : qH, h13 = qsR h10 x0 3 y11 → (2 + 1 ≤ 5 ∧ 12 + 6 ≤ 31 ∧ ∀ y17 : Nat, y17 = qN h13 + 1 → ∀ h16 : qH, h16 = qnew h13 (.inr (0, 6)) → (qS h16 x0 = .inl 6 ∧ ∀ h19 : qH, h19 = qsR h16 x0 4 y17 → (3 + 1 ≤ 5 ∧ 18 + 6 ≤ 31 ∧ ∀ y23 : Nat, y23 = qN h19 + 1 → ∀ h22 : qH, h22 = qnew h19 (.inr (0, 6)) → (qS h22 x0 = .inl 6 ∧ ∀ h25 : qH, h25 = qsR h22 x0 5 y23 → (4 + 1 ≤ 5 ∧ 24 + 7 ≤ 31 ∧ ∀ y29 : Nat, y29 = qN h25 + 1 → ∀ h28 : qH, h28 = qnew h25 (.inr (0, 7)) → (qS h28 x0 = .inl 6 ∧ ∀ h31 : qH, h31 = qsR h28 x0 6 y29 → (qS h31 x0 = .inl 6 ∧ ∀ h33 : qH, h33 = qsR h31 x0 0 x1 → (qS h33 x0 = .inl 6 ∧ 5 + 0 ≤ 5 ∧ 31 + 0 ≤ 31 ∧ w_State_begin N x0 h33 (fun h35 => (5 ≤ 5 ∧ 31 ≤ 31 ∧ Q h35)))))))))))))))
def w_Past_init_25 (N : Nat) : Nat → Nat → Nat → Int32 → Nat → Nat → qH → (qH → Prop) → Prop
  | 0 => fun _ _ _ _ _ _ _ => False
  | k + 1 => fun x0 x1 x2 C S h Q => (((40 : Int32) ≤ x2 → (C ≤ 241 ∧ S ≤ 1560 ∧ Q h)) ∧ (¬ (40 : Int32) ≤ x2 → (qS h x0 = .inl 2 ∧ (C + 1 ≤ 241 ∧ S + 7 ≤ 1560 ∧ ∀ y8 : Nat, y8 = qN h + 1 → ∀ h7 : qH, h7 = qnew h (.inl 6) → (0 < y8 ∧ (C + 1) + 5 ≤ 241 ∧ (S + 7) + 31 ≤ 1560 ∧ w_State_init N y8 x1 h7 (fun h10 => (qS h10 y8 = .inl 6 ∧ qok h10 (qR h x0 0) 4 x2 ∧ ∀ h15 : qH, h15 = qsR h10 (qR h x0 0) (x2).toNatClampNeg y8 → (w_Past_init_25 N k x0 x1 (x2 + (1 : Int32)) ((C + 1) + 5) ((S + 7) + 31) h15 Q))))))))
def w_Past_init (N : Nat) (x0 : Nat) (x1 : Nat) (h : qH) (Q : qH → Prop) : Prop := (0 < x0 ∧ (0 + 1 ≤ 241 ∧ 0 + 40 ≤ 1560 ∧ ∀ y5 : Nat, y5 = qN h + 1 → ∀ h4 : qH, h4 = qnew h (.inr (4, 40)) → (qS h4 x0 = .inl 2 ∧ ∀ h7 : qH, h7 = qsR h4 x0 0 y5 → (qS h7 x0 = .inl 2 ∧ ∀ h9 : qH, h9 = qsI h7 x0 1 (0 : Int32) → (qS h9 x0 = .inl 2 ∧ ∀ h11 : qH, h11 = qsI h9 x0 2 (0 : Int32) → (w_Past_init_25 N N x0 x1 (0 : Int32) 1 40 h11 Q ))))))
def w_Plan_init (N : Nat) (x0 : Nat) (x1 : Nat) (x2 : Nat) (h : qH) (Q : qH → Prop) : Prop := (0 < x0 ∧ (0 + 7 ≤ 16 ∧ 0 + 48 ≤ 958 ∧ ∀ y5 : Nat, y5 = qN h + 1 → ∀ h4 : qH, h4 = qnew2 h 6 7 → (qS h4 x0 = .inl 3 ∧ ∀ h7 : qH, h7 = qsR h4 x0 2 y5 → (7 + 1 ≤ 16 ∧ 48 + 7 ≤ 958 ∧ ∀ y11 : Nat, y11 = qN h7 + 1 → ∀ h10 : qH, h10 = qnew h7 (.inr (0, 7)) → (qS h10 x0 = .inl 3 ∧ ∀ h13 : qH, h13 = qsR h10 x0 3 y11 → (8 + 8 ≤ 16 ∧ 55 + 903 ≤ 958 ∧ ∀ y17 : Nat, y17 = qN h13 + 1 → ∀ h16 : qH, h16 = qnew2 h13 7 128 → (qS h16 x0 = .inl 3 ∧ ∀ h19 : qH, h19 = qsR h16 x0 4 y17 → (qS h19 x0 = .inl 3 ∧ ∀ h21 : qH, h21 = qsR h19 x0 0 x1 → (qS h21 x0 = .inl 3 ∧ ∀ h23 : qH, h23 = qsR h21 x0 1 x2 → (16 ≤ 16 ∧ 958 ≤ 958 ∧ Q h23))))))))))
def w_Text_init (N : Nat) (x0 : Nat) (h : qH) (Q : qH → Prop) : Prop := (0 < x0 ∧ (0 + 1 ≤ 17 ∧ 0 + 7 ≤ 3244 ∧ ∀ y5 : Nat, y5 = qN h + 1 → ∀ h4 : qH, h4 = qnew h (.inr (0, 7)) → (qS h4 x0 = .inl 8 ∧ ∀ h7 : qH, h7 = qsR h4 x0 1 y5 → (1 + 1 ≤ 17 ∧ 7 + 7 ≤ 3244 ∧ ∀ y11 : Nat, y11 = qN h7 + 1 → ∀ h10 : qH, h10 = qnew h7 (.inr (0, 7)) → (qS h10 x0 = .inl 8 ∧ ∀ h13 : qH, h13 = qsR h10 x0 2 y11 → (2 + 1 ≤ 17 ∧ 14 + 6 ≤ 3244 ∧ ∀ y17 : Nat, y17 = qN h13 + 1 → ∀ h16 : qH, h16 = qnew h13 (.inr (0, 6)) → (qS h16 x0 = .inl 8 ∧ ∀ h19 : qH, h19 = qsR h16 x0 4 y17 → (3 + 1 ≤ 17 ∧ 20 + 6 ≤ 3244 ∧ ∀ y23 : Nat, y23 = qN h19 + 1 → ∀ h22 : qH, h22 = qnew h19 (.inr (0, 6)) → (qS h22 x0 = .inl 8 ∧ ∀ h25 : qH, h25 = qsR h22 x0 5 y23 → (4 + 1 ≤ 17 ∧ 26 + 6 ≤ 3244 ∧ ∀ y29 : Nat, y29 = qN h25 + 1 → ∀ h28 : qH, h28 = qnew h25 (.inr (0, 6)) → (qS h28 x0 = .inl 8 ∧ ∀ h31 : qH, h31 = qsR h28 x0 6 y29 → (5 + 1 ≤ 17 ∧ 32 + 3 ≤ 3244 ∧ ∀ y35 : Nat, y35 = qN h31 + 1 → ∀ h34 : qH, h34 = qnew h31 (.inl 0) → (0 < y35 ∧ 6 + 2 ≤ 17 ∧ 35 + 800 ≤ 3244 ∧ w_Law_init N y35 h34 (fun h37 => (qS h37 x0 = .inl 8 ∧ ∀ h41 : qH, h41 = qsR h37 x0 7 y35 → (8 + 1 ≤ 17 ∧ 835 + 3 ≤ 3244 ∧ ∀ y45 : Nat, y45 = qN h41 + 1 → ∀ h44 : qH, h44 = qnew h41 (.inl 0) → (0 < y45 ∧ 9 + 2 ≤ 17 ∧ 838 + 800 ≤ 3244 ∧ w_Law_init N y45 h44 (fun h47 => (qS h47 x0 = .inl 8 ∧ ∀ h51 : qH, h51 = qsR h47 x0 8 y45 → (11 + 1 ≤ 17 ∧ 1638 + 3 ≤ 3244 ∧ ∀ y55 : Nat, y55 = qN h51 + 1 → ∀ h54 : qH, h54 = qnew h51 (.inl 0) → (0 < y55 ∧ 12 + 2 ≤ 17 ∧ 1641 + 800 ≤ 3244 ∧ w_Law_init N y55 h54 (fun h57 => (qS h57 x0 = .inl 8 ∧ ∀ h61 : qH, h61 = qsR h57 x0 9 y55 → (14 + 1 ≤ 17 ∧ 2441 + 3 ≤ 3244 ∧ ∀ y65 : Nat, y65 = qN h61 + 1 → ∀ h64 : qH, h64 = qnew h61 (.inl 0) → (0 < y65 ∧ 15 + 2 ≤ 17 ∧ 2444 + 800 ≤ 3244 ∧ w_Law_init N y65 h64 (fun h67 => (qS h67 x0 = .inl 8 ∧ ∀ h71 : qH, h71 = qsR h67 x0 10 y65 → (qS h71 x0 = .inl 8 ∧ 17 + 0 ≤ 17 ∧ 3244 + 0 ≤ 3244 ∧ w_Text_clear N x0 h71 (fun h73 => (17 ≤ 17 ∧ 3244 ≤ 3244 ∧ Q h73))))))))))))))))))))))))))))))
def w_Waits_init (N : Nat) (x0 : Nat) (h : qH) (Q : qH → Prop) : Prop := (0 < x0 ∧ (0 + 1 ≤ 1 ∧ 0 + 32 ≤ 32 ∧ ∀ y5 : Nat, y5 = qN h + 1 → ∀ h4 : qH, h4 = qnew h (.inr (0, 32)) → (qS h4 x0 = .inl 10 ∧ ∀ h7 : qH, h7 = qsR h4 x0 0 y5 → (1 ≤ 1 ∧ 32 ≤ 32 ∧ Q h7))))
def w_Reader_init (N : Nat) (x0 : Nat) (x1 : Nat) (h : qH) (Q : qH → Prop) : Prop := (0 < x0 ∧ (0 + 1 ≤ 22 ∧ 0 + 13 ≤ 3305 ∧ ∀ y5 : Nat, y5 = qN h + 1 → ∀ h4 : qH, h4 = qnew h (.inl 8) → (0 < y5 ∧ 1 + 17 ≤ 22 ∧ 13 + 3244 ≤ 3305 ∧ w_Text_init N y5 h4 (fun h7 => (qS h7 x0 = .inl 4 ∧ ∀ h11 : qH, h11 = qsR h7 x0 5 y5 → (18 + 1 ≤ 22 ∧ 3257 + 7 ≤ 3305 ∧ ∀ y15 : Nat, y15 = qN h11 + 1 → ∀ h14 : qH, h14 = qnew h11 (.inr (3, 7)) → (qS h14 x0 = .inl 4 ∧ ∀ h17 : qH, h17 = qsR h14 x0 6 y15 → (19 + 1 ≤ 22 ∧ 3264 + 6 ≤ 3305 ∧ ∀ y21 : Nat, y21 = qN h17 + 1 → ∀ h20 : qH, h20 = qnew h17 (.inr (3, 6)) → (qS h20 x0 = .inl 4 ∧ ∀ h23 : qH, h23 = qsR h20 x0 7 y21 → (20 + 1 ≤ 22 ∧ 3270 + 3 ≤ 3305 ∧ ∀ y27 : Nat, y27 = qN h23 + 1 → ∀ h26 : qH, h26 = qnew h23 (.inl 10) → (0 < y27 ∧ 21 + 1 ≤ 22 ∧ 3273 + 32 ≤ 3305 ∧ w_Waits_init N y27 h26 (fun h29 => (qS h29 x0 = .inl 4 ∧ ∀ h33 : qH, h33 = qsR h29 x0 9 y27 → (qS h33 x0 = .inl 4 ∧ ∀ h35 : qH, h35 = qsI h33 x0 13 (-1 : Int32) → (qS h35 x0 = .inl 4 ∧ ∀ h37 : qH, h37 = qsR h35 x0 0 x1 → (22 ≤ 22 ∧ 3305 ≤ 3305 ∧ Q h37))))))))))))))))
def w_Reck_init (N : Nat) (x0 : Nat) (x1 : Nat) (h : qH) (Q : qH → Prop) : Prop := (0 < x0 ∧ (0 + 1 ≤ 2 ∧ 0 + 9 ≤ 41 ∧ ∀ y5 : Nat, y5 = qN h + 1 → ∀ h4 : qH, h4 = qnew h (.inr (0, 9)) → (qS h4 x0 = .inl 5 ∧ ∀ h7 : qH, h7 = qsR h4 x0 1 y5 → (1 + 1 ≤ 2 ∧ 9 + 32 ≤ 41 ∧ ∀ y11 : Nat, y11 = qN h7 + 1 → ∀ h10 : qH, h10 = qnew h7 (.inr (0, 32)) → (qS h10 x0 = .inl 5 ∧ ∀ h13 : qH, h13 = qsR h10 x0 2 y11 → (qS h13 x0 = .inl 5 ∧ ∀ h15 : qH, h15 = qsR h13 x0 0 x1 → (2 ≤ 2 ∧ 41 ≤ 41 ∧ Q h15)))))))
def w_Tape_init_57 (N : Nat) : Nat → Nat → Int32 → Int32 → Nat → Nat → qH → (qH → Prop) → Prop
  | 0 => fun _ _ _ _ _ _ _ => False
  | k + 1 => fun x0 x1 x2 C S h Q => (0 < 2 ∧ C + 0 ≤ 5 ∧ S + 0 ≤ 3227 ∧ w_String_length N 0 h (fun r2 h3 => ((r2 ≤ x2 → (C ≤ 5 ∧ S ≤ 3227 ∧ Q h3)) ∧ (¬ r2 ≤ x2 → (((21 : Int32) ≤ x1 → (C ≤ 5 ∧ S ≤ 3227 ∧ Q h3)) ∧ (¬ (21 : Int32) ≤ x1 → (0 < 2 ∧ C + 0 ≤ 5 ∧ S + 0 ≤ 3227 ∧ w_String_charAt N 0 x2 h3 (fun r13 h14 => ((¬ r13 = (32 : Int32) → (qS h14 x0 = .inl 7 ∧ (qok h14 (qR h14 x0 2) 3 x1 ∧ (C + 0 ≤ 5 ∧ S + 0 ≤ 3227 ∧ w_Tape_withLetter N (qJ h14 (qR h14 x0 2) (x1).toNatClampNeg) r13 h14 (fun r20 h21 => (qok h21 (qR h14 x0 2) 3 x1 ∧ ∀ h25 : qH, h25 = qsJ h21 (qR h14 x0 2) (x1).toNatClampNeg r20 → (w_Tape_init_57 N k x0 x1 (x2 + (1 : Int32)) C S h25 Q))))))) ∧ (r13 = (32 : Int32) → (w_Tape_init_57 N k x0 (x1 + (1 : Int32)) (x2 + (1 : Int32)) C S h14 Q)))))))))))
def w_Tape_init (N : Nat) (x0 : Nat) (h : qH) (Q : qH → Prop) : Prop := (0 < x0 ∧ (0 + 1 ≤ 5 ∧ 0 + 2000 ≤ 3227 ∧ ∀ y5 : Nat, y5 = qN h + 1 → ∀ h4 : qH, h4 = qnew h (.inr (1, 2000)) → (qS h4 x0 = .inl 7 ∧ ∀ h7 : qH, h7 = qsR h4 x0 0 y5 → (qS h7 x0 = .inl 7 ∧ ∀ h9 : qH, h9 = qsI h7 x0 1 (0 : Int32) → (1 + 1 ≤ 5 ∧ 2000 + 21 ≤ 3227 ∧ ∀ y13 : Nat, y13 = qN h9 + 1 → ∀ h12 : qH, h12 = qnew h9 (.inr (3, 21)) → (qS h12 x0 = .inl 7 ∧ ∀ h15 : qH, h15 = qsR h12 x0 2 y13 → (2 + 1 ≤ 5 ∧ 2021 + 402 ≤ 3227 ∧ ∀ y19 : Nat, y19 = qN h15 + 1 → ∀ h18 : qH, h18 = qnew h15 (.inr (0, 402)) → (qS h18 x0 = .inl 7 ∧ ∀ h21 : qH, h21 = qsR h18 x0 4 y19 → (3 + 1 ≤ 5 ∧ 2423 + 402 ≤ 3227 ∧ ∀ y25 : Nat, y25 = qN h21 + 1 → ∀ h24 : qH, h24 = qnew h21 (.inr (0, 402)) → (qS h24 x0 = .inl 7 ∧ ∀ h27 : qH, h27 = qsR h24 x0 5 y25 → (4 + 1 ≤ 5 ∧ 2825 + 402 ≤ 3227 ∧ ∀ y31 : Nat, y31 = qN h27 + 1 → ∀ h30 : qH, h30 = qnew h27 (.inr (3, 402)) → (qS h30 x0 = .inl 7 ∧ ∀ h33 : qH, h33 = qsR h30 x0 6 y31 → (w_Tape_init_57 N N x0 (0 : Int32) (0 : Int32) 5 3227 h33 Q )))))))))))))
def w_Told_init (N : Nat) (x0 : Nat) (x1 : Nat) (x2 : Nat) (h : qH) (Q : qH → Prop) : Prop := (0 < x0 ∧ (0 + 1 ≤ 16 ∧ 0 + 20 ≤ 140 ∧ ∀ y5 : Nat, y5 = qN h + 1 → ∀ h4 : qH, h4 = qnew h (.inr (0, 20)) → (qS h4 x0 = .inl 9 ∧ ∀ h7 : qH, h7 = qsR h4 x0 3 y5 → (1 + 1 ≤ 16 ∧ 20 + 20 ≤ 140 ∧ ∀ y11 : Nat, y11 = qN h7 + 1 → ∀ h10 : qH, h10 = qnew h7 (.inr (0, 20)) → (qS h10 x0 = .inl 9 ∧ ∀ h13 : qH, h13 = qsR h10 x0 4 y11 → (2 + 1 ≤ 16 ∧ 40 + 20 ≤ 140 ∧ ∀ y17 : Nat, y17 = qN h13 + 1 → ∀ h16 : qH, h16 = qnew h13 (.inr (2, 20)) → (qS h16 x0 = .inl 9 ∧ ∀ h19 : qH, h19 = qsR h16 x0 5 y17 → (3 + 7 ≤ 16 ∧ 60 + 42 ≤ 140 ∧ ∀ y23 : Nat, y23 = qN h19 + 1 → ∀ h22 : qH, h22 = qnew2 h19 6 6 → (qS h22 x0 = .inl 9 ∧ ∀ h25 : qH, h25 = qsR h22 x0 6 y23 → (qS h25 x0 = .inl 9 ∧ ∀ h27 : qH, h27 = qsI h25 x0 7 (0 : Int32) → (qS h27 x0 = .inl 9 ∧ ∀ h29 : qH, h29 = qsR h27 x0 0 x1 → (qS h29 x0 = .inl 9 ∧ ∀ h31 : qH, h31 = qsR h29 x0 1 x2 → (10 + 1 ≤ 16 ∧ 102 + 7 ≤ 140 ∧ ∀ y35 : Nat, y35 = qN h31 + 1 → ∀ h34 : qH, h34 = qnew h31 (.inl 6) → (0 < y35 ∧ 11 + 5 ≤ 16 ∧ 109 + 31 ≤ 140 ∧ w_State_init N y35 x1 h34 (fun h37 => (qS h37 x0 = .inl 9 ∧ ∀ h41 : qH, h41 = qsR h37 x0 2 y35 → (16 ≤ 16 ∧ 140 ≤ 140 ∧ Q h41)))))))))))))))))
def w_X_init_168 (N : Nat) : Nat → Nat → Int32 → Nat → Nat → qH → (qH → Prop) → Prop
  | 0 => fun _ _ _ _ _ _ => False
  | k + 1 => fun x0 x1 C S h Q => (((3 : Int32) ≤ x1 → (qS h x0 = .inl 11 ∧ ∀ h3 : qH, h3 = qsI h x0 11 (0 : Int32) → (C ≤ 359 ∧ S ≤ 12730 ∧ Q h3))) ∧ (¬ (3 : Int32) ≤ x1 → (qS h x0 = .inl 11 ∧ (C + 1 ≤ 359 ∧ S + 7 ≤ 12730 ∧ ∀ y10 : Nat, y10 = qN h + 1 → ∀ h9 : qH, h9 = qnew h (.inl 6) → (qS h9 x0 = .inl 11 ∧ (0 < y10 ∧ (C + 1) + 5 ≤ 359 ∧ (S + 7) + 31 ≤ 12730 ∧ w_State_init N y10 (qR h9 x0 1) h9 (fun h13 => (qS h13 y10 = .inl 6 ∧ qok h13 (qR h x0 10) 4 x1 ∧ ∀ h18 : qH, h18 = qsR h13 (qR h x0 10) (x1).toNatClampNeg y10 → (w_X_init_168 N k x0 (x1 + (1 : Int32)) ((C + 1) + 5) ((S + 7) + 31) h18 Q)))))))))
def w_X_init (N : Nat) (x0 : Nat) (h : qH) (Q : qH → Prop) : Prop := (0 < x0 ∧ (0 + 1 ≤ 359 ∧ 0 + 7 ≤ 12730 ∧ ∀ y5 : Nat, y5 = qN h + 1 → ∀ h4 : qH, h4 = qnew h (.inl 7) → (0 < y5 ∧ 1 + 5 ≤ 359 ∧ 7 + 3227 ≤ 12730 ∧ w_Tape_init N y5 h4 (fun h7 => (qS h7 x0 = .inl 11 ∧ ∀ h11 : qH, h11 = qsR h7 x0 0 y5 → (6 + 1 ≤ 359 ∧ 3234 + 13 ≤ 12730 ∧ ∀ y15 : Nat, y15 = qN h11 + 1 → ∀ h14 : qH, h14 = qnew h11 (.inl 8) → (0 < y15 ∧ 7 + 17 ≤ 359 ∧ 3247 + 3244 ≤ 12730 ∧ w_Text_init N y15 h14 (fun h17 => (qS h17 x0 = .inl 11 ∧ ∀ h21 : qH, h21 = qsR h17 x0 1 y15 → (24 + 1 ≤ 359 ∧ 6491 + 14 ≤ 12730 ∧ ∀ y25 : Nat, y25 = qN h21 + 1 → ∀ h24 : qH, h24 = qnew h21 (.inl 4) → (qS h24 x0 = .inl 11 ∧ (0 < y25 ∧ 25 + 22 ≤ 359 ∧ 6505 + 3305 ≤ 12730 ∧ w_Reader_init N y25 (qR h24 x0 0) h24 (fun h28 => (qS h28 x0 = .inl 11 ∧ ∀ h32 : qH, h32 = qsR h28 x0 2 y25 → (47 + 1 ≤ 359 ∧ 9810 + 7 ≤ 12730 ∧ ∀ y36 : Nat, y36 = qN h32 + 1 → ∀ h35 : qH, h35 = qnew h32 (.inl 6) → (qS h35 x0 = .inl 11 ∧ (0 < y36 ∧ 48 + 5 ≤ 359 ∧ 9817 + 31 ≤ 12730 ∧ w_State_init N y36 (qR h35 x0 1) h35 (fun h39 => (qS h39 x0 = .inl 11 ∧ ∀ h43 : qH, h43 = qsR h39 x0 3 y36 → (53 + 1 ≤ 359 ∧ 9848 + 7 ≤ 12730 ∧ ∀ y47 : Nat, y47 = qN h43 + 1 → ∀ h46 : qH, h46 = qnew h43 (.inl 6) → (qS h46 x0 = .inl 11 ∧ (0 < y47 ∧ 54 + 5 ≤ 359 ∧ 9855 + 31 ≤ 12730 ∧ w_State_init N y47 (qR h46 x0 1) h46 (fun h50 => (qS h50 x0 = .inl 11 ∧ ∀ h54 : qH, h54 = qsR h50 x0 4 y47 → (59 + 1 ≤ 359 ∧ 9886 + 3 ≤ 12730 ∧ ∀ y58 : Nat, y58 = qN h54 + 1 → ∀ h57 : qH, h57 = qnew h54 (.inl 5) → (qS h57 x0 = .inl 11 ∧ (0 < y58 ∧ 60 + 2 ≤ 359 ∧ 9889 + 41 ≤ 12730 ∧ w_Reck_init N y58 (qR h57 x0 1) h57 (fun h61 => (qS h61 x0 = .inl 11 ∧ ∀ h65 : qH, h65 = qsR h61 x0 5 y58 → (62 + 1 ≤ 359 ∧ 9930 + 3 ≤ 12730 ∧ ∀ y69 : Nat, y69 = qN h65 + 1 → ∀ h68 : qH, h68 = qnew h65 (.inl 1) → (qS h68 x0 = .inl 11 ∧ (0 < y69 ∧ 63 + 1 ≤ 359 ∧ 9933 + 6 ≤ 12730 ∧ w_Night_init N y69 (qR h68 x0 1) (qR h68 x0 5) h68 (fun h72 => (qS h72 x0 = .inl 11 ∧ ∀ h76 : qH, h76 = qsR h72 x0 6 y69 → (64 + 1 ≤ 359 ∧ 9939 + 5 ≤ 12730 ∧ ∀ y80 : Nat, y80 = qN h76 + 1 → ∀ h79 : qH, h79 = qnew h76 (.inl 3) → (qS h79 x0 = .inl 11 ∧ (0 < y80 ∧ 65 + 16 ≤ 359 ∧ 9944 + 958 ≤ 12730 ∧ w_Plan_init N y80 (qR h79 x0 1) (qR h79 x0 5) h79 (fun h83 => (qS h83 x0 = .inl 11 ∧ ∀ h87 : qH, h87 = qsR h83 x0 7 y80 → (81 + 1 ≤ 359 ∧ 10902 + 8 ≤ 12730 ∧ ∀ y91 : Nat, y91 = qN h87 + 1 → ∀ h90 : qH, h90 = qnew h87 (.inl 9) → (qS h90 x0 = .inl 11 ∧ (0 < y91 ∧ 82 + 16 ≤ 359 ∧ 10910 + 140 ≤ 12730 ∧ w_Told_init N y91 (qR h90 x0 1) (qR h90 x0 6) h90 (fun h94 => (qS h94 x0 = .inl 11 ∧ ∀ h98 : qH, h98 = qsR h94 x0 8 y91 → (98 + 1 ≤ 359 ∧ 11050 + 3 ≤ 12730 ∧ ∀ y102 : Nat, y102 = qN h98 + 1 → ∀ h101 : qH, h101 = qnew h98 (.inl 2) → (qS h101 x0 = .inl 11 ∧ (0 < y102 ∧ 99 + 241 ≤ 359 ∧ 11053 + 1560 ≤ 12730 ∧ w_Past_init N y102 (qR h101 x0 1) h101 (fun h105 => (qS h105 x0 = .inl 11 ∧ ∀ h109 : qH, h109 = qsR h105 x0 9 y102 → (340 + 1 ≤ 359 ∧ 12613 + 3 ≤ 12730 ∧ ∀ y113 : Nat, y113 = qN h109 + 1 → ∀ h112 : qH, h112 = qnew h109 (.inr (4, 3)) → (qS h112 x0 = .inl 11 ∧ ∀ h115 : qH, h115 = qsR h112 x0 10 y113 → (w_X_init_168 N N x0 (0 : Int32) 341 12616 h115 Q ))))))))))))))))))))))))))))))))))))))))))))))))))))
section QG
variable {p : Program} {l : Launch} {e : Env} {s : State} {m : MethodId} {args : Array Value} {below : List Frame} {meth : Method} {c : Code} {D : va_G} {cy : Nat → ClassId} {b : Nat} {adK adV : Nat → Nat}

set_option maxRecDepth 4000 in
theorem t_Law_init {adK adV : Nat → Nat} (l : Launch) (D : va_G) (cy : Nat → ClassId) (b : Nat) (N : Nat) (x0 : Nat) (h : qH) (Q : qH → Prop) (hw : w_Law_init N x0 h Q) : Met l y_Law_init (Cond.code y_Law_init prog_2_method_1_code 1 (none) :: qT) (qrm 1 2 800 12) (qPc D cy b adK adV h [qr b x0]) (qQc D cy b qrV (fun (_ : Unit) h => Q h)) 2 800 (qA b) := by
  refine qmet (L0 := [(0, .inr (.inr (.inl x0)))]) qm_Law_init (plainFor_of_name (by decide)) [.inr (.inr (.inl x0))] rfl (Nat.le_of_ble_eq_true rfl) rfl (fun p e s m args below meth c X => ?_)
  unfold w_Law_init at hw
  refine qx_aload_n (x := x0) X d_Law_init_0 rfl 0 rfl ?_
  obtain ⟨g1, hw⟩ := hw
  refine qx_oinit X g1 wm_Law_3 wi_oinit wk_oinit (Nat.le_of_ble_eq_true rfl) (Nat.le_of_ble_eq_true rfl) d_Law_init_1 ?_
  refine qx_aload_n (x := x0) X d_Law_init_4 rfl 0 rfl ?_
  refine qx_sipush (v := (400 : Int32)) X d_Law_init_5 (by decide) ?_
  obtain ⟨g2, g3, hw⟩ := hw
  refine qx_newaI X wa_I (by decide) (N := 400) (by decide) (by decide) g2 g3 d_Law_init_8 ?_
  refine qx_topr (fun y5 ey5 => ?_)
  have hw := hw y5 ey5
  refine qx_toph (fun h4 eh4 => ?_)
  have hw := hw h4 eh4
  obtain ⟨g6, hw⟩ := hw
  refine qx_putRF X qcls0 g6 0 (by decide) rfl wf_Law_11 rfl rfl rfl (Or.inr ⟨_, rfl⟩) d_Law_init_10 ?_
  refine qx_toph (fun h7 eh7 => ?_)
  have hw := hw h7 eh7
  refine qx_aload_n (x := x0) X d_Law_init_13 rfl 0 rfl ?_
  refine qx_sipush (v := (400 : Int32)) X d_Law_init_14 (by decide) ?_
  obtain ⟨g8, g9, hw⟩ := hw
  refine qx_newaI X wa_I (by decide) (N := 400) (by decide) (by decide) g8 g9 d_Law_init_17 ?_
  refine qx_topr (fun y11 ey11 => ?_)
  have hw := hw y11 ey11
  refine qx_toph (fun h10 eh10 => ?_)
  have hw := hw h10 eh10
  obtain ⟨g12, hw⟩ := hw
  refine qx_putRF X qcls0 g12 1 (by decide) rfl wf_Law_15 rfl rfl rfl (Or.inr ⟨_, rfl⟩) d_Law_init_19 ?_
  refine qx_toph (fun h13 eh13 => ?_)
  have hw := hw h13 eh13
  refine qx_aload_n (x := x0) X d_Law_init_22 rfl 0 rfl ?_
  refine qx_iconst (v := (0 : Int32)) X d_Law_init_23 (by decide) ?_
  obtain ⟨g14, hw⟩ := hw
  refine qx_putI X qcls0 g14 2 (by decide) rfl wf_Law_18 rfl rfl rfl d_Law_init_24 ?_
  refine qx_toph (fun h15 eh15 => ?_)
  have hw := hw h15 eh15
  obtain ⟨g16, g17, hw⟩ := hw
  exact qx_vret X hw g16 g17 rfl d_Law_init_27
set_option maxRecDepth 4000 in
theorem t_Night_init {adK adV : Nat → Nat} (l : Launch) (D : va_G) (cy : Nat → ClassId) (b : Nat) (N : Nat) (x0 : Nat) (x1 : Nat) (x2 : Nat) (h : qH) (Q : qH → Prop) (hw : w_Night_init N x0 x1 x2 h Q) : Met l y_Night_init (Cond.code y_Night_init prog_3_method_1_code 3 (none) :: qT) (qrm 1 1 6 12) (qPc D cy b adK adV h [qr b x0, qr b x1, qr b x2]) (qQc D cy b qrV (fun (_ : Unit) h => Q h)) 1 6 (qA b) := by
  refine qmet (L0 := [(0, .inr (.inr (.inl x0))), (1, .inr (.inr (.inl x1))), (2, .inr (.inr (.inl x2)))]) qm_Night_init (plainFor_of_name (by decide)) [.inr (.inr (.inl x0)), .inr (.inr (.inl x1)), .inr (.inr (.inl x2))] rfl (Nat.le_of_ble_eq_true rfl) rfl (fun p e s m args below meth c X => ?_)
  unfold w_Night_init at hw
  refine qx_aload_n (x := x0) X d_Night_init_0 rfl 0 rfl ?_
  obtain ⟨g1, hw⟩ := hw
  refine qx_oinit X g1 wm_Night_3 wi_oinit wk_oinit (Nat.le_of_ble_eq_true rfl) (Nat.le_of_ble_eq_true rfl) d_Night_init_1 ?_
  refine qx_aload_n (x := x0) X d_Night_init_4 rfl 0 rfl ?_
  refine qx_bipush (v := (6 : Int32)) X d_Night_init_5 (by decide) ?_
  obtain ⟨g2, g3, hw⟩ := hw
  refine qx_newaI X wa_I (by decide) (N := 6) (by decide) (by decide) g2 g3 d_Night_init_7 ?_
  refine qx_topr (fun y5 ey5 => ?_)
  have hw := hw y5 ey5
  refine qx_toph (fun h4 eh4 => ?_)
  have hw := hw h4 eh4
  obtain ⟨g6, hw⟩ := hw
  refine qx_putRF X qcls1 g6 2 (by decide) rfl wf_Night_9 rfl rfl rfl (Or.inr ⟨_, rfl⟩) d_Night_init_9 ?_
  refine qx_toph (fun h7 eh7 => ?_)
  have hw := hw h7 eh7
  refine qx_aload_n (x := x0) X d_Night_init_12 rfl 0 rfl ?_
  refine qx_aload_n (x := x1) X d_Night_init_13 rfl 1 rfl ?_
  obtain ⟨g8, hw⟩ := hw
  refine qx_putRF X qcls1 g8 0 (by decide) rfl wf_Night_15 rfl rfl rfl (Or.inl ⟨_, rfl⟩) d_Night_init_14 ?_
  refine qx_toph (fun h9 eh9 => ?_)
  have hw := hw h9 eh9
  refine qx_aload_n (x := x0) X d_Night_init_17 rfl 0 rfl ?_
  refine qx_aload_n (x := x2) X d_Night_init_18 rfl 2 rfl ?_
  obtain ⟨g10, hw⟩ := hw
  refine qx_putRF X qcls1 g10 1 (by decide) rfl wf_Night_19 rfl rfl rfl (Or.inl ⟨_, rfl⟩) d_Night_init_19 ?_
  refine qx_toph (fun h11 eh11 => ?_)
  have hw := hw h11 eh11
  obtain ⟨g12, g13, hw⟩ := hw
  exact qx_vret X hw g12 g13 rfl d_Night_init_22
set_option maxRecDepth 4000 in
theorem t_State_init {adK adV : Nat → Nat} (l : Launch) (D : va_G) (cy : Nat → ClassId) (b : Nat) (N : Nat) (x0 : Nat) (x1 : Nat) (h : qH) (Q : qH → Prop) (hw : w_State_init N x0 x1 h Q) : Met l y_State_init (Cond.code y_State_init prog_8_method_1_code 2 (none) :: qT) (qrm 1 5 31 21) (qPc D cy b adK adV h [qr b x0, qr b x1]) (qQc D cy b qrV (fun (_ : Unit) h => Q h)) 5 31 (qA b) := by
  refine qmet (L0 := [(0, .inr (.inr (.inl x0))), (1, .inr (.inr (.inl x1)))]) qm_State_init (plainFor_of_name (by decide)) [.inr (.inr (.inl x0)), .inr (.inr (.inl x1))] rfl (Nat.le_of_ble_eq_true rfl) rfl (fun p e s m args below meth c X => ?_)
  unfold w_State_init at hw
  refine qx_aload_n (x := x0) X d_State_init_0 rfl 0 rfl ?_
  obtain ⟨g1, hw⟩ := hw
  refine qx_oinit X g1 wm_State_3 wi_oinit wk_oinit (Nat.le_of_ble_eq_true rfl) (Nat.le_of_ble_eq_true rfl) d_State_init_1 ?_
  refine qx_aload_n (x := x0) X d_State_init_4 rfl 0 rfl ?_
  refine qx_bipush (v := (6 : Int32)) X d_State_init_5 (by decide) ?_
  obtain ⟨g2, g3, hw⟩ := hw
  refine qx_newaI X wa_I (by decide) (N := 6) (by decide) (by decide) g2 g3 d_State_init_7 ?_
  refine qx_topr (fun y5 ey5 => ?_)
  have hw := hw y5 ey5
  refine qx_toph (fun h4 eh4 => ?_)
  have hw := hw h4 eh4
  obtain ⟨g6, hw⟩ := hw
  refine qx_putRF X qcls6 g6 2 (by decide) rfl wf_State_9 rfl rfl rfl (Or.inr ⟨_, rfl⟩) d_State_init_9 ?_
  refine qx_toph (fun h7 eh7 => ?_)
  have hw := hw h7 eh7
  refine qx_aload_n (x := x0) X d_State_init_12 rfl 0 rfl ?_
  refine qx_bipush (v := (6 : Int32)) X d_State_init_13 (by decide) ?_
  obtain ⟨g8, g9, hw⟩ := hw
  refine qx_newaI X wa_I (by decide) (N := 6) (by decide) (by decide) g8 g9 d_State_init_15 ?_
  refine qx_topr (fun y11 ey11 => ?_)
  have hw := hw y11 ey11
  refine qx_toph (fun h10 eh10 => ?_)
  have hw := hw h10 eh10
  obtain ⟨g12, hw⟩ := hw
  refine qx_putRF X qcls6 g12 3 (by decide) rfl wf_State_15 rfl rfl rfl (Or.inr ⟨_, rfl⟩) d_State_init_17 ?_
  refine qx_toph (fun h13 eh13 => ?_)
  have hw := hw h13 eh13
  refine qx_aload_n (x := x0) X d_State_init_20 rfl 0 rfl ?_
  refine qx_bipush (v := (6 : Int32)) X d_State_init_21 (by decide) ?_
  obtain ⟨g14, g15, hw⟩ := hw
  refine qx_newaI X wa_I (by decide) (N := 6) (by decide) (by decide) g14 g15 d_State_init_23 ?_
  refine qx_topr (fun y17 ey17 => ?_)
  have hw := hw y17 ey17
  refine qx_toph (fun h16 eh16 => ?_)
  have hw := hw h16 eh16
  obtain ⟨g18, hw⟩ := hw
  refine qx_putRF X qcls6 g18 4 (by decide) rfl wf_State_18 rfl rfl rfl (Or.inr ⟨_, rfl⟩) d_State_init_25 ?_
  refine qx_toph (fun h19 eh19 => ?_)
  have hw := hw h19 eh19
  refine qx_aload_n (x := x0) X d_State_init_28 rfl 0 rfl ?_
  refine qx_bipush (v := (6 : Int32)) X d_State_init_29 (by decide) ?_
  obtain ⟨g20, g21, hw⟩ := hw
  refine qx_newaI X wa_I (by decide) (N := 6) (by decide) (by decide) g20 g21 d_State_init_31 ?_
  refine qx_topr (fun y23 ey23 => ?_)
  have hw := hw y23 ey23
  refine qx_toph (fun h22 eh22 => ?_)
  have hw := hw h22 eh22
  obtain ⟨g24, hw⟩ := hw
  refine qx_putRF X qcls6 g24 5 (by decide) rfl wf_State_21 rfl rfl rfl (Or.inr ⟨_, rfl⟩) d_State_init_33 ?_
  refine qx_toph (fun h25 eh25 => ?_)
  have hw := hw h25 eh25
  refine qx_aload_n (x := x0) X d_State_init_36 rfl 0 rfl ?_
  refine qx_bipush (v := (7 : Int32)) X d_State_init_37 (by decide) ?_
  obtain ⟨g26, g27, hw⟩ := hw
  refine qx_newaI X wa_I (by decide) (N := 7) (by decide) (by decide) g26 g27 d_State_init_39 ?_
  refine qx_topr (fun y29 ey29 => ?_)
  have hw := hw y29 ey29
  refine qx_toph (fun h28 eh28 => ?_)
  have hw := hw h28 eh28
  obtain ⟨g30, hw⟩ := hw
  refine qx_putRF X qcls6 g30 6 (by decide) rfl wf_State_24 rfl rfl rfl (Or.inr ⟨_, rfl⟩) d_State_init_41 ?_
  refine qx_toph (fun h31 eh31 => ?_)
  have hw := hw h31 eh31
  refine qx_aload_n (x := x0) X d_State_init_44 rfl 0 rfl ?_
  refine qx_aload_n (x := x1) X d_State_init_45 rfl 1 rfl ?_
  obtain ⟨g32, hw⟩ := hw
  refine qx_putRF X qcls6 g32 0 (by decide) rfl wf_State_27 rfl rfl rfl (Or.inl ⟨_, rfl⟩) d_State_init_46 ?_
  refine qx_toph (fun h33 eh33 => ?_)
  have hw := hw h33 eh33
  refine qx_aload_n (x := x0) X d_State_init_49 rfl 0 rfl ?_
  obtain ⟨g34, hw⟩ := hw
  obtain ⟨g36, g37, hw⟩ := hw
  refine qx_callVV (st := []) (As := []) X (t_State_begin (adK := adK) (adV := adV) l D cy b N x0 h33 _ hw) qm_State_begin wm_State_31 wi_State_begin wl_State_begin qcls6 g34 rfl rfl rfl ⟨Nat.le_of_ble_eq_true rfl, Nat.le_of_ble_eq_true rfl⟩ ⟨g36, g37⟩ (Nat.le_of_ble_eq_true rfl) rfl d_State_init_50 (fun h35 hw => ?_)
  obtain ⟨g38, g39, hw⟩ := hw
  exact qx_vret X hw g38 g39 rfl d_State_init_53
set_option maxRecDepth 4000 in
theorem t_Past_init_25 (X : qX p s m args meth c D cy b adK adV prog_4_method_1_code "CoatHangers$Past" 3 (none) "<init>") (N k : Nat) (x0 : Nat) (x1 : Nat) (x2 : Int32) (C S : Nat) (h : qH) (Q : qH → Prop)  (hw : w_Past_init_25 N k x0 x1 x2 C S h Q ) : qW p l e (qrm 2 241 1560 42) s m args below meth c D cy b 3 C S (MQ below (qQc D cy b qrV (fun (_ : Unit) h => Q h)) args s 241 1560 (qA b)) 25 [(0, .inr (.inr (.inl x0))), (1, .inr (.inr (.inl x1))), (2, .inl x2)] [] h := by
  induction k generalizing x0 x1 x2 C S h with
  | zero => exact hw.elim
  | succ k ih =>
    refine qx_iload_n (x := x2) X d_Past_init_25 rfl 2 rfl ?_
    refine qx_bipush (v := (40 : Int32)) X d_Past_init_26 (by decide) ?_
    refine qx_icmp_ge X 51 d_Past_init_28 (by decide) (fun q1 => ?_) (fun q1 => ?_)
    · have hw := hw.1 q1
      obtain ⟨g2, g3, hw⟩ := hw
      exact qx_vret X hw g2 g3 rfl d_Past_init_51
    · have hw := hw.2 q1
      refine qx_aload_n (x := x0) X d_Past_init_31 rfl 0 rfl ?_
      obtain ⟨g4, hw⟩ := hw
      refine qx_getR X qcls2 g4 0 (by decide) rfl wf_Past_11 d_Past_init_32 ?_
      refine qx_iload_n (x := x2) X d_Past_init_35 rfl 2 rfl ?_
      obtain ⟨g5, g6, hw⟩ := hw
      refine qx_new X qcls6 qdef6 wc_Past_9 wn_State wz_State g5 g6 d_Past_init_36 ?_
      refine qx_topr (fun y8 ey8 => ?_)
      have hw := hw y8 ey8
      refine qx_toph (fun h7 eh7 => ?_)
      have hw := hw h7 eh7
      refine qx_dup X (qr_cat _ _) d_Past_init_39 ?_
      refine qx_aload_n (x := x1) X d_Past_init_40 rfl 1 rfl ?_
      obtain ⟨g9, hw⟩ := hw
      obtain ⟨g11, g12, hw⟩ := hw
      refine qx_callIV (st := [qr b y8, .int x2, qr b (qR h x0 0)]) (As := [qr b x1]) X (t_State_init (adK := adK) (adV := adV) l D cy b N y8 x1 h7 _ hw) qm_State_init wm_Past_22 wi_State_init rfl g9 rfl rfl rfl ⟨Nat.le_of_ble_eq_true rfl, Nat.le_of_ble_eq_true rfl⟩ ⟨g11, g12⟩ (Nat.le_of_ble_eq_true rfl) rfl d_Past_init_41 (fun h10 hw => ?_)
      obtain ⟨g13, hw⟩ := hw
      obtain ⟨g14, hw⟩ := hw
      refine qx_ast X qcls6 g13 g14 d_Past_init_44 ?_
      refine qx_toph (fun h15 eh15 => ?_)
      have hw := hw h15 eh15
      refine qx_iinc (v := (x2 + (1 : Int32))) (L' := [(2, .inl (x2 + (1 : Int32))), (0, .inr (.inr (.inl x0))), (1, .inr (.inr (.inl x1)))]) X d_Past_init_45 2 rfl rfl (by decide) rfl ?_
      refine qx_goto X 25 d_Past_init_48 (by decide) ?_
      refine qx_sub [1, 2, 0] rfl ?_
      exact ih x0 x1 (x2 + (1 : Int32)) ((C + 1) + 5) ((S + 7) + 31) h15 hw
set_option maxRecDepth 4000 in
theorem t_Past_init {adK adV : Nat → Nat} (l : Launch) (D : va_G) (cy : Nat → ClassId) (b : Nat) (N : Nat) (x0 : Nat) (x1 : Nat) (h : qH) (Q : qH → Prop) (hw : w_Past_init N x0 x1 h Q) : Met l y_Past_init (Cond.code y_Past_init prog_4_method_1_code 3 (none) :: qT) (qrm 2 241 1560 42) (qPc D cy b adK adV h [qr b x0, qr b x1]) (qQc D cy b qrV (fun (_ : Unit) h => Q h)) 241 1560 (qA b) := by
  refine qmet (L0 := [(0, .inr (.inr (.inl x0))), (1, .inr (.inr (.inl x1)))]) qm_Past_init (plainFor_of_name (by decide)) [.inr (.inr (.inl x0)), .inr (.inr (.inl x1))] rfl (Nat.le_of_ble_eq_true rfl) rfl (fun p e s m args below meth c X => ?_)
  unfold w_Past_init at hw
  refine qx_aload_n (x := x0) X d_Past_init_0 rfl 0 rfl ?_
  obtain ⟨g1, hw⟩ := hw
  refine qx_oinit X g1 wm_Past_1 wi_oinit wk_oinit (Nat.le_of_ble_eq_true rfl) (Nat.le_of_ble_eq_true rfl) d_Past_init_1 ?_
  refine qx_aload_n (x := x0) X d_Past_init_4 rfl 0 rfl ?_
  refine qx_bipush (v := (40 : Int32)) X d_Past_init_5 (by decide) ?_
  obtain ⟨g2, g3, hw⟩ := hw
  refine qx_anew X wc_Past_9 (by decide) (N := 40) (by decide) (by decide) g2 g3 d_Past_init_7 ?_
  refine qx_topr (fun y5 ey5 => ?_)
  have hw := hw y5 ey5
  refine qx_toph (fun h4 eh4 => ?_)
  have hw := hw h4 eh4
  obtain ⟨g6, hw⟩ := hw
  refine qx_putRF X qcls2 g6 0 (by decide) rfl wf_Past_11 rfl rfl rfl (Or.inr ⟨_, rfl⟩) d_Past_init_10 ?_
  refine qx_toph (fun h7 eh7 => ?_)
  have hw := hw h7 eh7
  refine qx_aload_n (x := x0) X d_Past_init_13 rfl 0 rfl ?_
  refine qx_iconst (v := (0 : Int32)) X d_Past_init_14 (by decide) ?_
  obtain ⟨g8, hw⟩ := hw
  refine qx_putI X qcls2 g8 1 (by decide) rfl wf_Past_15 rfl rfl rfl d_Past_init_15 ?_
  refine qx_toph (fun h9 eh9 => ?_)
  have hw := hw h9 eh9
  refine qx_aload_n (x := x0) X d_Past_init_18 rfl 0 rfl ?_
  refine qx_iconst (v := (0 : Int32)) X d_Past_init_19 (by decide) ?_
  obtain ⟨g10, hw⟩ := hw
  refine qx_putI X qcls2 g10 2 (by decide) rfl wf_Past_19 rfl rfl rfl d_Past_init_20 ?_
  refine qx_toph (fun h11 eh11 => ?_)
  have hw := hw h11 eh11
  refine qx_iconst (v := (0 : Int32)) X d_Past_init_23 (by decide) ?_
  refine qx_istore_n (L' := [(2, .inl (0 : Int32)), (0, .inr (.inr (.inl x0))), (1, .inr (.inr (.inl x1)))]) X d_Past_init_24 rfl (by decide) rfl ?_
  refine qx_sub [1, 2, 0] rfl ?_
  exact t_Past_init_25 X N N x0 x1 (0 : Int32) 1 40 h11 Q  hw 
set_option maxRecDepth 4000 in
theorem t_Plan_init {adK adV : Nat → Nat} (l : Launch) (D : va_G) (cy : Nat → ClassId) (b : Nat) (N : Nat) (x0 : Nat) (x1 : Nat) (x2 : Nat) (h : qH) (Q : qH → Prop) (hw : w_Plan_init N x0 x1 x2 h Q) : Met l y_Plan_init (Cond.code y_Plan_init prog_5_method_1_code 3 (none) :: qT) (qrm 1 16 958 12) (qPc D cy b adK adV h [qr b x0, qr b x1, qr b x2]) (qQc D cy b qrV (fun (_ : Unit) h => Q h)) 16 958 (qA b) := by
  refine qmet (L0 := [(0, .inr (.inr (.inl x0))), (1, .inr (.inr (.inl x1))), (2, .inr (.inr (.inl x2)))]) qm_Plan_init (plainFor_of_name (by decide)) [.inr (.inr (.inl x0)), .inr (.inr (.inl x1)), .inr (.inr (.inl x2))] rfl (Nat.le_of_ble_eq_true rfl) rfl (fun p e s m args below meth c X => ?_)
  unfold w_Plan_init at hw
  refine qx_aload_n (x := x0) X d_Plan_init_0 rfl 0 rfl ?_
  obtain ⟨g1, hw⟩ := hw
  refine qx_oinit X g1 wm_Plan_3 wi_oinit wk_oinit (Nat.le_of_ble_eq_true rfl) (Nat.le_of_ble_eq_true rfl) d_Plan_init_1 ?_
  refine qx_aload_n (x := x0) X d_Plan_init_4 rfl 0 rfl ?_
  refine qx_bipush (v := (6 : Int32)) X d_Plan_init_5 (by decide) ?_
  refine qx_bipush (v := (7 : Int32)) X d_Plan_init_7 (by decide) ?_
  obtain ⟨g2, g3, hw⟩ := hw
  refine qx_mnew X wc_Plan_9 wa_I (N := 6) (K := 7) (by decide) (by decide) (by decide) (by decide) (by decide) (by decide) g2 g3 d_Plan_init_9 ?_
  refine qx_topr (fun y5 ey5 => ?_)
  have hw := hw y5 ey5
  refine qx_toph (fun h4 eh4 => ?_)
  have hw := hw h4 eh4
  obtain ⟨g6, hw⟩ := hw
  refine qx_putRF X qcls3 g6 2 (by decide) rfl wf_Plan_11 rfl rfl rfl (Or.inr ⟨_, rfl⟩) d_Plan_init_13 ?_
  refine qx_toph (fun h7 eh7 => ?_)
  have hw := hw h7 eh7
  refine qx_aload_n (x := x0) X d_Plan_init_16 rfl 0 rfl ?_
  refine qx_bipush (v := (7 : Int32)) X d_Plan_init_17 (by decide) ?_
  obtain ⟨g8, g9, hw⟩ := hw
  refine qx_newaI X wa_I (by decide) (N := 7) (by decide) (by decide) g8 g9 d_Plan_init_19 ?_
  refine qx_topr (fun y11 ey11 => ?_)
  have hw := hw y11 ey11
  refine qx_toph (fun h10 eh10 => ?_)
  have hw := hw h10 eh10
  obtain ⟨g12, hw⟩ := hw
  refine qx_putRF X qcls3 g12 3 (by decide) rfl wf_Plan_16 rfl rfl rfl (Or.inr ⟨_, rfl⟩) d_Plan_init_21 ?_
  refine qx_toph (fun h13 eh13 => ?_)
  have hw := hw h13 eh13
  refine qx_aload_n (x := x0) X d_Plan_init_24 rfl 0 rfl ?_
  refine qx_bipush (v := (7 : Int32)) X d_Plan_init_25 (by decide) ?_
  refine qx_sipush (v := (128 : Int32)) X d_Plan_init_27 (by decide) ?_
  obtain ⟨g14, g15, hw⟩ := hw
  refine qx_mnew X wc_Plan_9 wa_I (N := 7) (K := 128) (by decide) (by decide) (by decide) (by decide) (by decide) (by decide) g14 g15 d_Plan_init_30 ?_
  refine qx_topr (fun y17 ey17 => ?_)
  have hw := hw y17 ey17
  refine qx_toph (fun h16 eh16 => ?_)
  have hw := hw h16 eh16
  obtain ⟨g18, hw⟩ := hw
  refine qx_putRF X qcls3 g18 4 (by decide) rfl wf_Plan_20 rfl rfl rfl (Or.inr ⟨_, rfl⟩) d_Plan_init_34 ?_
  refine qx_toph (fun h19 eh19 => ?_)
  have hw := hw h19 eh19
  refine qx_aload_n (x := x0) X d_Plan_init_37 rfl 0 rfl ?_
  refine qx_aload_n (x := x1) X d_Plan_init_38 rfl 1 rfl ?_
  obtain ⟨g20, hw⟩ := hw
  refine qx_putRF X qcls3 g20 0 (by decide) rfl wf_Plan_23 rfl rfl rfl (Or.inl ⟨_, rfl⟩) d_Plan_init_39 ?_
  refine qx_toph (fun h21 eh21 => ?_)
  have hw := hw h21 eh21
  refine qx_aload_n (x := x0) X d_Plan_init_42 rfl 0 rfl ?_
  refine qx_aload_n (x := x2) X d_Plan_init_43 rfl 2 rfl ?_
  obtain ⟨g22, hw⟩ := hw
  refine qx_putRF X qcls3 g22 1 (by decide) rfl wf_Plan_27 rfl rfl rfl (Or.inl ⟨_, rfl⟩) d_Plan_init_44 ?_
  refine qx_toph (fun h23 eh23 => ?_)
  have hw := hw h23 eh23
  obtain ⟨g24, g25, hw⟩ := hw
  exact qx_vret X hw g24 g25 rfl d_Plan_init_47
set_option maxRecDepth 4000 in
theorem t_Text_init {adK adV : Nat → Nat} (l : Launch) (D : va_G) (cy : Nat → ClassId) (b : Nat) (N : Nat) (x0 : Nat) (h : qH) (Q : qH → Prop) (hw : w_Text_init N x0 h Q) : Met l y_Text_init (Cond.code y_Text_init prog_10_method_1_code 1 (none) :: qT) (qrm 3 17 3244 65) (qPc D cy b adK adV h [qr b x0]) (qQc D cy b qrV (fun (_ : Unit) h => Q h)) 17 3244 (qA b) := by
  refine qmet (L0 := [(0, .inr (.inr (.inl x0)))]) qm_Text_init (plainFor_of_name (by decide)) [.inr (.inr (.inl x0))] rfl (Nat.le_of_ble_eq_true rfl) rfl (fun p e s m args below meth c X => ?_)
  unfold w_Text_init at hw
  refine qx_aload_n (x := x0) X d_Text_init_0 rfl 0 rfl ?_
  obtain ⟨g1, hw⟩ := hw
  refine qx_oinit X g1 wm_Text_3 wi_oinit wk_oinit (Nat.le_of_ble_eq_true rfl) (Nat.le_of_ble_eq_true rfl) d_Text_init_1 ?_
  refine qx_aload_n (x := x0) X d_Text_init_4 rfl 0 rfl ?_
  refine qx_bipush (v := (7 : Int32)) X d_Text_init_5 (by decide) ?_
  obtain ⟨g2, g3, hw⟩ := hw
  refine qx_newaI X wa_I (by decide) (N := 7) (by decide) (by decide) g2 g3 d_Text_init_7 ?_
  refine qx_topr (fun y5 ey5 => ?_)
  have hw := hw y5 ey5
  refine qx_toph (fun h4 eh4 => ?_)
  have hw := hw h4 eh4
  obtain ⟨g6, hw⟩ := hw
  refine qx_putRF X qcls8 g6 1 (by decide) rfl wf_Text_9 rfl rfl rfl (Or.inr ⟨_, rfl⟩) d_Text_init_9 ?_
  refine qx_toph (fun h7 eh7 => ?_)
  have hw := hw h7 eh7
  refine qx_aload_n (x := x0) X d_Text_init_12 rfl 0 rfl ?_
  refine qx_bipush (v := (7 : Int32)) X d_Text_init_13 (by decide) ?_
  obtain ⟨g8, g9, hw⟩ := hw
  refine qx_newaI X wa_I (by decide) (N := 7) (by decide) (by decide) g8 g9 d_Text_init_15 ?_
  refine qx_topr (fun y11 ey11 => ?_)
  have hw := hw y11 ey11
  refine qx_toph (fun h10 eh10 => ?_)
  have hw := hw h10 eh10
  obtain ⟨g12, hw⟩ := hw
  refine qx_putRF X qcls8 g12 2 (by decide) rfl wf_Text_15 rfl rfl rfl (Or.inr ⟨_, rfl⟩) d_Text_init_17 ?_
  refine qx_toph (fun h13 eh13 => ?_)
  have hw := hw h13 eh13
  refine qx_aload_n (x := x0) X d_Text_init_20 rfl 0 rfl ?_
  refine qx_bipush (v := (6 : Int32)) X d_Text_init_21 (by decide) ?_
  obtain ⟨g14, g15, hw⟩ := hw
  refine qx_newaI X wa_I (by decide) (N := 6) (by decide) (by decide) g14 g15 d_Text_init_23 ?_
  refine qx_topr (fun y17 ey17 => ?_)
  have hw := hw y17 ey17
  refine qx_toph (fun h16 eh16 => ?_)
  have hw := hw h16 eh16
  obtain ⟨g18, hw⟩ := hw
  refine qx_putRF X qcls8 g18 4 (by decide) rfl wf_Text_18 rfl rfl rfl (Or.inr ⟨_, rfl⟩) d_Text_init_25 ?_
  refine qx_toph (fun h19 eh19 => ?_)
  have hw := hw h19 eh19
  refine qx_aload_n (x := x0) X d_Text_init_28 rfl 0 rfl ?_
  refine qx_bipush (v := (6 : Int32)) X d_Text_init_29 (by decide) ?_
  obtain ⟨g20, g21, hw⟩ := hw
  refine qx_newaI X wa_I (by decide) (N := 6) (by decide) (by decide) g20 g21 d_Text_init_31 ?_
  refine qx_topr (fun y23 ey23 => ?_)
  have hw := hw y23 ey23
  refine qx_toph (fun h22 eh22 => ?_)
  have hw := hw h22 eh22
  obtain ⟨g24, hw⟩ := hw
  refine qx_putRF X qcls8 g24 5 (by decide) rfl wf_Text_21 rfl rfl rfl (Or.inr ⟨_, rfl⟩) d_Text_init_33 ?_
  refine qx_toph (fun h25 eh25 => ?_)
  have hw := hw h25 eh25
  refine qx_aload_n (x := x0) X d_Text_init_36 rfl 0 rfl ?_
  refine qx_bipush (v := (6 : Int32)) X d_Text_init_37 (by decide) ?_
  obtain ⟨g26, g27, hw⟩ := hw
  refine qx_newaI X wa_I (by decide) (N := 6) (by decide) (by decide) g26 g27 d_Text_init_39 ?_
  refine qx_topr (fun y29 ey29 => ?_)
  have hw := hw y29 ey29
  refine qx_toph (fun h28 eh28 => ?_)
  have hw := hw h28 eh28
  obtain ⟨g30, hw⟩ := hw
  refine qx_putRF X qcls8 g30 6 (by decide) rfl wf_Text_24 rfl rfl rfl (Or.inr ⟨_, rfl⟩) d_Text_init_41 ?_
  refine qx_toph (fun h31 eh31 => ?_)
  have hw := hw h31 eh31
  refine qx_aload_n (x := x0) X d_Text_init_44 rfl 0 rfl ?_
  obtain ⟨g32, g33, hw⟩ := hw
  refine qx_new X qcls0 qdef0 wc_Text_27 wn_Law wz_Law g32 g33 d_Text_init_45 ?_
  refine qx_topr (fun y35 ey35 => ?_)
  have hw := hw y35 ey35
  refine qx_toph (fun h34 eh34 => ?_)
  have hw := hw h34 eh34
  refine qx_dup X (qr_cat _ _) d_Text_init_48 ?_
  obtain ⟨g36, hw⟩ := hw
  obtain ⟨g38, g39, hw⟩ := hw
  refine qx_callINV (st := [qr b y35, qr b x0]) (As := []) X (t_Law_init (adK := adK) (adV := adV) l D cy b N y35 h34 _ hw) qm_Law_init X.2.2.2.2.2.2.2.1.2.2.2.2.2.2.2.1 wi_Law_init rfl g36 rfl rfl rfl ⟨Nat.le_of_ble_eq_true rfl, Nat.le_of_ble_eq_true rfl⟩ ⟨g38, g39⟩ (Nat.le_of_ble_eq_true rfl) rfl d_Text_init_49 (fun h37 hw => ?_)
  obtain ⟨g40, hw⟩ := hw
  refine qx_putRF X qcls8 g40 7 (by decide) rfl wf_Text_30 rfl rfl rfl (Or.inl ⟨_, rfl⟩) d_Text_init_52 ?_
  refine qx_toph (fun h41 eh41 => ?_)
  have hw := hw h41 eh41
  refine qx_aload_n (x := x0) X d_Text_init_55 rfl 0 rfl ?_
  obtain ⟨g42, g43, hw⟩ := hw
  refine qx_new X qcls0 qdef0 wc_Text_27 wn_Law wz_Law g42 g43 d_Text_init_56 ?_
  refine qx_topr (fun y45 ey45 => ?_)
  have hw := hw y45 ey45
  refine qx_toph (fun h44 eh44 => ?_)
  have hw := hw h44 eh44
  refine qx_dup X (qr_cat _ _) d_Text_init_59 ?_
  obtain ⟨g46, hw⟩ := hw
  obtain ⟨g48, g49, hw⟩ := hw
  refine qx_callINV (st := [qr b y45, qr b x0]) (As := []) X (t_Law_init (adK := adK) (adV := adV) l D cy b N y45 h44 _ hw) qm_Law_init X.2.2.2.2.2.2.2.1.2.2.2.2.2.2.2.1 wi_Law_init rfl g46 rfl rfl rfl ⟨Nat.le_of_ble_eq_true rfl, Nat.le_of_ble_eq_true rfl⟩ ⟨g48, g49⟩ (Nat.le_of_ble_eq_true rfl) rfl d_Text_init_60 (fun h47 hw => ?_)
  obtain ⟨g50, hw⟩ := hw
  refine qx_putRF X qcls8 g50 8 (by decide) rfl wf_Text_34 rfl rfl rfl (Or.inl ⟨_, rfl⟩) d_Text_init_63 ?_
  refine qx_toph (fun h51 eh51 => ?_)
  have hw := hw h51 eh51
  refine qx_aload_n (x := x0) X d_Text_init_66 rfl 0 rfl ?_
  obtain ⟨g52, g53, hw⟩ := hw
  refine qx_new X qcls0 qdef0 wc_Text_27 wn_Law wz_Law g52 g53 d_Text_init_67 ?_
  refine qx_topr (fun y55 ey55 => ?_)
  have hw := hw y55 ey55
  refine qx_toph (fun h54 eh54 => ?_)
  have hw := hw h54 eh54
  refine qx_dup X (qr_cat _ _) d_Text_init_70 ?_
  obtain ⟨g56, hw⟩ := hw
  obtain ⟨g58, g59, hw⟩ := hw
  refine qx_callINV (st := [qr b y55, qr b x0]) (As := []) X (t_Law_init (adK := adK) (adV := adV) l D cy b N y55 h54 _ hw) qm_Law_init X.2.2.2.2.2.2.2.1.2.2.2.2.2.2.2.1 wi_Law_init rfl g56 rfl rfl rfl ⟨Nat.le_of_ble_eq_true rfl, Nat.le_of_ble_eq_true rfl⟩ ⟨g58, g59⟩ (Nat.le_of_ble_eq_true rfl) rfl d_Text_init_71 (fun h57 hw => ?_)
  obtain ⟨g60, hw⟩ := hw
  refine qx_putRF X qcls8 g60 9 (by decide) rfl wf_Text_37 rfl rfl rfl (Or.inl ⟨_, rfl⟩) d_Text_init_74 ?_
  refine qx_toph (fun h61 eh61 => ?_)
  have hw := hw h61 eh61
  refine qx_aload_n (x := x0) X d_Text_init_77 rfl 0 rfl ?_
  obtain ⟨g62, g63, hw⟩ := hw
  refine qx_new X qcls0 qdef0 wc_Text_27 wn_Law wz_Law g62 g63 d_Text_init_78 ?_
  refine qx_topr (fun y65 ey65 => ?_)
  have hw := hw y65 ey65
  refine qx_toph (fun h64 eh64 => ?_)
  have hw := hw h64 eh64
  refine qx_dup X (qr_cat _ _) d_Text_init_81 ?_
  obtain ⟨g66, hw⟩ := hw
  obtain ⟨g68, g69, hw⟩ := hw
  refine qx_callINV (st := [qr b y65, qr b x0]) (As := []) X (t_Law_init (adK := adK) (adV := adV) l D cy b N y65 h64 _ hw) qm_Law_init X.2.2.2.2.2.2.2.1.2.2.2.2.2.2.2.1 wi_Law_init rfl g66 rfl rfl rfl ⟨Nat.le_of_ble_eq_true rfl, Nat.le_of_ble_eq_true rfl⟩ ⟨g68, g69⟩ (Nat.le_of_ble_eq_true rfl) rfl d_Text_init_82 (fun h67 hw => ?_)
  obtain ⟨g70, hw⟩ := hw
  refine qx_putRF X qcls8 g70 10 (by decide) rfl wf_Text_40 rfl rfl rfl (Or.inl ⟨_, rfl⟩) d_Text_init_85 ?_
  refine qx_toph (fun h71 eh71 => ?_)
  have hw := hw h71 eh71
  refine qx_aload_n (x := x0) X d_Text_init_88 rfl 0 rfl ?_
  obtain ⟨g72, hw⟩ := hw
  obtain ⟨g74, g75, hw⟩ := hw
  refine qx_callVV (st := []) (As := []) X (t_Text_clear (adK := adK) (adV := adV) l D cy b N x0 h71 _ hw) qm_Text_clear wm_Text_43 wi_Text_clear wl_Text_clear qcls8 g72 rfl rfl rfl ⟨Nat.le_of_ble_eq_true rfl, Nat.le_of_ble_eq_true rfl⟩ ⟨g74, g75⟩ (Nat.le_of_ble_eq_true rfl) rfl d_Text_init_89 (fun h73 hw => ?_)
  obtain ⟨g76, g77, hw⟩ := hw
  exact qx_vret X hw g76 g77 rfl d_Text_init_92
set_option maxRecDepth 4000 in
theorem t_Waits_init {adK adV : Nat → Nat} (l : Launch) (D : va_G) (cy : Nat → ClassId) (b : Nat) (N : Nat) (x0 : Nat) (h : qH) (Q : qH → Prop) (hw : w_Waits_init N x0 h Q) : Met l y_Waits_init (Cond.code y_Waits_init prog_12_method_1_code 1 (none) :: qT) (qrm 1 1 32 12) (qPc D cy b adK adV h [qr b x0]) (qQc D cy b qrV (fun (_ : Unit) h => Q h)) 1 32 (qA b) := by
  refine qmet (L0 := [(0, .inr (.inr (.inl x0)))]) qm_Waits_init (plainFor_of_name (by decide)) [.inr (.inr (.inl x0))] rfl (Nat.le_of_ble_eq_true rfl) rfl (fun p e s m args below meth c X => ?_)
  unfold w_Waits_init at hw
  refine qx_aload_n (x := x0) X d_Waits_init_0 rfl 0 rfl ?_
  obtain ⟨g1, hw⟩ := hw
  refine qx_oinit X g1 wm_Waits_1 wi_oinit wk_oinit (Nat.le_of_ble_eq_true rfl) (Nat.le_of_ble_eq_true rfl) d_Waits_init_1 ?_
  refine qx_aload_n (x := x0) X d_Waits_init_4 rfl 0 rfl ?_
  refine qx_bipush (v := (32 : Int32)) X d_Waits_init_5 (by decide) ?_
  obtain ⟨g2, g3, hw⟩ := hw
  refine qx_newaI X wa_I (by decide) (N := 32) (by decide) (by decide) g2 g3 d_Waits_init_7 ?_
  refine qx_topr (fun y5 ey5 => ?_)
  have hw := hw y5 ey5
  refine qx_toph (fun h4 eh4 => ?_)
  have hw := hw h4 eh4
  obtain ⟨g6, hw⟩ := hw
  refine qx_putRF X qcls10 g6 0 (by decide) rfl wf_Waits_9 rfl rfl rfl (Or.inr ⟨_, rfl⟩) d_Waits_init_9 ?_
  refine qx_toph (fun h7 eh7 => ?_)
  have hw := hw h7 eh7
  obtain ⟨g8, g9, hw⟩ := hw
  exact qx_vret X hw g8 g9 rfl d_Waits_init_12
set_option maxRecDepth 4000 in
theorem t_Reader_init {adK adV : Nat → Nat} (l : Launch) (D : va_G) (cy : Nat → ClassId) (b : Nat) (N : Nat) (x0 : Nat) (x1 : Nat) (h : qH) (Q : qH → Prop) (hw : w_Reader_init N x0 x1 h Q) : Met l y_Reader_init (Cond.code y_Reader_init prog_6_method_1_code 2 (none) :: qT) (qrm 4 22 3305 85) (qPc D cy b adK adV h [qr b x0, qr b x1]) (qQc D cy b qrV (fun (_ : Unit) h => Q h)) 22 3305 (qA b) := by
  refine qmet (L0 := [(0, .inr (.inr (.inl x0))), (1, .inr (.inr (.inl x1)))]) qm_Reader_init (plainFor_of_name (by decide)) [.inr (.inr (.inl x0)), .inr (.inr (.inl x1))] rfl (Nat.le_of_ble_eq_true rfl) rfl (fun p e s m args below meth c X => ?_)
  unfold w_Reader_init at hw
  refine qx_aload_n (x := x0) X d_Reader_init_0 rfl 0 rfl ?_
  obtain ⟨g1, hw⟩ := hw
  refine qx_oinit X g1 wm_Reader_3 wi_oinit wk_oinit (Nat.le_of_ble_eq_true rfl) (Nat.le_of_ble_eq_true rfl) d_Reader_init_1 ?_
  refine qx_aload_n (x := x0) X d_Reader_init_4 rfl 0 rfl ?_
  obtain ⟨g2, g3, hw⟩ := hw
  refine qx_new X qcls8 qdef8 wc_Reader_9 wn_Text wz_Text g2 g3 d_Reader_init_5 ?_
  refine qx_topr (fun y5 ey5 => ?_)
  have hw := hw y5 ey5
  refine qx_toph (fun h4 eh4 => ?_)
  have hw := hw h4 eh4
  refine qx_dup X (qr_cat _ _) d_Reader_init_8 ?_
  obtain ⟨g6, hw⟩ := hw
  obtain ⟨g8, g9, hw⟩ := hw
  refine qx_callIV (st := [qr b y5, qr b x0]) (As := []) X (t_Text_init (adK := adK) (adV := adV) l D cy b N y5 h4 _ hw) qm_Text_init wm_Reader_11 wi_Text_init rfl g6 rfl rfl rfl ⟨Nat.le_of_ble_eq_true rfl, Nat.le_of_ble_eq_true rfl⟩ ⟨g8, g9⟩ (Nat.le_of_ble_eq_true rfl) rfl d_Reader_init_9 (fun h7 hw => ?_)
  obtain ⟨g10, hw⟩ := hw
  refine qx_putRF X qcls4 g10 5 (by decide) rfl wf_Reader_12 rfl rfl rfl (Or.inl ⟨_, rfl⟩) d_Reader_init_12 ?_
  refine qx_toph (fun h11 eh11 => ?_)
  have hw := hw h11 eh11
  refine qx_aload_n (x := x0) X d_Reader_init_15 rfl 0 rfl ?_
  refine qx_bipush (v := (7 : Int32)) X d_Reader_init_16 (by decide) ?_
  obtain ⟨g12, g13, hw⟩ := hw
  refine qx_newaJ X wa_J (by decide) (N := 7) (by decide) (by decide) g12 g13 d_Reader_init_18 ?_
  refine qx_topr (fun y15 ey15 => ?_)
  have hw := hw y15 ey15
  refine qx_toph (fun h14 eh14 => ?_)
  have hw := hw h14 eh14
  obtain ⟨g16, hw⟩ := hw
  refine qx_putRF X qcls4 g16 6 (by decide) rfl wf_Reader_18 rfl rfl rfl (Or.inr ⟨_, rfl⟩) d_Reader_init_20 ?_
  refine qx_toph (fun h17 eh17 => ?_)
  have hw := hw h17 eh17
  refine qx_aload_n (x := x0) X d_Reader_init_23 rfl 0 rfl ?_
  refine qx_bipush (v := (6 : Int32)) X d_Reader_init_24 (by decide) ?_
  obtain ⟨g18, g19, hw⟩ := hw
  refine qx_newaJ X wa_J (by decide) (N := 6) (by decide) (by decide) g18 g19 d_Reader_init_26 ?_
  refine qx_topr (fun y21 ey21 => ?_)
  have hw := hw y21 ey21
  refine qx_toph (fun h20 eh20 => ?_)
  have hw := hw h20 eh20
  obtain ⟨g22, hw⟩ := hw
  refine qx_putRF X qcls4 g22 7 (by decide) rfl wf_Reader_22 rfl rfl rfl (Or.inr ⟨_, rfl⟩) d_Reader_init_28 ?_
  refine qx_toph (fun h23 eh23 => ?_)
  have hw := hw h23 eh23
  refine qx_aload_n (x := x0) X d_Reader_init_31 rfl 0 rfl ?_
  obtain ⟨g24, g25, hw⟩ := hw
  refine qx_new X qcls10 qdef10 wc_Reader_25 wn_Waits wz_Waits g24 g25 d_Reader_init_32 ?_
  refine qx_topr (fun y27 ey27 => ?_)
  have hw := hw y27 ey27
  refine qx_toph (fun h26 eh26 => ?_)
  have hw := hw h26 eh26
  refine qx_dup X (qr_cat _ _) d_Reader_init_35 ?_
  obtain ⟨g28, hw⟩ := hw
  obtain ⟨g30, g31, hw⟩ := hw
  refine qx_callINV (st := [qr b y27, qr b x0]) (As := []) X (t_Waits_init (adK := adK) (adV := adV) l D cy b N y27 h26 _ hw) qm_Waits_init X.2.2.2.2.2.2.2.1.2.2.2.2.2.2.2.2 wi_Waits_init rfl g28 rfl rfl rfl ⟨Nat.le_of_ble_eq_true rfl, Nat.le_of_ble_eq_true rfl⟩ ⟨g30, g31⟩ (Nat.le_of_ble_eq_true rfl) rfl d_Reader_init_36 (fun h29 hw => ?_)
  obtain ⟨g32, hw⟩ := hw
  refine qx_putRF X qcls4 g32 9 (by decide) rfl wf_Reader_28 rfl rfl rfl (Or.inl ⟨_, rfl⟩) d_Reader_init_39 ?_
  refine qx_toph (fun h33 eh33 => ?_)
  have hw := hw h33 eh33
  refine qx_aload_n (x := x0) X d_Reader_init_42 rfl 0 rfl ?_
  refine qx_iconst (v := (-1 : Int32)) X d_Reader_init_43 (by decide) ?_
  obtain ⟨g34, hw⟩ := hw
  refine qx_putI X qcls4 g34 13 (by decide) rfl wf_Reader_32 rfl rfl rfl d_Reader_init_44 ?_
  refine qx_toph (fun h35 eh35 => ?_)
  have hw := hw h35 eh35
  refine qx_aload_n (x := x0) X d_Reader_init_47 rfl 0 rfl ?_
  refine qx_aload_n (x := x1) X d_Reader_init_48 rfl 1 rfl ?_
  obtain ⟨g36, hw⟩ := hw
  refine qx_putRF X qcls4 g36 0 (by decide) rfl wf_Reader_36 rfl rfl rfl (Or.inl ⟨_, rfl⟩) d_Reader_init_49 ?_
  refine qx_toph (fun h37 eh37 => ?_)
  have hw := hw h37 eh37
  obtain ⟨g38, g39, hw⟩ := hw
  exact qx_vret X hw g38 g39 rfl d_Reader_init_52
set_option maxRecDepth 4000 in
theorem t_Reck_init {adK adV : Nat → Nat} (l : Launch) (D : va_G) (cy : Nat → ClassId) (b : Nat) (N : Nat) (x0 : Nat) (x1 : Nat) (h : qH) (Q : qH → Prop) (hw : w_Reck_init N x0 x1 h Q) : Met l y_Reck_init (Cond.code y_Reck_init prog_7_method_1_code 2 (none) :: qT) (qrm 1 2 41 12) (qPc D cy b adK adV h [qr b x0, qr b x1]) (qQc D cy b qrV (fun (_ : Unit) h => Q h)) 2 41 (qA b) := by
  refine qmet (L0 := [(0, .inr (.inr (.inl x0))), (1, .inr (.inr (.inl x1)))]) qm_Reck_init (plainFor_of_name (by decide)) [.inr (.inr (.inl x0)), .inr (.inr (.inl x1))] rfl (Nat.le_of_ble_eq_true rfl) rfl (fun p e s m args below meth c X => ?_)
  unfold w_Reck_init at hw
  refine qx_aload_n (x := x0) X d_Reck_init_0 rfl 0 rfl ?_
  obtain ⟨g1, hw⟩ := hw
  refine qx_oinit X g1 wm_Reck_3 wi_oinit wk_oinit (Nat.le_of_ble_eq_true rfl) (Nat.le_of_ble_eq_true rfl) d_Reck_init_1 ?_
  refine qx_aload_n (x := x0) X d_Reck_init_4 rfl 0 rfl ?_
  refine qx_bipush (v := (9 : Int32)) X d_Reck_init_5 (by decide) ?_
  obtain ⟨g2, g3, hw⟩ := hw
  refine qx_newaI X wa_I (by decide) (N := 9) (by decide) (by decide) g2 g3 d_Reck_init_7 ?_
  refine qx_topr (fun y5 ey5 => ?_)
  have hw := hw y5 ey5
  refine qx_toph (fun h4 eh4 => ?_)
  have hw := hw h4 eh4
  obtain ⟨g6, hw⟩ := hw
  refine qx_putRF X qcls5 g6 1 (by decide) rfl wf_Reck_11 rfl rfl rfl (Or.inr ⟨_, rfl⟩) d_Reck_init_9 ?_
  refine qx_toph (fun h7 eh7 => ?_)
  have hw := hw h7 eh7
  refine qx_aload_n (x := x0) X d_Reck_init_12 rfl 0 rfl ?_
  refine qx_bipush (v := (32 : Int32)) X d_Reck_init_13 (by decide) ?_
  obtain ⟨g8, g9, hw⟩ := hw
  refine qx_newaI X wa_I (by decide) (N := 32) (by decide) (by decide) g8 g9 d_Reck_init_15 ?_
  refine qx_topr (fun y11 ey11 => ?_)
  have hw := hw y11 ey11
  refine qx_toph (fun h10 eh10 => ?_)
  have hw := hw h10 eh10
  obtain ⟨g12, hw⟩ := hw
  refine qx_putRF X qcls5 g12 2 (by decide) rfl wf_Reck_15 rfl rfl rfl (Or.inr ⟨_, rfl⟩) d_Reck_init_17 ?_
  refine qx_toph (fun h13 eh13 => ?_)
  have hw := hw h13 eh13
  refine qx_aload_n (x := x0) X d_Reck_init_20 rfl 0 rfl ?_
  refine qx_aload_n (x := x1) X d_Reck_init_21 rfl 1 rfl ?_
  obtain ⟨g14, hw⟩ := hw
  refine qx_putRF X qcls5 g14 0 (by decide) rfl wf_Reck_18 rfl rfl rfl (Or.inl ⟨_, rfl⟩) d_Reck_init_22 ?_
  refine qx_toph (fun h15 eh15 => ?_)
  have hw := hw h15 eh15
  obtain ⟨g16, g17, hw⟩ := hw
  exact qx_vret X hw g16 g17 rfl d_Reck_init_25
set_option maxRecDepth 4000 in
theorem t_Tape_init_57 (X : qX p s m args meth c D cy b adK adV prog_9_method_1_code "CoatHangers$Tape" 4 (none) "<init>") (N k : Nat) (x0 : Nat) (x1 : Int32) (x2 : Int32) (C S : Nat) (h : qH) (Q : qH → Prop)  (hw : w_Tape_init_57 N k x0 x1 x2 C S h Q ) : qW p l e (qrm 4 5 3227 85) s m args below meth c D cy b 4 C S (MQ below (qQc D cy b qrV (fun (_ : Unit) h => Q h)) args s 5 3227 (qA b)) 57 [(0, .inr (.inr (.inl x0))), (1, .inl x1), (2, .inl x2)] [] h := by
  induction k generalizing x0 x1 x2 C S h with
  | zero => exact hw.elim
  | succ k ih =>
    refine qx_iload_n (x := x2) X d_Tape_init_57 rfl 2 rfl ?_
    refine qx_ldcS0 X d_Tape_init_58 ?_
    obtain ⟨g1, hw⟩ := hw
    obtain ⟨g4, g5, hw⟩ := hw
    refine qx_callTI (st := [.int x2]) (As := []) X (t_String_length (adK := adK) (adV := adV) l D cy b N 0 h _ hw) qm_String_length wm_Tape_35 wi_String_length wl_String_length rfl g1 rfl rfl rfl ⟨Nat.le_of_ble_eq_true rfl, Nat.le_of_ble_eq_true rfl⟩ ⟨g4, g5⟩ (Nat.le_of_ble_eq_true rfl) rfl d_Tape_init_60 (fun r2 h3 hw => ?_)
    refine qx_icmp_ge X 113 d_Tape_init_63 (by decide) (fun q6 => ?_) (fun q6 => ?_)
    · have hw := hw.1 q6
      obtain ⟨g7, g8, hw⟩ := hw
      exact qx_vret X hw g7 g8 rfl d_Tape_init_113
    · have hw := hw.2 q6
      refine qx_iload_n (x := x1) X d_Tape_init_66 rfl 1 rfl ?_
      refine qx_bipush (v := (21 : Int32)) X d_Tape_init_67 (by decide) ?_
      refine qx_icmp_ge X 113 d_Tape_init_69 (by decide) (fun q9 => ?_) (fun q9 => ?_)
      · have hw := hw.1 q9
        obtain ⟨g10, g11, hw⟩ := hw
        exact qx_vret X hw g10 g11 rfl d_Tape_init_113
      · have hw := hw.2 q9
        refine qx_ldcS0 X d_Tape_init_72 ?_
        refine qx_iload_n (x := x2) X d_Tape_init_74 rfl 2 rfl ?_
        obtain ⟨g12, hw⟩ := hw
        obtain ⟨g15, g16, hw⟩ := hw
        refine qx_callTI (st := []) (As := [.int x2]) X (t_String_charAt (adK := adK) (adV := adV) l D cy b N 0 x2 h3 _ hw) qm_String_charAt wm_Tape_41 wi_String_charAt wl_String_charAt rfl g12 rfl rfl rfl ⟨Nat.le_of_ble_eq_true rfl, Nat.le_of_ble_eq_true rfl⟩ ⟨g15, g16⟩ (Nat.le_of_ble_eq_true rfl) rfl d_Tape_init_75 (fun r13 h14 hw => ?_)
        refine qx_istore_n (L' := [(3, .inl r13), (0, .inr (.inr (.inl x0))), (1, .inl x1), (2, .inl x2)]) X d_Tape_init_78 rfl (by decide) rfl ?_
        refine qx_iload_n (x := r13) X d_Tape_init_79 rfl 0 rfl ?_
        refine qx_bipush (v := (32 : Int32)) X d_Tape_init_80 (by decide) ?_
        refine qx_icmp_ne X 91 d_Tape_init_82 (by decide) (fun q17 => ?_) (fun q17 => ?_)
        · have hw := hw.1 q17
          refine qx_aload_n (x := x0) X d_Tape_init_91 rfl 1 rfl ?_
          obtain ⟨g18, hw⟩ := hw
          refine qx_getR X qcls7 g18 2 (by decide) rfl wf_Tape_19 d_Tape_init_92 ?_
          refine qx_iload_n (x := x1) X d_Tape_init_95 rfl 2 rfl ?_
          refine qx_aload_n (x := x0) X d_Tape_init_96 rfl 1 rfl ?_
          refine qx_getR X qcls7 g18 2 (by decide) rfl wf_Tape_19 d_Tape_init_97 ?_
          refine qx_iload_n (x := x1) X d_Tape_init_100 rfl 2 rfl ?_
          obtain ⟨g19, hw⟩ := hw
          refine qx_lld X g19 d_Tape_init_101 ?_
          refine qx_iload_n (x := r13) X d_Tape_init_102 rfl 0 rfl ?_
          obtain ⟨g22, g23, hw⟩ := hw
          refine qx_callSJ (st := [.int x1, qr b (qR h14 x0 2)]) (As := [.long (qJ h14 (qR h14 x0 2) (x1).toNatClampNeg), .int r13]) X (t_Tape_withLetter (adK := adK) (adV := adV) l D cy b N (qJ h14 (qR h14 x0 2) (x1).toNatClampNeg) r13 h14 _ hw) qm_Tape_withLetter wm_Tape_45 wi_Tape_withLetter rfl rfl rfl ⟨Nat.le_of_ble_eq_true rfl, Nat.le_of_ble_eq_true rfl⟩ ⟨g22, g23⟩ (Nat.le_of_ble_eq_true rfl) rfl d_Tape_init_103 (fun r20 h21 hw => ?_)
          obtain ⟨g24, hw⟩ := hw
          refine qx_lst X g24 d_Tape_init_106 ?_
          refine qx_toph (fun h25 eh25 => ?_)
          have hw := hw h25 eh25
          refine qx_iinc (v := (x2 + (1 : Int32))) (L' := [(2, .inl (x2 + (1 : Int32))), (3, .inl r13), (0, .inr (.inr (.inl x0))), (1, .inl x1)]) X d_Tape_init_107 3 rfl rfl (by decide) rfl ?_
          refine qx_goto X 57 d_Tape_init_110 (by decide) ?_
          refine qx_sub [2, 3, 0] rfl ?_
          exact ih x0 x1 (x2 + (1 : Int32)) C S h25 hw
        · have hw := hw.2 q17
          refine qx_iinc (v := (x1 + (1 : Int32))) (L' := [(1, .inl (x1 + (1 : Int32))), (3, .inl r13), (0, .inr (.inr (.inl x0))), (2, .inl x2)]) X d_Tape_init_85 2 rfl rfl (by decide) rfl ?_
          refine qx_goto X 107 d_Tape_init_88 (by decide) ?_
          refine qx_iinc (v := (x2 + (1 : Int32))) (L' := [(2, .inl (x2 + (1 : Int32))), (1, .inl (x1 + (1 : Int32))), (3, .inl r13), (0, .inr (.inr (.inl x0)))]) X d_Tape_init_107 3 rfl rfl (by decide) rfl ?_
          refine qx_goto X 57 d_Tape_init_110 (by decide) ?_
          refine qx_sub [3, 1, 0] rfl ?_
          exact ih x0 (x1 + (1 : Int32)) (x2 + (1 : Int32)) C S h14 hw
set_option maxRecDepth 4000 in
theorem t_Tape_init {adK adV : Nat → Nat} (l : Launch) (D : va_G) (cy : Nat → ClassId) (b : Nat) (N : Nat) (x0 : Nat) (h : qH) (Q : qH → Prop) (hw : w_Tape_init N x0 h Q) : Met l y_Tape_init (Cond.code y_Tape_init prog_9_method_1_code 4 (none) :: qT) (qrm 4 5 3227 85) (qPc D cy b adK adV h [qr b x0]) (qQc D cy b qrV (fun (_ : Unit) h => Q h)) 5 3227 (qA b) := by
  refine qmet (L0 := [(0, .inr (.inr (.inl x0)))]) qm_Tape_init (plainFor_of_name (by decide)) [.inr (.inr (.inl x0))] rfl (Nat.le_of_ble_eq_true rfl) rfl (fun p e s m args below meth c X => ?_)
  unfold w_Tape_init at hw
  refine qx_aload_n (x := x0) X d_Tape_init_0 rfl 0 rfl ?_
  obtain ⟨g1, hw⟩ := hw
  refine qx_oinit X g1 wm_Tape_5 wi_oinit wk_oinit (Nat.le_of_ble_eq_true rfl) (Nat.le_of_ble_eq_true rfl) d_Tape_init_1 ?_
  refine qx_aload_n (x := x0) X d_Tape_init_4 rfl 0 rfl ?_
  refine qx_sipush (v := (2000 : Int32)) X d_Tape_init_5 (by decide) ?_
  obtain ⟨g2, g3, hw⟩ := hw
  refine qx_newaB X wa_B (by decide) (N := 2000) (by decide) (by decide) g2 g3 d_Tape_init_8 ?_
  refine qx_topr (fun y5 ey5 => ?_)
  have hw := hw y5 ey5
  refine qx_toph (fun h4 eh4 => ?_)
  have hw := hw h4 eh4
  obtain ⟨g6, hw⟩ := hw
  refine qx_putRF X qcls7 g6 0 (by decide) rfl wf_Tape_11 rfl rfl rfl (Or.inr ⟨_, rfl⟩) d_Tape_init_10 ?_
  refine qx_toph (fun h7 eh7 => ?_)
  have hw := hw h7 eh7
  refine qx_aload_n (x := x0) X d_Tape_init_13 rfl 0 rfl ?_
  refine qx_iconst (v := (0 : Int32)) X d_Tape_init_14 (by decide) ?_
  obtain ⟨g8, hw⟩ := hw
  refine qx_putI X qcls7 g8 1 (by decide) rfl wf_Tape_15 rfl rfl rfl d_Tape_init_15 ?_
  refine qx_toph (fun h9 eh9 => ?_)
  have hw := hw h9 eh9
  refine qx_aload_n (x := x0) X d_Tape_init_18 rfl 0 rfl ?_
  refine qx_bipush (v := (21 : Int32)) X d_Tape_init_19 (by decide) ?_
  obtain ⟨g10, g11, hw⟩ := hw
  refine qx_newaJ X wa_J (by decide) (N := 21) (by decide) (by decide) g10 g11 d_Tape_init_21 ?_
  refine qx_topr (fun y13 ey13 => ?_)
  have hw := hw y13 ey13
  refine qx_toph (fun h12 eh12 => ?_)
  have hw := hw h12 eh12
  obtain ⟨g14, hw⟩ := hw
  refine qx_putRF X qcls7 g14 2 (by decide) rfl wf_Tape_19 rfl rfl rfl (Or.inr ⟨_, rfl⟩) d_Tape_init_23 ?_
  refine qx_toph (fun h15 eh15 => ?_)
  have hw := hw h15 eh15
  refine qx_aload_n (x := x0) X d_Tape_init_26 rfl 0 rfl ?_
  refine qx_sipush (v := (402 : Int32)) X d_Tape_init_27 (by decide) ?_
  obtain ⟨g16, g17, hw⟩ := hw
  refine qx_newaI X wa_I (by decide) (N := 402) (by decide) (by decide) g16 g17 d_Tape_init_30 ?_
  refine qx_topr (fun y19 ey19 => ?_)
  have hw := hw y19 ey19
  refine qx_toph (fun h18 eh18 => ?_)
  have hw := hw h18 eh18
  obtain ⟨g20, hw⟩ := hw
  refine qx_putRF X qcls7 g20 4 (by decide) rfl wf_Tape_23 rfl rfl rfl (Or.inr ⟨_, rfl⟩) d_Tape_init_32 ?_
  refine qx_toph (fun h21 eh21 => ?_)
  have hw := hw h21 eh21
  refine qx_aload_n (x := x0) X d_Tape_init_35 rfl 0 rfl ?_
  refine qx_sipush (v := (402 : Int32)) X d_Tape_init_36 (by decide) ?_
  obtain ⟨g22, g23, hw⟩ := hw
  refine qx_newaI X wa_I (by decide) (N := 402) (by decide) (by decide) g22 g23 d_Tape_init_39 ?_
  refine qx_topr (fun y25 ey25 => ?_)
  have hw := hw y25 ey25
  refine qx_toph (fun h24 eh24 => ?_)
  have hw := hw h24 eh24
  obtain ⟨g26, hw⟩ := hw
  refine qx_putRF X qcls7 g26 5 (by decide) rfl wf_Tape_27 rfl rfl rfl (Or.inr ⟨_, rfl⟩) d_Tape_init_41 ?_
  refine qx_toph (fun h27 eh27 => ?_)
  have hw := hw h27 eh27
  refine qx_aload_n (x := x0) X d_Tape_init_44 rfl 0 rfl ?_
  refine qx_sipush (v := (402 : Int32)) X d_Tape_init_45 (by decide) ?_
  obtain ⟨g28, g29, hw⟩ := hw
  refine qx_newaJ X wa_J (by decide) (N := 402) (by decide) (by decide) g28 g29 d_Tape_init_48 ?_
  refine qx_topr (fun y31 ey31 => ?_)
  have hw := hw y31 ey31
  refine qx_toph (fun h30 eh30 => ?_)
  have hw := hw h30 eh30
  obtain ⟨g32, hw⟩ := hw
  refine qx_putRF X qcls7 g32 6 (by decide) rfl wf_Tape_30 rfl rfl rfl (Or.inr ⟨_, rfl⟩) d_Tape_init_50 ?_
  refine qx_toph (fun h33 eh33 => ?_)
  have hw := hw h33 eh33
  refine qx_iconst (v := (0 : Int32)) X d_Tape_init_53 (by decide) ?_
  refine qx_istore_n (L' := [(1, .inl (0 : Int32)), (0, .inr (.inr (.inl x0)))]) X d_Tape_init_54 rfl (by decide) rfl ?_
  refine qx_iconst (v := (0 : Int32)) X d_Tape_init_55 (by decide) ?_
  refine qx_istore_n (L' := [(2, .inl (0 : Int32)), (1, .inl (0 : Int32)), (0, .inr (.inr (.inl x0)))]) X d_Tape_init_56 rfl (by decide) rfl ?_
  refine qx_sub [2, 1, 0] rfl ?_
  exact t_Tape_init_57 X N N x0 (0 : Int32) (0 : Int32) 5 3227 h33 Q  hw 
set_option maxRecDepth 4000 in
theorem t_Told_init {adK adV : Nat → Nat} (l : Launch) (D : va_G) (cy : Nat → ClassId) (b : Nat) (N : Nat) (x0 : Nat) (x1 : Nat) (x2 : Nat) (h : qH) (Q : qH → Prop) (hw : w_Told_init N x0 x1 x2 h Q) : Met l y_Told_init (Cond.code y_Told_init prog_11_method_1_code 3 (none) :: qT) (qrm 2 16 140 42) (qPc D cy b adK adV h [qr b x0, qr b x1, qr b x2]) (qQc D cy b qrV (fun (_ : Unit) h => Q h)) 16 140 (qA b) := by
  refine qmet (L0 := [(0, .inr (.inr (.inl x0))), (1, .inr (.inr (.inl x1))), (2, .inr (.inr (.inl x2)))]) qm_Told_init (plainFor_of_name (by decide)) [.inr (.inr (.inl x0)), .inr (.inr (.inl x1)), .inr (.inr (.inl x2))] rfl (Nat.le_of_ble_eq_true rfl) rfl (fun p e s m args below meth c X => ?_)
  unfold w_Told_init at hw
  refine qx_aload_n (x := x0) X d_Told_init_0 rfl 0 rfl ?_
  obtain ⟨g1, hw⟩ := hw
  refine qx_oinit X g1 wm_Told_3 wi_oinit wk_oinit (Nat.le_of_ble_eq_true rfl) (Nat.le_of_ble_eq_true rfl) d_Told_init_1 ?_
  refine qx_aload_n (x := x0) X d_Told_init_4 rfl 0 rfl ?_
  refine qx_bipush (v := (20 : Int32)) X d_Told_init_5 (by decide) ?_
  obtain ⟨g2, g3, hw⟩ := hw
  refine qx_newaI X wa_I (by decide) (N := 20) (by decide) (by decide) g2 g3 d_Told_init_7 ?_
  refine qx_topr (fun y5 ey5 => ?_)
  have hw := hw y5 ey5
  refine qx_toph (fun h4 eh4 => ?_)
  have hw := hw h4 eh4
  obtain ⟨g6, hw⟩ := hw
  refine qx_putRF X qcls9 g6 3 (by decide) rfl wf_Told_11 rfl rfl rfl (Or.inr ⟨_, rfl⟩) d_Told_init_9 ?_
  refine qx_toph (fun h7 eh7 => ?_)
  have hw := hw h7 eh7
  refine qx_aload_n (x := x0) X d_Told_init_12 rfl 0 rfl ?_
  refine qx_bipush (v := (20 : Int32)) X d_Told_init_13 (by decide) ?_
  obtain ⟨g8, g9, hw⟩ := hw
  refine qx_newaI X wa_I (by decide) (N := 20) (by decide) (by decide) g8 g9 d_Told_init_15 ?_
  refine qx_topr (fun y11 ey11 => ?_)
  have hw := hw y11 ey11
  refine qx_toph (fun h10 eh10 => ?_)
  have hw := hw h10 eh10
  obtain ⟨g12, hw⟩ := hw
  refine qx_putRF X qcls9 g12 4 (by decide) rfl wf_Told_15 rfl rfl rfl (Or.inr ⟨_, rfl⟩) d_Told_init_17 ?_
  refine qx_toph (fun h13 eh13 => ?_)
  have hw := hw h13 eh13
  refine qx_aload_n (x := x0) X d_Told_init_20 rfl 0 rfl ?_
  refine qx_bipush (v := (20 : Int32)) X d_Told_init_21 (by decide) ?_
  obtain ⟨g14, g15, hw⟩ := hw
  refine qx_newaZ X wa_Z (by decide) (N := 20) (by decide) (by decide) g14 g15 d_Told_init_23 ?_
  refine qx_topr (fun y17 ey17 => ?_)
  have hw := hw y17 ey17
  refine qx_toph (fun h16 eh16 => ?_)
  have hw := hw h16 eh16
  obtain ⟨g18, hw⟩ := hw
  refine qx_putRF X qcls9 g18 5 (by decide) rfl wf_Told_18 rfl rfl rfl (Or.inr ⟨_, rfl⟩) d_Told_init_25 ?_
  refine qx_toph (fun h19 eh19 => ?_)
  have hw := hw h19 eh19
  refine qx_aload_n (x := x0) X d_Told_init_28 rfl 0 rfl ?_
  refine qx_bipush (v := (6 : Int32)) X d_Told_init_29 (by decide) ?_
  refine qx_bipush (v := (6 : Int32)) X d_Told_init_31 (by decide) ?_
  obtain ⟨g20, g21, hw⟩ := hw
  refine qx_mnew X wc_Told_22 wa_I (N := 6) (K := 6) (by decide) (by decide) (by decide) (by decide) (by decide) (by decide) g20 g21 d_Told_init_33 ?_
  refine qx_topr (fun y23 ey23 => ?_)
  have hw := hw y23 ey23
  refine qx_toph (fun h22 eh22 => ?_)
  have hw := hw h22 eh22
  obtain ⟨g24, hw⟩ := hw
  refine qx_putRF X qcls9 g24 6 (by decide) rfl wf_Told_24 rfl rfl rfl (Or.inr ⟨_, rfl⟩) d_Told_init_37 ?_
  refine qx_toph (fun h25 eh25 => ?_)
  have hw := hw h25 eh25
  refine qx_aload_n (x := x0) X d_Told_init_40 rfl 0 rfl ?_
  refine qx_iconst (v := (0 : Int32)) X d_Told_init_41 (by decide) ?_
  obtain ⟨g26, hw⟩ := hw
  refine qx_putI X qcls9 g26 7 (by decide) rfl wf_Told_27 rfl rfl rfl d_Told_init_42 ?_
  refine qx_toph (fun h27 eh27 => ?_)
  have hw := hw h27 eh27
  refine qx_aload_n (x := x0) X d_Told_init_45 rfl 0 rfl ?_
  refine qx_aload_n (x := x1) X d_Told_init_46 rfl 1 rfl ?_
  obtain ⟨g28, hw⟩ := hw
  refine qx_putRF X qcls9 g28 0 (by decide) rfl wf_Told_31 rfl rfl rfl (Or.inl ⟨_, rfl⟩) d_Told_init_47 ?_
  refine qx_toph (fun h29 eh29 => ?_)
  have hw := hw h29 eh29
  refine qx_aload_n (x := x0) X d_Told_init_50 rfl 0 rfl ?_
  refine qx_aload_n (x := x2) X d_Told_init_51 rfl 2 rfl ?_
  obtain ⟨g30, hw⟩ := hw
  refine qx_putRF X qcls9 g30 1 (by decide) rfl wf_Told_35 rfl rfl rfl (Or.inl ⟨_, rfl⟩) d_Told_init_52 ?_
  refine qx_toph (fun h31 eh31 => ?_)
  have hw := hw h31 eh31
  refine qx_aload_n (x := x0) X d_Told_init_55 rfl 0 rfl ?_
  obtain ⟨g32, g33, hw⟩ := hw
  refine qx_new X qcls6 qdef6 wc_Told_39 wn_State wz_State g32 g33 d_Told_init_56 ?_
  refine qx_topr (fun y35 ey35 => ?_)
  have hw := hw y35 ey35
  refine qx_toph (fun h34 eh34 => ?_)
  have hw := hw h34 eh34
  refine qx_dup X (qr_cat _ _) d_Told_init_59 ?_
  refine qx_aload_n (x := x1) X d_Told_init_60 rfl 1 rfl ?_
  obtain ⟨g36, hw⟩ := hw
  obtain ⟨g38, g39, hw⟩ := hw
  refine qx_callIV (st := [qr b y35, qr b x0]) (As := [qr b x1]) X (t_State_init (adK := adK) (adV := adV) l D cy b N y35 x1 h34 _ hw) qm_State_init wm_Told_41 wi_State_init rfl g36 rfl rfl rfl ⟨Nat.le_of_ble_eq_true rfl, Nat.le_of_ble_eq_true rfl⟩ ⟨g38, g39⟩ (Nat.le_of_ble_eq_true rfl) rfl d_Told_init_61 (fun h37 hw => ?_)
  obtain ⟨g40, hw⟩ := hw
  refine qx_putRF X qcls9 g40 2 (by decide) rfl wf_Told_44 rfl rfl rfl (Or.inl ⟨_, rfl⟩) d_Told_init_64 ?_
  refine qx_toph (fun h41 eh41 => ?_)
  have hw := hw h41 eh41
  obtain ⟨g42, g43, hw⟩ := hw
  exact qx_vret X hw g42 g43 rfl d_Told_init_67
set_option maxRecDepth 4000 in
theorem t_X_init_168 (X : qX p s m args meth c D cy b adK adV prog_1_method_1_code "CoatHangers" 2 (none) "<init>") (N k : Nat) (x0 : Nat) (x1 : Int32) (C S : Nat) (h : qH) (Q : qH → Prop)  (hw : w_X_init_168 N k x0 x1 C S h Q ) : qW p l e (qrm 5 359 12730 108) s m args below meth c D cy b 2 C S (MQ below (qQc D cy b qrV (fun (_ : Unit) h => Q h)) args s 359 12730 (qA b)) 168 [(0, .inr (.inr (.inl x0))), (1, .inl x1)] [] h := by
  induction k generalizing x0 x1 C S h with
  | zero => exact hw.elim
  | succ k ih =>
    refine qx_iload_n (x := x1) X d_X_init_168 rfl 1 rfl ?_
    refine qx_iconst (v := (3 : Int32)) X d_X_init_169 (by decide) ?_
    refine qx_icmp_ge X 196 d_X_init_170 (by decide) (fun q1 => ?_) (fun q1 => ?_)
    · have hw := hw.1 q1
      refine qx_aload_n (x := x0) X d_X_init_196 rfl 0 rfl ?_
      refine qx_iconst (v := (0 : Int32)) X d_X_init_197 (by decide) ?_
      obtain ⟨g2, hw⟩ := hw
      refine qx_putI X qcls11 g2 11 (by decide) rfl wf_X_87 rfl rfl rfl d_X_init_198 ?_
      refine qx_toph (fun h3 eh3 => ?_)
      have hw := hw h3 eh3
      obtain ⟨g4, g5, hw⟩ := hw
      exact qx_vret X hw g4 g5 rfl d_X_init_201
    · have hw := hw.2 q1
      refine qx_aload_n (x := x0) X d_X_init_173 rfl 0 rfl ?_
      obtain ⟨g6, hw⟩ := hw
      refine qx_getR X qcls11 g6 10 (by decide) rfl wf_X_83 d_X_init_174 ?_
      refine qx_iload_n (x := x1) X d_X_init_177 rfl 1 rfl ?_
      obtain ⟨g7, g8, hw⟩ := hw
      refine qx_new X qcls6 qdef6 wc_X_32 wn_State wz_State g7 g8 d_X_init_178 ?_
      refine qx_topr (fun y10 ey10 => ?_)
      have hw := hw y10 ey10
      refine qx_toph (fun h9 eh9 => ?_)
      have hw := hw h9 eh9
      refine qx_dup X (qr_cat _ _) d_X_init_181 ?_
      refine qx_aload_n (x := x0) X d_X_init_182 rfl 0 rfl ?_
      obtain ⟨g11, hw⟩ := hw
      refine qx_getR X qcls11 g11 1 (by decide) rfl wf_X_19 d_X_init_183 ?_
      obtain ⟨g12, hw⟩ := hw
      obtain ⟨g14, g15, hw⟩ := hw
      refine qx_callIV (st := [qr b y10, .int x1, qr b (qR h x0 10)]) (As := [qr b (qR h9 x0 1)]) X (t_State_init (adK := adK) (adV := adV) l D cy b N y10 (qR h9 x0 1) h9 _ hw) qm_State_init wm_X_34 wi_State_init rfl g12 rfl rfl rfl ⟨Nat.le_of_ble_eq_true rfl, Nat.le_of_ble_eq_true rfl⟩ ⟨g14, g15⟩ (Nat.le_of_ble_eq_true rfl) rfl d_X_init_186 (fun h13 hw => ?_)
      obtain ⟨g16, hw⟩ := hw
      obtain ⟨g17, hw⟩ := hw
      refine qx_ast X qcls6 g16 g17 d_X_init_189 ?_
      refine qx_toph (fun h18 eh18 => ?_)
      have hw := hw h18 eh18
      refine qx_iinc (v := (x1 + (1 : Int32))) (L' := [(1, .inl (x1 + (1 : Int32))), (0, .inr (.inr (.inl x0)))]) X d_X_init_190 1 rfl rfl (by decide) rfl ?_
      refine qx_goto X 168 d_X_init_193 (by decide) ?_
      refine qx_sub [1, 0] rfl ?_
      exact ih x0 (x1 + (1 : Int32)) ((C + 1) + 5) ((S + 7) + 31) h18 hw
set_option maxRecDepth 4000 in
theorem t_X_init {adK adV : Nat → Nat} (l : Launch) (D : va_G) (cy : Nat → ClassId) (b : Nat) (N : Nat) (x0 : Nat) (h : qH) (Q : qH → Prop) (hw : w_X_init N x0 h Q) : Met l y_X_init (Cond.code y_X_init prog_1_method_1_code 2 (none) :: qT) (qrm 5 359 12730 108) (qPc D cy b adK adV h [qr b x0]) (qQc D cy b qrV (fun (_ : Unit) h => Q h)) 359 12730 (qA b) := by
  refine qmet (L0 := [(0, .inr (.inr (.inl x0)))]) qm_X_init (plainFor_of_name (by decide)) [.inr (.inr (.inl x0))] rfl (Nat.le_of_ble_eq_true rfl) rfl (fun p e s m args below meth c X => ?_)
  unfold w_X_init at hw
  refine qx_aload_n (x := x0) X d_X_init_0 rfl 0 rfl ?_
  obtain ⟨g1, hw⟩ := hw
  refine qx_oinit X g1 wm_X_1 wi_oinit wk_oinit (Nat.le_of_ble_eq_true rfl) (Nat.le_of_ble_eq_true rfl) d_X_init_1 ?_
  refine qx_aload_n (x := x0) X d_X_init_4 rfl 0 rfl ?_
  obtain ⟨g2, g3, hw⟩ := hw
  refine qx_new X qcls7 qdef7 wc_X_7 wn_Tape wz_Tape g2 g3 d_X_init_5 ?_
  refine qx_topr (fun y5 ey5 => ?_)
  have hw := hw y5 ey5
  refine qx_toph (fun h4 eh4 => ?_)
  have hw := hw h4 eh4
  refine qx_dup X (qr_cat _ _) d_X_init_8 ?_
  obtain ⟨g6, hw⟩ := hw
  obtain ⟨g8, g9, hw⟩ := hw
  refine qx_callIV (st := [qr b y5, qr b x0]) (As := []) X (t_Tape_init (adK := adK) (adV := adV) l D cy b N y5 h4 _ hw) qm_Tape_init wm_X_9 wi_Tape_init rfl g6 rfl rfl rfl ⟨Nat.le_of_ble_eq_true rfl, Nat.le_of_ble_eq_true rfl⟩ ⟨g8, g9⟩ (Nat.le_of_ble_eq_true rfl) rfl d_X_init_9 (fun h7 hw => ?_)
  obtain ⟨g10, hw⟩ := hw
  refine qx_putRF X qcls11 g10 0 (by decide) rfl wf_X_10 rfl rfl rfl (Or.inl ⟨_, rfl⟩) d_X_init_12 ?_
  refine qx_toph (fun h11 eh11 => ?_)
  have hw := hw h11 eh11
  refine qx_aload_n (x := x0) X d_X_init_15 rfl 0 rfl ?_
  obtain ⟨g12, g13, hw⟩ := hw
  refine qx_new X qcls8 qdef8 wc_X_16 wn_Text wz_Text g12 g13 d_X_init_16 ?_
  refine qx_topr (fun y15 ey15 => ?_)
  have hw := hw y15 ey15
  refine qx_toph (fun h14 eh14 => ?_)
  have hw := hw h14 eh14
  refine qx_dup X (qr_cat _ _) d_X_init_19 ?_
  obtain ⟨g16, hw⟩ := hw
  obtain ⟨g18, g19, hw⟩ := hw
  refine qx_callIV (st := [qr b y15, qr b x0]) (As := []) X (t_Text_init (adK := adK) (adV := adV) l D cy b N y15 h14 _ hw) qm_Text_init wm_X_18 wi_Text_init rfl g16 rfl rfl rfl ⟨Nat.le_of_ble_eq_true rfl, Nat.le_of_ble_eq_true rfl⟩ ⟨g18, g19⟩ (Nat.le_of_ble_eq_true rfl) rfl d_X_init_20 (fun h17 hw => ?_)
  obtain ⟨g20, hw⟩ := hw
  refine qx_putRF X qcls11 g20 1 (by decide) rfl wf_X_19 rfl rfl rfl (Or.inl ⟨_, rfl⟩) d_X_init_23 ?_
  refine qx_toph (fun h21 eh21 => ?_)
  have hw := hw h21 eh21
  refine qx_aload_n (x := x0) X d_X_init_26 rfl 0 rfl ?_
  obtain ⟨g22, g23, hw⟩ := hw
  refine qx_new X qcls4 qdef4 wc_X_23 wn_Reader wz_Reader g22 g23 d_X_init_27 ?_
  refine qx_topr (fun y25 ey25 => ?_)
  have hw := hw y25 ey25
  refine qx_toph (fun h24 eh24 => ?_)
  have hw := hw h24 eh24
  refine qx_dup X (qr_cat _ _) d_X_init_30 ?_
  refine qx_aload_n (x := x0) X d_X_init_31 rfl 0 rfl ?_
  obtain ⟨g26, hw⟩ := hw
  refine qx_getR X qcls11 g26 0 (by decide) rfl wf_X_10 d_X_init_32 ?_
  obtain ⟨g27, hw⟩ := hw
  obtain ⟨g29, g30, hw⟩ := hw
  refine qx_callIV (st := [qr b y25, qr b x0]) (As := [qr b (qR h24 x0 0)]) X (t_Reader_init (adK := adK) (adV := adV) l D cy b N y25 (qR h24 x0 0) h24 _ hw) qm_Reader_init wm_X_25 wi_Reader_init rfl g27 rfl rfl rfl ⟨Nat.le_of_ble_eq_true rfl, Nat.le_of_ble_eq_true rfl⟩ ⟨g29, g30⟩ (Nat.le_of_ble_eq_true rfl) rfl d_X_init_35 (fun h28 hw => ?_)
  obtain ⟨g31, hw⟩ := hw
  refine qx_putRF X qcls11 g31 2 (by decide) rfl wf_X_28 rfl rfl rfl (Or.inl ⟨_, rfl⟩) d_X_init_38 ?_
  refine qx_toph (fun h32 eh32 => ?_)
  have hw := hw h32 eh32
  refine qx_aload_n (x := x0) X d_X_init_41 rfl 0 rfl ?_
  obtain ⟨g33, g34, hw⟩ := hw
  refine qx_new X qcls6 qdef6 wc_X_32 wn_State wz_State g33 g34 d_X_init_42 ?_
  refine qx_topr (fun y36 ey36 => ?_)
  have hw := hw y36 ey36
  refine qx_toph (fun h35 eh35 => ?_)
  have hw := hw h35 eh35
  refine qx_dup X (qr_cat _ _) d_X_init_45 ?_
  refine qx_aload_n (x := x0) X d_X_init_46 rfl 0 rfl ?_
  obtain ⟨g37, hw⟩ := hw
  refine qx_getR X qcls11 g37 1 (by decide) rfl wf_X_19 d_X_init_47 ?_
  obtain ⟨g38, hw⟩ := hw
  obtain ⟨g40, g41, hw⟩ := hw
  refine qx_callIV (st := [qr b y36, qr b x0]) (As := [qr b (qR h35 x0 1)]) X (t_State_init (adK := adK) (adV := adV) l D cy b N y36 (qR h35 x0 1) h35 _ hw) qm_State_init wm_X_34 wi_State_init rfl g38 rfl rfl rfl ⟨Nat.le_of_ble_eq_true rfl, Nat.le_of_ble_eq_true rfl⟩ ⟨g40, g41⟩ (Nat.le_of_ble_eq_true rfl) rfl d_X_init_50 (fun h39 hw => ?_)
  obtain ⟨g42, hw⟩ := hw
  refine qx_putRF X qcls11 g42 3 (by decide) rfl wf_X_37 rfl rfl rfl (Or.inl ⟨_, rfl⟩) d_X_init_53 ?_
  refine qx_toph (fun h43 eh43 => ?_)
  have hw := hw h43 eh43
  refine qx_aload_n (x := x0) X d_X_init_56 rfl 0 rfl ?_
  obtain ⟨g44, g45, hw⟩ := hw
  refine qx_new X qcls6 qdef6 wc_X_32 wn_State wz_State g44 g45 d_X_init_57 ?_
  refine qx_topr (fun y47 ey47 => ?_)
  have hw := hw y47 ey47
  refine qx_toph (fun h46 eh46 => ?_)
  have hw := hw h46 eh46
  refine qx_dup X (qr_cat _ _) d_X_init_60 ?_
  refine qx_aload_n (x := x0) X d_X_init_61 rfl 0 rfl ?_
  obtain ⟨g48, hw⟩ := hw
  refine qx_getR X qcls11 g48 1 (by decide) rfl wf_X_19 d_X_init_62 ?_
  obtain ⟨g49, hw⟩ := hw
  obtain ⟨g51, g52, hw⟩ := hw
  refine qx_callIV (st := [qr b y47, qr b x0]) (As := [qr b (qR h46 x0 1)]) X (t_State_init (adK := adK) (adV := adV) l D cy b N y47 (qR h46 x0 1) h46 _ hw) qm_State_init wm_X_34 wi_State_init rfl g49 rfl rfl rfl ⟨Nat.le_of_ble_eq_true rfl, Nat.le_of_ble_eq_true rfl⟩ ⟨g51, g52⟩ (Nat.le_of_ble_eq_true rfl) rfl d_X_init_65 (fun h50 hw => ?_)
  obtain ⟨g53, hw⟩ := hw
  refine qx_putRF X qcls11 g53 4 (by decide) rfl wf_X_41 rfl rfl rfl (Or.inl ⟨_, rfl⟩) d_X_init_68 ?_
  refine qx_toph (fun h54 eh54 => ?_)
  have hw := hw h54 eh54
  refine qx_aload_n (x := x0) X d_X_init_71 rfl 0 rfl ?_
  obtain ⟨g55, g56, hw⟩ := hw
  refine qx_new X qcls5 qdef5 wc_X_44 wn_Reck wz_Reck g55 g56 d_X_init_72 ?_
  refine qx_topr (fun y58 ey58 => ?_)
  have hw := hw y58 ey58
  refine qx_toph (fun h57 eh57 => ?_)
  have hw := hw h57 eh57
  refine qx_dup X (qr_cat _ _) d_X_init_75 ?_
  refine qx_aload_n (x := x0) X d_X_init_76 rfl 0 rfl ?_
  obtain ⟨g59, hw⟩ := hw
  refine qx_getR X qcls11 g59 1 (by decide) rfl wf_X_19 d_X_init_77 ?_
  obtain ⟨g60, hw⟩ := hw
  obtain ⟨g62, g63, hw⟩ := hw
  refine qx_callIV (st := [qr b y58, qr b x0]) (As := [qr b (qR h57 x0 1)]) X (t_Reck_init (adK := adK) (adV := adV) l D cy b N y58 (qR h57 x0 1) h57 _ hw) qm_Reck_init wm_X_46 wi_Reck_init rfl g60 rfl rfl rfl ⟨Nat.le_of_ble_eq_true rfl, Nat.le_of_ble_eq_true rfl⟩ ⟨g62, g63⟩ (Nat.le_of_ble_eq_true rfl) rfl d_X_init_80 (fun h61 hw => ?_)
  obtain ⟨g64, hw⟩ := hw
  refine qx_putRF X qcls11 g64 5 (by decide) rfl wf_X_47 rfl rfl rfl (Or.inl ⟨_, rfl⟩) d_X_init_83 ?_
  refine qx_toph (fun h65 eh65 => ?_)
  have hw := hw h65 eh65
  refine qx_aload_n (x := x0) X d_X_init_86 rfl 0 rfl ?_
  obtain ⟨g66, g67, hw⟩ := hw
  refine qx_new X qcls1 qdef1 wc_X_51 wn_Night wz_Night g66 g67 d_X_init_87 ?_
  refine qx_topr (fun y69 ey69 => ?_)
  have hw := hw y69 ey69
  refine qx_toph (fun h68 eh68 => ?_)
  have hw := hw h68 eh68
  refine qx_dup X (qr_cat _ _) d_X_init_90 ?_
  refine qx_aload_n (x := x0) X d_X_init_91 rfl 0 rfl ?_
  obtain ⟨g70, hw⟩ := hw
  refine qx_getR X qcls11 g70 1 (by decide) rfl wf_X_19 d_X_init_92 ?_
  refine qx_aload_n (x := x0) X d_X_init_95 rfl 0 rfl ?_
  refine qx_getR X qcls11 g70 5 (by decide) rfl wf_X_47 d_X_init_96 ?_
  obtain ⟨g71, hw⟩ := hw
  obtain ⟨g73, g74, hw⟩ := hw
  refine qx_callIV (st := [qr b y69, qr b x0]) (As := [qr b (qR h68 x0 1), qr b (qR h68 x0 5)]) X (t_Night_init (adK := adK) (adV := adV) l D cy b N y69 (qR h68 x0 1) (qR h68 x0 5) h68 _ hw) qm_Night_init wm_X_53 wi_Night_init rfl g71 rfl rfl rfl ⟨Nat.le_of_ble_eq_true rfl, Nat.le_of_ble_eq_true rfl⟩ ⟨g73, g74⟩ (Nat.le_of_ble_eq_true rfl) rfl d_X_init_99 (fun h72 hw => ?_)
  obtain ⟨g75, hw⟩ := hw
  refine qx_putRF X qcls11 g75 6 (by decide) rfl wf_X_56 rfl rfl rfl (Or.inl ⟨_, rfl⟩) d_X_init_102 ?_
  refine qx_toph (fun h76 eh76 => ?_)
  have hw := hw h76 eh76
  refine qx_aload_n (x := x0) X d_X_init_105 rfl 0 rfl ?_
  obtain ⟨g77, g78, hw⟩ := hw
  refine qx_new X qcls3 qdef3 wc_X_60 wn_Plan wz_Plan g77 g78 d_X_init_106 ?_
  refine qx_topr (fun y80 ey80 => ?_)
  have hw := hw y80 ey80
  refine qx_toph (fun h79 eh79 => ?_)
  have hw := hw h79 eh79
  refine qx_dup X (qr_cat _ _) d_X_init_109 ?_
  refine qx_aload_n (x := x0) X d_X_init_110 rfl 0 rfl ?_
  obtain ⟨g81, hw⟩ := hw
  refine qx_getR X qcls11 g81 1 (by decide) rfl wf_X_19 d_X_init_111 ?_
  refine qx_aload_n (x := x0) X d_X_init_114 rfl 0 rfl ?_
  refine qx_getR X qcls11 g81 5 (by decide) rfl wf_X_47 d_X_init_115 ?_
  obtain ⟨g82, hw⟩ := hw
  obtain ⟨g84, g85, hw⟩ := hw
  refine qx_callIV (st := [qr b y80, qr b x0]) (As := [qr b (qR h79 x0 1), qr b (qR h79 x0 5)]) X (t_Plan_init (adK := adK) (adV := adV) l D cy b N y80 (qR h79 x0 1) (qR h79 x0 5) h79 _ hw) qm_Plan_init wm_X_62 wi_Plan_init rfl g82 rfl rfl rfl ⟨Nat.le_of_ble_eq_true rfl, Nat.le_of_ble_eq_true rfl⟩ ⟨g84, g85⟩ (Nat.le_of_ble_eq_true rfl) rfl d_X_init_118 (fun h83 hw => ?_)
  obtain ⟨g86, hw⟩ := hw
  refine qx_putRF X qcls11 g86 7 (by decide) rfl wf_X_63 rfl rfl rfl (Or.inl ⟨_, rfl⟩) d_X_init_121 ?_
  refine qx_toph (fun h87 eh87 => ?_)
  have hw := hw h87 eh87
  refine qx_aload_n (x := x0) X d_X_init_124 rfl 0 rfl ?_
  obtain ⟨g88, g89, hw⟩ := hw
  refine qx_new X qcls9 qdef9 wc_X_67 wn_Told wz_Told g88 g89 d_X_init_125 ?_
  refine qx_topr (fun y91 ey91 => ?_)
  have hw := hw y91 ey91
  refine qx_toph (fun h90 eh90 => ?_)
  have hw := hw h90 eh90
  refine qx_dup X (qr_cat _ _) d_X_init_128 ?_
  refine qx_aload_n (x := x0) X d_X_init_129 rfl 0 rfl ?_
  obtain ⟨g92, hw⟩ := hw
  refine qx_getR X qcls11 g92 1 (by decide) rfl wf_X_19 d_X_init_130 ?_
  refine qx_aload_n (x := x0) X d_X_init_133 rfl 0 rfl ?_
  refine qx_getR X qcls11 g92 6 (by decide) rfl wf_X_56 d_X_init_134 ?_
  obtain ⟨g93, hw⟩ := hw
  obtain ⟨g95, g96, hw⟩ := hw
  refine qx_callIV (st := [qr b y91, qr b x0]) (As := [qr b (qR h90 x0 1), qr b (qR h90 x0 6)]) X (t_Told_init (adK := adK) (adV := adV) l D cy b N y91 (qR h90 x0 1) (qR h90 x0 6) h90 _ hw) qm_Told_init wm_X_69 wi_Told_init rfl g93 rfl rfl rfl ⟨Nat.le_of_ble_eq_true rfl, Nat.le_of_ble_eq_true rfl⟩ ⟨g95, g96⟩ (Nat.le_of_ble_eq_true rfl) rfl d_X_init_137 (fun h94 hw => ?_)
  obtain ⟨g97, hw⟩ := hw
  refine qx_putRF X qcls11 g97 8 (by decide) rfl wf_X_72 rfl rfl rfl (Or.inl ⟨_, rfl⟩) d_X_init_140 ?_
  refine qx_toph (fun h98 eh98 => ?_)
  have hw := hw h98 eh98
  refine qx_aload_n (x := x0) X d_X_init_143 rfl 0 rfl ?_
  obtain ⟨g99, g100, hw⟩ := hw
  refine qx_new X qcls2 qdef2 wc_X_76 wn_Past wz_Past g99 g100 d_X_init_144 ?_
  refine qx_topr (fun y102 ey102 => ?_)
  have hw := hw y102 ey102
  refine qx_toph (fun h101 eh101 => ?_)
  have hw := hw h101 eh101
  refine qx_dup X (qr_cat _ _) d_X_init_147 ?_
  refine qx_aload_n (x := x0) X d_X_init_148 rfl 0 rfl ?_
  obtain ⟨g103, hw⟩ := hw
  refine qx_getR X qcls11 g103 1 (by decide) rfl wf_X_19 d_X_init_149 ?_
  obtain ⟨g104, hw⟩ := hw
  obtain ⟨g106, g107, hw⟩ := hw
  refine qx_callIV (st := [qr b y102, qr b x0]) (As := [qr b (qR h101 x0 1)]) X (t_Past_init (adK := adK) (adV := adV) l D cy b N y102 (qR h101 x0 1) h101 _ hw) qm_Past_init wm_X_78 wi_Past_init rfl g104 rfl rfl rfl ⟨Nat.le_of_ble_eq_true rfl, Nat.le_of_ble_eq_true rfl⟩ ⟨g106, g107⟩ (Nat.le_of_ble_eq_true rfl) rfl d_X_init_152 (fun h105 hw => ?_)
  obtain ⟨g108, hw⟩ := hw
  refine qx_putRF X qcls11 g108 9 (by decide) rfl wf_X_79 rfl rfl rfl (Or.inl ⟨_, rfl⟩) d_X_init_155 ?_
  refine qx_toph (fun h109 eh109 => ?_)
  have hw := hw h109 eh109
  refine qx_aload_n (x := x0) X d_X_init_158 rfl 0 rfl ?_
  refine qx_iconst (v := (3 : Int32)) X d_X_init_159 (by decide) ?_
  obtain ⟨g110, g111, hw⟩ := hw
  refine qx_anew X wc_X_32 (by decide) (N := 3) (by decide) (by decide) g110 g111 d_X_init_160 ?_
  refine qx_topr (fun y113 ey113 => ?_)
  have hw := hw y113 ey113
  refine qx_toph (fun h112 eh112 => ?_)
  have hw := hw h112 eh112
  obtain ⟨g114, hw⟩ := hw
  refine qx_putRF X qcls11 g114 10 (by decide) rfl wf_X_83 rfl rfl rfl (Or.inr ⟨_, rfl⟩) d_X_init_163 ?_
  refine qx_toph (fun h115 eh115 => ?_)
  have hw := hw h115 eh115
  refine qx_iconst (v := (0 : Int32)) X d_X_init_166 (by decide) ?_
  refine qx_istore_n (L' := [(1, .inl (0 : Int32)), (0, .inr (.inr (.inl x0)))]) X d_X_init_167 rfl (by decide) rfl ?_
  refine qx_sub [1, 0] rfl ?_
  exact t_X_init_168 X N N x0 (0 : Int32) 341 12616 h115 Q  hw 
end QG
