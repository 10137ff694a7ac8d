/-! Reader: written by wip/whole/emit.py out of the bytecode -/
def y_Reader_lookAt : MethodName := ⟨"CoatHangers$Reader", "lookAt", "(I)V"⟩
theorem qm_Reader_lookAt : qMt y_Reader_lookAt prog_6_method_23_code 2 (none) 1 := ⟨qT_3 (i := 140) (by decide +kernel) rfl, qT_1 (i := 9) (by decide +kernel) rfl, by decide, by decide, by decide +kernel⟩
theorem wi_Reader_lookAt : Cond.instanceMethod y_Reader_lookAt ∈ qT := qT_3 (i := 139) (by decide +kernel) rfl
theorem wl_Reader_lookAt : Cond.selects y_Reader_lookAt.cls y_Reader_lookAt y_Reader_lookAt ∈ qT := qT_s (i := 6) (by decide +kernel) rfl
def y_Reader_fails : MethodName := ⟨"CoatHangers$Reader", "fails", "(I)Z"⟩
theorem qm_Reader_fails : qMt y_Reader_fails prog_6_method_24_code 2 (some .boolean) 1 := ⟨qT_3 (i := 156) (by decide +kernel) rfl, qT_1 (i := 9) (by decide +kernel) rfl, by decide, by decide, by decide +kernel⟩
theorem wi_Reader_fails : Cond.instanceMethod y_Reader_fails ∈ qT := qT_3 (i := 155) (by decide +kernel) rfl
theorem wl_Reader_fails : Cond.selects y_Reader_fails.cls y_Reader_fails y_Reader_fails ∈ qT := qT_s (i := 9) (by decide +kernel) rfl
def y_Reader_goOn : MethodName := ⟨"CoatHangers$Reader", "goOn", "()Z"⟩
theorem qm_Reader_goOn : qMt y_Reader_goOn prog_6_method_22_code 1 (some .boolean) 0 := ⟨qT_3 (i := 152) (by decide +kernel) rfl, qT_1 (i := 9) (by decide +kernel) rfl, by decide, by decide, by decide +kernel⟩
theorem wi_Reader_goOn : Cond.instanceMethod y_Reader_goOn ∈ qT := qT_3 (i := 151) (by decide +kernel) rfl
theorem wl_Reader_goOn : Cond.selects y_Reader_goOn.cls y_Reader_goOn y_Reader_goOn ∈ qT := qT_s (i := 8) (by decide +kernel) rfl
def y_Reader_pass : MethodName := ⟨"CoatHangers$Reader", "pass", "(I)Z"⟩
theorem qm_Reader_pass : qMt y_Reader_pass prog_6_method_21_code 2 (some .boolean) 1 := ⟨qT_3 (i := 160) (by decide +kernel) rfl, qT_1 (i := 9) (by decide +kernel) rfl, by decide, by decide, by decide +kernel⟩
theorem wi_Reader_pass : Cond.instanceMethod y_Reader_pass ∈ qT := qT_3 (i := 159) (by decide +kernel) rfl
theorem wl_Reader_pass : Cond.selects y_Reader_pass.cls y_Reader_pass y_Reader_pass ∈ qT := qT_s (i := 10) (by decide +kernel) rfl
def y_Reader_readClosing : MethodName := ⟨"CoatHangers$Reader", "readClosing", "(LCoatHangers$Law;)Z"⟩
theorem qm_Reader_readClosing : qMt y_Reader_readClosing prog_6_method_16_code 3 (some .boolean) 1 := ⟨qT_3 (i := 193) (by decide +kernel) rfl, qT_1 (i := 9) (by decide +kernel) rfl, by decide, by decide, by decide +kernel⟩
theorem wi_Reader_readClosing : Cond.instanceMethod y_Reader_readClosing ∈ qT := qT_3 (i := 192) (by decide +kernel) rfl
theorem wl_Reader_readClosing : Cond.selects y_Reader_readClosing.cls y_Reader_readClosing y_Reader_readClosing ∈ qT := qT_s (i := 16) (by decide +kernel) rfl
def y_Reader_readOpening : MethodName := ⟨"CoatHangers$Reader", "readOpening", "()Z"⟩
theorem qm_Reader_readOpening : qMt y_Reader_readOpening prog_6_method_14_code 2 (some .boolean) 0 := ⟨qT_3 (i := 176) (by decide +kernel) rfl, qT_1 (i := 9) (by decide +kernel) rfl, by decide, by decide, by decide +kernel⟩
theorem wi_Reader_readOpening : Cond.instanceMethod y_Reader_readOpening ∈ qT := qT_3 (i := 175) (by decide +kernel) rfl
theorem wl_Reader_readOpening : Cond.selects y_Reader_readOpening.cls y_Reader_readOpening y_Reader_readOpening ∈ qT := qT_s (i := 13) (by decide +kernel) rfl
def y_Reader_readOperand : MethodName := ⟨"CoatHangers$Reader", "readOperand", "(LCoatHangers$Law;)Z"⟩
theorem qm_Reader_readOperand : qMt y_Reader_readOperand prog_6_method_15_code 2 (some .boolean) 1 := ⟨qT_3 (i := 188) (by decide +kernel) rfl, qT_1 (i := 9) (by decide +kernel) rfl, by decide, by decide, by decide +kernel⟩
theorem wi_Reader_readOperand : Cond.instanceMethod y_Reader_readOperand ∈ qT := qT_3 (i := 187) (by decide +kernel) rfl
theorem wl_Reader_readOperand : Cond.selects y_Reader_readOperand.cls y_Reader_readOperand y_Reader_readOperand ∈ qT := qT_s (i := 15) (by decide +kernel) rfl
def y_Reader_readSum : MethodName := ⟨"CoatHangers$Reader", "readSum", "(LCoatHangers$Law;)Z"⟩
theorem qm_Reader_readSum : qMt y_Reader_readSum prog_6_method_13_code 4 (some .boolean) 1 := ⟨qT_3 (i := 168) (by decide +kernel) rfl, qT_1 (i := 9) (by decide +kernel) rfl, by decide, by decide, by decide +kernel⟩
theorem wi_Reader_readSum : Cond.instanceMethod y_Reader_readSum ∈ qT := qT_3 (i := 167) (by decide +kernel) rfl
theorem wl_Reader_readSum : Cond.selects y_Reader_readSum.cls y_Reader_readSum y_Reader_readSum ∈ qT := qT_s (i := 12) (by decide +kernel) rfl
def y_Reader_readIf : MethodName := ⟨"CoatHangers$Reader", "readIf", "(LCoatHangers$Law;)Z"⟩
theorem qm_Reader_readIf : qMt y_Reader_readIf prog_6_method_12_code 3 (some .boolean) 1 := ⟨qT_3 (i := 164) (by decide +kernel) rfl, qT_1 (i := 9) (by decide +kernel) rfl, by decide, by decide, by decide +kernel⟩
theorem wi_Reader_readIf : Cond.instanceMethod y_Reader_readIf ∈ qT := qT_3 (i := 163) (by decide +kernel) rfl
theorem wl_Reader_readIf : Cond.selects y_Reader_readIf.cls y_Reader_readIf y_Reader_readIf ∈ qT := qT_s (i := 11) (by decide +kernel) rfl
def y_Reader_readLaw : MethodName := ⟨"CoatHangers$Reader", "readLaw", "(LCoatHangers$Law;)Z"⟩
theorem qm_Reader_readLaw : qMt y_Reader_readLaw prog_6_method_11_code 3 (some .boolean) 1 := ⟨qT_3 (i := 148) (by decide +kernel) rfl, qT_1 (i := 9) (by decide +kernel) rfl, by decide, by decide, by decide +kernel⟩
theorem wi_Reader_readLaw : Cond.instanceMethod y_Reader_readLaw ∈ qT := qT_3 (i := 147) (by decide +kernel) rfl
theorem wl_Reader_readLaw : Cond.selects y_Reader_readLaw.cls y_Reader_readLaw y_Reader_readLaw ∈ qT := qT_s (i := 7) (by decide +kernel) rfl
def y_Reader_indexOf : MethodName := ⟨"CoatHangers$Reader", "indexOf", "([JI)I"⟩
theorem qm_Reader_indexOf : qMt y_Reader_indexOf prog_6_method_19_code 4 (some .int) 2 := ⟨qT_3 (i := 236) (by decide +kernel) rfl, qT_1 (i := 9) (by decide +kernel) rfl, by decide, by decide, by decide +kernel⟩
theorem wi_Reader_indexOf : Cond.instanceMethod y_Reader_indexOf ∈ qT := qT_3 (i := 235) (by decide +kernel) rfl
theorem wl_Reader_indexOf : Cond.selects y_Reader_indexOf.cls y_Reader_indexOf y_Reader_indexOf ∈ qT := qT_s (i := 21) (by decide +kernel) rfl
def y_Reader_isNameTold : MethodName := ⟨"CoatHangers$Reader", "isNameTold", "()Z"⟩
theorem qm_Reader_isNameTold : qMt y_Reader_isNameTold prog_6_method_18_code 1 (some .boolean) 0 := ⟨qT_3 (i := 232) (by decide +kernel) rfl, qT_1 (i := 9) (by decide +kernel) rfl, by decide, by decide, by decide +kernel⟩
theorem wi_Reader_isNameTold : Cond.instanceMethod y_Reader_isNameTold ∈ qT := qT_3 (i := 231) (by decide +kernel) rfl
theorem wl_Reader_isNameTold : Cond.selects y_Reader_isNameTold.cls y_Reader_isNameTold y_Reader_isNameTold ∈ qT := qT_s (i := 20) (by decide +kernel) rfl
def y_Reader_keepFault : MethodName := ⟨"CoatHangers$Reader", "keepFault", "(I)V"⟩
theorem qm_Reader_keepFault : qMt y_Reader_keepFault prog_6_method_25_code 2 (none) 1 := ⟨qT_4 (i := 0) (by decide +kernel) rfl, qT_1 (i := 9) (by decide +kernel) rfl, by decide, by decide, by decide +kernel⟩
theorem wi_Reader_keepFault : Cond.instanceMethod y_Reader_keepFault ∈ qT := qT_3 (i := 239) (by decide +kernel) rfl
theorem wl_Reader_keepFault : Cond.selects y_Reader_keepFault.cls y_Reader_keepFault y_Reader_keepFault ∈ qT := qT_s (i := 22) (by decide +kernel) rfl
def y_Reader_readNewName : MethodName := ⟨"CoatHangers$Reader", "readNewName", "([JI)Z"⟩
theorem qm_Reader_readNewName : qMt y_Reader_readNewName prog_6_method_17_code 3 (some .boolean) 2 := ⟨qT_3 (i := 228) (by decide +kernel) rfl, qT_1 (i := 9) (by decide +kernel) rfl, by decide, by decide, by decide +kernel⟩
theorem wi_Reader_readNewName : Cond.instanceMethod y_Reader_readNewName ∈ qT := qT_3 (i := 227) (by decide +kernel) rfl
theorem wl_Reader_readNewName : Cond.selects y_Reader_readNewName.cls y_Reader_readNewName y_Reader_readNewName ∈ qT := qT_s (i := 19) (by decide +kernel) rfl
def y_Reader_readNumber : MethodName := ⟨"CoatHangers$Reader", "readNumber", "(I)Z"⟩
theorem qm_Reader_readNumber : qMt y_Reader_readNumber prog_6_method_20_code 2 (some .boolean) 1 := ⟨qT_4 (i := 4) (by decide +kernel) rfl, qT_1 (i := 9) (by decide +kernel) rfl, by decide, by decide, by decide +kernel⟩
theorem wi_Reader_readNumber : Cond.instanceMethod y_Reader_readNumber ∈ qT := qT_4 (i := 3) (by decide +kernel) rfl
theorem wl_Reader_readNumber : Cond.selects y_Reader_readNumber.cls y_Reader_readNumber y_Reader_readNumber ∈ qT := qT_s (i := 23) (by decide +kernel) rfl
def y_Reader_readHanger : MethodName := ⟨"CoatHangers$Reader", "readHanger", "()Z"⟩
theorem qm_Reader_readHanger : qMt y_Reader_readHanger prog_6_method_4_code 2 (some .boolean) 0 := ⟨qT_3 (i := 224) (by decide +kernel) rfl, qT_1 (i := 9) (by decide +kernel) rfl, by decide, by decide, by decide +kernel⟩
theorem wi_Reader_readHanger : Cond.instanceMethod y_Reader_readHanger ∈ qT := qT_3 (i := 223) (by decide +kernel) rfl
theorem wl_Reader_readHanger : Cond.selects y_Reader_readHanger.cls y_Reader_readHanger y_Reader_readHanger ∈ qT := qT_s (i := 18) (by decide +kernel) rfl
def y_Reader_hangerNamed : MethodName := ⟨"CoatHangers$Reader", "hangerNamed", "()I"⟩
theorem qm_Reader_hangerNamed : qMt y_Reader_hangerNamed prog_6_method_8_code 2 (some .int) 0 := ⟨qT_4 (i := 20) (by decide +kernel) rfl, qT_1 (i := 9) (by decide +kernel) rfl, by decide, by decide, by decide +kernel⟩
theorem wi_Reader_hangerNamed : Cond.instanceMethod y_Reader_hangerNamed ∈ qT := qT_4 (i := 19) (by decide +kernel) rfl
theorem wl_Reader_hangerNamed : Cond.selects y_Reader_hangerNamed.cls y_Reader_hangerNamed y_Reader_hangerNamed ∈ qT := qT_s (i := 27) (by decide +kernel) rfl
def y_Reader_personNamed : MethodName := ⟨"CoatHangers$Reader", "personNamed", "()I"⟩
theorem qm_Reader_personNamed : qMt y_Reader_personNamed prog_6_method_7_code 2 (some .int) 0 := ⟨qT_4 (i := 16) (by decide +kernel) rfl, qT_1 (i := 9) (by decide +kernel) rfl, by decide, by decide, by decide +kernel⟩
theorem wi_Reader_personNamed : Cond.instanceMethod y_Reader_personNamed ∈ qT := qT_4 (i := 15) (by decide +kernel) rfl
theorem wl_Reader_personNamed : Cond.selects y_Reader_personNamed.cls y_Reader_personNamed y_Reader_personNamed ∈ qT := qT_s (i := 26) (by decide +kernel) rfl
def y_Reader_readHangs : MethodName := ⟨"CoatHangers$Reader", "readHangs", "()Z"⟩
theorem qm_Reader_readHangs : qMt y_Reader_readHangs prog_6_method_6_code 3 (some .boolean) 0 := ⟨qT_4 (i := 12) (by decide +kernel) rfl, qT_1 (i := 9) (by decide +kernel) rfl, by decide, by decide, by decide +kernel⟩
theorem wi_Reader_readHangs : Cond.instanceMethod y_Reader_readHangs ∈ qT := qT_4 (i := 11) (by decide +kernel) rfl
theorem wl_Reader_readHangs : Cond.selects y_Reader_readHangs.cls y_Reader_readHangs y_Reader_readHangs ∈ qT := qT_s (i := 25) (by decide +kernel) rfl
def y_Reader_readMoth : MethodName := ⟨"CoatHangers$Reader", "readMoth", "()Z"⟩
theorem qm_Reader_readMoth : qMt y_Reader_readMoth prog_6_method_9_code 1 (some .boolean) 0 := ⟨qT_4 (i := 28) (by decide +kernel) rfl, qT_1 (i := 9) (by decide +kernel) rfl, by decide, by decide, by decide +kernel⟩
theorem wi_Reader_readMoth : Cond.instanceMethod y_Reader_readMoth ∈ qT := qT_4 (i := 27) (by decide +kernel) rfl
theorem wl_Reader_readMoth : Cond.selects y_Reader_readMoth.cls y_Reader_readMoth y_Reader_readMoth ∈ qT := qT_s (i := 28) (by decide +kernel) rfl
def y_Reader_readPerson : MethodName := ⟨"CoatHangers$Reader", "readPerson", "()Z"⟩
theorem qm_Reader_readPerson : qMt y_Reader_readPerson prog_6_method_5_code 2 (some .boolean) 0 := ⟨qT_4 (i := 8) (by decide +kernel) rfl, qT_1 (i := 9) (by decide +kernel) rfl, by decide, by decide, by decide +kernel⟩
theorem wi_Reader_readPerson : Cond.instanceMethod y_Reader_readPerson ∈ qT := qT_4 (i := 7) (by decide +kernel) rfl
theorem wl_Reader_readPerson : Cond.selects y_Reader_readPerson.cls y_Reader_readPerson y_Reader_readPerson ∈ qT := qT_s (i := 24) (by decide +kernel) rfl
def y_Reader_readSeed : MethodName := ⟨"CoatHangers$Reader", "readSeed", "()Z"⟩
theorem qm_Reader_readSeed : qMt y_Reader_readSeed prog_6_method_10_code 1 (some .boolean) 0 := ⟨qT_4 (i := 32) (by decide +kernel) rfl, qT_1 (i := 9) (by decide +kernel) rfl, by decide, by decide, by decide +kernel⟩
theorem wi_Reader_readSeed : Cond.instanceMethod y_Reader_readSeed ∈ qT := qT_4 (i := 31) (by decide +kernel) rfl
theorem wl_Reader_readSeed : Cond.selects y_Reader_readSeed.cls y_Reader_readSeed y_Reader_readSeed ∈ qT := qT_s (i := 29) (by decide +kernel) rfl
def y_Reader_readTell : MethodName := ⟨"CoatHangers$Reader", "readTell", "()Z"⟩
theorem qm_Reader_readTell : qMt y_Reader_readTell prog_6_method_3_code 1 (some .boolean) 0 := ⟨qT_3 (i := 220) (by decide +kernel) rfl, qT_1 (i := 9) (by decide +kernel) rfl, by decide, by decide, by decide +kernel⟩
theorem wi_Reader_readTell : Cond.instanceMethod y_Reader_readTell ∈ qT := qT_3 (i := 219) (by decide +kernel) rfl
theorem wl_Reader_readTell : Cond.selects y_Reader_readTell.cls y_Reader_readTell y_Reader_readTell ∈ qT := qT_s (i := 17) (by decide +kernel) rfl
def y_Reader_readAll : MethodName := ⟨"CoatHangers$Reader", "readAll", "()I"⟩
theorem qm_Reader_readAll : qMt y_Reader_readAll prog_6_method_2_code 4 (some .int) 0 := ⟨qT_3 (i := 37) (by decide +kernel) rfl, qT_1 (i := 9) (by decide +kernel) rfl, by decide, by decide, by decide +kernel⟩
theorem wi_Reader_readAll : Cond.instanceMethod y_Reader_readAll ∈ qT := qT_3 (i := 35) (by decide +kernel) rfl
theorem wl_Reader_readAll : Cond.selects y_Reader_readAll.cls y_Reader_readAll y_Reader_readAll ∈ qT := qT_3 (i := 36) (by decide +kernel) rfl
theorem wf_Reader_215 : Cond.fieldLink "CoatHangers$Reader" 215 "CoatHangers$Reader" "at" "I" ∈ qT := qT_2 (i := 11) (by decide +kernel) rfl
theorem wf_Reader_36 : Cond.fieldLink "CoatHangers$Reader" 36 "CoatHangers$Reader" "tape" "LCoatHangers$Tape;" ∈ qT := qT_2 (i := 10) (by decide +kernel) rfl
theorem wf_Reader_218 : Cond.fieldLink "CoatHangers$Reader" 218 "CoatHangers$Tape" "kinds" "[I" ∈ qT := qT_1 (i := 95) (by decide +kernel) rfl
theorem wf_Reader_61 : Cond.fieldLink "CoatHangers$Reader" 61 "CoatHangers$Reader" "kind" "I" ∈ qT := qT_2 (i := 12) (by decide +kernel) rfl
theorem wf_Reader_221 : Cond.fieldLink "CoatHangers$Reader" 221 "CoatHangers$Tape" "values" "[J" ∈ qT := qT_1 (i := 99) (by decide +kernel) rfl
theorem wf_Reader_205 : Cond.fieldLink "CoatHangers$Reader" 205 "CoatHangers$Reader" "value" "J" ∈ qT := qT_2 (i := 13) (by decide +kernel) rfl
theorem wf_Reader_40 : Cond.fieldLink "CoatHangers$Reader" 40 "CoatHangers$Reader" "fault" "I" ∈ qT := qT_2 (i := 23) (by decide +kernel) rfl
theorem wf_Reader_224 : Cond.fieldLink "CoatHangers$Reader" 224 "CoatHangers$Tape" "places" "[I" ∈ qT := qT_1 (i := 97) (by decide +kernel) rfl
theorem wf_Reader_32 : Cond.fieldLink "CoatHangers$Reader" 32 "CoatHangers$Reader" "faultPlace" "I" ∈ qT := qT_2 (i := 24) (by decide +kernel) rfl
theorem wm_Reader_57 : Cond.methodLink "CoatHangers$Reader" 57 y_Reader_lookAt ∈ qT := qT_3 (i := 137) (by decide +kernel) rfl
theorem wm_Reader_94 : Cond.methodLink "CoatHangers$Reader" 94 y_Reader_fails ∈ qT := qT_3 (i := 153) (by decide +kernel) rfl
theorem wm_Reader_101 : Cond.methodLink "CoatHangers$Reader" 101 y_Reader_goOn ∈ qT := qT_3 (i := 149) (by decide +kernel) rfl
theorem wf_Reader_28 : Cond.fieldLink "CoatHangers$Reader" 28 "CoatHangers$Reader" "waiters" "LCoatHangers$Waiters;" ∈ qT := qT_2 (i := 20) (by decide +kernel) rfl
theorem wf_Reader_199 : Cond.fieldLink "CoatHangers$Reader" 199 "CoatHangers$Waiters" "deep" "I" ∈ qT := qT_2 (i := 2) (by decide +kernel) rfl
theorem wm_Reader_196 : Cond.methodLink "CoatHangers$Reader" 196 y_Waits_letGo ∈ qT := qT_3 (i := 194) (by decide +kernel) rfl
theorem wm_Reader_209 : Cond.methodLink "CoatHangers$Reader" 209 y_Waits_close ∈ qT := qT_3 (i := 202) (by decide +kernel) rfl
theorem wm_Reader_202 : Cond.methodLink "CoatHangers$Reader" 202 y_Waits_open ∈ qT := qT_3 (i := 177) (by decide +kernel) rfl
theorem wm_Reader_170 : Cond.methodLink "CoatHangers$Reader" 170 y_Law_add ∈ qT := qT_3 (i := 189) (by decide +kernel) rfl
theorem wm_Reader_177 : Cond.methodLink "CoatHangers$Reader" 177 y_Waits_begin ∈ qT := qT_3 (i := 169) (by decide +kernel) rfl
theorem wm_Reader_180 : Cond.methodLink "CoatHangers$Reader" 180 y_Reader_readOpening ∈ qT := qT_3 (i := 173) (by decide +kernel) rfl
theorem wm_Reader_183 : Cond.methodLink "CoatHangers$Reader" 183 y_Reader_readOperand ∈ qT := qT_3 (i := 185) (by decide +kernel) rfl
theorem wm_Reader_186 : Cond.methodLink "CoatHangers$Reader" 186 y_Reader_readClosing ∈ qT := qT_3 (i := 190) (by decide +kernel) rfl
theorem wm_Reader_189 : Cond.methodLink "CoatHangers$Reader" 189 y_Waits_strengthOf ∈ qT := qT_3 (i := 207) (by decide +kernel) rfl
theorem wm_Reader_193 : Cond.methodLink "CoatHangers$Reader" 193 y_Waits_add ∈ qT := qT_3 (i := 208) (by decide +kernel) rfl
theorem wm_Reader_167 : Cond.methodLink "CoatHangers$Reader" 167 y_Reader_readSum ∈ qT := qT_3 (i := 165) (by decide +kernel) rfl
theorem wm_Reader_121 : Cond.methodLink "CoatHangers$Reader" 121 y_Reader_pass ∈ qT := qT_3 (i := 157) (by decide +kernel) rfl
theorem wf_Reader_159 : Cond.fieldLink "CoatHangers$Reader" 159 "CoatHangers$Law" "size" "I" ∈ qT := qT_1 (i := 136) (by decide +kernel) rfl
theorem wm_Reader_174 : Cond.methodLink "CoatHangers$Reader" 174 y_Law_aimAtEnd ∈ qT := qT_3 (i := 213) (by decide +kernel) rfl
theorem wm_Reader_164 : Cond.methodLink "CoatHangers$Reader" 164 y_Reader_readIf ∈ qT := qT_3 (i := 161) (by decide +kernel) rfl
theorem wf_Reader_18 : Cond.fieldLink "CoatHangers$Reader" 18 "CoatHangers$Reader" "hangerNames" "[J" ∈ qT := qT_2 (i := 17) (by decide +kernel) rfl
theorem wf_Reader_12 : Cond.fieldLink "CoatHangers$Reader" 12 "CoatHangers$Reader" "draft" "LCoatHangers$Text;" ∈ qT := qT_2 (i := 15) (by decide +kernel) rfl
theorem wf_Reader_98 : Cond.fieldLink "CoatHangers$Reader" 98 "CoatHangers$Text" "hangers" "I" ∈ qT := qT_1 (i := 158) (by decide +kernel) rfl
theorem wm_Reader_143 : Cond.methodLink "CoatHangers$Reader" 143 y_Reader_indexOf ∈ qT := qT_3 (i := 233) (by decide +kernel) rfl
theorem wf_Reader_22 : Cond.fieldLink "CoatHangers$Reader" 22 "CoatHangers$Reader" "personNames" "[J" ∈ qT := qT_2 (i := 18) (by decide +kernel) rfl
theorem wf_Reader_124 : Cond.fieldLink "CoatHangers$Reader" 124 "CoatHangers$Text" "people" "I" ∈ qT := qT_1 (i := 174) (by decide +kernel) rfl
theorem wf_Reader_43 : Cond.fieldLink "CoatHangers$Reader" 43 "CoatHangers$Reader" "senseFault" "I" ∈ qT := qT_2 (i := 21) (by decide +kernel) rfl
theorem wf_Reader_76 : Cond.fieldLink "CoatHangers$Reader" 76 "CoatHangers$Reader" "sensePlace" "I" ∈ qT := qT_2 (i := 22) (by decide +kernel) rfl
theorem wm_Reader_212 : Cond.methodLink "CoatHangers$Reader" 212 y_Reader_isNameTold ∈ qT := qT_3 (i := 229) (by decide +kernel) rfl
theorem wm_Reader_147 : Cond.methodLink "CoatHangers$Reader" 147 y_Reader_keepFault ∈ qT := qT_3 (i := 237) (by decide +kernel) rfl
theorem wf_Reader_115 : Cond.fieldLink "CoatHangers$Reader" 115 "CoatHangers$Reader" "number" "I" ∈ qT := qT_2 (i := 14) (by decide +kernel) rfl
theorem wm_Reader_104 : Cond.methodLink "CoatHangers$Reader" 104 y_Reader_readNewName ∈ qT := qT_3 (i := 225) (by decide +kernel) rfl
theorem wm_Reader_108 : Cond.methodLink "CoatHangers$Reader" 108 y_Reader_readNumber ∈ qT := qT_4 (i := 1) (by decide +kernel) rfl
theorem wf_Reader_111 : Cond.fieldLink "CoatHangers$Reader" 111 "CoatHangers$Text" "nail" "[I" ∈ qT := qT_1 (i := 162) (by decide +kernel) rfl
theorem wf_Reader_118 : Cond.fieldLink "CoatHangers$Reader" 118 "CoatHangers$Text" "breadth" "[I" ∈ qT := qT_1 (i := 168) (by decide +kernel) rfl
theorem wm_Reader_150 : Cond.methodLink "CoatHangers$Reader" 150 y_Text_isFirstTaken ∈ qT := qT_4 (i := 21) (by decide +kernel) rfl
theorem wf_Reader_140 : Cond.fieldLink "CoatHangers$Reader" 140 "CoatHangers$Text" "firstOn" "[I" ∈ qT := qT_1 (i := 187) (by decide +kernel) rfl
theorem wf_Reader_46 : Cond.fieldLink "CoatHangers$Reader" 46 "CoatHangers$Reader" "hangs" "I" ∈ qT := qT_2 (i := 19) (by decide +kernel) rfl
theorem wm_Reader_133 : Cond.methodLink "CoatHangers$Reader" 133 y_Reader_personNamed ∈ qT := qT_4 (i := 13) (by decide +kernel) rfl
theorem wm_Reader_137 : Cond.methodLink "CoatHangers$Reader" 137 y_Reader_hangerNamed ∈ qT := qT_4 (i := 17) (by decide +kernel) rfl
theorem wf_Reader_153 : Cond.fieldLink "CoatHangers$Reader" 153 "CoatHangers$Text" "moth" "I" ∈ qT := qT_1 (i := 193) (by decide +kernel) rfl
theorem wf_Reader_127 : Cond.fieldLink "CoatHangers$Reader" 127 "CoatHangers$Text" "shoulders" "[I" ∈ qT := qT_1 (i := 180) (by decide +kernel) rfl
theorem wf_Reader_130 : Cond.fieldLink "CoatHangers$Reader" 130 "CoatHangers$Text" "rank" "[I" ∈ qT := qT_1 (i := 183) (by decide +kernel) rfl
theorem wf_Reader_156 : Cond.fieldLink "CoatHangers$Reader" 156 "CoatHangers$Text" "seed" "I" ∈ qT := qT_1 (i := 196) (by decide +kernel) rfl
theorem wm_Reader_79 : Cond.methodLink "CoatHangers$Reader" 79 y_Reader_readHanger ∈ qT := qT_3 (i := 221) (by decide +kernel) rfl
theorem wm_Reader_82 : Cond.methodLink "CoatHangers$Reader" 82 y_Reader_readPerson ∈ qT := qT_4 (i := 5) (by decide +kernel) rfl
theorem wm_Reader_85 : Cond.methodLink "CoatHangers$Reader" 85 y_Reader_readHangs ∈ qT := qT_4 (i := 9) (by decide +kernel) rfl
theorem wm_Reader_88 : Cond.methodLink "CoatHangers$Reader" 88 y_Reader_readMoth ∈ qT := qT_4 (i := 25) (by decide +kernel) rfl
theorem wm_Reader_91 : Cond.methodLink "CoatHangers$Reader" 91 y_Reader_readSeed ∈ qT := qT_4 (i := 29) (by decide +kernel) rfl
theorem wm_Reader_49 : Cond.methodLink "CoatHangers$Reader" 49 y_Text_clear ∈ qT := qT_3 (i := 38) (by decide +kernel) rfl
theorem wm_Reader_52 : Cond.methodLink "CoatHangers$Reader" 52 y_Tape_split ∈ qT := qT_3 (i := 39) (by decide +kernel) rfl
theorem wm_Reader_72 : Cond.methodLink "CoatHangers$Reader" 72 y_Reader_readTell ∈ qT := qT_3 (i := 217) (by decide +kernel) rfl
theorem wm_Reader_64 : Cond.methodLink "CoatHangers$Reader" 64 y_Text_law ∈ qT := qT_3 (i := 141) (by decide +kernel) rfl
theorem wm_Reader_68 : Cond.methodLink "CoatHangers$Reader" 68 y_Reader_readLaw ∈ qT := qT_3 (i := 145) (by decide +kernel) rfl
theorem d_Reader_lookAt_0 : decode prog_6_method_23_code 0 = .ok (.aload_n 0, 1) := by decide +kernel
theorem d_Reader_lookAt_1 : decode prog_6_method_23_code 1 = .ok (.iload_n 1, 1) := by decide +kernel
theorem d_Reader_lookAt_2 : decode prog_6_method_23_code 2 = .ok (.putfield 215, 3) := by decide +kernel
theorem d_Reader_lookAt_5 : decode prog_6_method_23_code 5 = .ok (.aload_n 0, 1) := by decide +kernel
theorem d_Reader_lookAt_6 : decode prog_6_method_23_code 6 = .ok (.aload_n 0, 1) := by decide +kernel
theorem d_Reader_lookAt_7 : decode prog_6_method_23_code 7 = .ok (.getfield 36, 3) := by decide +kernel
theorem d_Reader_lookAt_10 : decode prog_6_method_23_code 10 = .ok (.getfield 218, 3) := by decide +kernel
theorem d_Reader_lookAt_13 : decode prog_6_method_23_code 13 = .ok (.iload_n 1, 1) := by decide +kernel
theorem d_Reader_lookAt_14 : decode prog_6_method_23_code 14 = .ok (.iaload, 1) := by decide +kernel
theorem d_Reader_lookAt_15 : decode prog_6_method_23_code 15 = .ok (.putfield 61, 3) := by decide +kernel
theorem d_Reader_lookAt_18 : decode prog_6_method_23_code 18 = .ok (.aload_n 0, 1) := by decide +kernel
theorem d_Reader_lookAt_19 : decode prog_6_method_23_code 19 = .ok (.aload_n 0, 1) := by decide +kernel
theorem d_Reader_lookAt_20 : decode prog_6_method_23_code 20 = .ok (.getfield 36, 3) := by decide +kernel
theorem d_Reader_lookAt_23 : decode prog_6_method_23_code 23 = .ok (.getfield 221, 3) := by decide +kernel
theorem d_Reader_lookAt_26 : decode prog_6_method_23_code 26 = .ok (.iload_n 1, 1) := by decide +kernel
theorem d_Reader_lookAt_27 : decode prog_6_method_23_code 27 = .ok (.laload, 1) := by decide +kernel
theorem d_Reader_lookAt_28 : decode prog_6_method_23_code 28 = .ok (.putfield 205, 3) := by decide +kernel
theorem d_Reader_lookAt_31 : decode prog_6_method_23_code 31 = .ok (.return_, 1) := by decide +kernel
theorem d_Reader_fails_0 : decode prog_6_method_24_code 0 = .ok (.aload_n 0, 1) := by decide +kernel
theorem d_Reader_fails_1 : decode prog_6_method_24_code 1 = .ok (.iload_n 1, 1) := by decide +kernel
theorem d_Reader_fails_2 : decode prog_6_method_24_code 2 = .ok (.putfield 40, 3) := by decide +kernel
theorem d_Reader_fails_5 : decode prog_6_method_24_code 5 = .ok (.aload_n 0, 1) := by decide +kernel
theorem d_Reader_fails_6 : decode prog_6_method_24_code 6 = .ok (.aload_n 0, 1) := by decide +kernel
theorem d_Reader_fails_7 : decode prog_6_method_24_code 7 = .ok (.getfield 36, 3) := by decide +kernel
theorem d_Reader_fails_10 : decode prog_6_method_24_code 10 = .ok (.getfield 224, 3) := by decide +kernel
theorem d_Reader_fails_13 : decode prog_6_method_24_code 13 = .ok (.aload_n 0, 1) := by decide +kernel
theorem d_Reader_fails_14 : decode prog_6_method_24_code 14 = .ok (.getfield 215, 3) := by decide +kernel
theorem d_Reader_fails_17 : decode prog_6_method_24_code 17 = .ok (.iaload, 1) := by decide +kernel
theorem d_Reader_fails_18 : decode prog_6_method_24_code 18 = .ok (.putfield 32, 3) := by decide +kernel
theorem d_Reader_fails_21 : decode prog_6_method_24_code 21 = .ok (.iconst 0, 1) := by decide +kernel
theorem d_Reader_fails_22 : decode prog_6_method_24_code 22 = .ok (.ireturn, 1) := by decide +kernel
theorem d_Reader_goOn_0 : decode prog_6_method_22_code 0 = .ok (.aload_n 0, 1) := by decide +kernel
theorem d_Reader_goOn_1 : decode prog_6_method_22_code 1 = .ok (.getfield 215, 3) := by decide +kernel
theorem d_Reader_goOn_4 : decode prog_6_method_22_code 4 = .ok (.sipush 400, 3) := by decide +kernel
theorem d_Reader_goOn_7 : decode prog_6_method_22_code 7 = .ok (.if_icmp .lt 9, 3) := by decide +kernel
theorem d_Reader_goOn_10 : decode prog_6_method_22_code 10 = .ok (.aload_n 0, 1) := by decide +kernel
theorem d_Reader_goOn_11 : decode prog_6_method_22_code 11 = .ok (.iconst 2, 1) := by decide +kernel
theorem d_Reader_goOn_12 : decode prog_6_method_22_code 12 = .ok (.invokevirtual 94, 3) := by decide +kernel
theorem d_Reader_goOn_15 : decode prog_6_method_22_code 15 = .ok (.ireturn, 1) := by decide +kernel
theorem d_Reader_goOn_16 : decode prog_6_method_22_code 16 = .ok (.aload_n 0, 1) := by decide +kernel
theorem d_Reader_goOn_17 : decode prog_6_method_22_code 17 = .ok (.aload_n 0, 1) := by decide +kernel
theorem d_Reader_goOn_18 : decode prog_6_method_22_code 18 = .ok (.getfield 215, 3) := by decide +kernel
theorem d_Reader_goOn_21 : decode prog_6_method_22_code 21 = .ok (.iconst 1, 1) := by decide +kernel
theorem d_Reader_goOn_22 : decode prog_6_method_22_code 22 = .ok (.iadd, 1) := by decide +kernel
theorem d_Reader_goOn_23 : decode prog_6_method_22_code 23 = .ok (.invokevirtual 57, 3) := by decide +kernel
theorem d_Reader_goOn_26 : decode prog_6_method_22_code 26 = .ok (.iconst 1, 1) := by decide +kernel
theorem d_Reader_goOn_27 : decode prog_6_method_22_code 27 = .ok (.ireturn, 1) := by decide +kernel
theorem d_Reader_pass_0 : decode prog_6_method_21_code 0 = .ok (.aload_n 0, 1) := by decide +kernel
theorem d_Reader_pass_1 : decode prog_6_method_21_code 1 = .ok (.getfield 61, 3) := by decide +kernel
theorem d_Reader_pass_4 : decode prog_6_method_21_code 4 = .ok (.iload_n 1, 1) := by decide +kernel
theorem d_Reader_pass_5 : decode prog_6_method_21_code 5 = .ok (.if_icmp .ne 10, 3) := by decide +kernel
theorem d_Reader_pass_8 : decode prog_6_method_21_code 8 = .ok (.aload_n 0, 1) := by decide +kernel
theorem d_Reader_pass_9 : decode prog_6_method_21_code 9 = .ok (.invokevirtual 101, 3) := by decide +kernel
theorem d_Reader_pass_12 : decode prog_6_method_21_code 12 = .ok (.goto 8, 3) := by decide +kernel
theorem d_Reader_pass_15 : decode prog_6_method_21_code 15 = .ok (.aload_n 0, 1) := by decide +kernel
theorem d_Reader_pass_16 : decode prog_6_method_21_code 16 = .ok (.iconst 1, 1) := by decide +kernel
theorem d_Reader_pass_17 : decode prog_6_method_21_code 17 = .ok (.invokevirtual 94, 3) := by decide +kernel
theorem d_Reader_pass_20 : decode prog_6_method_21_code 20 = .ok (.ireturn, 1) := by decide +kernel
theorem d_Reader_readClosing_0 : decode prog_6_method_16_code 0 = .ok (.iconst 0, 1) := by decide +kernel
theorem d_Reader_readClosing_1 : decode prog_6_method_16_code 1 = .ok (.istore_n 2, 1) := by decide +kernel
theorem d_Reader_readClosing_2 : decode prog_6_method_16_code 2 = .ok (.iload_n 2, 1) := by decide +kernel
theorem d_Reader_readClosing_3 : decode prog_6_method_16_code 3 = .ok (.bipush 6, 2) := by decide +kernel
theorem d_Reader_readClosing_5 : decode prog_6_method_16_code 5 = .ok (.if_icmp .ge 53, 3) := by decide +kernel
theorem d_Reader_readClosing_8 : decode prog_6_method_16_code 8 = .ok (.aload_n 0, 1) := by decide +kernel
theorem d_Reader_readClosing_9 : decode prog_6_method_16_code 9 = .ok (.getfield 28, 3) := by decide +kernel
theorem d_Reader_readClosing_12 : decode prog_6_method_16_code 12 = .ok (.getfield 199, 3) := by decide +kernel
theorem d_Reader_readClosing_15 : decode prog_6_method_16_code 15 = .ok (.ifCond .le 43, 3) := by decide +kernel
theorem d_Reader_readClosing_18 : decode prog_6_method_16_code 18 = .ok (.aload_n 0, 1) := by decide +kernel
theorem d_Reader_readClosing_19 : decode prog_6_method_16_code 19 = .ok (.getfield 61, 3) := by decide +kernel
theorem d_Reader_readClosing_22 : decode prog_6_method_16_code 22 = .ok (.bipush 41, 2) := by decide +kernel
theorem d_Reader_readClosing_24 : decode prog_6_method_16_code 24 = .ok (.if_icmp .ne 34, 3) := by decide +kernel
theorem d_Reader_readClosing_27 : decode prog_6_method_16_code 27 = .ok (.aload_n 0, 1) := by decide +kernel
theorem d_Reader_readClosing_28 : decode prog_6_method_16_code 28 = .ok (.getfield 28, 3) := by decide +kernel
theorem d_Reader_readClosing_31 : decode prog_6_method_16_code 31 = .ok (.aload_n 1, 1) := by decide +kernel
theorem d_Reader_readClosing_32 : decode prog_6_method_16_code 32 = .ok (.iconst 1, 1) := by decide +kernel
theorem d_Reader_readClosing_33 : decode prog_6_method_16_code 33 = .ok (.invokevirtual 196, 3) := by decide +kernel
theorem d_Reader_readClosing_36 : decode prog_6_method_16_code 36 = .ok (.aload_n 0, 1) := by decide +kernel
theorem d_Reader_readClosing_37 : decode prog_6_method_16_code 37 = .ok (.getfield 28, 3) := by decide +kernel
theorem d_Reader_readClosing_40 : decode prog_6_method_16_code 40 = .ok (.invokevirtual 209, 3) := by decide +kernel
theorem d_Reader_readClosing_43 : decode prog_6_method_16_code 43 = .ok (.aload_n 0, 1) := by decide +kernel
theorem d_Reader_readClosing_44 : decode prog_6_method_16_code 44 = .ok (.invokevirtual 101, 3) := by decide +kernel
theorem d_Reader_readClosing_47 : decode prog_6_method_16_code 47 = .ok (.ifCond .ne 5, 3) := by decide +kernel
theorem d_Reader_readClosing_50 : decode prog_6_method_16_code 50 = .ok (.iconst 0, 1) := by decide +kernel
theorem d_Reader_readClosing_51 : decode prog_6_method_16_code 51 = .ok (.ireturn, 1) := by decide +kernel
theorem d_Reader_readClosing_52 : decode prog_6_method_16_code 52 = .ok (.iinc 2 1, 3) := by decide +kernel
theorem d_Reader_readClosing_55 : decode prog_6_method_16_code 55 = .ok (.goto (-53), 3) := by decide +kernel
theorem d_Reader_readClosing_58 : decode prog_6_method_16_code 58 = .ok (.iconst 1, 1) := by decide +kernel
theorem d_Reader_readClosing_59 : decode prog_6_method_16_code 59 = .ok (.ireturn, 1) := by decide +kernel
theorem d_Reader_readOpening_0 : decode prog_6_method_14_code 0 = .ok (.iconst 0, 1) := by decide +kernel
theorem d_Reader_readOpening_1 : decode prog_6_method_14_code 1 = .ok (.istore_n 1, 1) := by decide +kernel
theorem d_Reader_readOpening_2 : decode prog_6_method_14_code 2 = .ok (.iload_n 1, 1) := by decide +kernel
theorem d_Reader_readOpening_3 : decode prog_6_method_14_code 3 = .ok (.bipush 6, 2) := by decide +kernel
theorem d_Reader_readOpening_5 : decode prog_6_method_14_code 5 = .ok (.if_icmp .gt 52, 3) := by decide +kernel
theorem d_Reader_readOpening_8 : decode prog_6_method_14_code 8 = .ok (.aload_n 0, 1) := by decide +kernel
theorem d_Reader_readOpening_9 : decode prog_6_method_14_code 9 = .ok (.getfield 61, 3) := by decide +kernel
theorem d_Reader_readOpening_12 : decode prog_6_method_14_code 12 = .ok (.bipush 40, 2) := by decide +kernel
theorem d_Reader_readOpening_14 : decode prog_6_method_14_code 14 = .ok (.if_icmp .ne 43, 3) := by decide +kernel
theorem d_Reader_readOpening_17 : decode prog_6_method_14_code 17 = .ok (.aload_n 0, 1) := by decide +kernel
theorem d_Reader_readOpening_18 : decode prog_6_method_14_code 18 = .ok (.getfield 28, 3) := by decide +kernel
theorem d_Reader_readOpening_21 : decode prog_6_method_14_code 21 = .ok (.getfield 199, 3) := by decide +kernel
theorem d_Reader_readOpening_24 : decode prog_6_method_14_code 24 = .ok (.bipush 6, 2) := by decide +kernel
theorem d_Reader_readOpening_26 : decode prog_6_method_14_code 26 = .ok (.if_icmp .lt 9, 3) := by decide +kernel
theorem d_Reader_readOpening_29 : decode prog_6_method_14_code 29 = .ok (.aload_n 0, 1) := by decide +kernel
theorem d_Reader_readOpening_30 : decode prog_6_method_14_code 30 = .ok (.iconst 2, 1) := by decide +kernel
theorem d_Reader_readOpening_31 : decode prog_6_method_14_code 31 = .ok (.invokevirtual 94, 3) := by decide +kernel
theorem d_Reader_readOpening_34 : decode prog_6_method_14_code 34 = .ok (.ireturn, 1) := by decide +kernel
theorem d_Reader_readOpening_35 : decode prog_6_method_14_code 35 = .ok (.aload_n 0, 1) := by decide +kernel
theorem d_Reader_readOpening_36 : decode prog_6_method_14_code 36 = .ok (.getfield 28, 3) := by decide +kernel
theorem d_Reader_readOpening_39 : decode prog_6_method_14_code 39 = .ok (.invokevirtual 202, 3) := by decide +kernel
theorem d_Reader_readOpening_42 : decode prog_6_method_14_code 42 = .ok (.aload_n 0, 1) := by decide +kernel
theorem d_Reader_readOpening_43 : decode prog_6_method_14_code 43 = .ok (.invokevirtual 101, 3) := by decide +kernel
theorem d_Reader_readOpening_46 : decode prog_6_method_14_code 46 = .ok (.ifCond .ne 5, 3) := by decide +kernel
theorem d_Reader_readOpening_49 : decode prog_6_method_14_code 49 = .ok (.iconst 0, 1) := by decide +kernel
theorem d_Reader_readOpening_50 : decode prog_6_method_14_code 50 = .ok (.ireturn, 1) := by decide +kernel
theorem d_Reader_readOpening_51 : decode prog_6_method_14_code 51 = .ok (.iinc 1 1, 3) := by decide +kernel
theorem d_Reader_readOpening_54 : decode prog_6_method_14_code 54 = .ok (.goto (-52), 3) := by decide +kernel
theorem d_Reader_readOpening_57 : decode prog_6_method_14_code 57 = .ok (.iconst 1, 1) := by decide +kernel
theorem d_Reader_readOpening_58 : decode prog_6_method_14_code 58 = .ok (.ireturn, 1) := by decide +kernel
theorem d_Reader_readOperand_0 : decode prog_6_method_15_code 0 = .ok (.aload_n 0, 1) := by decide +kernel
theorem d_Reader_readOperand_1 : decode prog_6_method_15_code 1 = .ok (.getfield 61, 3) := by decide +kernel
theorem d_Reader_readOperand_4 : decode prog_6_method_15_code 4 = .ok (.iconst 4, 1) := by decide +kernel
theorem d_Reader_readOperand_5 : decode prog_6_method_15_code 5 = .ok (.if_icmp .ne 16, 3) := by decide +kernel
theorem d_Reader_readOperand_8 : decode prog_6_method_15_code 8 = .ok (.aload_n 1, 1) := by decide +kernel
theorem d_Reader_readOperand_9 : decode prog_6_method_15_code 9 = .ok (.iconst 1, 1) := by decide +kernel
theorem d_Reader_readOperand_10 : decode prog_6_method_15_code 10 = .ok (.aload_n 0, 1) := by decide +kernel
theorem d_Reader_readOperand_11 : decode prog_6_method_15_code 11 = .ok (.getfield 205, 3) := by decide +kernel
theorem d_Reader_readOperand_14 : decode prog_6_method_15_code 14 = .ok (.l2i, 1) := by decide +kernel
theorem d_Reader_readOperand_15 : decode prog_6_method_15_code 15 = .ok (.invokevirtual 170, 3) := by decide +kernel
theorem d_Reader_readOperand_18 : decode prog_6_method_15_code 18 = .ok (.goto 45, 3) := by decide +kernel
theorem d_Reader_readOperand_21 : decode prog_6_method_15_code 21 = .ok (.aload_n 0, 1) := by decide +kernel
theorem d_Reader_readOperand_22 : decode prog_6_method_15_code 22 = .ok (.getfield 61, 3) := by decide +kernel
theorem d_Reader_readOperand_25 : decode prog_6_method_15_code 25 = .ok (.sipush 268, 3) := by decide +kernel
theorem d_Reader_readOperand_28 : decode prog_6_method_15_code 28 = .ok (.if_icmp .lt 29, 3) := by decide +kernel
theorem d_Reader_readOperand_31 : decode prog_6_method_15_code 31 = .ok (.aload_n 0, 1) := by decide +kernel
theorem d_Reader_readOperand_32 : decode prog_6_method_15_code 32 = .ok (.getfield 61, 3) := by decide +kernel
theorem d_Reader_readOperand_35 : decode prog_6_method_15_code 35 = .ok (.sipush 276, 3) := by decide +kernel
theorem d_Reader_readOperand_38 : decode prog_6_method_15_code 38 = .ok (.if_icmp .gt 19, 3) := by decide +kernel
theorem d_Reader_readOperand_41 : decode prog_6_method_15_code 41 = .ok (.aload_n 1, 1) := by decide +kernel
theorem d_Reader_readOperand_42 : decode prog_6_method_15_code 42 = .ok (.iconst 2, 1) := by decide +kernel
theorem d_Reader_readOperand_43 : decode prog_6_method_15_code 43 = .ok (.aload_n 0, 1) := by decide +kernel
theorem d_Reader_readOperand_44 : decode prog_6_method_15_code 44 = .ok (.getfield 61, 3) := by decide +kernel
theorem d_Reader_readOperand_47 : decode prog_6_method_15_code 47 = .ok (.sipush 268, 3) := by decide +kernel
theorem d_Reader_readOperand_50 : decode prog_6_method_15_code 50 = .ok (.isub, 1) := by decide +kernel
theorem d_Reader_readOperand_51 : decode prog_6_method_15_code 51 = .ok (.invokevirtual 170, 3) := by decide +kernel
theorem d_Reader_readOperand_54 : decode prog_6_method_15_code 54 = .ok (.goto 9, 3) := by decide +kernel
theorem d_Reader_readOperand_57 : decode prog_6_method_15_code 57 = .ok (.aload_n 0, 1) := by decide +kernel
theorem d_Reader_readOperand_58 : decode prog_6_method_15_code 58 = .ok (.iconst 1, 1) := by decide +kernel
theorem d_Reader_readOperand_59 : decode prog_6_method_15_code 59 = .ok (.invokevirtual 94, 3) := by decide +kernel
theorem d_Reader_readOperand_62 : decode prog_6_method_15_code 62 = .ok (.ireturn, 1) := by decide +kernel
theorem d_Reader_readOperand_63 : decode prog_6_method_15_code 63 = .ok (.aload_n 0, 1) := by decide +kernel
theorem d_Reader_readOperand_64 : decode prog_6_method_15_code 64 = .ok (.invokevirtual 101, 3) := by decide +kernel
theorem d_Reader_readOperand_67 : decode prog_6_method_15_code 67 = .ok (.ireturn, 1) := by decide +kernel
theorem d_Reader_readSum_0 : decode prog_6_method_13_code 0 = .ok (.aload_n 0, 1) := by decide +kernel
theorem d_Reader_readSum_1 : decode prog_6_method_13_code 1 = .ok (.getfield 28, 3) := by decide +kernel
theorem d_Reader_readSum_4 : decode prog_6_method_13_code 4 = .ok (.invokevirtual 177, 3) := by decide +kernel
theorem d_Reader_readSum_7 : decode prog_6_method_13_code 7 = .ok (.iconst 0, 1) := by decide +kernel
theorem d_Reader_readSum_8 : decode prog_6_method_13_code 8 = .ok (.istore_n 2, 1) := by decide +kernel
theorem d_Reader_readSum_9 : decode prog_6_method_13_code 9 = .ok (.iconst 0, 1) := by decide +kernel
theorem d_Reader_readSum_10 : decode prog_6_method_13_code 10 = .ok (.istore_n 3, 1) := by decide +kernel
theorem d_Reader_readSum_11 : decode prog_6_method_13_code 11 = .ok (.iload_n 3, 1) := by decide +kernel
theorem d_Reader_readSum_12 : decode prog_6_method_13_code 12 = .ok (.sipush 400, 3) := by decide +kernel
theorem d_Reader_readSum_15 : decode prog_6_method_13_code 15 = .ok (.if_icmp .gt 79, 3) := by decide +kernel
theorem d_Reader_readSum_18 : decode prog_6_method_13_code 18 = .ok (.iload_n 2, 1) := by decide +kernel
theorem d_Reader_readSum_19 : decode prog_6_method_13_code 19 = .ok (.ifCond .ne 75, 3) := by decide +kernel
theorem d_Reader_readSum_22 : decode prog_6_method_13_code 22 = .ok (.aload_n 0, 1) := by decide +kernel
theorem d_Reader_readSum_23 : decode prog_6_method_13_code 23 = .ok (.invokevirtual 180, 3) := by decide +kernel
theorem d_Reader_readSum_26 : decode prog_6_method_13_code 26 = .ok (.ifCond .eq 19, 3) := by decide +kernel
theorem d_Reader_readSum_29 : decode prog_6_method_13_code 29 = .ok (.aload_n 0, 1) := by decide +kernel
theorem d_Reader_readSum_30 : decode prog_6_method_13_code 30 = .ok (.aload_n 1, 1) := by decide +kernel
theorem d_Reader_readSum_31 : decode prog_6_method_13_code 31 = .ok (.invokevirtual 183, 3) := by decide +kernel
theorem d_Reader_readSum_34 : decode prog_6_method_13_code 34 = .ok (.ifCond .eq 11, 3) := by decide +kernel
theorem d_Reader_readSum_37 : decode prog_6_method_13_code 37 = .ok (.aload_n 0, 1) := by decide +kernel
theorem d_Reader_readSum_38 : decode prog_6_method_13_code 38 = .ok (.aload_n 1, 1) := by decide +kernel
theorem d_Reader_readSum_39 : decode prog_6_method_13_code 39 = .ok (.invokevirtual 186, 3) := by decide +kernel
theorem d_Reader_readSum_42 : decode prog_6_method_13_code 42 = .ok (.ifCond .ne 5, 3) := by decide +kernel
theorem d_Reader_readSum_45 : decode prog_6_method_13_code 45 = .ok (.iconst 0, 1) := by decide +kernel
theorem d_Reader_readSum_46 : decode prog_6_method_13_code 46 = .ok (.ireturn, 1) := by decide +kernel
theorem d_Reader_readSum_47 : decode prog_6_method_13_code 47 = .ok (.aload_n 0, 1) := by decide +kernel
theorem d_Reader_readSum_48 : decode prog_6_method_13_code 48 = .ok (.getfield 61, 3) := by decide +kernel
theorem d_Reader_readSum_51 : decode prog_6_method_13_code 51 = .ok (.invokestatic 189, 3) := by decide +kernel
theorem d_Reader_readSum_54 : decode prog_6_method_13_code 54 = .ok (.ifCond .ne 7, 3) := by decide +kernel
theorem d_Reader_readSum_57 : decode prog_6_method_13_code 57 = .ok (.iconst 1, 1) := by decide +kernel
theorem d_Reader_readSum_58 : decode prog_6_method_13_code 58 = .ok (.goto 4, 3) := by decide +kernel
theorem d_Reader_readSum_61 : decode prog_6_method_13_code 61 = .ok (.iconst 0, 1) := by decide +kernel
theorem d_Reader_readSum_62 : decode prog_6_method_13_code 62 = .ok (.istore_n 2, 1) := by decide +kernel
theorem d_Reader_readSum_63 : decode prog_6_method_13_code 63 = .ok (.iload_n 2, 1) := by decide +kernel
theorem d_Reader_readSum_64 : decode prog_6_method_13_code 64 = .ok (.ifCond .ne 24, 3) := by decide +kernel
theorem d_Reader_readSum_67 : decode prog_6_method_13_code 67 = .ok (.aload_n 0, 1) := by decide +kernel
theorem d_Reader_readSum_68 : decode prog_6_method_13_code 68 = .ok (.getfield 28, 3) := by decide +kernel
theorem d_Reader_readSum_71 : decode prog_6_method_13_code 71 = .ok (.aload_n 1, 1) := by decide +kernel
theorem d_Reader_readSum_72 : decode prog_6_method_13_code 72 = .ok (.aload_n 0, 1) := by decide +kernel
theorem d_Reader_readSum_73 : decode prog_6_method_13_code 73 = .ok (.getfield 61, 3) := by decide +kernel
theorem d_Reader_readSum_76 : decode prog_6_method_13_code 76 = .ok (.invokevirtual 193, 3) := by decide +kernel
theorem d_Reader_readSum_79 : decode prog_6_method_13_code 79 = .ok (.aload_n 0, 1) := by decide +kernel
theorem d_Reader_readSum_80 : decode prog_6_method_13_code 80 = .ok (.invokevirtual 101, 3) := by decide +kernel
theorem d_Reader_readSum_83 : decode prog_6_method_13_code 83 = .ok (.ifCond .ne 5, 3) := by decide +kernel
theorem d_Reader_readSum_86 : decode prog_6_method_13_code 86 = .ok (.iconst 0, 1) := by decide +kernel
theorem d_Reader_readSum_87 : decode prog_6_method_13_code 87 = .ok (.ireturn, 1) := by decide +kernel
theorem d_Reader_readSum_88 : decode prog_6_method_13_code 88 = .ok (.iinc 3 1, 3) := by decide +kernel
theorem d_Reader_readSum_91 : decode prog_6_method_13_code 91 = .ok (.goto (-80), 3) := by decide +kernel
theorem d_Reader_readSum_94 : decode prog_6_method_13_code 94 = .ok (.aload_n 0, 1) := by decide +kernel
theorem d_Reader_readSum_95 : decode prog_6_method_13_code 95 = .ok (.getfield 28, 3) := by decide +kernel
theorem d_Reader_readSum_98 : decode prog_6_method_13_code 98 = .ok (.aload_n 1, 1) := by decide +kernel
theorem d_Reader_readSum_99 : decode prog_6_method_13_code 99 = .ok (.iconst 1, 1) := by decide +kernel
theorem d_Reader_readSum_100 : decode prog_6_method_13_code 100 = .ok (.invokevirtual 196, 3) := by decide +kernel
theorem d_Reader_readSum_103 : decode prog_6_method_13_code 103 = .ok (.aload_n 0, 1) := by decide +kernel
theorem d_Reader_readSum_104 : decode prog_6_method_13_code 104 = .ok (.getfield 28, 3) := by decide +kernel
theorem d_Reader_readSum_107 : decode prog_6_method_13_code 107 = .ok (.getfield 199, 3) := by decide +kernel
theorem d_Reader_readSum_110 : decode prog_6_method_13_code 110 = .ok (.ifCond .eq 11, 3) := by decide +kernel
theorem d_Reader_readSum_113 : decode prog_6_method_13_code 113 = .ok (.aload_n 0, 1) := by decide +kernel
theorem d_Reader_readSum_114 : decode prog_6_method_13_code 114 = .ok (.iconst 1, 1) := by decide +kernel
theorem d_Reader_readSum_115 : decode prog_6_method_13_code 115 = .ok (.invokevirtual 94, 3) := by decide +kernel
theorem d_Reader_readSum_118 : decode prog_6_method_13_code 118 = .ok (.ifCond .eq 7, 3) := by decide +kernel
theorem d_Reader_readSum_121 : decode prog_6_method_13_code 121 = .ok (.iconst 1, 1) := by decide +kernel
theorem d_Reader_readSum_122 : decode prog_6_method_13_code 122 = .ok (.goto 4, 3) := by decide +kernel
theorem d_Reader_readSum_125 : decode prog_6_method_13_code 125 = .ok (.iconst 0, 1) := by decide +kernel
theorem d_Reader_readSum_126 : decode prog_6_method_13_code 126 = .ok (.ireturn, 1) := by decide +kernel
theorem d_Reader_readIf_0 : decode prog_6_method_12_code 0 = .ok (.aload_n 0, 1) := by decide +kernel
theorem d_Reader_readIf_1 : decode prog_6_method_12_code 1 = .ok (.invokevirtual 101, 3) := by decide +kernel
theorem d_Reader_readIf_4 : decode prog_6_method_12_code 4 = .ok (.ifCond .eq 20, 3) := by decide +kernel
theorem d_Reader_readIf_7 : decode prog_6_method_12_code 7 = .ok (.aload_n 0, 1) := by decide +kernel
theorem d_Reader_readIf_8 : decode prog_6_method_12_code 8 = .ok (.aload_n 1, 1) := by decide +kernel
theorem d_Reader_readIf_9 : decode prog_6_method_12_code 9 = .ok (.invokevirtual 167, 3) := by decide +kernel
theorem d_Reader_readIf_12 : decode prog_6_method_12_code 12 = .ok (.ifCond .eq 12, 3) := by decide +kernel
theorem d_Reader_readIf_15 : decode prog_6_method_12_code 15 = .ok (.aload_n 0, 1) := by decide +kernel
theorem d_Reader_readIf_16 : decode prog_6_method_12_code 16 = .ok (.bipush 60, 2) := by decide +kernel
theorem d_Reader_readIf_18 : decode prog_6_method_12_code 18 = .ok (.invokevirtual 121, 3) := by decide +kernel
theorem d_Reader_readIf_21 : decode prog_6_method_12_code 21 = .ok (.ifCond .ne 5, 3) := by decide +kernel
theorem d_Reader_readIf_24 : decode prog_6_method_12_code 24 = .ok (.iconst 0, 1) := by decide +kernel
theorem d_Reader_readIf_25 : decode prog_6_method_12_code 25 = .ok (.ireturn, 1) := by decide +kernel
theorem d_Reader_readIf_26 : decode prog_6_method_12_code 26 = .ok (.aload_n 0, 1) := by decide +kernel
theorem d_Reader_readIf_27 : decode prog_6_method_12_code 27 = .ok (.aload_n 1, 1) := by decide +kernel
theorem d_Reader_readIf_28 : decode prog_6_method_12_code 28 = .ok (.invokevirtual 167, 3) := by decide +kernel
theorem d_Reader_readIf_31 : decode prog_6_method_12_code 31 = .ok (.ifCond .eq 13, 3) := by decide +kernel
theorem d_Reader_readIf_34 : decode prog_6_method_12_code 34 = .ok (.aload_n 0, 1) := by decide +kernel
theorem d_Reader_readIf_35 : decode prog_6_method_12_code 35 = .ok (.sipush 266, 3) := by decide +kernel
theorem d_Reader_readIf_38 : decode prog_6_method_12_code 38 = .ok (.invokevirtual 121, 3) := by decide +kernel
theorem d_Reader_readIf_41 : decode prog_6_method_12_code 41 = .ok (.ifCond .ne 5, 3) := by decide +kernel
theorem d_Reader_readIf_44 : decode prog_6_method_12_code 44 = .ok (.iconst 0, 1) := by decide +kernel
theorem d_Reader_readIf_45 : decode prog_6_method_12_code 45 = .ok (.ireturn, 1) := by decide +kernel
theorem d_Reader_readIf_46 : decode prog_6_method_12_code 46 = .ok (.aload_n 1, 1) := by decide +kernel
theorem d_Reader_readIf_47 : decode prog_6_method_12_code 47 = .ok (.getfield 159, 3) := by decide +kernel
theorem d_Reader_readIf_50 : decode prog_6_method_12_code 50 = .ok (.istore_n 2, 1) := by decide +kernel
theorem d_Reader_readIf_51 : decode prog_6_method_12_code 51 = .ok (.aload_n 1, 1) := by decide +kernel
theorem d_Reader_readIf_52 : decode prog_6_method_12_code 52 = .ok (.iconst 3, 1) := by decide +kernel
theorem d_Reader_readIf_53 : decode prog_6_method_12_code 53 = .ok (.iconst 0, 1) := by decide +kernel
theorem d_Reader_readIf_54 : decode prog_6_method_12_code 54 = .ok (.invokevirtual 170, 3) := by decide +kernel
theorem d_Reader_readIf_57 : decode prog_6_method_12_code 57 = .ok (.aload_n 0, 1) := by decide +kernel
theorem d_Reader_readIf_58 : decode prog_6_method_12_code 58 = .ok (.aload_n 1, 1) := by decide +kernel
theorem d_Reader_readIf_59 : decode prog_6_method_12_code 59 = .ok (.invokevirtual 167, 3) := by decide +kernel
theorem d_Reader_readIf_62 : decode prog_6_method_12_code 62 = .ok (.ifCond .eq 13, 3) := by decide +kernel
theorem d_Reader_readIf_65 : decode prog_6_method_12_code 65 = .ok (.aload_n 0, 1) := by decide +kernel
theorem d_Reader_readIf_66 : decode prog_6_method_12_code 66 = .ok (.sipush 267, 3) := by decide +kernel
theorem d_Reader_readIf_69 : decode prog_6_method_12_code 69 = .ok (.invokevirtual 121, 3) := by decide +kernel
theorem d_Reader_readIf_72 : decode prog_6_method_12_code 72 = .ok (.ifCond .ne 5, 3) := by decide +kernel
theorem d_Reader_readIf_75 : decode prog_6_method_12_code 75 = .ok (.iconst 0, 1) := by decide +kernel
theorem d_Reader_readIf_76 : decode prog_6_method_12_code 76 = .ok (.ireturn, 1) := by decide +kernel
theorem d_Reader_readIf_77 : decode prog_6_method_12_code 77 = .ok (.aload_n 1, 1) := by decide +kernel
theorem d_Reader_readIf_78 : decode prog_6_method_12_code 78 = .ok (.iconst 4, 1) := by decide +kernel
theorem d_Reader_readIf_79 : decode prog_6_method_12_code 79 = .ok (.iconst 0, 1) := by decide +kernel
theorem d_Reader_readIf_80 : decode prog_6_method_12_code 80 = .ok (.invokevirtual 170, 3) := by decide +kernel
theorem d_Reader_readIf_83 : decode prog_6_method_12_code 83 = .ok (.aload_n 1, 1) := by decide +kernel
theorem d_Reader_readIf_84 : decode prog_6_method_12_code 84 = .ok (.iload_n 2, 1) := by decide +kernel
theorem d_Reader_readIf_85 : decode prog_6_method_12_code 85 = .ok (.invokevirtual 174, 3) := by decide +kernel
theorem d_Reader_readIf_88 : decode prog_6_method_12_code 88 = .ok (.iconst 1, 1) := by decide +kernel
theorem d_Reader_readIf_89 : decode prog_6_method_12_code 89 = .ok (.ireturn, 1) := by decide +kernel
theorem d_Reader_readLaw_0 : decode prog_6_method_11_code 0 = .ok (.aload_n 1, 1) := by decide +kernel
theorem d_Reader_readLaw_1 : decode prog_6_method_11_code 1 = .ok (.iconst 0, 1) := by decide +kernel
theorem d_Reader_readLaw_2 : decode prog_6_method_11_code 2 = .ok (.putfield 159, 3) := by decide +kernel
theorem d_Reader_readLaw_5 : decode prog_6_method_11_code 5 = .ok (.aload_n 0, 1) := by decide +kernel
theorem d_Reader_readLaw_6 : decode prog_6_method_11_code 6 = .ok (.invokevirtual 101, 3) := by decide +kernel
theorem d_Reader_readLaw_9 : decode prog_6_method_11_code 9 = .ok (.ifCond .eq 12, 3) := by decide +kernel
theorem d_Reader_readLaw_12 : decode prog_6_method_11_code 12 = .ok (.aload_n 0, 1) := by decide +kernel
theorem d_Reader_readLaw_13 : decode prog_6_method_11_code 13 = .ok (.bipush 61, 2) := by decide +kernel
theorem d_Reader_readLaw_15 : decode prog_6_method_11_code 15 = .ok (.invokevirtual 121, 3) := by decide +kernel
theorem d_Reader_readLaw_18 : decode prog_6_method_11_code 18 = .ok (.ifCond .ne 5, 3) := by decide +kernel
theorem d_Reader_readLaw_21 : decode prog_6_method_11_code 21 = .ok (.iconst 0, 1) := by decide +kernel
theorem d_Reader_readLaw_22 : decode prog_6_method_11_code 22 = .ok (.ireturn, 1) := by decide +kernel
theorem d_Reader_readLaw_23 : decode prog_6_method_11_code 23 = .ok (.iconst 0, 1) := by decide +kernel
theorem d_Reader_readLaw_24 : decode prog_6_method_11_code 24 = .ok (.istore_n 2, 1) := by decide +kernel
theorem d_Reader_readLaw_25 : decode prog_6_method_11_code 25 = .ok (.iload_n 2, 1) := by decide +kernel
theorem d_Reader_readLaw_26 : decode prog_6_method_11_code 26 = .ok (.iconst 4, 1) := by decide +kernel
theorem d_Reader_readLaw_27 : decode prog_6_method_11_code 27 = .ok (.if_icmp .gt 40, 3) := by decide +kernel
theorem d_Reader_readLaw_30 : decode prog_6_method_11_code 30 = .ok (.aload_n 0, 1) := by decide +kernel
theorem d_Reader_readLaw_31 : decode prog_6_method_11_code 31 = .ok (.getfield 61, 3) := by decide +kernel
theorem d_Reader_readLaw_34 : decode prog_6_method_11_code 34 = .ok (.sipush 265, 3) := by decide +kernel
theorem d_Reader_readLaw_37 : decode prog_6_method_11_code 37 = .ok (.if_icmp .ne 30, 3) := by decide +kernel
theorem d_Reader_readLaw_40 : decode prog_6_method_11_code 40 = .ok (.iload_n 2, 1) := by decide +kernel
theorem d_Reader_readLaw_41 : decode prog_6_method_11_code 41 = .ok (.iconst 4, 1) := by decide +kernel
theorem d_Reader_readLaw_42 : decode prog_6_method_11_code 42 = .ok (.if_icmp .ne 9, 3) := by decide +kernel
theorem d_Reader_readLaw_45 : decode prog_6_method_11_code 45 = .ok (.aload_n 0, 1) := by decide +kernel
theorem d_Reader_readLaw_46 : decode prog_6_method_11_code 46 = .ok (.iconst 2, 1) := by decide +kernel
theorem d_Reader_readLaw_47 : decode prog_6_method_11_code 47 = .ok (.invokevirtual 94, 3) := by decide +kernel
theorem d_Reader_readLaw_50 : decode prog_6_method_11_code 50 = .ok (.ireturn, 1) := by decide +kernel
theorem d_Reader_readLaw_51 : decode prog_6_method_11_code 51 = .ok (.aload_n 0, 1) := by decide +kernel
theorem d_Reader_readLaw_52 : decode prog_6_method_11_code 52 = .ok (.aload_n 1, 1) := by decide +kernel
theorem d_Reader_readLaw_53 : decode prog_6_method_11_code 53 = .ok (.invokevirtual 164, 3) := by decide +kernel
theorem d_Reader_readLaw_56 : decode prog_6_method_11_code 56 = .ok (.ifCond .ne 5, 3) := by decide +kernel
theorem d_Reader_readLaw_59 : decode prog_6_method_11_code 59 = .ok (.iconst 0, 1) := by decide +kernel
theorem d_Reader_readLaw_60 : decode prog_6_method_11_code 60 = .ok (.ireturn, 1) := by decide +kernel
theorem d_Reader_readLaw_61 : decode prog_6_method_11_code 61 = .ok (.iinc 2 1, 3) := by decide +kernel
theorem d_Reader_readLaw_64 : decode prog_6_method_11_code 64 = .ok (.goto (-39), 3) := by decide +kernel
theorem d_Reader_readLaw_67 : decode prog_6_method_11_code 67 = .ok (.aload_n 0, 1) := by decide +kernel
theorem d_Reader_readLaw_68 : decode prog_6_method_11_code 68 = .ok (.aload_n 1, 1) := by decide +kernel
theorem d_Reader_readLaw_69 : decode prog_6_method_11_code 69 = .ok (.invokevirtual 167, 3) := by decide +kernel
theorem d_Reader_readLaw_72 : decode prog_6_method_11_code 72 = .ok (.ifCond .ne 5, 3) := by decide +kernel
theorem d_Reader_readLaw_75 : decode prog_6_method_11_code 75 = .ok (.iconst 0, 1) := by decide +kernel
theorem d_Reader_readLaw_76 : decode prog_6_method_11_code 76 = .ok (.ireturn, 1) := by decide +kernel
theorem d_Reader_readLaw_77 : decode prog_6_method_11_code 77 = .ok (.aload_n 1, 1) := by decide +kernel
theorem d_Reader_readLaw_78 : decode prog_6_method_11_code 78 = .ok (.iconst 4, 1) := by decide +kernel
theorem d_Reader_readLaw_79 : decode prog_6_method_11_code 79 = .ok (.iconst 0, 1) := by decide +kernel
theorem d_Reader_readLaw_80 : decode prog_6_method_11_code 80 = .ok (.invokevirtual 170, 3) := by decide +kernel
theorem d_Reader_readLaw_83 : decode prog_6_method_11_code 83 = .ok (.aload_n 0, 1) := by decide +kernel
theorem d_Reader_readLaw_84 : decode prog_6_method_11_code 84 = .ok (.bipush 59, 2) := by decide +kernel
theorem d_Reader_readLaw_86 : decode prog_6_method_11_code 86 = .ok (.invokevirtual 121, 3) := by decide +kernel
theorem d_Reader_readLaw_89 : decode prog_6_method_11_code 89 = .ok (.ireturn, 1) := by decide +kernel
theorem d_Reader_indexOf_0 : decode prog_6_method_19_code 0 = .ok (.iconst 0, 1) := by decide +kernel
theorem d_Reader_indexOf_1 : decode prog_6_method_19_code 1 = .ok (.istore_n 3, 1) := by decide +kernel
theorem d_Reader_indexOf_2 : decode prog_6_method_19_code 2 = .ok (.iload_n 3, 1) := by decide +kernel
theorem d_Reader_indexOf_3 : decode prog_6_method_19_code 3 = .ok (.iload_n 2, 1) := by decide +kernel
theorem d_Reader_indexOf_4 : decode prog_6_method_19_code 4 = .ok (.if_icmp .ge 28, 3) := by decide +kernel
theorem d_Reader_indexOf_7 : decode prog_6_method_19_code 7 = .ok (.iload_n 3, 1) := by decide +kernel
theorem d_Reader_indexOf_8 : decode prog_6_method_19_code 8 = .ok (.aload_n 1, 1) := by decide +kernel
theorem d_Reader_indexOf_9 : decode prog_6_method_19_code 9 = .ok (.arraylength, 1) := by decide +kernel
theorem d_Reader_indexOf_10 : decode prog_6_method_19_code 10 = .ok (.if_icmp .ge 22, 3) := by decide +kernel
theorem d_Reader_indexOf_13 : decode prog_6_method_19_code 13 = .ok (.aload_n 1, 1) := by decide +kernel
theorem d_Reader_indexOf_14 : decode prog_6_method_19_code 14 = .ok (.iload_n 3, 1) := by decide +kernel
theorem d_Reader_indexOf_15 : decode prog_6_method_19_code 15 = .ok (.laload, 1) := by decide +kernel
theorem d_Reader_indexOf_16 : decode prog_6_method_19_code 16 = .ok (.aload_n 0, 1) := by decide +kernel
theorem d_Reader_indexOf_17 : decode prog_6_method_19_code 17 = .ok (.getfield 205, 3) := by decide +kernel
theorem d_Reader_indexOf_20 : decode prog_6_method_19_code 20 = .ok (.lcmp, 1) := by decide +kernel
theorem d_Reader_indexOf_21 : decode prog_6_method_19_code 21 = .ok (.ifCond .ne 5, 3) := by decide +kernel
theorem d_Reader_indexOf_24 : decode prog_6_method_19_code 24 = .ok (.iload_n 3, 1) := by decide +kernel
theorem d_Reader_indexOf_25 : decode prog_6_method_19_code 25 = .ok (.ireturn, 1) := by decide +kernel
theorem d_Reader_indexOf_26 : decode prog_6_method_19_code 26 = .ok (.iinc 3 1, 3) := by decide +kernel
theorem d_Reader_indexOf_29 : decode prog_6_method_19_code 29 = .ok (.goto (-27), 3) := by decide +kernel
theorem d_Reader_indexOf_32 : decode prog_6_method_19_code 32 = .ok (.iconst (-1), 1) := by decide +kernel
theorem d_Reader_indexOf_33 : decode prog_6_method_19_code 33 = .ok (.ireturn, 1) := by decide +kernel
theorem d_Reader_isNameTold_0 : decode prog_6_method_18_code 0 = .ok (.aload_n 0, 1) := by decide +kernel
theorem d_Reader_isNameTold_1 : decode prog_6_method_18_code 1 = .ok (.aload_n 0, 1) := by decide +kernel
theorem d_Reader_isNameTold_2 : decode prog_6_method_18_code 2 = .ok (.getfield 18, 3) := by decide +kernel
theorem d_Reader_isNameTold_5 : decode prog_6_method_18_code 5 = .ok (.aload_n 0, 1) := by decide +kernel
theorem d_Reader_isNameTold_6 : decode prog_6_method_18_code 6 = .ok (.getfield 12, 3) := by decide +kernel
theorem d_Reader_isNameTold_9 : decode prog_6_method_18_code 9 = .ok (.getfield 98, 3) := by decide +kernel
theorem d_Reader_isNameTold_12 : decode prog_6_method_18_code 12 = .ok (.invokevirtual 143, 3) := by decide +kernel
theorem d_Reader_isNameTold_15 : decode prog_6_method_18_code 15 = .ok (.ifCond .ge 21, 3) := by decide +kernel
theorem d_Reader_isNameTold_18 : decode prog_6_method_18_code 18 = .ok (.aload_n 0, 1) := by decide +kernel
theorem d_Reader_isNameTold_19 : decode prog_6_method_18_code 19 = .ok (.aload_n 0, 1) := by decide +kernel
theorem d_Reader_isNameTold_20 : decode prog_6_method_18_code 20 = .ok (.getfield 22, 3) := by decide +kernel
theorem d_Reader_isNameTold_23 : decode prog_6_method_18_code 23 = .ok (.aload_n 0, 1) := by decide +kernel
theorem d_Reader_isNameTold_24 : decode prog_6_method_18_code 24 = .ok (.getfield 12, 3) := by decide +kernel
theorem d_Reader_isNameTold_27 : decode prog_6_method_18_code 27 = .ok (.getfield 124, 3) := by decide +kernel
theorem d_Reader_isNameTold_30 : decode prog_6_method_18_code 30 = .ok (.invokevirtual 143, 3) := by decide +kernel
theorem d_Reader_isNameTold_33 : decode prog_6_method_18_code 33 = .ok (.ifCond .lt 7, 3) := by decide +kernel
theorem d_Reader_isNameTold_36 : decode prog_6_method_18_code 36 = .ok (.iconst 1, 1) := by decide +kernel
theorem d_Reader_isNameTold_37 : decode prog_6_method_18_code 37 = .ok (.goto 4, 3) := by decide +kernel
theorem d_Reader_isNameTold_40 : decode prog_6_method_18_code 40 = .ok (.iconst 0, 1) := by decide +kernel
theorem d_Reader_isNameTold_41 : decode prog_6_method_18_code 41 = .ok (.ireturn, 1) := by decide +kernel
theorem d_Reader_keepFault_0 : decode prog_6_method_25_code 0 = .ok (.aload_n 0, 1) := by decide +kernel
theorem d_Reader_keepFault_1 : decode prog_6_method_25_code 1 = .ok (.getfield 43, 3) := by decide +kernel
theorem d_Reader_keepFault_4 : decode prog_6_method_25_code 4 = .ok (.ifCond .ne 24, 3) := by decide +kernel
theorem d_Reader_keepFault_7 : decode prog_6_method_25_code 7 = .ok (.aload_n 0, 1) := by decide +kernel
theorem d_Reader_keepFault_8 : decode prog_6_method_25_code 8 = .ok (.iload_n 1, 1) := by decide +kernel
theorem d_Reader_keepFault_9 : decode prog_6_method_25_code 9 = .ok (.putfield 43, 3) := by decide +kernel
theorem d_Reader_keepFault_12 : decode prog_6_method_25_code 12 = .ok (.aload_n 0, 1) := by decide +kernel
theorem d_Reader_keepFault_13 : decode prog_6_method_25_code 13 = .ok (.aload_n 0, 1) := by decide +kernel
theorem d_Reader_keepFault_14 : decode prog_6_method_25_code 14 = .ok (.getfield 36, 3) := by decide +kernel
theorem d_Reader_keepFault_17 : decode prog_6_method_25_code 17 = .ok (.getfield 224, 3) := by decide +kernel
theorem d_Reader_keepFault_20 : decode prog_6_method_25_code 20 = .ok (.aload_n 0, 1) := by decide +kernel
theorem d_Reader_keepFault_21 : decode prog_6_method_25_code 21 = .ok (.getfield 215, 3) := by decide +kernel
theorem d_Reader_keepFault_24 : decode prog_6_method_25_code 24 = .ok (.iaload, 1) := by decide +kernel
theorem d_Reader_keepFault_25 : decode prog_6_method_25_code 25 = .ok (.putfield 76, 3) := by decide +kernel
theorem d_Reader_keepFault_28 : decode prog_6_method_25_code 28 = .ok (.return_, 1) := by decide +kernel
theorem d_Reader_readNewName_0 : decode prog_6_method_17_code 0 = .ok (.aload_n 0, 1) := by decide +kernel
theorem d_Reader_readNewName_1 : decode prog_6_method_17_code 1 = .ok (.getfield 61, 3) := by decide +kernel
theorem d_Reader_readNewName_4 : decode prog_6_method_17_code 4 = .ok (.iconst 3, 1) := by decide +kernel
theorem d_Reader_readNewName_5 : decode prog_6_method_17_code 5 = .ok (.if_icmp .ne 15, 3) := by decide +kernel
theorem d_Reader_readNewName_8 : decode prog_6_method_17_code 8 = .ok (.aload_n 0, 1) := by decide +kernel
theorem d_Reader_readNewName_9 : decode prog_6_method_17_code 9 = .ok (.invokevirtual 212, 3) := by decide +kernel
theorem d_Reader_readNewName_12 : decode prog_6_method_17_code 12 = .ok (.ifCond .eq 8, 3) := by decide +kernel
theorem d_Reader_readNewName_15 : decode prog_6_method_17_code 15 = .ok (.aload_n 0, 1) := by decide +kernel
theorem d_Reader_readNewName_16 : decode prog_6_method_17_code 16 = .ok (.iconst 3, 1) := by decide +kernel
theorem d_Reader_readNewName_17 : decode prog_6_method_17_code 17 = .ok (.invokevirtual 147, 3) := by decide +kernel
theorem d_Reader_readNewName_20 : decode prog_6_method_17_code 20 = .ok (.iload_n 2, 1) := by decide +kernel
theorem d_Reader_readNewName_21 : decode prog_6_method_17_code 21 = .ok (.ifCond .lt 16, 3) := by decide +kernel
theorem d_Reader_readNewName_24 : decode prog_6_method_17_code 24 = .ok (.iload_n 2, 1) := by decide +kernel
theorem d_Reader_readNewName_25 : decode prog_6_method_17_code 25 = .ok (.aload_n 1, 1) := by decide +kernel
theorem d_Reader_readNewName_26 : decode prog_6_method_17_code 26 = .ok (.arraylength, 1) := by decide +kernel
theorem d_Reader_readNewName_27 : decode prog_6_method_17_code 27 = .ok (.if_icmp .ge 10, 3) := by decide +kernel
theorem d_Reader_readNewName_30 : decode prog_6_method_17_code 30 = .ok (.aload_n 1, 1) := by decide +kernel
theorem d_Reader_readNewName_31 : decode prog_6_method_17_code 31 = .ok (.iload_n 2, 1) := by decide +kernel
theorem d_Reader_readNewName_32 : decode prog_6_method_17_code 32 = .ok (.aload_n 0, 1) := by decide +kernel
theorem d_Reader_readNewName_33 : decode prog_6_method_17_code 33 = .ok (.getfield 205, 3) := by decide +kernel
theorem d_Reader_readNewName_36 : decode prog_6_method_17_code 36 = .ok (.lastore, 1) := by decide +kernel
theorem d_Reader_readNewName_37 : decode prog_6_method_17_code 37 = .ok (.aload_n 0, 1) := by decide +kernel
theorem d_Reader_readNewName_38 : decode prog_6_method_17_code 38 = .ok (.iconst 3, 1) := by decide +kernel
theorem d_Reader_readNewName_39 : decode prog_6_method_17_code 39 = .ok (.invokevirtual 121, 3) := by decide +kernel
theorem d_Reader_readNewName_42 : decode prog_6_method_17_code 42 = .ok (.ireturn, 1) := by decide +kernel
theorem d_Reader_readNumber_0 : decode prog_6_method_20_code 0 = .ok (.aload_n 0, 1) := by decide +kernel
theorem d_Reader_readNumber_1 : decode prog_6_method_20_code 1 = .ok (.getfield 61, 3) := by decide +kernel
theorem d_Reader_readNumber_4 : decode prog_6_method_20_code 4 = .ok (.iconst 4, 1) := by decide +kernel
theorem d_Reader_readNumber_5 : decode prog_6_method_20_code 5 = .ok (.if_icmp .ne 18, 3) := by decide +kernel
theorem d_Reader_readNumber_8 : decode prog_6_method_20_code 8 = .ok (.aload_n 0, 1) := by decide +kernel
theorem d_Reader_readNumber_9 : decode prog_6_method_20_code 9 = .ok (.getfield 205, 3) := by decide +kernel
theorem d_Reader_readNumber_12 : decode prog_6_method_20_code 12 = .ok (.iload_n 1, 1) := by decide +kernel
theorem d_Reader_readNumber_13 : decode prog_6_method_20_code 13 = .ok (.i2l, 1) := by decide +kernel
theorem d_Reader_readNumber_14 : decode prog_6_method_20_code 14 = .ok (.lcmp, 1) := by decide +kernel
theorem d_Reader_readNumber_15 : decode prog_6_method_20_code 15 = .ok (.ifCond .le 8, 3) := by decide +kernel
theorem d_Reader_readNumber_18 : decode prog_6_method_20_code 18 = .ok (.aload_n 0, 1) := by decide +kernel
theorem d_Reader_readNumber_19 : decode prog_6_method_20_code 19 = .ok (.iconst 5, 1) := by decide +kernel
theorem d_Reader_readNumber_20 : decode prog_6_method_20_code 20 = .ok (.invokevirtual 147, 3) := by decide +kernel
theorem d_Reader_readNumber_23 : decode prog_6_method_20_code 23 = .ok (.aload_n 0, 1) := by decide +kernel
theorem d_Reader_readNumber_24 : decode prog_6_method_20_code 24 = .ok (.aload_n 0, 1) := by decide +kernel
theorem d_Reader_readNumber_25 : decode prog_6_method_20_code 25 = .ok (.getfield 205, 3) := by decide +kernel
theorem d_Reader_readNumber_28 : decode prog_6_method_20_code 28 = .ok (.l2i, 1) := by decide +kernel
theorem d_Reader_readNumber_29 : decode prog_6_method_20_code 29 = .ok (.putfield 115, 3) := by decide +kernel
theorem d_Reader_readNumber_32 : decode prog_6_method_20_code 32 = .ok (.aload_n 0, 1) := by decide +kernel
theorem d_Reader_readNumber_33 : decode prog_6_method_20_code 33 = .ok (.iconst 4, 1) := by decide +kernel
theorem d_Reader_readNumber_34 : decode prog_6_method_20_code 34 = .ok (.invokevirtual 121, 3) := by decide +kernel
theorem d_Reader_readNumber_37 : decode prog_6_method_20_code 37 = .ok (.ireturn, 1) := by decide +kernel
theorem d_Reader_readHanger_0 : decode prog_6_method_4_code 0 = .ok (.aload_n 0, 1) := by decide +kernel
theorem d_Reader_readHanger_1 : decode prog_6_method_4_code 1 = .ok (.getfield 12, 3) := by decide +kernel
theorem d_Reader_readHanger_4 : decode prog_6_method_4_code 4 = .ok (.getfield 98, 3) := by decide +kernel
theorem d_Reader_readHanger_7 : decode prog_6_method_4_code 7 = .ok (.istore_n 1, 1) := by decide +kernel
theorem d_Reader_readHanger_8 : decode prog_6_method_4_code 8 = .ok (.iload_n 1, 1) := by decide +kernel
theorem d_Reader_readHanger_9 : decode prog_6_method_4_code 9 = .ok (.bipush 7, 2) := by decide +kernel
theorem d_Reader_readHanger_11 : decode prog_6_method_4_code 11 = .ok (.if_icmp .lt 9, 3) := by decide +kernel
theorem d_Reader_readHanger_14 : decode prog_6_method_4_code 14 = .ok (.aload_n 0, 1) := by decide +kernel
theorem d_Reader_readHanger_15 : decode prog_6_method_4_code 15 = .ok (.iconst 2, 1) := by decide +kernel
theorem d_Reader_readHanger_16 : decode prog_6_method_4_code 16 = .ok (.invokevirtual 94, 3) := by decide +kernel
theorem d_Reader_readHanger_19 : decode prog_6_method_4_code 19 = .ok (.ireturn, 1) := by decide +kernel
theorem d_Reader_readHanger_20 : decode prog_6_method_4_code 20 = .ok (.aload_n 0, 1) := by decide +kernel
theorem d_Reader_readHanger_21 : decode prog_6_method_4_code 21 = .ok (.invokevirtual 101, 3) := by decide +kernel
theorem d_Reader_readHanger_24 : decode prog_6_method_4_code 24 = .ok (.ifCond .eq 23, 3) := by decide +kernel
theorem d_Reader_readHanger_27 : decode prog_6_method_4_code 27 = .ok (.aload_n 0, 1) := by decide +kernel
theorem d_Reader_readHanger_28 : decode prog_6_method_4_code 28 = .ok (.aload_n 0, 1) := by decide +kernel
theorem d_Reader_readHanger_29 : decode prog_6_method_4_code 29 = .ok (.getfield 18, 3) := by decide +kernel
theorem d_Reader_readHanger_32 : decode prog_6_method_4_code 32 = .ok (.iload_n 1, 1) := by decide +kernel
theorem d_Reader_readHanger_33 : decode prog_6_method_4_code 33 = .ok (.invokevirtual 104, 3) := by decide +kernel
theorem d_Reader_readHanger_36 : decode prog_6_method_4_code 36 = .ok (.ifCond .eq 11, 3) := by decide +kernel
theorem d_Reader_readHanger_39 : decode prog_6_method_4_code 39 = .ok (.aload_n 0, 1) := by decide +kernel
theorem d_Reader_readHanger_40 : decode prog_6_method_4_code 40 = .ok (.iconst 4, 1) := by decide +kernel
theorem d_Reader_readHanger_41 : decode prog_6_method_4_code 41 = .ok (.invokevirtual 108, 3) := by decide +kernel
theorem d_Reader_readHanger_44 : decode prog_6_method_4_code 44 = .ok (.ifCond .ne 5, 3) := by decide +kernel
theorem d_Reader_readHanger_47 : decode prog_6_method_4_code 47 = .ok (.iconst 0, 1) := by decide +kernel
theorem d_Reader_readHanger_48 : decode prog_6_method_4_code 48 = .ok (.ireturn, 1) := by decide +kernel
theorem d_Reader_readHanger_49 : decode prog_6_method_4_code 49 = .ok (.aload_n 0, 1) := by decide +kernel
theorem d_Reader_readHanger_50 : decode prog_6_method_4_code 50 = .ok (.getfield 12, 3) := by decide +kernel
theorem d_Reader_readHanger_53 : decode prog_6_method_4_code 53 = .ok (.getfield 111, 3) := by decide +kernel
theorem d_Reader_readHanger_56 : decode prog_6_method_4_code 56 = .ok (.iload_n 1, 1) := by decide +kernel
theorem d_Reader_readHanger_57 : decode prog_6_method_4_code 57 = .ok (.aload_n 0, 1) := by decide +kernel
theorem d_Reader_readHanger_58 : decode prog_6_method_4_code 58 = .ok (.getfield 115, 3) := by decide +kernel
theorem d_Reader_readHanger_61 : decode prog_6_method_4_code 61 = .ok (.iastore, 1) := by decide +kernel
theorem d_Reader_readHanger_62 : decode prog_6_method_4_code 62 = .ok (.aload_n 0, 1) := by decide +kernel
theorem d_Reader_readHanger_63 : decode prog_6_method_4_code 63 = .ok (.bipush 99, 2) := by decide +kernel
theorem d_Reader_readHanger_65 : decode prog_6_method_4_code 65 = .ok (.invokevirtual 108, 3) := by decide +kernel
theorem d_Reader_readHanger_68 : decode prog_6_method_4_code 68 = .ok (.ifCond .ne 5, 3) := by decide +kernel
theorem d_Reader_readHanger_71 : decode prog_6_method_4_code 71 = .ok (.iconst 0, 1) := by decide +kernel
theorem d_Reader_readHanger_72 : decode prog_6_method_4_code 72 = .ok (.ireturn, 1) := by decide +kernel
theorem d_Reader_readHanger_73 : decode prog_6_method_4_code 73 = .ok (.aload_n 0, 1) := by decide +kernel
theorem d_Reader_readHanger_74 : decode prog_6_method_4_code 74 = .ok (.getfield 12, 3) := by decide +kernel
theorem d_Reader_readHanger_77 : decode prog_6_method_4_code 77 = .ok (.getfield 118, 3) := by decide +kernel
theorem d_Reader_readHanger_80 : decode prog_6_method_4_code 80 = .ok (.iload_n 1, 1) := by decide +kernel
theorem d_Reader_readHanger_81 : decode prog_6_method_4_code 81 = .ok (.aload_n 0, 1) := by decide +kernel
theorem d_Reader_readHanger_82 : decode prog_6_method_4_code 82 = .ok (.getfield 115, 3) := by decide +kernel
theorem d_Reader_readHanger_85 : decode prog_6_method_4_code 85 = .ok (.iastore, 1) := by decide +kernel
theorem d_Reader_readHanger_86 : decode prog_6_method_4_code 86 = .ok (.aload_n 0, 1) := by decide +kernel
theorem d_Reader_readHanger_87 : decode prog_6_method_4_code 87 = .ok (.getfield 12, 3) := by decide +kernel
theorem d_Reader_readHanger_90 : decode prog_6_method_4_code 90 = .ok (.dup, 1) := by decide +kernel
theorem d_Reader_readHanger_91 : decode prog_6_method_4_code 91 = .ok (.getfield 98, 3) := by decide +kernel
theorem d_Reader_readHanger_94 : decode prog_6_method_4_code 94 = .ok (.iconst 1, 1) := by decide +kernel
theorem d_Reader_readHanger_95 : decode prog_6_method_4_code 95 = .ok (.iadd, 1) := by decide +kernel
theorem d_Reader_readHanger_96 : decode prog_6_method_4_code 96 = .ok (.putfield 98, 3) := by decide +kernel
theorem d_Reader_readHanger_99 : decode prog_6_method_4_code 99 = .ok (.aload_n 0, 1) := by decide +kernel
theorem d_Reader_readHanger_100 : decode prog_6_method_4_code 100 = .ok (.bipush 59, 2) := by decide +kernel
theorem d_Reader_readHanger_102 : decode prog_6_method_4_code 102 = .ok (.invokevirtual 121, 3) := by decide +kernel
theorem d_Reader_readHanger_105 : decode prog_6_method_4_code 105 = .ok (.ireturn, 1) := by decide +kernel
theorem d_Reader_hangerNamed_0 : decode prog_6_method_8_code 0 = .ok (.aload_n 0, 1) := by decide +kernel
theorem d_Reader_hangerNamed_1 : decode prog_6_method_8_code 1 = .ok (.aload_n 0, 1) := by decide +kernel
theorem d_Reader_hangerNamed_2 : decode prog_6_method_8_code 2 = .ok (.getfield 18, 3) := by decide +kernel
theorem d_Reader_hangerNamed_5 : decode prog_6_method_8_code 5 = .ok (.aload_n 0, 1) := by decide +kernel
theorem d_Reader_hangerNamed_6 : decode prog_6_method_8_code 6 = .ok (.getfield 12, 3) := by decide +kernel
theorem d_Reader_hangerNamed_9 : decode prog_6_method_8_code 9 = .ok (.getfield 98, 3) := by decide +kernel
theorem d_Reader_hangerNamed_12 : decode prog_6_method_8_code 12 = .ok (.invokevirtual 143, 3) := by decide +kernel
theorem d_Reader_hangerNamed_15 : decode prog_6_method_8_code 15 = .ok (.istore_n 1, 1) := by decide +kernel
theorem d_Reader_hangerNamed_16 : decode prog_6_method_8_code 16 = .ok (.iload_n 1, 1) := by decide +kernel
theorem d_Reader_hangerNamed_17 : decode prog_6_method_8_code 17 = .ok (.ifCond .ge 11, 3) := by decide +kernel
theorem d_Reader_hangerNamed_20 : decode prog_6_method_8_code 20 = .ok (.aload_n 0, 1) := by decide +kernel
theorem d_Reader_hangerNamed_21 : decode prog_6_method_8_code 21 = .ok (.iconst 4, 1) := by decide +kernel
theorem d_Reader_hangerNamed_22 : decode prog_6_method_8_code 22 = .ok (.invokevirtual 147, 3) := by decide +kernel
theorem d_Reader_hangerNamed_25 : decode prog_6_method_8_code 25 = .ok (.goto 19, 3) := by decide +kernel
theorem d_Reader_hangerNamed_28 : decode prog_6_method_8_code 28 = .ok (.aload_n 0, 1) := by decide +kernel
theorem d_Reader_hangerNamed_29 : decode prog_6_method_8_code 29 = .ok (.getfield 12, 3) := by decide +kernel
theorem d_Reader_hangerNamed_32 : decode prog_6_method_8_code 32 = .ok (.iload_n 1, 1) := by decide +kernel
theorem d_Reader_hangerNamed_33 : decode prog_6_method_8_code 33 = .ok (.invokevirtual 150, 3) := by decide +kernel
theorem d_Reader_hangerNamed_36 : decode prog_6_method_8_code 36 = .ok (.ifCond .eq 8, 3) := by decide +kernel
theorem d_Reader_hangerNamed_39 : decode prog_6_method_8_code 39 = .ok (.aload_n 0, 1) := by decide +kernel
theorem d_Reader_hangerNamed_40 : decode prog_6_method_8_code 40 = .ok (.iconst 3, 1) := by decide +kernel
theorem d_Reader_hangerNamed_41 : decode prog_6_method_8_code 41 = .ok (.invokevirtual 147, 3) := by decide +kernel
theorem d_Reader_hangerNamed_44 : decode prog_6_method_8_code 44 = .ok (.iload_n 1, 1) := by decide +kernel
theorem d_Reader_hangerNamed_45 : decode prog_6_method_8_code 45 = .ok (.ireturn, 1) := by decide +kernel
theorem d_Reader_personNamed_0 : decode prog_6_method_7_code 0 = .ok (.aload_n 0, 1) := by decide +kernel
theorem d_Reader_personNamed_1 : decode prog_6_method_7_code 1 = .ok (.aload_n 0, 1) := by decide +kernel
theorem d_Reader_personNamed_2 : decode prog_6_method_7_code 2 = .ok (.getfield 22, 3) := by decide +kernel
theorem d_Reader_personNamed_5 : decode prog_6_method_7_code 5 = .ok (.aload_n 0, 1) := by decide +kernel
theorem d_Reader_personNamed_6 : decode prog_6_method_7_code 6 = .ok (.getfield 12, 3) := by decide +kernel
theorem d_Reader_personNamed_9 : decode prog_6_method_7_code 9 = .ok (.getfield 124, 3) := by decide +kernel
theorem d_Reader_personNamed_12 : decode prog_6_method_7_code 12 = .ok (.invokevirtual 143, 3) := by decide +kernel
theorem d_Reader_personNamed_15 : decode prog_6_method_7_code 15 = .ok (.istore_n 1, 1) := by decide +kernel
theorem d_Reader_personNamed_16 : decode prog_6_method_7_code 16 = .ok (.iload_n 1, 1) := by decide +kernel
theorem d_Reader_personNamed_17 : decode prog_6_method_7_code 17 = .ok (.ifCond .ge 11, 3) := by decide +kernel
theorem d_Reader_personNamed_20 : decode prog_6_method_7_code 20 = .ok (.aload_n 0, 1) := by decide +kernel
theorem d_Reader_personNamed_21 : decode prog_6_method_7_code 21 = .ok (.iconst 4, 1) := by decide +kernel
theorem d_Reader_personNamed_22 : decode prog_6_method_7_code 22 = .ok (.invokevirtual 147, 3) := by decide +kernel
theorem d_Reader_personNamed_25 : decode prog_6_method_7_code 25 = .ok (.goto 20, 3) := by decide +kernel
theorem d_Reader_personNamed_28 : decode prog_6_method_7_code 28 = .ok (.aload_n 0, 1) := by decide +kernel
theorem d_Reader_personNamed_29 : decode prog_6_method_7_code 29 = .ok (.getfield 12, 3) := by decide +kernel
theorem d_Reader_personNamed_32 : decode prog_6_method_7_code 32 = .ok (.getfield 140, 3) := by decide +kernel
theorem d_Reader_personNamed_35 : decode prog_6_method_7_code 35 = .ok (.iload_n 1, 1) := by decide +kernel
theorem d_Reader_personNamed_36 : decode prog_6_method_7_code 36 = .ok (.iaload, 1) := by decide +kernel
theorem d_Reader_personNamed_37 : decode prog_6_method_7_code 37 = .ok (.ifCond .lt 8, 3) := by decide +kernel
theorem d_Reader_personNamed_40 : decode prog_6_method_7_code 40 = .ok (.aload_n 0, 1) := by decide +kernel
theorem d_Reader_personNamed_41 : decode prog_6_method_7_code 41 = .ok (.iconst 3, 1) := by decide +kernel
theorem d_Reader_personNamed_42 : decode prog_6_method_7_code 42 = .ok (.invokevirtual 147, 3) := by decide +kernel
theorem d_Reader_personNamed_45 : decode prog_6_method_7_code 45 = .ok (.iload_n 1, 1) := by decide +kernel
theorem d_Reader_personNamed_46 : decode prog_6_method_7_code 46 = .ok (.ireturn, 1) := by decide +kernel
theorem d_Reader_readHangs_0 : decode prog_6_method_6_code 0 = .ok (.aload_n 0, 1) := by decide +kernel
theorem d_Reader_readHangs_1 : decode prog_6_method_6_code 1 = .ok (.getfield 46, 3) := by decide +kernel
theorem d_Reader_readHangs_4 : decode prog_6_method_6_code 4 = .ok (.bipush 6, 2) := by decide +kernel
theorem d_Reader_readHangs_6 : decode prog_6_method_6_code 6 = .ok (.if_icmp .lt 9, 3) := by decide +kernel
theorem d_Reader_readHangs_9 : decode prog_6_method_6_code 9 = .ok (.aload_n 0, 1) := by decide +kernel
theorem d_Reader_readHangs_10 : decode prog_6_method_6_code 10 = .ok (.iconst 2, 1) := by decide +kernel
theorem d_Reader_readHangs_11 : decode prog_6_method_6_code 11 = .ok (.invokevirtual 94, 3) := by decide +kernel
theorem d_Reader_readHangs_14 : decode prog_6_method_6_code 14 = .ok (.ireturn, 1) := by decide +kernel
theorem d_Reader_readHangs_15 : decode prog_6_method_6_code 15 = .ok (.aload_n 0, 1) := by decide +kernel
theorem d_Reader_readHangs_16 : decode prog_6_method_6_code 16 = .ok (.dup, 1) := by decide +kernel
theorem d_Reader_readHangs_17 : decode prog_6_method_6_code 17 = .ok (.getfield 46, 3) := by decide +kernel
theorem d_Reader_readHangs_20 : decode prog_6_method_6_code 20 = .ok (.iconst 1, 1) := by decide +kernel
theorem d_Reader_readHangs_21 : decode prog_6_method_6_code 21 = .ok (.iadd, 1) := by decide +kernel
theorem d_Reader_readHangs_22 : decode prog_6_method_6_code 22 = .ok (.putfield 46, 3) := by decide +kernel
theorem d_Reader_readHangs_25 : decode prog_6_method_6_code 25 = .ok (.aload_n 0, 1) := by decide +kernel
theorem d_Reader_readHangs_26 : decode prog_6_method_6_code 26 = .ok (.invokevirtual 101, 3) := by decide +kernel
theorem d_Reader_readHangs_29 : decode prog_6_method_6_code 29 = .ok (.ifCond .ne 5, 3) := by decide +kernel
theorem d_Reader_readHangs_32 : decode prog_6_method_6_code 32 = .ok (.iconst 0, 1) := by decide +kernel
theorem d_Reader_readHangs_33 : decode prog_6_method_6_code 33 = .ok (.ireturn, 1) := by decide +kernel
theorem d_Reader_readHangs_34 : decode prog_6_method_6_code 34 = .ok (.aload_n 0, 1) := by decide +kernel
theorem d_Reader_readHangs_35 : decode prog_6_method_6_code 35 = .ok (.invokevirtual 133, 3) := by decide +kernel
theorem d_Reader_readHangs_38 : decode prog_6_method_6_code 38 = .ok (.istore_n 1, 1) := by decide +kernel
theorem d_Reader_readHangs_39 : decode prog_6_method_6_code 39 = .ok (.aload_n 0, 1) := by decide +kernel
theorem d_Reader_readHangs_40 : decode prog_6_method_6_code 40 = .ok (.iconst 3, 1) := by decide +kernel
theorem d_Reader_readHangs_41 : decode prog_6_method_6_code 41 = .ok (.invokevirtual 121, 3) := by decide +kernel
theorem d_Reader_readHangs_44 : decode prog_6_method_6_code 44 = .ok (.ifCond .ne 5, 3) := by decide +kernel
theorem d_Reader_readHangs_47 : decode prog_6_method_6_code 47 = .ok (.iconst 0, 1) := by decide +kernel
theorem d_Reader_readHangs_48 : decode prog_6_method_6_code 48 = .ok (.ireturn, 1) := by decide +kernel
theorem d_Reader_readHangs_49 : decode prog_6_method_6_code 49 = .ok (.aload_n 0, 1) := by decide +kernel
theorem d_Reader_readHangs_50 : decode prog_6_method_6_code 50 = .ok (.invokevirtual 137, 3) := by decide +kernel
theorem d_Reader_readHangs_53 : decode prog_6_method_6_code 53 = .ok (.istore_n 2, 1) := by decide +kernel
theorem d_Reader_readHangs_54 : decode prog_6_method_6_code 54 = .ok (.aload_n 0, 1) := by decide +kernel
theorem d_Reader_readHangs_55 : decode prog_6_method_6_code 55 = .ok (.iconst 3, 1) := by decide +kernel
theorem d_Reader_readHangs_56 : decode prog_6_method_6_code 56 = .ok (.invokevirtual 121, 3) := by decide +kernel
theorem d_Reader_readHangs_59 : decode prog_6_method_6_code 59 = .ok (.ifCond .ne 5, 3) := by decide +kernel
theorem d_Reader_readHangs_62 : decode prog_6_method_6_code 62 = .ok (.iconst 0, 1) := by decide +kernel
theorem d_Reader_readHangs_63 : decode prog_6_method_6_code 63 = .ok (.ireturn, 1) := by decide +kernel
theorem d_Reader_readHangs_64 : decode prog_6_method_6_code 64 = .ok (.iload_n 1, 1) := by decide +kernel
theorem d_Reader_readHangs_65 : decode prog_6_method_6_code 65 = .ok (.ifCond .lt 17, 3) := by decide +kernel
theorem d_Reader_readHangs_68 : decode prog_6_method_6_code 68 = .ok (.iload_n 2, 1) := by decide +kernel
theorem d_Reader_readHangs_69 : decode prog_6_method_6_code 69 = .ok (.ifCond .lt 13, 3) := by decide +kernel
theorem d_Reader_readHangs_72 : decode prog_6_method_6_code 72 = .ok (.aload_n 0, 1) := by decide +kernel
theorem d_Reader_readHangs_73 : decode prog_6_method_6_code 73 = .ok (.getfield 12, 3) := by decide +kernel
theorem d_Reader_readHangs_76 : decode prog_6_method_6_code 76 = .ok (.getfield 140, 3) := by decide +kernel
theorem d_Reader_readHangs_79 : decode prog_6_method_6_code 79 = .ok (.iload_n 1, 1) := by decide +kernel
theorem d_Reader_readHangs_80 : decode prog_6_method_6_code 80 = .ok (.iload_n 2, 1) := by decide +kernel
theorem d_Reader_readHangs_81 : decode prog_6_method_6_code 81 = .ok (.iastore, 1) := by decide +kernel
theorem d_Reader_readHangs_82 : decode prog_6_method_6_code 82 = .ok (.aload_n 0, 1) := by decide +kernel
theorem d_Reader_readHangs_83 : decode prog_6_method_6_code 83 = .ok (.bipush 59, 2) := by decide +kernel
theorem d_Reader_readHangs_85 : decode prog_6_method_6_code 85 = .ok (.invokevirtual 121, 3) := by decide +kernel
theorem d_Reader_readHangs_88 : decode prog_6_method_6_code 88 = .ok (.ireturn, 1) := by decide +kernel
theorem d_Reader_readMoth_0 : decode prog_6_method_9_code 0 = .ok (.aload_n 0, 1) := by decide +kernel
theorem d_Reader_readMoth_1 : decode prog_6_method_9_code 1 = .ok (.invokevirtual 101, 3) := by decide +kernel
theorem d_Reader_readMoth_4 : decode prog_6_method_9_code 4 = .ok (.ifCond .eq 12, 3) := by decide +kernel
theorem d_Reader_readMoth_7 : decode prog_6_method_9_code 7 = .ok (.aload_n 0, 1) := by decide +kernel
theorem d_Reader_readMoth_8 : decode prog_6_method_9_code 8 = .ok (.bipush 100, 2) := by decide +kernel
theorem d_Reader_readMoth_10 : decode prog_6_method_9_code 10 = .ok (.invokevirtual 108, 3) := by decide +kernel
theorem d_Reader_readMoth_13 : decode prog_6_method_9_code 13 = .ok (.ifCond .ne 5, 3) := by decide +kernel
theorem d_Reader_readMoth_16 : decode prog_6_method_9_code 16 = .ok (.iconst 0, 1) := by decide +kernel
theorem d_Reader_readMoth_17 : decode prog_6_method_9_code 17 = .ok (.ireturn, 1) := by decide +kernel
theorem d_Reader_readMoth_18 : decode prog_6_method_9_code 18 = .ok (.aload_n 0, 1) := by decide +kernel
theorem d_Reader_readMoth_19 : decode prog_6_method_9_code 19 = .ok (.getfield 12, 3) := by decide +kernel
theorem d_Reader_readMoth_22 : decode prog_6_method_9_code 22 = .ok (.aload_n 0, 1) := by decide +kernel
theorem d_Reader_readMoth_23 : decode prog_6_method_9_code 23 = .ok (.getfield 115, 3) := by decide +kernel
theorem d_Reader_readMoth_26 : decode prog_6_method_9_code 26 = .ok (.putfield 153, 3) := by decide +kernel
theorem d_Reader_readMoth_29 : decode prog_6_method_9_code 29 = .ok (.aload_n 0, 1) := by decide +kernel
theorem d_Reader_readMoth_30 : decode prog_6_method_9_code 30 = .ok (.bipush 59, 2) := by decide +kernel
theorem d_Reader_readMoth_32 : decode prog_6_method_9_code 32 = .ok (.invokevirtual 121, 3) := by decide +kernel
theorem d_Reader_readMoth_35 : decode prog_6_method_9_code 35 = .ok (.ireturn, 1) := by decide +kernel
theorem d_Reader_readPerson_0 : decode prog_6_method_5_code 0 = .ok (.aload_n 0, 1) := by decide +kernel
theorem d_Reader_readPerson_1 : decode prog_6_method_5_code 1 = .ok (.getfield 12, 3) := by decide +kernel
theorem d_Reader_readPerson_4 : decode prog_6_method_5_code 4 = .ok (.getfield 124, 3) := by decide +kernel
theorem d_Reader_readPerson_7 : decode prog_6_method_5_code 7 = .ok (.istore_n 1, 1) := by decide +kernel
theorem d_Reader_readPerson_8 : decode prog_6_method_5_code 8 = .ok (.iload_n 1, 1) := by decide +kernel
theorem d_Reader_readPerson_9 : decode prog_6_method_5_code 9 = .ok (.bipush 6, 2) := by decide +kernel
theorem d_Reader_readPerson_11 : decode prog_6_method_5_code 11 = .ok (.if_icmp .lt 9, 3) := by decide +kernel
theorem d_Reader_readPerson_14 : decode prog_6_method_5_code 14 = .ok (.aload_n 0, 1) := by decide +kernel
theorem d_Reader_readPerson_15 : decode prog_6_method_5_code 15 = .ok (.iconst 2, 1) := by decide +kernel
theorem d_Reader_readPerson_16 : decode prog_6_method_5_code 16 = .ok (.invokevirtual 94, 3) := by decide +kernel
theorem d_Reader_readPerson_19 : decode prog_6_method_5_code 19 = .ok (.ireturn, 1) := by decide +kernel
theorem d_Reader_readPerson_20 : decode prog_6_method_5_code 20 = .ok (.aload_n 0, 1) := by decide +kernel
theorem d_Reader_readPerson_21 : decode prog_6_method_5_code 21 = .ok (.invokevirtual 101, 3) := by decide +kernel
theorem d_Reader_readPerson_24 : decode prog_6_method_5_code 24 = .ok (.ifCond .eq 24, 3) := by decide +kernel
theorem d_Reader_readPerson_27 : decode prog_6_method_5_code 27 = .ok (.aload_n 0, 1) := by decide +kernel
theorem d_Reader_readPerson_28 : decode prog_6_method_5_code 28 = .ok (.aload_n 0, 1) := by decide +kernel
theorem d_Reader_readPerson_29 : decode prog_6_method_5_code 29 = .ok (.getfield 22, 3) := by decide +kernel
theorem d_Reader_readPerson_32 : decode prog_6_method_5_code 32 = .ok (.iload_n 1, 1) := by decide +kernel
theorem d_Reader_readPerson_33 : decode prog_6_method_5_code 33 = .ok (.invokevirtual 104, 3) := by decide +kernel
theorem d_Reader_readPerson_36 : decode prog_6_method_5_code 36 = .ok (.ifCond .eq 12, 3) := by decide +kernel
theorem d_Reader_readPerson_39 : decode prog_6_method_5_code 39 = .ok (.aload_n 0, 1) := by decide +kernel
theorem d_Reader_readPerson_40 : decode prog_6_method_5_code 40 = .ok (.bipush 99, 2) := by decide +kernel
theorem d_Reader_readPerson_42 : decode prog_6_method_5_code 42 = .ok (.invokevirtual 108, 3) := by decide +kernel
theorem d_Reader_readPerson_45 : decode prog_6_method_5_code 45 = .ok (.ifCond .ne 5, 3) := by decide +kernel
theorem d_Reader_readPerson_48 : decode prog_6_method_5_code 48 = .ok (.iconst 0, 1) := by decide +kernel
theorem d_Reader_readPerson_49 : decode prog_6_method_5_code 49 = .ok (.ireturn, 1) := by decide +kernel
theorem d_Reader_readPerson_50 : decode prog_6_method_5_code 50 = .ok (.aload_n 0, 1) := by decide +kernel
theorem d_Reader_readPerson_51 : decode prog_6_method_5_code 51 = .ok (.getfield 12, 3) := by decide +kernel
theorem d_Reader_readPerson_54 : decode prog_6_method_5_code 54 = .ok (.getfield 127, 3) := by decide +kernel
theorem d_Reader_readPerson_57 : decode prog_6_method_5_code 57 = .ok (.iload_n 1, 1) := by decide +kernel
theorem d_Reader_readPerson_58 : decode prog_6_method_5_code 58 = .ok (.aload_n 0, 1) := by decide +kernel
theorem d_Reader_readPerson_59 : decode prog_6_method_5_code 59 = .ok (.getfield 115, 3) := by decide +kernel
theorem d_Reader_readPerson_62 : decode prog_6_method_5_code 62 = .ok (.iastore, 1) := by decide +kernel
theorem d_Reader_readPerson_63 : decode prog_6_method_5_code 63 = .ok (.aload_n 0, 1) := by decide +kernel
theorem d_Reader_readPerson_64 : decode prog_6_method_5_code 64 = .ok (.bipush 9, 2) := by decide +kernel
theorem d_Reader_readPerson_66 : decode prog_6_method_5_code 66 = .ok (.invokevirtual 108, 3) := by decide +kernel
theorem d_Reader_readPerson_69 : decode prog_6_method_5_code 69 = .ok (.ifCond .ne 5, 3) := by decide +kernel
theorem d_Reader_readPerson_72 : decode prog_6_method_5_code 72 = .ok (.iconst 0, 1) := by decide +kernel
theorem d_Reader_readPerson_73 : decode prog_6_method_5_code 73 = .ok (.ireturn, 1) := by decide +kernel
theorem d_Reader_readPerson_74 : decode prog_6_method_5_code 74 = .ok (.aload_n 0, 1) := by decide +kernel
theorem d_Reader_readPerson_75 : decode prog_6_method_5_code 75 = .ok (.getfield 12, 3) := by decide +kernel
theorem d_Reader_readPerson_78 : decode prog_6_method_5_code 78 = .ok (.getfield 130, 3) := by decide +kernel
theorem d_Reader_readPerson_81 : decode prog_6_method_5_code 81 = .ok (.iload_n 1, 1) := by decide +kernel
theorem d_Reader_readPerson_82 : decode prog_6_method_5_code 82 = .ok (.aload_n 0, 1) := by decide +kernel
theorem d_Reader_readPerson_83 : decode prog_6_method_5_code 83 = .ok (.getfield 115, 3) := by decide +kernel
theorem d_Reader_readPerson_86 : decode prog_6_method_5_code 86 = .ok (.iastore, 1) := by decide +kernel
theorem d_Reader_readPerson_87 : decode prog_6_method_5_code 87 = .ok (.aload_n 0, 1) := by decide +kernel
theorem d_Reader_readPerson_88 : decode prog_6_method_5_code 88 = .ok (.getfield 12, 3) := by decide +kernel
theorem d_Reader_readPerson_91 : decode prog_6_method_5_code 91 = .ok (.dup, 1) := by decide +kernel
theorem d_Reader_readPerson_92 : decode prog_6_method_5_code 92 = .ok (.getfield 124, 3) := by decide +kernel
theorem d_Reader_readPerson_95 : decode prog_6_method_5_code 95 = .ok (.iconst 1, 1) := by decide +kernel
theorem d_Reader_readPerson_96 : decode prog_6_method_5_code 96 = .ok (.iadd, 1) := by decide +kernel
theorem d_Reader_readPerson_97 : decode prog_6_method_5_code 97 = .ok (.putfield 124, 3) := by decide +kernel
theorem d_Reader_readPerson_100 : decode prog_6_method_5_code 100 = .ok (.aload_n 0, 1) := by decide +kernel
theorem d_Reader_readPerson_101 : decode prog_6_method_5_code 101 = .ok (.bipush 59, 2) := by decide +kernel
theorem d_Reader_readPerson_103 : decode prog_6_method_5_code 103 = .ok (.invokevirtual 121, 3) := by decide +kernel
theorem d_Reader_readPerson_106 : decode prog_6_method_5_code 106 = .ok (.ireturn, 1) := by decide +kernel
theorem d_Reader_readSeed_0 : decode prog_6_method_10_code 0 = .ok (.aload_n 0, 1) := by decide +kernel
theorem d_Reader_readSeed_1 : decode prog_6_method_10_code 1 = .ok (.invokevirtual 101, 3) := by decide +kernel
theorem d_Reader_readSeed_4 : decode prog_6_method_10_code 4 = .ok (.ifCond .eq 13, 3) := by decide +kernel
theorem d_Reader_readSeed_7 : decode prog_6_method_10_code 7 = .ok (.aload_n 0, 1) := by decide +kernel
theorem d_Reader_readSeed_8 : decode prog_6_method_10_code 8 = .ok (.sipush 9999, 3) := by decide +kernel
theorem d_Reader_readSeed_11 : decode prog_6_method_10_code 11 = .ok (.invokevirtual 108, 3) := by decide +kernel
theorem d_Reader_readSeed_14 : decode prog_6_method_10_code 14 = .ok (.ifCond .ne 5, 3) := by decide +kernel
theorem d_Reader_readSeed_17 : decode prog_6_method_10_code 17 = .ok (.iconst 0, 1) := by decide +kernel
theorem d_Reader_readSeed_18 : decode prog_6_method_10_code 18 = .ok (.ireturn, 1) := by decide +kernel
theorem d_Reader_readSeed_19 : decode prog_6_method_10_code 19 = .ok (.aload_n 0, 1) := by decide +kernel
theorem d_Reader_readSeed_20 : decode prog_6_method_10_code 20 = .ok (.getfield 12, 3) := by decide +kernel
theorem d_Reader_readSeed_23 : decode prog_6_method_10_code 23 = .ok (.aload_n 0, 1) := by decide +kernel
theorem d_Reader_readSeed_24 : decode prog_6_method_10_code 24 = .ok (.getfield 115, 3) := by decide +kernel
theorem d_Reader_readSeed_27 : decode prog_6_method_10_code 27 = .ok (.putfield 156, 3) := by decide +kernel
theorem d_Reader_readSeed_30 : decode prog_6_method_10_code 30 = .ok (.aload_n 0, 1) := by decide +kernel
theorem d_Reader_readSeed_31 : decode prog_6_method_10_code 31 = .ok (.bipush 59, 2) := by decide +kernel
theorem d_Reader_readSeed_33 : decode prog_6_method_10_code 33 = .ok (.invokevirtual 121, 3) := by decide +kernel
theorem d_Reader_readSeed_36 : decode prog_6_method_10_code 36 = .ok (.ireturn, 1) := by decide +kernel
theorem d_Reader_readTell_0 : decode prog_6_method_3_code 0 = .ok (.aload_n 0, 1) := by decide +kernel
theorem d_Reader_readTell_1 : decode prog_6_method_3_code 1 = .ok (.getfield 61, 3) := by decide +kernel
theorem d_Reader_readTell_4 : decode prog_6_method_3_code 4 = .ok (.tableswitch 77 256 264 #[52, 57, 62, 77, 77, 77, 77, 67, 72], 52) := by decide +kernel
theorem d_Reader_readTell_56 : decode prog_6_method_3_code 56 = .ok (.aload_n 0, 1) := by decide +kernel
theorem d_Reader_readTell_57 : decode prog_6_method_3_code 57 = .ok (.invokevirtual 79, 3) := by decide +kernel
theorem d_Reader_readTell_60 : decode prog_6_method_3_code 60 = .ok (.ireturn, 1) := by decide +kernel
theorem d_Reader_readTell_61 : decode prog_6_method_3_code 61 = .ok (.aload_n 0, 1) := by decide +kernel
theorem d_Reader_readTell_62 : decode prog_6_method_3_code 62 = .ok (.invokevirtual 82, 3) := by decide +kernel
theorem d_Reader_readTell_65 : decode prog_6_method_3_code 65 = .ok (.ireturn, 1) := by decide +kernel
theorem d_Reader_readTell_66 : decode prog_6_method_3_code 66 = .ok (.aload_n 0, 1) := by decide +kernel
theorem d_Reader_readTell_67 : decode prog_6_method_3_code 67 = .ok (.invokevirtual 85, 3) := by decide +kernel
theorem d_Reader_readTell_70 : decode prog_6_method_3_code 70 = .ok (.ireturn, 1) := by decide +kernel
theorem d_Reader_readTell_71 : decode prog_6_method_3_code 71 = .ok (.aload_n 0, 1) := by decide +kernel
theorem d_Reader_readTell_72 : decode prog_6_method_3_code 72 = .ok (.invokevirtual 88, 3) := by decide +kernel
theorem d_Reader_readTell_75 : decode prog_6_method_3_code 75 = .ok (.ireturn, 1) := by decide +kernel
theorem d_Reader_readTell_76 : decode prog_6_method_3_code 76 = .ok (.aload_n 0, 1) := by decide +kernel
theorem d_Reader_readTell_77 : decode prog_6_method_3_code 77 = .ok (.invokevirtual 91, 3) := by decide +kernel
theorem d_Reader_readTell_80 : decode prog_6_method_3_code 80 = .ok (.ireturn, 1) := by decide +kernel
theorem d_Reader_readTell_81 : decode prog_6_method_3_code 81 = .ok (.aload_n 0, 1) := by decide +kernel
theorem d_Reader_readTell_82 : decode prog_6_method_3_code 82 = .ok (.iconst 1, 1) := by decide +kernel
theorem d_Reader_readTell_83 : decode prog_6_method_3_code 83 = .ok (.invokevirtual 94, 3) := by decide +kernel
theorem d_Reader_readTell_86 : decode prog_6_method_3_code 86 = .ok (.ireturn, 1) := by decide +kernel
theorem d_Reader_readAll_0 : decode prog_6_method_2_code 0 = .ok (.aload_n 0, 1) := by decide +kernel
theorem d_Reader_readAll_1 : decode prog_6_method_2_code 1 = .ok (.iconst 0, 1) := by decide +kernel
theorem d_Reader_readAll_2 : decode prog_6_method_2_code 2 = .ok (.putfield 40, 3) := by decide +kernel
theorem d_Reader_readAll_5 : decode prog_6_method_2_code 5 = .ok (.aload_n 0, 1) := by decide +kernel
theorem d_Reader_readAll_6 : decode prog_6_method_2_code 6 = .ok (.iconst (-1), 1) := by decide +kernel
theorem d_Reader_readAll_7 : decode prog_6_method_2_code 7 = .ok (.putfield 32, 3) := by decide +kernel
theorem d_Reader_readAll_10 : decode prog_6_method_2_code 10 = .ok (.aload_n 0, 1) := by decide +kernel
theorem d_Reader_readAll_11 : decode prog_6_method_2_code 11 = .ok (.iconst 0, 1) := by decide +kernel
theorem d_Reader_readAll_12 : decode prog_6_method_2_code 12 = .ok (.putfield 43, 3) := by decide +kernel
theorem d_Reader_readAll_15 : decode prog_6_method_2_code 15 = .ok (.aload_n 0, 1) := by decide +kernel
theorem d_Reader_readAll_16 : decode prog_6_method_2_code 16 = .ok (.iconst 0, 1) := by decide +kernel
theorem d_Reader_readAll_17 : decode prog_6_method_2_code 17 = .ok (.putfield 46, 3) := by decide +kernel
theorem d_Reader_readAll_20 : decode prog_6_method_2_code 20 = .ok (.aload_n 0, 1) := by decide +kernel
theorem d_Reader_readAll_21 : decode prog_6_method_2_code 21 = .ok (.getfield 12, 3) := by decide +kernel
theorem d_Reader_readAll_24 : decode prog_6_method_2_code 24 = .ok (.invokevirtual 49, 3) := by decide +kernel
theorem d_Reader_readAll_27 : decode prog_6_method_2_code 27 = .ok (.aload_n 0, 1) := by decide +kernel
theorem d_Reader_readAll_28 : decode prog_6_method_2_code 28 = .ok (.getfield 36, 3) := by decide +kernel
theorem d_Reader_readAll_31 : decode prog_6_method_2_code 31 = .ok (.invokevirtual 52, 3) := by decide +kernel
theorem d_Reader_readAll_34 : decode prog_6_method_2_code 34 = .ok (.aload_n 0, 1) := by decide +kernel
theorem d_Reader_readAll_35 : decode prog_6_method_2_code 35 = .ok (.iconst 0, 1) := by decide +kernel
theorem d_Reader_readAll_36 : decode prog_6_method_2_code 36 = .ok (.invokevirtual 57, 3) := by decide +kernel
theorem d_Reader_readAll_39 : decode prog_6_method_2_code 39 = .ok (.iconst 1, 1) := by decide +kernel
theorem d_Reader_readAll_40 : decode prog_6_method_2_code 40 = .ok (.istore_n 1, 1) := by decide +kernel
theorem d_Reader_readAll_41 : decode prog_6_method_2_code 41 = .ok (.iconst 0, 1) := by decide +kernel
theorem d_Reader_readAll_42 : decode prog_6_method_2_code 42 = .ok (.istore_n 2, 1) := by decide +kernel
theorem d_Reader_readAll_43 : decode prog_6_method_2_code 43 = .ok (.iload_n 2, 1) := by decide +kernel
theorem d_Reader_readAll_44 : decode prog_6_method_2_code 44 = .ok (.sipush 400, 3) := by decide +kernel
theorem d_Reader_readAll_47 : decode prog_6_method_2_code 47 = .ok (.if_icmp .gt 78, 3) := by decide +kernel
theorem d_Reader_readAll_50 : decode prog_6_method_2_code 50 = .ok (.iload_n 1, 1) := by decide +kernel
theorem d_Reader_readAll_51 : decode prog_6_method_2_code 51 = .ok (.ifCond .eq 74, 3) := by decide +kernel
theorem d_Reader_readAll_54 : decode prog_6_method_2_code 54 = .ok (.aload_n 0, 1) := by decide +kernel
theorem d_Reader_readAll_55 : decode prog_6_method_2_code 55 = .ok (.getfield 61, 3) := by decide +kernel
theorem d_Reader_readAll_58 : decode prog_6_method_2_code 58 = .ok (.iconst 1, 1) := by decide +kernel
theorem d_Reader_readAll_59 : decode prog_6_method_2_code 59 = .ok (.if_icmp .eq 66, 3) := by decide +kernel
theorem d_Reader_readAll_62 : decode prog_6_method_2_code 62 = .ok (.aload_n 0, 1) := by decide +kernel
theorem d_Reader_readAll_63 : decode prog_6_method_2_code 63 = .ok (.getfield 61, 3) := by decide +kernel
theorem d_Reader_readAll_66 : decode prog_6_method_2_code 66 = .ok (.sipush 259, 3) := by decide +kernel
theorem d_Reader_readAll_69 : decode prog_6_method_2_code 69 = .ok (.if_icmp .lt 17, 3) := by decide +kernel
theorem d_Reader_readAll_72 : decode prog_6_method_2_code 72 = .ok (.aload_n 0, 1) := by decide +kernel
theorem d_Reader_readAll_73 : decode prog_6_method_2_code 73 = .ok (.getfield 61, 3) := by decide +kernel
theorem d_Reader_readAll_76 : decode prog_6_method_2_code 76 = .ok (.sipush 262, 3) := by decide +kernel
theorem d_Reader_readAll_79 : decode prog_6_method_2_code 79 = .ok (.if_icmp .gt 7, 3) := by decide +kernel
theorem d_Reader_readAll_82 : decode prog_6_method_2_code 82 = .ok (.iconst 1, 1) := by decide +kernel
theorem d_Reader_readAll_83 : decode prog_6_method_2_code 83 = .ok (.goto 4, 3) := by decide +kernel
theorem d_Reader_readAll_86 : decode prog_6_method_2_code 86 = .ok (.iconst 0, 1) := by decide +kernel
theorem d_Reader_readAll_87 : decode prog_6_method_2_code 87 = .ok (.istore_n 3, 1) := by decide +kernel
theorem d_Reader_readAll_88 : decode prog_6_method_2_code 88 = .ok (.iload_n 3, 1) := by decide +kernel
theorem d_Reader_readAll_89 : decode prog_6_method_2_code 89 = .ok (.ifCond .eq 25, 3) := by decide +kernel
theorem d_Reader_readAll_92 : decode prog_6_method_2_code 92 = .ok (.aload_n 0, 1) := by decide +kernel
theorem d_Reader_readAll_93 : decode prog_6_method_2_code 93 = .ok (.aload_n 0, 1) := by decide +kernel
theorem d_Reader_readAll_94 : decode prog_6_method_2_code 94 = .ok (.getfield 12, 3) := by decide +kernel
theorem d_Reader_readAll_97 : decode prog_6_method_2_code 97 = .ok (.aload_n 0, 1) := by decide +kernel
theorem d_Reader_readAll_98 : decode prog_6_method_2_code 98 = .ok (.getfield 61, 3) := by decide +kernel
theorem d_Reader_readAll_101 : decode prog_6_method_2_code 101 = .ok (.sipush 259, 3) := by decide +kernel
theorem d_Reader_readAll_104 : decode prog_6_method_2_code 104 = .ok (.isub, 1) := by decide +kernel
theorem d_Reader_readAll_105 : decode prog_6_method_2_code 105 = .ok (.invokevirtual 64, 3) := by decide +kernel
theorem d_Reader_readAll_108 : decode prog_6_method_2_code 108 = .ok (.invokevirtual 68, 3) := by decide +kernel
theorem d_Reader_readAll_111 : decode prog_6_method_2_code 111 = .ok (.goto 7, 3) := by decide +kernel
theorem d_Reader_readAll_114 : decode prog_6_method_2_code 114 = .ok (.aload_n 0, 1) := by decide +kernel
theorem d_Reader_readAll_115 : decode prog_6_method_2_code 115 = .ok (.invokevirtual 72, 3) := by decide +kernel
theorem d_Reader_readAll_118 : decode prog_6_method_2_code 118 = .ok (.istore_n 1, 1) := by decide +kernel
theorem d_Reader_readAll_119 : decode prog_6_method_2_code 119 = .ok (.iinc 2 1, 3) := by decide +kernel
theorem d_Reader_readAll_122 : decode prog_6_method_2_code 122 = .ok (.goto (-79), 3) := by decide +kernel
theorem d_Reader_readAll_125 : decode prog_6_method_2_code 125 = .ok (.aload_n 0, 1) := by decide +kernel
theorem d_Reader_readAll_126 : decode prog_6_method_2_code 126 = .ok (.getfield 40, 3) := by decide +kernel
theorem d_Reader_readAll_129 : decode prog_6_method_2_code 129 = .ok (.ifCond .ne 26, 3) := by decide +kernel
theorem d_Reader_readAll_132 : decode prog_6_method_2_code 132 = .ok (.aload_n 0, 1) := by decide +kernel
theorem d_Reader_readAll_133 : decode prog_6_method_2_code 133 = .ok (.getfield 43, 3) := by decide +kernel
theorem d_Reader_readAll_136 : decode prog_6_method_2_code 136 = .ok (.ifCond .eq 19, 3) := by decide +kernel
theorem d_Reader_readAll_139 : decode prog_6_method_2_code 139 = .ok (.aload_n 0, 1) := by decide +kernel
theorem d_Reader_readAll_140 : decode prog_6_method_2_code 140 = .ok (.aload_n 0, 1) := by decide +kernel
theorem d_Reader_readAll_141 : decode prog_6_method_2_code 141 = .ok (.getfield 43, 3) := by decide +kernel
theorem d_Reader_readAll_144 : decode prog_6_method_2_code 144 = .ok (.putfield 40, 3) := by decide +kernel
theorem d_Reader_readAll_147 : decode prog_6_method_2_code 147 = .ok (.aload_n 0, 1) := by decide +kernel
theorem d_Reader_readAll_148 : decode prog_6_method_2_code 148 = .ok (.aload_n 0, 1) := by decide +kernel
theorem d_Reader_readAll_149 : decode prog_6_method_2_code 149 = .ok (.getfield 76, 3) := by decide +kernel
theorem d_Reader_readAll_152 : decode prog_6_method_2_code 152 = .ok (.putfield 32, 3) := by decide +kernel
theorem d_Reader_readAll_155 : decode prog_6_method_2_code 155 = .ok (.aload_n 0, 1) := by decide +kernel
theorem d_Reader_readAll_156 : decode prog_6_method_2_code 156 = .ok (.getfield 40, 3) := by decide +kernel
theorem d_Reader_readAll_159 : decode prog_6_method_2_code 159 = .ok (.ireturn, 1) := by decide +kernel
def w_Reader_lookAt (N : Nat) (x0 : Nat) (x1 : Int32) (h : qH) (Q : qH → Prop) : Prop := (qS h x0 = .inl 4 ∧ ∀ h2 : qH, h2 = qsI h x0 1 x1 → (qS h2 x0 = .inl 4 ∧ (qS h2 (qR h2 x0 0) = .inl 7 ∧ (qok h2 (qR h2 (qR h2 x0 0) 4) 0 x1 ∧ (∀ h6 : qH, h6 = qsI h2 x0 2 (qI h2 (qR h2 (qR h2 x0 0) 4) (x1).toNatClampNeg) → (qS h6 x0 = .inl 4 ∧ (qS h6 (qR h6 x0 0) = .inl 7 ∧ (qok h6 (qR h6 (qR h6 x0 0) 6) 3 x1 ∧ (∀ h10 : qH, h10 = qsJ h6 x0 3 (qJ h6 (qR h6 (qR h6 x0 0) 6) (x1).toNatClampNeg) → Q h10)))))))))
def w_Reader_fails (N : Nat) (x0 : Nat) (x1 : Int32) (h : qH) (Q : Int32 → qH → Prop) : Prop := (qS h x0 = .inl 4 ∧ ∀ h2 : qH, h2 = qsI h x0 12 x1 → (qS h2 x0 = .inl 4 ∧ (qS h2 (qR h2 x0 0) = .inl 7 ∧ (qok h2 (qR h2 (qR h2 x0 0) 5) 0 (qI h2 x0 1) ∧ (∀ h6 : qH, h6 = qsI h2 x0 13 (qI h2 (qR h2 (qR h2 x0 0) 5) ((qI h2 x0 1)).toNatClampNeg) → (qzb (0 : Int32) ∧ Q (0 : Int32) h6))))))
def w_Reader_goOn (N : Nat) (x0 : Nat) (h : qH) (Q : Int32 → qH → Prop) : Prop := (qS h x0 = .inl 4 ∧ (((qI h x0 1) < (400 : Int32) → (w_Reader_lookAt N x0 ((qI h x0 1) + (1 : Int32)) h (fun h3 => (qzb (1 : Int32) ∧ Q (1 : Int32) h3)))) ∧ (¬ (qI h x0 1) < (400 : Int32) → (w_Reader_fails N x0 (2 : Int32) h (fun r4 h5 => (qzb r4 ∧ Q r4 h5))))))
def w_Reader_pass (N : Nat) (x0 : Nat) (x1 : Int32) (h : qH) (Q : Int32 → qH → Prop) : Prop := (qS h x0 = .inl 4 ∧ ((¬ (qI h x0 2) = x1 → (w_Reader_fails N x0 (1 : Int32) h (fun r3 h4 => (qzb r3 ∧ Q r3 h4)))) ∧ ((qI h x0 2) = x1 → (w_Reader_goOn N x0 h (fun r5 h6 => (qzb r5 ∧ Q r5 h6))))))
def w_Reader_readClosing_2 (N : Nat) : Nat → Nat → Nat → Int32 → qH → (Int32 → qH → Prop) → Prop
  | 0 => fun _ _ _ _ _ => False
  | k + 1 => fun x0 x1 x2 h Q => (((6 : Int32) ≤ x2 → (qzb (1 : Int32) ∧ Q (1 : Int32) h)) ∧ (¬ (6 : Int32) ≤ x2 → (qS h x0 = .inl 4 ∧ (qS h (qR h x0 9) = .inl 10 ∧ (((qI h (qR h x0 9) 2) ≤ 0 → (qzb (1 : Int32) ∧ Q (1 : Int32) h)) ∧ (¬ (qI h (qR h x0 9) 2) ≤ 0 → ((¬ (qI h x0 2) = (41 : Int32) → (qzb (1 : Int32) ∧ Q (1 : Int32) h)) ∧ ((qI h x0 2) = (41 : Int32) → (w_Waits_letGo N (qR h x0 9) x1 (1 : Int32) h (fun h6 => (qS h6 x0 = .inl 4 ∧ (qS h6 (qR h6 x0 9) = .inl 10 ∧ w_Waits_close N (qR h6 x0 9) h6 (fun h9 => (qS h9 x0 = .inl 4 ∧ w_Reader_goOn N x0 h9 (fun r11 h12 => ((¬ r11 = 0 → (w_Reader_readClosing_2 N k x0 x1 (x2 + (1 : Int32)) h12 Q)) ∧ (r11 = 0 → (qzb (0 : Int32) ∧ Q (0 : Int32) h12))))))))))))))))))
def w_Reader_readClosing (N : Nat) (x0 : Nat) (x1 : Nat) (h : qH) (Q : Int32 → qH → Prop) : Prop := (w_Reader_readClosing_2 N N x0 x1 (0 : Int32) h Q )
def w_Reader_readOpening_2 (N : Nat) : Nat → Nat → Int32 → qH → (Int32 → qH → Prop) → Prop
  | 0 => fun _ _ _ _ => False
  | k + 1 => fun x0 x1 h Q => (((6 : Int32) < x1 → (qzb (1 : Int32) ∧ Q (1 : Int32) h)) ∧ (¬ (6 : Int32) < x1 → (qS h x0 = .inl 4 ∧ ((¬ (qI h x0 2) = (40 : Int32) → (qzb (1 : Int32) ∧ Q (1 : Int32) h)) ∧ ((qI h x0 2) = (40 : Int32) → (qS h (qR h x0 9) = .inl 10 ∧ (((qI h (qR h x0 9) 2) < (6 : Int32) → (w_Waits_open N (qR h x0 9) h (fun h6 => (qS h6 x0 = .inl 4 ∧ w_Reader_goOn N x0 h6 (fun r8 h9 => ((¬ r8 = 0 → (w_Reader_readOpening_2 N k x0 (x1 + (1 : Int32)) h9 Q)) ∧ (r8 = 0 → (qzb (0 : Int32) ∧ Q (0 : Int32) h9)))))))) ∧ (¬ (qI h (qR h x0 9) 2) < (6 : Int32) → (w_Reader_fails N x0 (2 : Int32) h (fun r11 h12 => (qzb r11 ∧ Q r11 h12)))))))))))
def w_Reader_readOpening (N : Nat) (x0 : Nat) (h : qH) (Q : Int32 → qH → Prop) : Prop := (w_Reader_readOpening_2 N N x0 (0 : Int32) h Q )
def w_Reader_readOperand (N : Nat) (x0 : Nat) (x1 : Nat) (h : qH) (Q : Int32 → qH → Prop) : Prop := (qS h x0 = .inl 4 ∧ ((¬ (qI h x0 2) = (4 : Int32) → (((qI h x0 2) < (268 : Int32) → (w_Reader_fails N x0 (1 : Int32) h (fun r4 h5 => (qzb r4 ∧ Q r4 h5)))) ∧ (¬ (qI h x0 2) < (268 : Int32) → (((276 : Int32) < (qI h x0 2) → (w_Reader_fails N x0 (1 : Int32) h (fun r7 h8 => (qzb r7 ∧ Q r7 h8)))) ∧ (¬ (276 : Int32) < (qI h x0 2) → (qS h x1 = .inl 0 ∧ w_Law_add N x1 (2 : Int32) ((qI h x0 2) - (268 : Int32)) h (fun h10 => (qS h10 x0 = .inl 4 ∧ w_Reader_goOn N x0 h10 (fun r12 h13 => (qzb r12 ∧ Q r12 h13)))))))))) ∧ ((qI h x0 2) = (4 : Int32) → (qS h x1 = .inl 0 ∧ w_Law_add N x1 (1 : Int32) (((qJ h x0 3)).toInt32) h (fun h15 => (qS h15 x0 = .inl 4 ∧ w_Reader_goOn N x0 h15 (fun r17 h18 => (qzb r17 ∧ Q r17 h18))))))))
def w_Reader_readSum_62 (N : Nat) (x0 : Nat) (x1 : Nat) (x3 : Int32) (z0 : Int32) (h : qH) (Q : Int32 → qH → Prop) (K11 : Nat → Nat → Int32 → Int32 → qH → Prop) : Prop := ((¬ z0 = 0 → (K11 x0 x1 z0 (x3 + (1 : Int32)) h)) ∧ (z0 = 0 → (qS h x0 = .inl 4 ∧ (qS h (qR h x0 9) = .inl 10 ∧ w_Waits_add N (qR h x0 9) x1 (qI h x0 2) h (fun h4 => (qS h4 x0 = .inl 4 ∧ w_Reader_goOn N x0 h4 (fun r6 h7 => ((¬ r6 = 0 → (K11 x0 x1 z0 (x3 + (1 : Int32)) h7)) ∧ (r6 = 0 → (qzb (0 : Int32) ∧ Q (0 : Int32) h7))))))))))
def w_Reader_readSum_11 (N : Nat) : Nat → Nat → Nat → Int32 → Int32 → qH → (Int32 → qH → Prop) → (Nat → Nat → qH → Prop) → Prop
  | 0 => fun _ _ _ _ _ _ _ => False
  | k + 1 => fun x0 x1 x2 x3 h Q K94 => (((400 : Int32) < x3 → (K94 x0 x1 h)) ∧ (¬ (400 : Int32) < x3 → ((¬ x2 = 0 → (K94 x0 x1 h)) ∧ (x2 = 0 → (qS h x0 = .inl 4 ∧ w_Reader_readOpening N x0 h (fun r4 h5 => ((r4 = 0 → (qzb (0 : Int32) ∧ Q (0 : Int32) h5)) ∧ (¬ r4 = 0 → (qS h5 x0 = .inl 4 ∧ w_Reader_readOperand N x0 x1 h5 (fun r8 h9 => ((r8 = 0 → (qzb (0 : Int32) ∧ Q (0 : Int32) h9)) ∧ (¬ r8 = 0 → (qS h9 x0 = .inl 4 ∧ w_Reader_readClosing N x0 x1 h9 (fun r12 h13 => ((¬ r12 = 0 → (qS h13 x0 = .inl 4 ∧ (w_Waits_strengthOf N (qI h13 x0 2) h13 (fun r16 h17 => ((¬ r16 = 0 → (w_Reader_readSum_62 N x0 x1 x3 (0 : Int32) h17 Q (fun x0 x1 x2 x3 h => w_Reader_readSum_11 N k x0 x1 x2 x3 h Q K94))) ∧ (r16 = 0 → (w_Reader_readSum_62 N x0 x1 x3 (1 : Int32) h17 Q (fun x0 x1 x2 x3 h => w_Reader_readSum_11 N k x0 x1 x2 x3 h Q K94)))))))) ∧ (r12 = 0 → (qzb (0 : Int32) ∧ Q (0 : Int32) h13)))))))))))))))))
def w_Reader_readSum_94 (N : Nat) (x0 : Nat) (x1 : Nat) (h : qH) (Q : Int32 → qH → Prop)  : Prop := (qS h x0 = .inl 4 ∧ (qS h (qR h x0 9) = .inl 10 ∧ w_Waits_letGo N (qR h x0 9) x1 (1 : Int32) h (fun h3 => (qS h3 x0 = .inl 4 ∧ (qS h3 (qR h3 x0 9) = .inl 10 ∧ (((qI h3 (qR h3 x0 9) 2) = 0 → (qzb (1 : Int32) ∧ Q (1 : Int32) h3)) ∧ (¬ (qI h3 (qR h3 x0 9) 2) = 0 → (w_Reader_fails N x0 (1 : Int32) h3 (fun r7 h8 => ((r7 = 0 → (qzb (0 : Int32) ∧ Q (0 : Int32) h8)) ∧ (¬ r7 = 0 → (qzb (1 : Int32) ∧ Q (1 : Int32) h8))))))))))))
def w_Reader_readSum (N : Nat) (x0 : Nat) (x1 : Nat) (h : qH) (Q : Int32 → qH → Prop) : Prop := (qS h x0 = .inl 4 ∧ (qS h (qR h x0 9) = .inl 10 ∧ w_Waits_begin N (qR h x0 9) h (fun h3 => (w_Reader_readSum_11 N N x0 x1 (0 : Int32) (0 : Int32) h3 Q (fun x4 x5 h6 => (w_Reader_readSum_94 N x4 x5 h6 Q ))))))
def w_Reader_readIf (N : Nat) (x0 : Nat) (x1 : Nat) (h : qH) (Q : Int32 → qH → Prop) : Prop := (qS h x0 = .inl 4 ∧ w_Reader_goOn N x0 h (fun r2 h3 => ((r2 = 0 → (qzb (0 : Int32) ∧ Q (0 : Int32) h3)) ∧ (¬ r2 = 0 → (qS h3 x0 = .inl 4 ∧ w_Reader_readSum N x0 x1 h3 (fun r6 h7 => ((r6 = 0 → (qzb (0 : Int32) ∧ Q (0 : Int32) h7)) ∧ (¬ r6 = 0 → (qS h7 x0 = .inl 4 ∧ w_Reader_pass N x0 (60 : Int32) h7 (fun r10 h11 => ((¬ r10 = 0 → (qS h11 x0 = .inl 4 ∧ w_Reader_readSum N x0 x1 h11 (fun r14 h15 => ((r14 = 0 → (qzb (0 : Int32) ∧ Q (0 : Int32) h15)) ∧ (¬ r14 = 0 → (qS h15 x0 = .inl 4 ∧ w_Reader_pass N x0 (266 : Int32) h15 (fun r18 h19 => ((¬ r18 = 0 → (qS h19 x1 = .inl 0 ∧ (∀ y22 : Int32, y22 = (qI h19 x1 2) → (w_Law_add N x1 (3 : Int32) (0 : Int32) h19 (fun h23 => (qS h23 x0 = .inl 4 ∧ w_Reader_readSum N x0 x1 h23 (fun r25 h26 => ((r25 = 0 → (qzb (0 : Int32) ∧ Q (0 : Int32) h26)) ∧ (¬ r25 = 0 → (qS h26 x0 = .inl 4 ∧ w_Reader_pass N x0 (267 : Int32) h26 (fun r29 h30 => ((¬ r29 = 0 → (qS h30 x1 = .inl 0 ∧ w_Law_add N x1 (4 : Int32) (0 : Int32) h30 (fun h33 => (qS h33 x1 = .inl 0 ∧ w_Law_aimAtEnd N x1 y22 h33 (fun h35 => (qzb (1 : Int32) ∧ Q (1 : Int32) h35)))))) ∧ (r29 = 0 → (qzb (0 : Int32) ∧ Q (0 : Int32) h30)))))))))))))) ∧ (r18 = 0 → (qzb (0 : Int32) ∧ Q (0 : Int32) h19)))))))))) ∧ (r10 = 0 → (qzb (0 : Int32) ∧ Q (0 : Int32) h11)))))))))))))
def w_Reader_readLaw_25 (N : Nat) : Nat → Nat → Nat → Int32 → qH → (Int32 → qH → Prop) → (Nat → Nat → qH → Prop) → Prop
  | 0 => fun _ _ _ _ _ _ => False
  | k + 1 => fun x0 x1 x2 h Q K67 => (((4 : Int32) < x2 → (K67 x0 x1 h)) ∧ (¬ (4 : Int32) < x2 → (qS h x0 = .inl 4 ∧ ((¬ (qI h x0 2) = (265 : Int32) → (K67 x0 x1 h)) ∧ ((qI h x0 2) = (265 : Int32) → ((¬ x2 = (4 : Int32) → (w_Reader_readIf N x0 x1 h (fun r5 h6 => ((¬ r5 = 0 → (w_Reader_readLaw_25 N k x0 x1 (x2 + (1 : Int32)) h6 Q K67)) ∧ (r5 = 0 → (qzb (0 : Int32) ∧ Q (0 : Int32) h6)))))) ∧ (x2 = (4 : Int32) → (w_Reader_fails N x0 (2 : Int32) h (fun r8 h9 => (qzb r8 ∧ Q r8 h9))))))))))
def w_Reader_readLaw_67 (N : Nat) (x0 : Nat) (x1 : Nat) (h : qH) (Q : Int32 → qH → Prop)  : Prop := (qS h x0 = .inl 4 ∧ w_Reader_readSum N x0 x1 h (fun r2 h3 => ((¬ r2 = 0 → (qS h3 x1 = .inl 0 ∧ w_Law_add N x1 (4 : Int32) (0 : Int32) h3 (fun h6 => (qS h6 x0 = .inl 4 ∧ w_Reader_pass N x0 (59 : Int32) h6 (fun r8 h9 => (qzb r8 ∧ Q r8 h9)))))) ∧ (r2 = 0 → (qzb (0 : Int32) ∧ Q (0 : Int32) h3)))))
def w_Reader_readLaw (N : Nat) (x0 : Nat) (x1 : Nat) (h : qH) (Q : Int32 → qH → Prop) : Prop := (qS h x1 = .inl 0 ∧ ∀ h2 : qH, h2 = qsI h x1 2 (0 : Int32) → (qS h2 x0 = .inl 4 ∧ w_Reader_goOn N x0 h2 (fun r4 h5 => ((r4 = 0 → (qzb (0 : Int32) ∧ Q (0 : Int32) h5)) ∧ (¬ r4 = 0 → (qS h5 x0 = .inl 4 ∧ w_Reader_pass N x0 (61 : Int32) h5 (fun r8 h9 => ((¬ r8 = 0 → (w_Reader_readLaw_25 N N x0 x1 (0 : Int32) h9 Q (fun x11 x12 h13 => (w_Reader_readLaw_67 N x11 x12 h13 Q )))) ∧ (r8 = 0 → (qzb (0 : Int32) ∧ Q (0 : Int32) h9))))))))))
def w_Reader_indexOf_2 (N : Nat) : Nat → Nat → Nat → Int32 → Int32 → qH → (Int32 → qH → Prop) → Prop
  | 0 => fun _ _ _ _ _ _ => False
  | k + 1 => fun x0 x1 x2 x3 h Q => ((x2 ≤ x3 → Q (-1 : Int32) h) ∧ (¬ x2 ≤ x3 → (∃ n2, qS h x1 = .inr (3, n2) ∧ (((nI n2) ≤ x3 → Q (-1 : Int32) h) ∧ (¬ (nI n2) ≤ x3 → (qok h x1 3 x3 ∧ (qS h x0 = .inl 4 ∧ ((¬ (lg_cmp (qJ h x1 (x3).toNatClampNeg) (qJ h x0 3)) = 0 → (w_Reader_indexOf_2 N k x0 x1 x2 (x3 + (1 : Int32)) h Q)) ∧ ((lg_cmp (qJ h x1 (x3).toNatClampNeg) (qJ h x0 3)) = 0 → Q x3 h)))))))))
def w_Reader_indexOf (N : Nat) (x0 : Nat) (x1 : Nat) (x2 : Int32) (h : qH) (Q : Int32 → qH → Prop) : Prop := (w_Reader_indexOf_2 N N x0 x1 x2 (0 : Int32) h Q )
def w_Reader_isNameTold (N : Nat) (x0 : Nat) (h : qH) (Q : Int32 → qH → Prop) : Prop := (qS h x0 = .inl 4 ∧ (qS h (qR h x0 5) = .inl 8 ∧ (w_Reader_indexOf N x0 (qR h x0 6) (qI h (qR h x0 5) 0) h (fun r3 h4 => ((0 ≤ r3 → (qzb (1 : Int32) ∧ Q (1 : Int32) h4)) ∧ (¬ 0 ≤ r3 → (qS h4 x0 = .inl 4 ∧ (qS h4 (qR h4 x0 5) = .inl 8 ∧ (w_Reader_indexOf N x0 (qR h4 x0 7) (qI h4 (qR h4 x0 5) 3) h4 (fun r8 h9 => ((r8 < 0 → (qzb (0 : Int32) ∧ Q (0 : Int32) h9)) ∧ (¬ r8 < 0 → (qzb (1 : Int32) ∧ Q (1 : Int32) h9)))))))))))))
def w_Reader_keepFault (N : Nat) (x0 : Nat) (x1 : Int32) (h : qH) (Q : qH → Prop) : Prop := (qS h x0 = .inl 4 ∧ ((¬ (qI h x0 10) = 0 → Q h) ∧ ((qI h x0 10) = 0 → (∀ h3 : qH, h3 = qsI h x0 10 x1 → (qS h3 x0 = .inl 4 ∧ (qS h3 (qR h3 x0 0) = .inl 7 ∧ (qok h3 (qR h3 (qR h3 x0 0) 5) 0 (qI h3 x0 1) ∧ (∀ h7 : qH, h7 = qsI h3 x0 11 (qI h3 (qR h3 (qR h3 x0 0) 5) ((qI h3 x0 1)).toNatClampNeg) → Q h7))))))))
def w_Reader_readNewName_20 (N : Nat) (x0 : Nat) (x1 : Nat) (x2 : Int32) (h : qH) (Q : Int32 → qH → Prop)  : Prop := ((x2 < 0 → (qS h x0 = .inl 4 ∧ w_Reader_pass N x0 (3 : Int32) h (fun r3 h4 => (qzb r3 ∧ Q r3 h4)))) ∧ (¬ x2 < 0 → (∃ n5, qS h x1 = .inr (3, n5) ∧ (((nI n5) ≤ x2 → (qS h x0 = .inl 4 ∧ w_Reader_pass N x0 (3 : Int32) h (fun r9 h10 => (qzb r9 ∧ Q r9 h10)))) ∧ (¬ (nI n5) ≤ x2 → (qS h x0 = .inl 4 ∧ (qok h x1 3 x2 ∧ ∀ h13 : qH, h13 = qsJ h x1 (x2).toNatClampNeg (qJ h x0 3) → (qS h13 x0 = .inl 4 ∧ w_Reader_pass N x0 (3 : Int32) h13 (fun r15 h16 => (qzb r15 ∧ Q r15 h16))))))))))
def w_Reader_readNewName (N : Nat) (x0 : Nat) (x1 : Nat) (x2 : Int32) (h : qH) (Q : Int32 → qH → Prop) : Prop := (qS h x0 = .inl 4 ∧ ((¬ (qI h x0 2) = (3 : Int32) → (w_Reader_readNewName_20 N x0 x1 x2 h Q )) ∧ ((qI h x0 2) = (3 : Int32) → (w_Reader_isNameTold N x0 h (fun r3 h4 => ((r3 = 0 → (w_Reader_readNewName_20 N x0 x1 x2 h4 Q )) ∧ (¬ r3 = 0 → (qS h4 x0 = .inl 4 ∧ w_Reader_keepFault N x0 (3 : Int32) h4 (fun h7 => (w_Reader_readNewName_20 N x0 x1 x2 h7 Q ))))))))))
def w_Reader_readNumber (N : Nat) (x0 : Nat) (x1 : Int32) (h : qH) (Q : Int32 → qH → Prop) : Prop := (qS h x0 = .inl 4 ∧ ((¬ (qI h x0 2) = (4 : Int32) → (∀ h3 : qH, h3 = qsI h x0 4 (((qJ h x0 3)).toInt32) → (qS h3 x0 = .inl 4 ∧ w_Reader_pass N x0 (4 : Int32) h3 (fun r5 h6 => (qzb r5 ∧ Q r5 h6))))) ∧ ((qI h x0 2) = (4 : Int32) → (((lg_cmp (qJ h x0 3) ((x1).toInt64)) ≤ 0 → (∀ h8 : qH, h8 = qsI h x0 4 (((qJ h x0 3)).toInt32) → (qS h8 x0 = .inl 4 ∧ w_Reader_pass N x0 (4 : Int32) h8 (fun r10 h11 => (qzb r10 ∧ Q r10 h11))))) ∧ (¬ (lg_cmp (qJ h x0 3) ((x1).toInt64)) ≤ 0 → (w_Reader_keepFault N x0 (5 : Int32) h (fun h12 => (qS h12 x0 = .inl 4 ∧ (∀ h14 : qH, h14 = qsI h12 x0 4 (((qJ h12 x0 3)).toInt32) → (qS h14 x0 = .inl 4 ∧ w_Reader_pass N x0 (4 : Int32) h14 (fun r16 h17 => (qzb r16 ∧ Q r16 h17))))))))))))
def w_Reader_readHanger (N : Nat) (x0 : Nat) (h : qH) (Q : Int32 → qH → Prop) : Prop := (qS h x0 = .inl 4 ∧ (qS h (qR h x0 5) = .inl 8 ∧ (∀ y3 : Int32, y3 = (qI h (qR h x0 5) 0) → ((y3 < (7 : Int32) → (w_Reader_goOn N x0 h (fun r5 h6 => ((r5 = 0 → (qzb (0 : Int32) ∧ Q (0 : Int32) h6)) ∧ (¬ r5 = 0 → (qS h6 x0 = .inl 4 ∧ (w_Reader_readNewName N x0 (qR h6 x0 6) y3 h6 (fun r9 h10 => ((r9 = 0 → (qzb (0 : Int32) ∧ Q (0 : Int32) h10)) ∧ (¬ r9 = 0 → (qS h10 x0 = .inl 4 ∧ w_Reader_readNumber N x0 (4 : Int32) h10 (fun r13 h14 => ((¬ r13 = 0 → (qS h14 x0 = .inl 4 ∧ (qS h14 (qR h14 x0 5) = .inl 8 ∧ (qok h14 (qR h14 (qR h14 x0 5) 1) 0 y3 ∧ ∀ h19 : qH, h19 = qsI h14 (qR h14 (qR h14 x0 5) 1) (y3).toNatClampNeg (qI h14 x0 4) → (qS h19 x0 = .inl 4 ∧ w_Reader_readNumber N x0 (99 : Int32) h19 (fun r21 h22 => ((¬ r21 = 0 → (qS h22 x0 = .inl 4 ∧ (qS h22 (qR h22 x0 5) = .inl 8 ∧ (qok h22 (qR h22 (qR h22 x0 5) 2) 0 y3 ∧ ∀ h27 : qH, h27 = qsI h22 (qR h22 (qR h22 x0 5) 2) (y3).toNatClampNeg (qI h22 x0 4) → (qS h27 x0 = .inl 4 ∧ (qS h27 (qR h27 x0 5) = .inl 8 ∧ (∀ h30 : qH, h30 = qsI h27 (qR h27 x0 5) 0 ((qI h27 (qR h27 x0 5) 0) + (1 : Int32)) → (qS h30 x0 = .inl 4 ∧ w_Reader_pass N x0 (59 : Int32) h30 (fun r32 h33 => (qzb r32 ∧ Q r32 h33)))))))))) ∧ (r21 = 0 → (qzb (0 : Int32) ∧ Q (0 : Int32) h22))))))))) ∧ (r13 = 0 → (qzb (0 : Int32) ∧ Q (0 : Int32) h14))))))))))))))) ∧ (¬ y3 < (7 : Int32) → (w_Reader_fails N x0 (2 : Int32) h (fun r34 h35 => (qzb r34 ∧ Q r34 h35))))))))
def w_Reader_hangerNamed (N : Nat) (x0 : Nat) (h : qH) (Q : Int32 → qH → Prop) : Prop := (qS h x0 = .inl 4 ∧ (qS h (qR h x0 5) = .inl 8 ∧ (w_Reader_indexOf N x0 (qR h x0 6) (qI h (qR h x0 5) 0) h (fun r3 h4 => ((0 ≤ r3 → (qS h4 x0 = .inl 4 ∧ (qS h4 (qR h4 x0 5) = .inl 8 ∧ w_Text_isFirstTaken N (qR h4 x0 5) r3 h4 (fun r8 h9 => ((r8 = 0 → Q r3 h9) ∧ (¬ r8 = 0 → (qS h9 x0 = .inl 4 ∧ w_Reader_keepFault N x0 (3 : Int32) h9 (fun h12 => Q r3 h12)))))))) ∧ (¬ 0 ≤ r3 → (qS h4 x0 = .inl 4 ∧ w_Reader_keepFault N x0 (4 : Int32) h4 (fun h14 => Q r3 h14))))))))
def w_Reader_personNamed (N : Nat) (x0 : Nat) (h : qH) (Q : Int32 → qH → Prop) : Prop := (qS h x0 = .inl 4 ∧ (qS h (qR h x0 5) = .inl 8 ∧ (w_Reader_indexOf N x0 (qR h x0 7) (qI h (qR h x0 5) 3) h (fun r3 h4 => ((0 ≤ r3 → (qS h4 x0 = .inl 4 ∧ (qS h4 (qR h4 x0 5) = .inl 8 ∧ (qok h4 (qR h4 (qR h4 x0 5) 6) 0 r3 ∧ (((qI h4 (qR h4 (qR h4 x0 5) 6) (r3).toNatClampNeg) < 0 → Q r3 h4) ∧ (¬ (qI h4 (qR h4 (qR h4 x0 5) 6) (r3).toNatClampNeg) < 0 → (w_Reader_keepFault N x0 (3 : Int32) h4 (fun h10 => Q r3 h10)))))))) ∧ (¬ 0 ≤ r3 → (qS h4 x0 = .inl 4 ∧ w_Reader_keepFault N x0 (4 : Int32) h4 (fun h12 => Q r3 h12))))))))
def w_Reader_readHangs (N : Nat) (x0 : Nat) (h : qH) (Q : Int32 → qH → Prop) : Prop := (qS h x0 = .inl 4 ∧ (((qI h x0 8) < (6 : Int32) → (∀ h3 : qH, h3 = qsI h x0 8 ((qI h x0 8) + (1 : Int32)) → (qS h3 x0 = .inl 4 ∧ w_Reader_goOn N x0 h3 (fun r5 h6 => ((¬ r5 = 0 → (qS h6 x0 = .inl 4 ∧ w_Reader_personNamed N x0 h6 (fun r9 h10 => (qS h10 x0 = .inl 4 ∧ w_Reader_pass N x0 (3 : Int32) h10 (fun r12 h13 => ((¬ r12 = 0 → (qS h13 x0 = .inl 4 ∧ w_Reader_hangerNamed N x0 h13 (fun r16 h17 => (qS h17 x0 = .inl 4 ∧ w_Reader_pass N x0 (3 : Int32) h17 (fun r19 h20 => ((¬ r19 = 0 → ((r9 < 0 → (qS h20 x0 = .inl 4 ∧ w_Reader_pass N x0 (59 : Int32) h20 (fun r24 h25 => (qzb r24 ∧ Q r24 h25)))) ∧ (¬ r9 < 0 → ((r16 < 0 → (qS h20 x0 = .inl 4 ∧ w_Reader_pass N x0 (59 : Int32) h20 (fun r28 h29 => (qzb r28 ∧ Q r28 h29)))) ∧ (¬ r16 < 0 → (qS h20 x0 = .inl 4 ∧ (qS h20 (qR h20 x0 5) = .inl 8 ∧ (qok h20 (qR h20 (qR h20 x0 5) 6) 0 r9 ∧ ∀ h33 : qH, h33 = qsI h20 (qR h20 (qR h20 x0 5) 6) (r9).toNatClampNeg r16 → (qS h33 x0 = .inl 4 ∧ w_Reader_pass N x0 (59 : Int32) h33 (fun r35 h36 => (qzb r35 ∧ Q r35 h36))))))))))) ∧ (r19 = 0 → (qzb (0 : Int32) ∧ Q (0 : Int32) h20)))))))) ∧ (r12 = 0 → (qzb (0 : Int32) ∧ Q (0 : Int32) h13)))))))) ∧ (r5 = 0 → (qzb (0 : Int32) ∧ Q (0 : Int32) h6))))))) ∧ (¬ (qI h x0 8) < (6 : Int32) → (w_Reader_fails N x0 (2 : Int32) h (fun r37 h38 => (qzb r37 ∧ Q r37 h38))))))
def w_Reader_readMoth (N : Nat) (x0 : Nat) (h : qH) (Q : Int32 → qH → Prop) : Prop := (qS h x0 = .inl 4 ∧ w_Reader_goOn N x0 h (fun r2 h3 => ((r2 = 0 → (qzb (0 : Int32) ∧ Q (0 : Int32) h3)) ∧ (¬ r2 = 0 → (qS h3 x0 = .inl 4 ∧ w_Reader_readNumber N x0 (100 : Int32) h3 (fun r6 h7 => ((¬ r6 = 0 → (qS h7 x0 = .inl 4 ∧ (qS h7 (qR h7 x0 5) = .inl 8 ∧ ∀ h11 : qH, h11 = qsI h7 (qR h7 x0 5) 11 (qI h7 x0 4) → (qS h11 x0 = .inl 4 ∧ w_Reader_pass N x0 (59 : Int32) h11 (fun r13 h14 => (qzb r13 ∧ Q r13 h14)))))) ∧ (r6 = 0 → (qzb (0 : Int32) ∧ Q (0 : Int32) h7)))))))))
def w_Reader_readPerson (N : Nat) (x0 : Nat) (h : qH) (Q : Int32 → qH → Prop) : Prop := (qS h x0 = .inl 4 ∧ (qS h (qR h x0 5) = .inl 8 ∧ (∀ y3 : Int32, y3 = (qI h (qR h x0 5) 3) → ((y3 < (6 : Int32) → (w_Reader_goOn N x0 h (fun r5 h6 => ((r5 = 0 → (qzb (0 : Int32) ∧ Q (0 : Int32) h6)) ∧ (¬ r5 = 0 → (qS h6 x0 = .inl 4 ∧ (w_Reader_readNewName N x0 (qR h6 x0 7) y3 h6 (fun r9 h10 => ((r9 = 0 → (qzb (0 : Int32) ∧ Q (0 : Int32) h10)) ∧ (¬ r9 = 0 → (qS h10 x0 = .inl 4 ∧ w_Reader_readNumber N x0 (99 : Int32) h10 (fun r13 h14 => ((¬ r13 = 0 → (qS h14 x0 = .inl 4 ∧ (qS h14 (qR h14 x0 5) = .inl 8 ∧ (qok h14 (qR h14 (qR h14 x0 5) 4) 0 y3 ∧ ∀ h19 : qH, h19 = qsI h14 (qR h14 (qR h14 x0 5) 4) (y3).toNatClampNeg (qI h14 x0 4) → (qS h19 x0 = .inl 4 ∧ w_Reader_readNumber N x0 (9 : Int32) h19 (fun r21 h22 => ((¬ r21 = 0 → (qS h22 x0 = .inl 4 ∧ (qS h22 (qR h22 x0 5) = .inl 8 ∧ (qok h22 (qR h22 (qR h22 x0 5) 5) 0 y3 ∧ ∀ h27 : qH, h27 = qsI h22 (qR h22 (qR h22 x0 5) 5) (y3).toNatClampNeg (qI h22 x0 4) → (qS h27 x0 = .inl 4 ∧ (qS h27 (qR h27 x0 5) = .inl 8 ∧ (∀ h30 : qH, h30 = qsI h27 (qR h27 x0 5) 3 ((qI h27 (qR h27 x0 5) 3) + (1 : Int32)) → (qS h30 x0 = .inl 4 ∧ w_Reader_pass N x0 (59 : Int32) h30 (fun r32 h33 => (qzb r32 ∧ Q r32 h33)))))))))) ∧ (r21 = 0 → (qzb (0 : Int32) ∧ Q (0 : Int32) h22))))))))) ∧ (r13 = 0 → (qzb (0 : Int32) ∧ Q (0 : Int32) h14))))))))))))))) ∧ (¬ y3 < (6 : Int32) → (w_Reader_fails N x0 (2 : Int32) h (fun r34 h35 => (qzb r34 ∧ Q r34 h35))))))))
def w_Reader_readSeed (N : Nat) (x0 : Nat) (h : qH) (Q : Int32 → qH → Prop) : Prop := (qS h x0 = .inl 4 ∧ w_Reader_goOn N x0 h (fun r2 h3 => ((r2 = 0 → (qzb (0 : Int32) ∧ Q (0 : Int32) h3)) ∧ (¬ r2 = 0 → (qS h3 x0 = .inl 4 ∧ w_Reader_readNumber N x0 (9999 : Int32) h3 (fun r6 h7 => ((¬ r6 = 0 → (qS h7 x0 = .inl 4 ∧ (qS h7 (qR h7 x0 5) = .inl 8 ∧ ∀ h11 : qH, h11 = qsI h7 (qR h7 x0 5) 12 (qI h7 x0 4) → (qS h11 x0 = .inl 4 ∧ w_Reader_pass N x0 (59 : Int32) h11 (fun r13 h14 => (qzb r13 ∧ Q r13 h14)))))) ∧ (r6 = 0 → (qzb (0 : Int32) ∧ Q (0 : Int32) h7)))))))))
def w_Reader_readTell (N : Nat) (x0 : Nat) (h : qH) (Q : Int32 → qH → Prop) : Prop := (qS h x0 = .inl 4 ∧ (∀ y2 : Int32, y2 = (qI h x0 2) → ((y2 = (256 : Int32) → (w_Reader_readHanger N x0 h (fun r4 h5 => (qzb r4 ∧ Q r4 h5)))) ∧ (¬ y2 = (256 : Int32) → ((y2 = (257 : Int32) → (w_Reader_readPerson N x0 h (fun r7 h8 => (qzb r7 ∧ Q r7 h8)))) ∧ (¬ y2 = (257 : Int32) → ((y2 = (258 : Int32) → (w_Reader_readHangs N x0 h (fun r10 h11 => (qzb r10 ∧ Q r10 h11)))) ∧ (¬ y2 = (258 : Int32) → ((y2 = (259 : Int32) → (w_Reader_fails N x0 (1 : Int32) h (fun r13 h14 => (qzb r13 ∧ Q r13 h14)))) ∧ (¬ y2 = (259 : Int32) → ((y2 = (260 : Int32) → (w_Reader_fails N x0 (1 : Int32) h (fun r16 h17 => (qzb r16 ∧ Q r16 h17)))) ∧ (¬ y2 = (260 : Int32) → ((y2 = (261 : Int32) → (w_Reader_fails N x0 (1 : Int32) h (fun r19 h20 => (qzb r19 ∧ Q r19 h20)))) ∧ (¬ y2 = (261 : Int32) → ((y2 = (262 : Int32) → (w_Reader_fails N x0 (1 : Int32) h (fun r22 h23 => (qzb r22 ∧ Q r22 h23)))) ∧ (¬ y2 = (262 : Int32) → ((y2 = (263 : Int32) → (w_Reader_readMoth N x0 h (fun r25 h26 => (qzb r25 ∧ Q r25 h26)))) ∧ (¬ y2 = (263 : Int32) → ((y2 = (264 : Int32) → (w_Reader_readSeed N x0 h (fun r28 h29 => (qzb r28 ∧ Q r28 h29)))) ∧ (¬ y2 = (264 : Int32) → (w_Reader_fails N x0 (1 : Int32) h (fun r30 h31 => (qzb r30 ∧ Q r30 h31)))))))))))))))))))))))
def w_Reader_readAll_87 (N : Nat) (x0 : Nat) (x2 : Int32) (z0 : Int32) (h : qH) (Q : Int32 → qH → Prop) (K43 : Nat → Int32 → Int32 → qH → Prop) : Prop := ((z0 = 0 → (qS h x0 = .inl 4 ∧ w_Reader_readTell N x0 h (fun r3 h4 => (K43 x0 r3 (x2 + (1 : Int32)) h4)))) ∧ (¬ z0 = 0 → (qS h x0 = .inl 4 ∧ (qS h (qR h x0 5) = .inl 8 ∧ w_Text_law N (qR h x0 5) ((qI h x0 2) - (259 : Int32)) h (fun r7 h8 => (qS h8 x0 = .inl 4 ∧ w_Reader_readLaw N x0 r7 h8 (fun r10 h11 => (K43 x0 r10 (x2 + (1 : Int32)) h11))))))))
def w_Reader_readAll_86 (N : Nat) (x0 : Nat) (x2 : Int32) (h : qH) (Q : Int32 → qH → Prop) (K43 : Nat → Int32 → Int32 → qH → Prop) : Prop := (w_Reader_readAll_87 N x0 x2 (0 : Int32) h Q K43)
def w_Reader_readAll_43 (N : Nat) : Nat → Nat → Int32 → Int32 → qH → (Int32 → qH → Prop) → (Nat → qH → Prop) → Prop
  | 0 => fun _ _ _ _ _ _ => False
  | k + 1 => fun x0 x1 x2 h Q K125 => (((400 : Int32) < x2 → (K125 x0 h)) ∧ (¬ (400 : Int32) < x2 → ((x1 = 0 → (K125 x0 h)) ∧ (¬ x1 = 0 → (qS h x0 = .inl 4 ∧ (((qI h x0 2) = (1 : Int32) → (K125 x0 h)) ∧ (¬ (qI h x0 2) = (1 : Int32) → (((qI h x0 2) < (259 : Int32) → (w_Reader_readAll_86 N x0 x2 h Q (fun x0 x1 x2 h => w_Reader_readAll_43 N k x0 x1 x2 h Q K125))) ∧ (¬ (qI h x0 2) < (259 : Int32) → (((262 : Int32) < (qI h x0 2) → (w_Reader_readAll_86 N x0 x2 h Q (fun x0 x1 x2 h => w_Reader_readAll_43 N k x0 x1 x2 h Q K125))) ∧ (¬ (262 : Int32) < (qI h x0 2) → (w_Reader_readAll_87 N x0 x2 (1 : Int32) h Q (fun x0 x1 x2 h => w_Reader_readAll_43 N k x0 x1 x2 h Q K125)))))))))))))
def w_Reader_readAll_125 (N : Nat) (x0 : Nat) (h : qH) (Q : Int32 → qH → Prop)  : Prop := (qS h x0 = .inl 4 ∧ ((¬ (qI h x0 12) = 0 → Q (qI h x0 12) h) ∧ ((qI h x0 12) = 0 → (((qI h x0 10) = 0 → Q (qI h x0 12) h) ∧ (¬ (qI h x0 10) = 0 → (∀ h4 : qH, h4 = qsI h x0 12 (qI h x0 10) → (qS h4 x0 = .inl 4 ∧ (∀ h6 : qH, h6 = qsI h4 x0 13 (qI h4 x0 11) → (qS h6 x0 = .inl 4 ∧ Q (qI h6 x0 12) h6)))))))))
def w_Reader_readAll (N : Nat) (x0 : Nat) (h : qH) (Q : Int32 → qH → Prop) : Prop := (qS h x0 = .inl 4 ∧ ∀ h2 : qH, h2 = qsI h x0 12 (0 : Int32) → (qS h2 x0 = .inl 4 ∧ ∀ h4 : qH, h4 = qsI h2 x0 13 (-1 : Int32) → (qS h4 x0 = .inl 4 ∧ ∀ h6 : qH, h6 = qsI h4 x0 10 (0 : Int32) → (qS h6 x0 = .inl 4 ∧ ∀ h8 : qH, h8 = qsI h6 x0 8 (0 : Int32) → (qS h8 x0 = .inl 4 ∧ (qS h8 (qR h8 x0 5) = .inl 8 ∧ w_Text_clear N (qR h8 x0 5) h8 (fun h11 => (qS h11 x0 = .inl 4 ∧ (qS h11 (qR h11 x0 0) = .inl 7 ∧ w_Tape_split N (qR h11 x0 0) h11 (fun h14 => (qS h14 x0 = .inl 4 ∧ w_Reader_lookAt N x0 (0 : Int32) h14 (fun h16 => (w_Reader_readAll_43 N N x0 (1 : Int32) (0 : Int32) h16 Q (fun x17 h18 => (w_Reader_readAll_125 N x17 h18 Q )))))))))))))))
section QG
variable {p : Program} {l : Launch} {e : Env} {s : State} {m : MethodId} {args : Array Value} {below : List Frame} {meth : Method} {c : Code} {D : va_G} {cy : Nat → ClassId} {b : Nat} {adK adV : Nat → Nat}

set_option maxRecDepth 4000 in
theorem t_Reader_lookAt {adK adV : Nat → Nat} (l : Launch) (D : va_G) (cy : Nat → ClassId) (b : Nat) (N : Nat) (x0 : Nat) (x1 : Int32) (h : qH) (Q : qH → Prop) (hw : w_Reader_lookAt N x0 x1 h Q) : Met l y_Reader_lookAt (Cond.code y_Reader_lookAt prog_6_method_23_code 2 (none) :: qT) (qrm 0 0 0 0) (qPc D cy b adK adV h [qr b x0, .int x1]) (qQc D cy b qrV (fun (_ : Unit) h => Q h)) 0 0 (qA b) := by
  refine qmet (L0 := [(0, .inr (.inr (.inl x0))), (1, .inl x1)]) qm_Reader_lookAt (plainFor_of_name (by decide)) [.inr (.inr (.inl x0)), .inl x1] rfl (Nat.le_of_ble_eq_true rfl) rfl (fun p e s m args below meth c X => ?_)
  unfold w_Reader_lookAt at hw
  refine qx_aload_n (x := x0) X d_Reader_lookAt_0 rfl 0 rfl ?_
  refine qx_iload_n (x := x1) X d_Reader_lookAt_1 rfl 1 rfl ?_
  obtain ⟨g1, hw⟩ := hw
  refine qx_putI X qcls4 g1 1 (by decide) rfl wf_Reader_215 rfl rfl rfl d_Reader_lookAt_2 ?_
  refine qx_toph (fun h2 eh2 => ?_)
  have hw := hw h2 eh2
  refine qx_aload_n (x := x0) X d_Reader_lookAt_5 rfl 0 rfl ?_
  refine qx_aload_n (x := x0) X d_Reader_lookAt_6 rfl 0 rfl ?_
  obtain ⟨g3, hw⟩ := hw
  refine qx_getR X qcls4 g3 0 (by decide) rfl wf_Reader_36 d_Reader_lookAt_7 ?_
  obtain ⟨g4, hw⟩ := hw
  refine qx_getR X qcls7 g4 4 (by decide) rfl wf_Reader_218 d_Reader_lookAt_10 ?_
  refine qx_iload_n (x := x1) X d_Reader_lookAt_13 rfl 1 rfl ?_
  obtain ⟨g5, hw⟩ := hw
  refine qx_ild X g5 d_Reader_lookAt_14 ?_
  refine qx_putI X qcls4 g3 2 (by decide) rfl wf_Reader_61 rfl rfl rfl d_Reader_lookAt_15 ?_
  refine qx_toph (fun h6 eh6 => ?_)
  have hw := hw h6 eh6
  refine qx_aload_n (x := x0) X d_Reader_lookAt_18 rfl 0 rfl ?_
  refine qx_aload_n (x := x0) X d_Reader_lookAt_19 rfl 0 rfl ?_
  obtain ⟨g7, hw⟩ := hw
  refine qx_getR X qcls4 g7 0 (by decide) rfl wf_Reader_36 d_Reader_lookAt_20 ?_
  obtain ⟨g8, hw⟩ := hw
  refine qx_getR X qcls7 g8 6 (by decide) rfl wf_Reader_221 d_Reader_lookAt_23 ?_
  refine qx_iload_n (x := x1) X d_Reader_lookAt_26 rfl 1 rfl ?_
  obtain ⟨g9, hw⟩ := hw
  refine qx_lld X g9 d_Reader_lookAt_27 ?_
  refine qx_putJ X qcls4 g7 3 (by decide) rfl wf_Reader_205 rfl rfl rfl d_Reader_lookAt_28 ?_
  refine qx_toph (fun h10 eh10 => ?_)
  have hw := hw h10 eh10
  exact qx_vret X hw (Nat.le_refl 0) (Nat.le_refl 0) rfl d_Reader_lookAt_31
set_option maxRecDepth 4000 in
theorem t_Reader_fails {adK adV : Nat → Nat} (l : Launch) (D : va_G) (cy : Nat → ClassId) (b : Nat) (N : Nat) (x0 : Nat) (x1 : Int32) (h : qH) (Q : Int32 → qH → Prop) (hw : w_Reader_fails N x0 x1 h Q) : Met l y_Reader_fails (Cond.code y_Reader_fails prog_6_method_24_code 2 (some .boolean) :: qT) (qrm 0 0 0 0) (qPc D cy b adK adV h [qr b x0, .int x1]) (qQc D cy b qrI Q) 0 0 (qA b) := by
  refine qmet (L0 := [(0, .inr (.inr (.inl x0))), (1, .inl x1)]) qm_Reader_fails (plainFor_of_name (by decide)) [.inr (.inr (.inl x0)), .inl x1] rfl (Nat.le_of_ble_eq_true rfl) rfl (fun p e s m args below meth c X => ?_)
  unfold w_Reader_fails at hw
  refine qx_aload_n (x := x0) X d_Reader_fails_0 rfl 0 rfl ?_
  refine qx_iload_n (x := x1) X d_Reader_fails_1 rfl 1 rfl ?_
  obtain ⟨g1, hw⟩ := hw
  refine qx_putI X qcls4 g1 12 (by decide) rfl wf_Reader_40 rfl rfl rfl d_Reader_fails_2 ?_
  refine qx_toph (fun h2 eh2 => ?_)
  have hw := hw h2 eh2
  refine qx_aload_n (x := x0) X d_Reader_fails_5 rfl 0 rfl ?_
  refine qx_aload_n (x := x0) X d_Reader_fails_6 rfl 0 rfl ?_
  obtain ⟨g3, hw⟩ := hw
  refine qx_getR X qcls4 g3 0 (by decide) rfl wf_Reader_36 d_Reader_fails_7 ?_
  obtain ⟨g4, hw⟩ := hw
  refine qx_getR X qcls7 g4 5 (by decide) rfl wf_Reader_224 d_Reader_fails_10 ?_
  refine qx_aload_n (x := x0) X d_Reader_fails_13 rfl 0 rfl ?_
  refine qx_getI X qcls4 g3 1 (by decide) rfl wf_Reader_215 d_Reader_fails_14 ?_
  obtain ⟨g5, hw⟩ := hw
  refine qx_ild X g5 d_Reader_fails_17 ?_
  refine qx_putI X qcls4 g3 13 (by decide) rfl wf_Reader_32 rfl rfl rfl d_Reader_fails_18 ?_
  refine qx_toph (fun h6 eh6 => ?_)
  have hw := hw h6 eh6
  refine qx_iconst (v := (0 : Int32)) X d_Reader_fails_21 (by decide) ?_
  exact qx_zret X hw (Nat.le_refl 0) (Nat.le_refl 0) rfl d_Reader_fails_22
set_option maxRecDepth 4000 in
theorem t_Reader_goOn {adK adV : Nat → Nat} (l : Launch) (D : va_G) (cy : Nat → ClassId) (b : Nat) (N : Nat) (x0 : Nat) (h : qH) (Q : Int32 → qH → Prop) (hw : w_Reader_goOn N x0 h Q) : Met l y_Reader_goOn (Cond.code y_Reader_goOn prog_6_method_22_code 1 (some .boolean) :: qT) (qrm 1 0 0 21) (qPc D cy b adK adV h [qr b x0]) (qQc D cy b qrI Q) 0 0 (qA b) := by
  refine qmet (L0 := [(0, .inr (.inr (.inl x0)))]) qm_Reader_goOn (plainFor_of_name (by decide)) [.inr (.inr (.inl x0))] rfl (Nat.le_of_ble_eq_true rfl) rfl (fun p e s m args below meth c X => ?_)
  unfold w_Reader_goOn at hw
  refine qx_aload_n (x := x0) X d_Reader_goOn_0 rfl 0 rfl ?_
  obtain ⟨g1, hw⟩ := hw
  refine qx_getI X qcls4 g1 1 (by decide) rfl wf_Reader_215 d_Reader_goOn_1 ?_
  refine qx_sipush (v := (400 : Int32)) X d_Reader_goOn_4 (by decide) ?_
  refine qx_icmp_lt X 16 d_Reader_goOn_7 (by decide) (fun q2 => ?_) (fun q2 => ?_)
  · have hw := hw.1 q2
    refine qx_aload_n (x := x0) X d_Reader_goOn_16 rfl 0 rfl ?_
    refine qx_aload_n (x := x0) X d_Reader_goOn_17 rfl 0 rfl ?_
    refine qx_getI X qcls4 g1 1 (by decide) rfl wf_Reader_215 d_Reader_goOn_18 ?_
    refine qx_iconst (v := (1 : Int32)) X d_Reader_goOn_21 (by decide) ?_
    refine qx_iadd X d_Reader_goOn_22 ?_
    refine qx_callVV (st := []) (As := [.int ((qI h x0 1) + (1 : Int32))]) X (t_Reader_lookAt (adK := adK) (adV := adV) l D cy b N x0 ((qI h x0 1) + (1 : Int32)) h _ hw) qm_Reader_lookAt wm_Reader_57 wi_Reader_lookAt wl_Reader_lookAt qcls4 g1 rfl rfl rfl ⟨Nat.le_of_ble_eq_true rfl, Nat.le_of_ble_eq_true rfl⟩ ⟨Nat.le_refl 0, Nat.le_refl 0⟩ (Nat.le_of_ble_eq_true rfl) rfl d_Reader_goOn_23 (fun h3 hw => ?_)
    refine qx_iconst (v := (1 : Int32)) X d_Reader_goOn_26 (by decide) ?_
    exact qx_zret X hw (Nat.le_refl 0) (Nat.le_refl 0) rfl d_Reader_goOn_27
  · have hw := hw.2 q2
    refine qx_aload_n (x := x0) X d_Reader_goOn_10 rfl 0 rfl ?_
    refine qx_iconst (v := (2 : Int32)) X d_Reader_goOn_11 (by decide) ?_
    refine qx_callVI (st := []) (As := [.int (2 : Int32)]) X (t_Reader_fails (adK := adK) (adV := adV) l D cy b N x0 (2 : Int32) h _ hw) qm_Reader_fails wm_Reader_94 wi_Reader_fails wl_Reader_fails qcls4 g1 rfl rfl rfl ⟨Nat.le_of_ble_eq_true rfl, Nat.le_of_ble_eq_true rfl⟩ ⟨Nat.le_refl 0, Nat.le_refl 0⟩ (Nat.le_of_ble_eq_true rfl) rfl d_Reader_goOn_12 (fun r4 h5 hw => ?_)
    exact qx_zret X hw (Nat.le_refl 0) (Nat.le_refl 0) rfl d_Reader_goOn_15
set_option maxRecDepth 4000 in
theorem t_Reader_pass {adK adV : Nat → Nat} (l : Launch) (D : va_G) (cy : Nat → ClassId) (b : Nat) (N : Nat) (x0 : Nat) (x1 : Int32) (h : qH) (Q : Int32 → qH → Prop) (hw : w_Reader_pass N x0 x1 h Q) : Met l y_Reader_pass (Cond.code y_Reader_pass prog_6_method_21_code 2 (some .boolean) :: qT) (qrm 2 0 0 41) (qPc D cy b adK adV h [qr b x0, .int x1]) (qQc D cy b qrI Q) 0 0 (qA b) := by
  refine qmet (L0 := [(0, .inr (.inr (.inl x0))), (1, .inl x1)]) qm_Reader_pass (plainFor_of_name (by decide)) [.inr (.inr (.inl x0)), .inl x1] rfl (Nat.le_of_ble_eq_true rfl) rfl (fun p e s m args below meth c X => ?_)
  unfold w_Reader_pass at hw
  refine qx_aload_n (x := x0) X d_Reader_pass_0 rfl 0 rfl ?_
  obtain ⟨g1, hw⟩ := hw
  refine qx_getI X qcls4 g1 2 (by decide) rfl wf_Reader_61 d_Reader_pass_1 ?_
  refine qx_iload_n (x := x1) X d_Reader_pass_4 rfl 1 rfl ?_
  refine qx_icmp_ne X 15 d_Reader_pass_5 (by decide) (fun q2 => ?_) (fun q2 => ?_)
  · have hw := hw.1 q2
    refine qx_aload_n (x := x0) X d_Reader_pass_15 rfl 0 rfl ?_
    refine qx_iconst (v := (1 : Int32)) X d_Reader_pass_16 (by decide) ?_
    refine qx_callVI (st := []) (As := [.int (1 : Int32)]) X (t_Reader_fails (adK := adK) (adV := adV) l D cy b N x0 (1 : Int32) h _ hw) qm_Reader_fails wm_Reader_94 wi_Reader_fails wl_Reader_fails qcls4 g1 rfl rfl rfl ⟨Nat.le_of_ble_eq_true rfl, Nat.le_of_ble_eq_true rfl⟩ ⟨Nat.le_refl 0, Nat.le_refl 0⟩ (Nat.le_of_ble_eq_true rfl) rfl d_Reader_pass_17 (fun r3 h4 hw => ?_)
    exact qx_zret X hw (Nat.le_refl 0) (Nat.le_refl 0) rfl d_Reader_pass_20
  · have hw := hw.2 q2
    refine qx_aload_n (x := x0) X d_Reader_pass_8 rfl 0 rfl ?_
    refine qx_callVI (st := []) (As := []) X (t_Reader_goOn (adK := adK) (adV := adV) l D cy b N x0 h _ hw) qm_Reader_goOn wm_Reader_101 wi_Reader_goOn wl_Reader_goOn qcls4 g1 rfl rfl rfl ⟨Nat.le_of_ble_eq_true rfl, Nat.le_of_ble_eq_true rfl⟩ ⟨Nat.le_refl 0, Nat.le_refl 0⟩ (Nat.le_of_ble_eq_true rfl) rfl d_Reader_pass_9 (fun r5 h6 hw => ?_)
    refine qx_goto X 20 d_Reader_pass_12 (by decide) ?_
    exact qx_zret X hw (Nat.le_refl 0) (Nat.le_refl 0) rfl d_Reader_pass_20
set_option maxRecDepth 4000 in
theorem t_Reader_readClosing_2 (X : qX p s m args meth c D cy b adK adV prog_6_method_16_code "CoatHangers$Reader" 3 (some .boolean) "readClosing") (N k : Nat) (x0 : Nat) (x1 : Nat) (x2 : Int32) (h : qH) (Q : Int32 → qH → Prop)  (hw : w_Reader_readClosing_2 N k x0 x1 x2 h Q ) : qW p l e (qrm 2 0 0 44) s m args below meth c D cy b 3 0 0 (MQ below (qQc D cy b qrI Q) args s 0 0 (qA b)) 2 [(0, .inr (.inr (.inl x0))), (1, .inr (.inr (.inl x1))), (2, .inl x2)] [] h := by
  induction k generalizing x0 x1 x2 h with
  | zero => exact hw.elim
  | succ k ih =>
    refine qx_iload_n (x := x2) X d_Reader_readClosing_2 rfl 2 rfl ?_
    refine qx_bipush (v := (6 : Int32)) X d_Reader_readClosing_3 (by decide) ?_
    refine qx_icmp_ge X 58 d_Reader_readClosing_5 (by decide) (fun q1 => ?_) (fun q1 => ?_)
    · have hw := hw.1 q1
      refine qx_iconst (v := (1 : Int32)) X d_Reader_readClosing_58 (by decide) ?_
      exact qx_zret X hw (Nat.le_refl 0) (Nat.le_refl 0) rfl d_Reader_readClosing_59
    · have hw := hw.2 q1
      refine qx_aload_n (x := x0) X d_Reader_readClosing_8 rfl 0 rfl ?_
      obtain ⟨g2, hw⟩ := hw
      refine qx_getR X qcls4 g2 9 (by decide) rfl wf_Reader_28 d_Reader_readClosing_9 ?_
      obtain ⟨g3, hw⟩ := hw
      refine qx_getI X qcls10 g3 2 (by decide) rfl wf_Reader_199 d_Reader_readClosing_12 ?_
      refine qx_if_le X 58 d_Reader_readClosing_15 (by decide) (fun q4 => ?_) (fun q4 => ?_)
      · have hw := hw.1 q4
        refine qx_iconst (v := (1 : Int32)) X d_Reader_readClosing_58 (by decide) ?_
        exact qx_zret X hw (Nat.le_refl 0) (Nat.le_refl 0) rfl d_Reader_readClosing_59
      · have hw := hw.2 q4
        refine qx_aload_n (x := x0) X d_Reader_readClosing_18 rfl 0 rfl ?_
        refine qx_getI X qcls4 g2 2 (by decide) rfl wf_Reader_61 d_Reader_readClosing_19 ?_
        refine qx_bipush (v := (41 : Int32)) X d_Reader_readClosing_22 (by decide) ?_
        refine qx_icmp_ne X 58 d_Reader_readClosing_24 (by decide) (fun q5 => ?_) (fun q5 => ?_)
        · have hw := hw.1 q5
          refine qx_iconst (v := (1 : Int32)) X d_Reader_readClosing_58 (by decide) ?_
          exact qx_zret X hw (Nat.le_refl 0) (Nat.le_refl 0) rfl d_Reader_readClosing_59
        · have hw := hw.2 q5
          refine qx_aload_n (x := x0) X d_Reader_readClosing_27 rfl 0 rfl ?_
          refine qx_getR X qcls4 g2 9 (by decide) rfl wf_Reader_28 d_Reader_readClosing_28 ?_
          refine qx_aload_n (x := x1) X d_Reader_readClosing_31 rfl 1 rfl ?_
          refine qx_iconst (v := (1 : Int32)) X d_Reader_readClosing_32 (by decide) ?_
          refine qx_callVV (st := []) (As := [qr b x1, .int (1 : Int32)]) X (t_Waits_letGo (adK := adK) (adV := adV) l D cy b N (qR h x0 9) x1 (1 : Int32) h _ hw) qm_Waits_letGo wm_Reader_196 wi_Waits_letGo wl_Waits_letGo qcls10 g3 rfl rfl rfl ⟨Nat.le_of_ble_eq_true rfl, Nat.le_of_ble_eq_true rfl⟩ ⟨Nat.le_refl 0, Nat.le_refl 0⟩ (Nat.le_of_ble_eq_true rfl) rfl d_Reader_readClosing_33 (fun h6 hw => ?_)
          refine qx_aload_n (x := x0) X d_Reader_readClosing_36 rfl 0 rfl ?_
          obtain ⟨g7, hw⟩ := hw
          refine qx_getR X qcls4 g7 9 (by decide) rfl wf_Reader_28 d_Reader_readClosing_37 ?_
          obtain ⟨g8, hw⟩ := hw
          refine qx_callVV (st := []) (As := []) X (t_Waits_close (adK := adK) (adV := adV) l D cy b N (qR h6 x0 9) h6 _ hw) qm_Waits_close wm_Reader_209 wi_Waits_close wl_Waits_close qcls10 g8 rfl rfl rfl ⟨Nat.le_of_ble_eq_true rfl, Nat.le_of_ble_eq_true rfl⟩ ⟨Nat.le_refl 0, Nat.le_refl 0⟩ (Nat.le_of_ble_eq_true rfl) rfl d_Reader_readClosing_40 (fun h9 hw => ?_)
          refine qx_aload_n (x := x0) X d_Reader_readClosing_43 rfl 0 rfl ?_
          obtain ⟨g10, hw⟩ := hw
          refine qx_callVI (st := []) (As := []) X (t_Reader_goOn (adK := adK) (adV := adV) l D cy b N x0 h9 _ hw) qm_Reader_goOn wm_Reader_101 wi_Reader_goOn wl_Reader_goOn qcls4 g10 rfl rfl rfl ⟨Nat.le_of_ble_eq_true rfl, Nat.le_of_ble_eq_true rfl⟩ ⟨Nat.le_refl 0, Nat.le_refl 0⟩ (Nat.le_of_ble_eq_true rfl) rfl d_Reader_readClosing_44 (fun r11 h12 hw => ?_)
          refine qx_if_ne X 52 d_Reader_readClosing_47 (by decide) (fun q13 => ?_) (fun q13 => ?_)
          · have hw := hw.1 q13
            refine qx_iinc (v := (x2 + (1 : Int32))) (L' := [(2, .inl (x2 + (1 : Int32))), (0, .inr (.inr (.inl x0))), (1, .inr (.inr (.inl x1)))]) X d_Reader_readClosing_52 2 rfl rfl (by decide) rfl ?_
            refine qx_goto X 2 d_Reader_readClosing_55 (by decide) ?_
            refine qx_sub [1, 2, 0] rfl ?_
            exact ih x0 x1 (x2 + (1 : Int32)) h12 hw
          · have hw := hw.2 q13
            refine qx_iconst (v := (0 : Int32)) X d_Reader_readClosing_50 (by decide) ?_
            exact qx_zret X hw (Nat.le_refl 0) (Nat.le_refl 0) rfl d_Reader_readClosing_51
set_option maxRecDepth 4000 in
theorem t_Reader_readClosing {adK adV : Nat → Nat} (l : Launch) (D : va_G) (cy : Nat → ClassId) (b : Nat) (N : Nat) (x0 : Nat) (x1 : Nat) (h : qH) (Q : Int32 → qH → Prop) (hw : w_Reader_readClosing N x0 x1 h Q) : Met l y_Reader_readClosing (Cond.code y_Reader_readClosing prog_6_method_16_code 3 (some .boolean) :: qT) (qrm 2 0 0 44) (qPc D cy b adK adV h [qr b x0, qr b x1]) (qQc D cy b qrI Q) 0 0 (qA b) := by
  refine qmet (L0 := [(0, .inr (.inr (.inl x0))), (1, .inr (.inr (.inl x1)))]) qm_Reader_readClosing (plainFor_of_name (by decide)) [.inr (.inr (.inl x0)), .inr (.inr (.inl x1))] rfl (Nat.le_of_ble_eq_true rfl) rfl (fun p e s m args below meth c X => ?_)
  unfold w_Reader_readClosing at hw
  refine qx_iconst (v := (0 : Int32)) X d_Reader_readClosing_0 (by decide) ?_
  refine qx_istore_n (L' := [(2, .inl (0 : Int32)), (0, .inr (.inr (.inl x0))), (1, .inr (.inr (.inl x1)))]) X d_Reader_readClosing_1 rfl (by decide) rfl ?_
  refine qx_sub [1, 2, 0] rfl ?_
  exact t_Reader_readClosing_2 X N N x0 x1 (0 : Int32) h Q  hw 
set_option maxRecDepth 4000 in
theorem t_Reader_readOpening_2 (X : qX p s m args meth c D cy b adK adV prog_6_method_14_code "CoatHangers$Reader" 2 (some .boolean) "readOpening") (N k : Nat) (x0 : Nat) (x1 : Int32) (h : qH) (Q : Int32 → qH → Prop)  (hw : w_Reader_readOpening_2 N k x0 x1 h Q ) : qW p l e (qrm 2 0 0 41) s m args below meth c D cy b 2 0 0 (MQ below (qQc D cy b qrI Q) args s 0 0 (qA b)) 2 [(0, .inr (.inr (.inl x0))), (1, .inl x1)] [] h := by
  induction k generalizing x0 x1 h with
  | zero => exact hw.elim
  | succ k ih =>
    refine qx_iload_n (x := x1) X d_Reader_readOpening_2 rfl 1 rfl ?_
    refine qx_bipush (v := (6 : Int32)) X d_Reader_readOpening_3 (by decide) ?_
    refine qx_icmp_gt X 57 d_Reader_readOpening_5 (by decide) (fun q1 => ?_) (fun q1 => ?_)
    · have hw := hw.1 q1
      refine qx_iconst (v := (1 : Int32)) X d_Reader_readOpening_57 (by decide) ?_
      exact qx_zret X hw (Nat.le_refl 0) (Nat.le_refl 0) rfl d_Reader_readOpening_58
    · have hw := hw.2 q1
      refine qx_aload_n (x := x0) X d_Reader_readOpening_8 rfl 0 rfl ?_
      obtain ⟨g2, hw⟩ := hw
      refine qx_getI X qcls4 g2 2 (by decide) rfl wf_Reader_61 d_Reader_readOpening_9 ?_
      refine qx_bipush (v := (40 : Int32)) X d_Reader_readOpening_12 (by decide) ?_
      refine qx_icmp_ne X 57 d_Reader_readOpening_14 (by decide) (fun q3 => ?_) (fun q3 => ?_)
      · have hw := hw.1 q3
        refine qx_iconst (v := (1 : Int32)) X d_Reader_readOpening_57 (by decide) ?_
        exact qx_zret X hw (Nat.le_refl 0) (Nat.le_refl 0) rfl d_Reader_readOpening_58
      · have hw := hw.2 q3
        refine qx_aload_n (x := x0) X d_Reader_readOpening_17 rfl 0 rfl ?_
        refine qx_getR X qcls4 g2 9 (by decide) rfl wf_Reader_28 d_Reader_readOpening_18 ?_
        obtain ⟨g4, hw⟩ := hw
        refine qx_getI X qcls10 g4 2 (by decide) rfl wf_Reader_199 d_Reader_readOpening_21 ?_
        refine qx_bipush (v := (6 : Int32)) X d_Reader_readOpening_24 (by decide) ?_
        refine qx_icmp_lt X 35 d_Reader_readOpening_26 (by decide) (fun q5 => ?_) (fun q5 => ?_)
        · have hw := hw.1 q5
          refine qx_aload_n (x := x0) X d_Reader_readOpening_35 rfl 0 rfl ?_
          refine qx_getR X qcls4 g2 9 (by decide) rfl wf_Reader_28 d_Reader_readOpening_36 ?_
          refine qx_callVV (st := []) (As := []) X (t_Waits_open (adK := adK) (adV := adV) l D cy b N (qR h x0 9) h _ hw) qm_Waits_open wm_Reader_202 wi_Waits_open wl_Waits_open qcls10 g4 rfl rfl rfl ⟨Nat.le_of_ble_eq_true rfl, Nat.le_of_ble_eq_true rfl⟩ ⟨Nat.le_refl 0, Nat.le_refl 0⟩ (Nat.le_of_ble_eq_true rfl) rfl d_Reader_readOpening_39 (fun h6 hw => ?_)
          refine qx_aload_n (x := x0) X d_Reader_readOpening_42 rfl 0 rfl ?_
          obtain ⟨g7, hw⟩ := hw
          refine qx_callVI (st := []) (As := []) X (t_Reader_goOn (adK := adK) (adV := adV) l D cy b N x0 h6 _ hw) qm_Reader_goOn wm_Reader_101 wi_Reader_goOn wl_Reader_goOn qcls4 g7 rfl rfl rfl ⟨Nat.le_of_ble_eq_true rfl, Nat.le_of_ble_eq_true rfl⟩ ⟨Nat.le_refl 0, Nat.le_refl 0⟩ (Nat.le_of_ble_eq_true rfl) rfl d_Reader_readOpening_43 (fun r8 h9 hw => ?_)
          refine qx_if_ne X 51 d_Reader_readOpening_46 (by decide) (fun q10 => ?_) (fun q10 => ?_)
          · have hw := hw.1 q10
            refine qx_iinc (v := (x1 + (1 : Int32))) (L' := [(1, .inl (x1 + (1 : Int32))), (0, .inr (.inr (.inl x0)))]) X d_Reader_readOpening_51 1 rfl rfl (by decide) rfl ?_
            refine qx_goto X 2 d_Reader_readOpening_54 (by decide) ?_
            refine qx_sub [1, 0] rfl ?_
            exact ih x0 (x1 + (1 : Int32)) h9 hw
          · have hw := hw.2 q10
            refine qx_iconst (v := (0 : Int32)) X d_Reader_readOpening_49 (by decide) ?_
            exact qx_zret X hw (Nat.le_refl 0) (Nat.le_refl 0) rfl d_Reader_readOpening_50
        · have hw := hw.2 q5
          refine qx_aload_n (x := x0) X d_Reader_readOpening_29 rfl 0 rfl ?_
          refine qx_iconst (v := (2 : Int32)) X d_Reader_readOpening_30 (by decide) ?_
          refine qx_callVI (st := []) (As := [.int (2 : Int32)]) X (t_Reader_fails (adK := adK) (adV := adV) l D cy b N x0 (2 : Int32) h _ hw) qm_Reader_fails wm_Reader_94 wi_Reader_fails wl_Reader_fails qcls4 g2 rfl rfl rfl ⟨Nat.le_of_ble_eq_true rfl, Nat.le_of_ble_eq_true rfl⟩ ⟨Nat.le_refl 0, Nat.le_refl 0⟩ (Nat.le_of_ble_eq_true rfl) rfl d_Reader_readOpening_31 (fun r11 h12 hw => ?_)
          exact qx_zret X hw (Nat.le_refl 0) (Nat.le_refl 0) rfl d_Reader_readOpening_34
set_option maxRecDepth 4000 in
theorem t_Reader_readOpening {adK adV : Nat → Nat} (l : Launch) (D : va_G) (cy : Nat → ClassId) (b : Nat) (N : Nat) (x0 : Nat) (h : qH) (Q : Int32 → qH → Prop) (hw : w_Reader_readOpening N x0 h Q) : Met l y_Reader_readOpening (Cond.code y_Reader_readOpening prog_6_method_14_code 2 (some .boolean) :: qT) (qrm 2 0 0 41) (qPc D cy b adK adV h [qr b x0]) (qQc D cy b qrI Q) 0 0 (qA b) := by
  refine qmet (L0 := [(0, .inr (.inr (.inl x0)))]) qm_Reader_readOpening (plainFor_of_name (by decide)) [.inr (.inr (.inl x0))] rfl (Nat.le_of_ble_eq_true rfl) rfl (fun p e s m args below meth c X => ?_)
  unfold w_Reader_readOpening at hw
  refine qx_iconst (v := (0 : Int32)) X d_Reader_readOpening_0 (by decide) ?_
  refine qx_istore_n (L' := [(1, .inl (0 : Int32)), (0, .inr (.inr (.inl x0)))]) X d_Reader_readOpening_1 rfl (by decide) rfl ?_
  refine qx_sub [1, 0] rfl ?_
  exact t_Reader_readOpening_2 X N N x0 (0 : Int32) h Q  hw 
set_option maxRecDepth 4000 in
theorem t_Reader_readOperand {adK adV : Nat → Nat} (l : Launch) (D : va_G) (cy : Nat → ClassId) (b : Nat) (N : Nat) (x0 : Nat) (x1 : Nat) (h : qH) (Q : Int32 → qH → Prop) (hw : w_Reader_readOperand N x0 x1 h Q) : Met l y_Reader_readOperand (Cond.code y_Reader_readOperand prog_6_method_15_code 2 (some .boolean) :: qT) (qrm 2 0 0 41) (qPc D cy b adK adV h [qr b x0, qr b x1]) (qQc D cy b qrI Q) 0 0 (qA b) := by
  refine qmet (L0 := [(0, .inr (.inr (.inl x0))), (1, .inr (.inr (.inl x1)))]) qm_Reader_readOperand (plainFor_of_name (by decide)) [.inr (.inr (.inl x0)), .inr (.inr (.inl x1))] rfl (Nat.le_of_ble_eq_true rfl) rfl (fun p e s m args below meth c X => ?_)
  unfold w_Reader_readOperand at hw
  refine qx_aload_n (x := x0) X d_Reader_readOperand_0 rfl 0 rfl ?_
  obtain ⟨g1, hw⟩ := hw
  refine qx_getI X qcls4 g1 2 (by decide) rfl wf_Reader_61 d_Reader_readOperand_1 ?_
  refine qx_iconst (v := (4 : Int32)) X d_Reader_readOperand_4 (by decide) ?_
  refine qx_icmp_ne X 21 d_Reader_readOperand_5 (by decide) (fun q2 => ?_) (fun q2 => ?_)
  · have hw := hw.1 q2
    refine qx_aload_n (x := x0) X d_Reader_readOperand_21 rfl 0 rfl ?_
    refine qx_getI X qcls4 g1 2 (by decide) rfl wf_Reader_61 d_Reader_readOperand_22 ?_
    refine qx_sipush (v := (268 : Int32)) X d_Reader_readOperand_25 (by decide) ?_
    refine qx_icmp_lt X 57 d_Reader_readOperand_28 (by decide) (fun q3 => ?_) (fun q3 => ?_)
    · have hw := hw.1 q3
      refine qx_aload_n (x := x0) X d_Reader_readOperand_57 rfl 0 rfl ?_
      refine qx_iconst (v := (1 : Int32)) X d_Reader_readOperand_58 (by decide) ?_
      refine qx_callVI (st := []) (As := [.int (1 : Int32)]) X (t_Reader_fails (adK := adK) (adV := adV) l D cy b N x0 (1 : Int32) h _ hw) qm_Reader_fails wm_Reader_94 wi_Reader_fails wl_Reader_fails qcls4 g1 rfl rfl rfl ⟨Nat.le_of_ble_eq_true rfl, Nat.le_of_ble_eq_true rfl⟩ ⟨Nat.le_refl 0, Nat.le_refl 0⟩ (Nat.le_of_ble_eq_true rfl) rfl d_Reader_readOperand_59 (fun r4 h5 hw => ?_)
      exact qx_zret X hw (Nat.le_refl 0) (Nat.le_refl 0) rfl d_Reader_readOperand_62
    · have hw := hw.2 q3
      refine qx_aload_n (x := x0) X d_Reader_readOperand_31 rfl 0 rfl ?_
      refine qx_getI X qcls4 g1 2 (by decide) rfl wf_Reader_61 d_Reader_readOperand_32 ?_
      refine qx_sipush (v := (276 : Int32)) X d_Reader_readOperand_35 (by decide) ?_
      refine qx_icmp_gt X 57 d_Reader_readOperand_38 (by decide) (fun q6 => ?_) (fun q6 => ?_)
      · have hw := hw.1 q6
        refine qx_aload_n (x := x0) X d_Reader_readOperand_57 rfl 0 rfl ?_
        refine qx_iconst (v := (1 : Int32)) X d_Reader_readOperand_58 (by decide) ?_
        refine qx_callVI (st := []) (As := [.int (1 : Int32)]) X (t_Reader_fails (adK := adK) (adV := adV) l D cy b N x0 (1 : Int32) h _ hw) qm_Reader_fails wm_Reader_94 wi_Reader_fails wl_Reader_fails qcls4 g1 rfl rfl rfl ⟨Nat.le_of_ble_eq_true rfl, Nat.le_of_ble_eq_true rfl⟩ ⟨Nat.le_refl 0, Nat.le_refl 0⟩ (Nat.le_of_ble_eq_true rfl) rfl d_Reader_readOperand_59 (fun r7 h8 hw => ?_)
        exact qx_zret X hw (Nat.le_refl 0) (Nat.le_refl 0) rfl d_Reader_readOperand_62
      · have hw := hw.2 q6
        refine qx_aload_n (x := x1) X d_Reader_readOperand_41 rfl 1 rfl ?_
        refine qx_iconst (v := (2 : Int32)) X d_Reader_readOperand_42 (by decide) ?_
        refine qx_aload_n (x := x0) X d_Reader_readOperand_43 rfl 0 rfl ?_
        refine qx_getI X qcls4 g1 2 (by decide) rfl wf_Reader_61 d_Reader_readOperand_44 ?_
        refine qx_sipush (v := (268 : Int32)) X d_Reader_readOperand_47 (by decide) ?_
        refine qx_isub X d_Reader_readOperand_50 ?_
        obtain ⟨g9, hw⟩ := hw
        refine qx_callVV (st := []) (As := [.int (2 : Int32), .int ((qI h x0 2) - (268 : Int32))]) X (t_Law_add (adK := adK) (adV := adV) l D cy b N x1 (2 : Int32) ((qI h x0 2) - (268 : Int32)) h _ hw) qm_Law_add wm_Reader_170 wi_Law_add wl_Law_add qcls0 g9 rfl rfl rfl ⟨Nat.le_of_ble_eq_true rfl, Nat.le_of_ble_eq_true rfl⟩ ⟨Nat.le_refl 0, Nat.le_refl 0⟩ (Nat.le_of_ble_eq_true rfl) rfl d_Reader_readOperand_51 (fun h10 hw => ?_)
        refine qx_goto X 63 d_Reader_readOperand_54 (by decide) ?_
        refine qx_aload_n (x := x0) X d_Reader_readOperand_63 rfl 0 rfl ?_
        obtain ⟨g11, hw⟩ := hw
        refine qx_callVI (st := []) (As := []) X (t_Reader_goOn (adK := adK) (adV := adV) l D cy b N x0 h10 _ hw) qm_Reader_goOn wm_Reader_101 wi_Reader_goOn wl_Reader_goOn qcls4 g11 rfl rfl rfl ⟨Nat.le_of_ble_eq_true rfl, Nat.le_of_ble_eq_true rfl⟩ ⟨Nat.le_refl 0, Nat.le_refl 0⟩ (Nat.le_of_ble_eq_true rfl) rfl d_Reader_readOperand_64 (fun r12 h13 hw => ?_)
        exact qx_zret X hw (Nat.le_refl 0) (Nat.le_refl 0) rfl d_Reader_readOperand_67
  · have hw := hw.2 q2
    refine qx_aload_n (x := x1) X d_Reader_readOperand_8 rfl 1 rfl ?_
    refine qx_iconst (v := (1 : Int32)) X d_Reader_readOperand_9 (by decide) ?_
    refine qx_aload_n (x := x0) X d_Reader_readOperand_10 rfl 0 rfl ?_
    refine qx_getJ X qcls4 g1 3 (by decide) rfl wf_Reader_205 d_Reader_readOperand_11 ?_
    refine qx_l2i X d_Reader_readOperand_14 ?_
    obtain ⟨g14, hw⟩ := hw
    refine qx_callVV (st := []) (As := [.int (1 : Int32), .int (((qJ h x0 3)).toInt32)]) X (t_Law_add (adK := adK) (adV := adV) l D cy b N x1 (1 : Int32) (((qJ h x0 3)).toInt32) h _ hw) qm_Law_add wm_Reader_170 wi_Law_add wl_Law_add qcls0 g14 rfl rfl rfl ⟨Nat.le_of_ble_eq_true rfl, Nat.le_of_ble_eq_true rfl⟩ ⟨Nat.le_refl 0, Nat.le_refl 0⟩ (Nat.le_of_ble_eq_true rfl) rfl d_Reader_readOperand_15 (fun h15 hw => ?_)
    refine qx_goto X 63 d_Reader_readOperand_18 (by decide) ?_
    refine qx_aload_n (x := x0) X d_Reader_readOperand_63 rfl 0 rfl ?_
    obtain ⟨g16, hw⟩ := hw
    refine qx_callVI (st := []) (As := []) X (t_Reader_goOn (adK := adK) (adV := adV) l D cy b N x0 h15 _ hw) qm_Reader_goOn wm_Reader_101 wi_Reader_goOn wl_Reader_goOn qcls4 g16 rfl rfl rfl ⟨Nat.le_of_ble_eq_true rfl, Nat.le_of_ble_eq_true rfl⟩ ⟨Nat.le_refl 0, Nat.le_refl 0⟩ (Nat.le_of_ble_eq_true rfl) rfl d_Reader_readOperand_64 (fun r17 h18 hw => ?_)
    exact qx_zret X hw (Nat.le_refl 0) (Nat.le_refl 0) rfl d_Reader_readOperand_67
set_option maxRecDepth 4000 in
theorem t_Reader_readSum_62 (X : qX p s m args meth c D cy b adK adV prog_6_method_13_code "CoatHangers$Reader" 4 (some .boolean) "readSum") (N : Nat) (x0 : Nat) (x1 : Nat) (x3 : Int32) (z0 : Int32) (h : qH) (Q : Int32 → qH → Prop) (K11 : Nat → Nat → Int32 → Int32 → qH → Prop) (hw : w_Reader_readSum_62 N x0 x1 x3 z0 h Q K11) (hK11 : ∀ (x0 : Nat) (x1 : Nat) (x2 : Int32) (x3 : Int32) (h : qH), K11 x0 x1 x2 x3 h → qW p l e (qrm 3 0 0 66) s m args below meth c D cy b 4 0 0 (MQ below (qQc D cy b qrI Q) args s 0 0 (qA b)) 11 [(0, .inr (.inr (.inl x0))), (1, .inr (.inr (.inl x1))), (2, .inl x2), (3, .inl x3)] [] h) : qW p l e (qrm 3 0 0 66) s m args below meth c D cy b 4 0 0 (MQ below (qQc D cy b qrI Q) args s 0 0 (qA b)) 62 [(0, .inr (.inr (.inl x0))), (1, .inr (.inr (.inl x1))), (3, .inl x3)] [.int z0] h := by
  unfold w_Reader_readSum_62 at hw
  refine qx_istore_n (L' := [(2, .inl z0), (0, .inr (.inr (.inl x0))), (1, .inr (.inr (.inl x1))), (3, .inl x3)]) X d_Reader_readSum_62 rfl (by decide) rfl ?_
  refine qx_iload_n (x := z0) X d_Reader_readSum_63 rfl 0 rfl ?_
  refine qx_if_ne X 88 d_Reader_readSum_64 (by decide) (fun q1 => ?_) (fun q1 => ?_)
  · have hw := hw.1 q1
    refine qx_iinc (v := (x3 + (1 : Int32))) (L' := [(3, .inl (x3 + (1 : Int32))), (2, .inl z0), (0, .inr (.inr (.inl x0))), (1, .inr (.inr (.inl x1)))]) X d_Reader_readSum_88 3 rfl rfl (by decide) rfl ?_
    refine qx_goto X 11 d_Reader_readSum_91 (by decide) ?_
    refine qx_sub [2, 3, 1, 0] rfl ?_
    exact hK11 x0 x1 z0 (x3 + (1 : Int32)) h hw
  · have hw := hw.2 q1
    refine qx_aload_n (x := x0) X d_Reader_readSum_67 rfl 1 rfl ?_
    obtain ⟨g2, hw⟩ := hw
    refine qx_getR X qcls4 g2 9 (by decide) rfl wf_Reader_28 d_Reader_readSum_68 ?_
    refine qx_aload_n (x := x1) X d_Reader_readSum_71 rfl 2 rfl ?_
    refine qx_aload_n (x := x0) X d_Reader_readSum_72 rfl 1 rfl ?_
    refine qx_getI X qcls4 g2 2 (by decide) rfl wf_Reader_61 d_Reader_readSum_73 ?_
    obtain ⟨g3, hw⟩ := hw
    refine qx_callVV (st := []) (As := [qr b x1, .int (qI h x0 2)]) X (t_Waits_add (adK := adK) (adV := adV) l D cy b N (qR h x0 9) x1 (qI h x0 2) h _ hw) qm_Waits_add wm_Reader_193 wi_Waits_add wl_Waits_add qcls10 g3 rfl rfl rfl ⟨Nat.le_of_ble_eq_true rfl, Nat.le_of_ble_eq_true rfl⟩ ⟨Nat.le_refl 0, Nat.le_refl 0⟩ (Nat.le_of_ble_eq_true rfl) rfl d_Reader_readSum_76 (fun h4 hw => ?_)
    refine qx_aload_n (x := x0) X d_Reader_readSum_79 rfl 1 rfl ?_
    obtain ⟨g5, hw⟩ := hw
    refine qx_callVI (st := []) (As := []) X (t_Reader_goOn (adK := adK) (adV := adV) l D cy b N x0 h4 _ hw) qm_Reader_goOn wm_Reader_101 wi_Reader_goOn wl_Reader_goOn qcls4 g5 rfl rfl rfl ⟨Nat.le_of_ble_eq_true rfl, Nat.le_of_ble_eq_true rfl⟩ ⟨Nat.le_refl 0, Nat.le_refl 0⟩ (Nat.le_of_ble_eq_true rfl) rfl d_Reader_readSum_80 (fun r6 h7 hw => ?_)
    refine qx_if_ne X 88 d_Reader_readSum_83 (by decide) (fun q8 => ?_) (fun q8 => ?_)
    · have hw := hw.1 q8
      refine qx_iinc (v := (x3 + (1 : Int32))) (L' := [(3, .inl (x3 + (1 : Int32))), (2, .inl z0), (0, .inr (.inr (.inl x0))), (1, .inr (.inr (.inl x1)))]) X d_Reader_readSum_88 3 rfl rfl (by decide) rfl ?_
      refine qx_goto X 11 d_Reader_readSum_91 (by decide) ?_
      refine qx_sub [2, 3, 1, 0] rfl ?_
      exact hK11 x0 x1 z0 (x3 + (1 : Int32)) h7 hw
    · have hw := hw.2 q8
      refine qx_iconst (v := (0 : Int32)) X d_Reader_readSum_86 (by decide) ?_
      exact qx_zret X hw (Nat.le_refl 0) (Nat.le_refl 0) rfl d_Reader_readSum_87
set_option maxRecDepth 4000 in
theorem t_Reader_readSum_11 (X : qX p s m args meth c D cy b adK adV prog_6_method_13_code "CoatHangers$Reader" 4 (some .boolean) "readSum") (N k : Nat) (x0 : Nat) (x1 : Nat) (x2 : Int32) (x3 : Int32) (h : qH) (Q : Int32 → qH → Prop) (K94 : Nat → Nat → qH → Prop) (hw : w_Reader_readSum_11 N k x0 x1 x2 x3 h Q K94) (hK94 : ∀ (x0 : Nat) (x1 : Nat) (h : qH), K94 x0 x1 h → qW p l e (qrm 3 0 0 66) s m args below meth c D cy b 4 0 0 (MQ below (qQc D cy b qrI Q) args s 0 0 (qA b)) 94 [(0, .inr (.inr (.inl x0))), (1, .inr (.inr (.inl x1)))] [] h) : qW p l e (qrm 3 0 0 66) s m args below meth c D cy b 4 0 0 (MQ below (qQc D cy b qrI Q) args s 0 0 (qA b)) 11 [(0, .inr (.inr (.inl x0))), (1, .inr (.inr (.inl x1))), (2, .inl x2), (3, .inl x3)] [] h := by
  induction k generalizing x0 x1 x2 x3 h with
  | zero => exact hw.elim
  | succ k ih =>
    refine qx_iload_n (x := x3) X d_Reader_readSum_11 rfl 3 rfl ?_
    refine qx_sipush (v := (400 : Int32)) X d_Reader_readSum_12 (by decide) ?_
    refine qx_icmp_gt X 94 d_Reader_readSum_15 (by decide) (fun q1 => ?_) (fun q1 => ?_)
    · have hw := hw.1 q1
      refine qx_sub [0, 1] rfl ?_
      exact hK94 x0 x1 h hw
    · have hw := hw.2 q1
      refine qx_iload_n (x := x2) X d_Reader_readSum_18 rfl 2 rfl ?_
      refine qx_if_ne X 94 d_Reader_readSum_19 (by decide) (fun q2 => ?_) (fun q2 => ?_)
      · have hw := hw.1 q2
        refine qx_sub [0, 1] rfl ?_
        exact hK94 x0 x1 h hw
      · have hw := hw.2 q2
        refine qx_aload_n (x := x0) X d_Reader_readSum_22 rfl 0 rfl ?_
        obtain ⟨g3, hw⟩ := hw
        refine qx_callVI (st := []) (As := []) X (t_Reader_readOpening (adK := adK) (adV := adV) l D cy b N x0 h _ hw) qm_Reader_readOpening wm_Reader_180 wi_Reader_readOpening wl_Reader_readOpening qcls4 g3 rfl rfl rfl ⟨Nat.le_of_ble_eq_true rfl, Nat.le_of_ble_eq_true rfl⟩ ⟨Nat.le_refl 0, Nat.le_refl 0⟩ (Nat.le_of_ble_eq_true rfl) rfl d_Reader_readSum_23 (fun r4 h5 hw => ?_)
        refine qx_if_eq X 45 d_Reader_readSum_26 (by decide) (fun q6 => ?_) (fun q6 => ?_)
        · have hw := hw.1 q6
          refine qx_iconst (v := (0 : Int32)) X d_Reader_readSum_45 (by decide) ?_
          exact qx_zret X hw (Nat.le_refl 0) (Nat.le_refl 0) rfl d_Reader_readSum_46
        · have hw := hw.2 q6
          refine qx_aload_n (x := x0) X d_Reader_readSum_29 rfl 0 rfl ?_
          refine qx_aload_n (x := x1) X d_Reader_readSum_30 rfl 1 rfl ?_
          obtain ⟨g7, hw⟩ := hw
          refine qx_callVI (st := []) (As := [qr b x1]) X (t_Reader_readOperand (adK := adK) (adV := adV) l D cy b N x0 x1 h5 _ hw) qm_Reader_readOperand wm_Reader_183 wi_Reader_readOperand wl_Reader_readOperand qcls4 g7 rfl rfl rfl ⟨Nat.le_of_ble_eq_true rfl, Nat.le_of_ble_eq_true rfl⟩ ⟨Nat.le_refl 0, Nat.le_refl 0⟩ (Nat.le_of_ble_eq_true rfl) rfl d_Reader_readSum_31 (fun r8 h9 hw => ?_)
          refine qx_if_eq X 45 d_Reader_readSum_34 (by decide) (fun q10 => ?_) (fun q10 => ?_)
          · have hw := hw.1 q10
            refine qx_iconst (v := (0 : Int32)) X d_Reader_readSum_45 (by decide) ?_
            exact qx_zret X hw (Nat.le_refl 0) (Nat.le_refl 0) rfl d_Reader_readSum_46
          · have hw := hw.2 q10
            refine qx_aload_n (x := x0) X d_Reader_readSum_37 rfl 0 rfl ?_
            refine qx_aload_n (x := x1) X d_Reader_readSum_38 rfl 1 rfl ?_
            obtain ⟨g11, hw⟩ := hw
            refine qx_callVI (st := []) (As := [qr b x1]) X (t_Reader_readClosing (adK := adK) (adV := adV) l D cy b N x0 x1 h9 _ hw) qm_Reader_readClosing wm_Reader_186 wi_Reader_readClosing wl_Reader_readClosing qcls4 g11 rfl rfl rfl ⟨Nat.le_of_ble_eq_true rfl, Nat.le_of_ble_eq_true rfl⟩ ⟨Nat.le_refl 0, Nat.le_refl 0⟩ (Nat.le_of_ble_eq_true rfl) rfl d_Reader_readSum_39 (fun r12 h13 hw => ?_)
            refine qx_if_ne X 47 d_Reader_readSum_42 (by decide) (fun q14 => ?_) (fun q14 => ?_)
            · have hw := hw.1 q14
              refine qx_aload_n (x := x0) X d_Reader_readSum_47 rfl 0 rfl ?_
              obtain ⟨g15, hw⟩ := hw
              refine qx_getI X qcls4 g15 2 (by decide) rfl wf_Reader_61 d_Reader_readSum_48 ?_
              refine qx_callSI (st := []) (As := [.int (qI h13 x0 2)]) X (t_Waits_strengthOf (adK := adK) (adV := adV) l D cy b N (qI h13 x0 2) h13 _ hw) qm_Waits_strengthOf wm_Reader_189 wi_Waits_strengthOf rfl rfl rfl ⟨Nat.le_of_ble_eq_true rfl, Nat.le_of_ble_eq_true rfl⟩ ⟨Nat.le_refl 0, Nat.le_refl 0⟩ (Nat.le_of_ble_eq_true rfl) rfl d_Reader_readSum_51 (fun r16 h17 hw => ?_)
              refine qx_if_ne X 61 d_Reader_readSum_54 (by decide) (fun q18 => ?_) (fun q18 => ?_)
              · have hw := hw.1 q18
                refine qx_iconst (v := (0 : Int32)) X d_Reader_readSum_61 (by decide) ?_
                refine qx_sub [0, 1, 3] rfl ?_
                exact t_Reader_readSum_62 X N x0 x1 x3 (0 : Int32) h17 Q _ hw ih
              · have hw := hw.2 q18
                refine qx_iconst (v := (1 : Int32)) X d_Reader_readSum_57 (by decide) ?_
                refine qx_goto X 62 d_Reader_readSum_58 (by decide) ?_
                refine qx_sub [0, 1, 3] rfl ?_
                exact t_Reader_readSum_62 X N x0 x1 x3 (1 : Int32) h17 Q _ hw ih
            · have hw := hw.2 q14
              refine qx_iconst (v := (0 : Int32)) X d_Reader_readSum_45 (by decide) ?_
              exact qx_zret X hw (Nat.le_refl 0) (Nat.le_refl 0) rfl d_Reader_readSum_46
set_option maxRecDepth 4000 in
theorem t_Reader_readSum_94 (X : qX p s m args meth c D cy b adK adV prog_6_method_13_code "CoatHangers$Reader" 4 (some .boolean) "readSum") (N : Nat) (x0 : Nat) (x1 : Nat) (h : qH) (Q : Int32 → qH → Prop)  (hw : w_Reader_readSum_94 N x0 x1 h Q ) : qW p l e (qrm 3 0 0 66) s m args below meth c D cy b 4 0 0 (MQ below (qQc D cy b qrI Q) args s 0 0 (qA b)) 94 [(0, .inr (.inr (.inl x0))), (1, .inr (.inr (.inl x1)))] [] h := by
  unfold w_Reader_readSum_94 at hw
  refine qx_aload_n (x := x0) X d_Reader_readSum_94 rfl 0 rfl ?_
  obtain ⟨g1, hw⟩ := hw
  refine qx_getR X qcls4 g1 9 (by decide) rfl wf_Reader_28 d_Reader_readSum_95 ?_
  refine qx_aload_n (x := x1) X d_Reader_readSum_98 rfl 1 rfl ?_
  refine qx_iconst (v := (1 : Int32)) X d_Reader_readSum_99 (by decide) ?_
  obtain ⟨g2, hw⟩ := hw
  refine qx_callVV (st := []) (As := [qr b x1, .int (1 : Int32)]) X (t_Waits_letGo (adK := adK) (adV := adV) l D cy b N (qR h x0 9) x1 (1 : Int32) h _ hw) qm_Waits_letGo wm_Reader_196 wi_Waits_letGo wl_Waits_letGo qcls10 g2 rfl rfl rfl ⟨Nat.le_of_ble_eq_true rfl, Nat.le_of_ble_eq_true rfl⟩ ⟨Nat.le_refl 0, Nat.le_refl 0⟩ (Nat.le_of_ble_eq_true rfl) rfl d_Reader_readSum_100 (fun h3 hw => ?_)
  refine qx_aload_n (x := x0) X d_Reader_readSum_103 rfl 0 rfl ?_
  obtain ⟨g4, hw⟩ := hw
  refine qx_getR X qcls4 g4 9 (by decide) rfl wf_Reader_28 d_Reader_readSum_104 ?_
  obtain ⟨g5, hw⟩ := hw
  refine qx_getI X qcls10 g5 2 (by decide) rfl wf_Reader_199 d_Reader_readSum_107 ?_
  refine qx_if_eq X 121 d_Reader_readSum_110 (by decide) (fun q6 => ?_) (fun q6 => ?_)
  · have hw := hw.1 q6
    refine qx_iconst (v := (1 : Int32)) X d_Reader_readSum_121 (by decide) ?_
    refine qx_goto X 126 d_Reader_readSum_122 (by decide) ?_
    exact qx_zret X hw (Nat.le_refl 0) (Nat.le_refl 0) rfl d_Reader_readSum_126
  · have hw := hw.2 q6
    refine qx_aload_n (x := x0) X d_Reader_readSum_113 rfl 0 rfl ?_
    refine qx_iconst (v := (1 : Int32)) X d_Reader_readSum_114 (by decide) ?_
    refine qx_callVI (st := []) (As := [.int (1 : Int32)]) X (t_Reader_fails (adK := adK) (adV := adV) l D cy b N x0 (1 : Int32) h3 _ hw) qm_Reader_fails wm_Reader_94 wi_Reader_fails wl_Reader_fails qcls4 g4 rfl rfl rfl ⟨Nat.le_of_ble_eq_true rfl, Nat.le_of_ble_eq_true rfl⟩ ⟨Nat.le_refl 0, Nat.le_refl 0⟩ (Nat.le_of_ble_eq_true rfl) rfl d_Reader_readSum_115 (fun r7 h8 hw => ?_)
    refine qx_if_eq X 125 d_Reader_readSum_118 (by decide) (fun q9 => ?_) (fun q9 => ?_)
    · have hw := hw.1 q9
      refine qx_iconst (v := (0 : Int32)) X d_Reader_readSum_125 (by decide) ?_
      exact qx_zret X hw (Nat.le_refl 0) (Nat.le_refl 0) rfl d_Reader_readSum_126
    · have hw := hw.2 q9
      refine qx_iconst (v := (1 : Int32)) X d_Reader_readSum_121 (by decide) ?_
      refine qx_goto X 126 d_Reader_readSum_122 (by decide) ?_
      exact qx_zret X hw (Nat.le_refl 0) (Nat.le_refl 0) rfl d_Reader_readSum_126
set_option maxRecDepth 4000 in
theorem t_Reader_readSum {adK adV : Nat → Nat} (l : Launch) (D : va_G) (cy : Nat → ClassId) (b : Nat) (N : Nat) (x0 : Nat) (x1 : Nat) (h : qH) (Q : Int32 → qH → Prop) (hw : w_Reader_readSum N x0 x1 h Q) : Met l y_Reader_readSum (Cond.code y_Reader_readSum prog_6_method_13_code 4 (some .boolean) :: qT) (qrm 3 0 0 66) (qPc D cy b adK adV h [qr b x0, qr b x1]) (qQc D cy b qrI Q) 0 0 (qA b) := by
  refine qmet (L0 := [(0, .inr (.inr (.inl x0))), (1, .inr (.inr (.inl x1)))]) qm_Reader_readSum (plainFor_of_name (by decide)) [.inr (.inr (.inl x0)), .inr (.inr (.inl x1))] rfl (Nat.le_of_ble_eq_true rfl) rfl (fun p e s m args below meth c X => ?_)
  unfold w_Reader_readSum at hw
  refine qx_aload_n (x := x0) X d_Reader_readSum_0 rfl 0 rfl ?_
  obtain ⟨g1, hw⟩ := hw
  refine qx_getR X qcls4 g1 9 (by decide) rfl wf_Reader_28 d_Reader_readSum_1 ?_
  obtain ⟨g2, hw⟩ := hw
  refine qx_callVV (st := []) (As := []) X (t_Waits_begin (adK := adK) (adV := adV) l D cy b N (qR h x0 9) h _ hw) qm_Waits_begin wm_Reader_177 wi_Waits_begin wl_Waits_begin qcls10 g2 rfl rfl rfl ⟨Nat.le_of_ble_eq_true rfl, Nat.le_of_ble_eq_true rfl⟩ ⟨Nat.le_refl 0, Nat.le_refl 0⟩ (Nat.le_of_ble_eq_true rfl) rfl d_Reader_readSum_4 (fun h3 hw => ?_)
  refine qx_iconst (v := (0 : Int32)) X d_Reader_readSum_7 (by decide) ?_
  refine qx_istore_n (L' := [(2, .inl (0 : Int32)), (0, .inr (.inr (.inl x0))), (1, .inr (.inr (.inl x1)))]) X d_Reader_readSum_8 rfl (by decide) rfl ?_
  refine qx_iconst (v := (0 : Int32)) X d_Reader_readSum_9 (by decide) ?_
  refine qx_istore_n (L' := [(3, .inl (0 : Int32)), (2, .inl (0 : Int32)), (0, .inr (.inr (.inl x0))), (1, .inr (.inr (.inl x1)))]) X d_Reader_readSum_10 rfl (by decide) rfl ?_
  refine qx_sub [2, 3, 1, 0] rfl ?_
  refine t_Reader_readSum_11 X N N x0 x1 (0 : Int32) (0 : Int32) h3 Q _ hw (fun x4 x5 h6 hw => ?_)
  exact t_Reader_readSum_94 X N x4 x5 h6 Q  hw 
set_option maxRecDepth 4000 in
theorem t_Reader_readIf {adK adV : Nat → Nat} (l : Launch) (D : va_G) (cy : Nat → ClassId) (b : Nat) (N : Nat) (x0 : Nat) (x1 : Nat) (h : qH) (Q : Int32 → qH → Prop) (hw : w_Reader_readIf N x0 x1 h Q) : Met l y_Reader_readIf (Cond.code y_Reader_readIf prog_6_method_12_code 3 (some .boolean) :: qT) (qrm 4 0 0 89) (qPc D cy b adK adV h [qr b x0, qr b x1]) (qQc D cy b qrI Q) 0 0 (qA b) := by
  refine qmet (L0 := [(0, .inr (.inr (.inl x0))), (1, .inr (.inr (.inl x1)))]) qm_Reader_readIf (plainFor_of_name (by decide)) [.inr (.inr (.inl x0)), .inr (.inr (.inl x1))] rfl (Nat.le_of_ble_eq_true rfl) rfl (fun p e s m args below meth c X => ?_)
  unfold w_Reader_readIf at hw
  refine qx_aload_n (x := x0) X d_Reader_readIf_0 rfl 0 rfl ?_
  obtain ⟨g1, hw⟩ := hw
  refine qx_callVI (st := []) (As := []) X (t_Reader_goOn (adK := adK) (adV := adV) l D cy b N x0 h _ hw) qm_Reader_goOn wm_Reader_101 wi_Reader_goOn wl_Reader_goOn qcls4 g1 rfl rfl rfl ⟨Nat.le_of_ble_eq_true rfl, Nat.le_of_ble_eq_true rfl⟩ ⟨Nat.le_refl 0, Nat.le_refl 0⟩ (Nat.le_of_ble_eq_true rfl) rfl d_Reader_readIf_1 (fun r2 h3 hw => ?_)
  refine qx_if_eq X 24 d_Reader_readIf_4 (by decide) (fun q4 => ?_) (fun q4 => ?_)
  · have hw := hw.1 q4
    refine qx_iconst (v := (0 : Int32)) X d_Reader_readIf_24 (by decide) ?_
    exact qx_zret X hw (Nat.le_refl 0) (Nat.le_refl 0) rfl d_Reader_readIf_25
  · have hw := hw.2 q4
    refine qx_aload_n (x := x0) X d_Reader_readIf_7 rfl 0 rfl ?_
    refine qx_aload_n (x := x1) X d_Reader_readIf_8 rfl 1 rfl ?_
    obtain ⟨g5, hw⟩ := hw
    refine qx_callVI (st := []) (As := [qr b x1]) X (t_Reader_readSum (adK := adK) (adV := adV) l D cy b N x0 x1 h3 _ hw) qm_Reader_readSum wm_Reader_167 wi_Reader_readSum wl_Reader_readSum qcls4 g5 rfl rfl rfl ⟨Nat.le_of_ble_eq_true rfl, Nat.le_of_ble_eq_true rfl⟩ ⟨Nat.le_refl 0, Nat.le_refl 0⟩ (Nat.le_of_ble_eq_true rfl) rfl d_Reader_readIf_9 (fun r6 h7 hw => ?_)
    refine qx_if_eq X 24 d_Reader_readIf_12 (by decide) (fun q8 => ?_) (fun q8 => ?_)
    · have hw := hw.1 q8
      refine qx_iconst (v := (0 : Int32)) X d_Reader_readIf_24 (by decide) ?_
      exact qx_zret X hw (Nat.le_refl 0) (Nat.le_refl 0) rfl d_Reader_readIf_25
    · have hw := hw.2 q8
      refine qx_aload_n (x := x0) X d_Reader_readIf_15 rfl 0 rfl ?_
      refine qx_bipush (v := (60 : Int32)) X d_Reader_readIf_16 (by decide) ?_
      obtain ⟨g9, hw⟩ := hw
      refine qx_callVI (st := []) (As := [.int (60 : Int32)]) X (t_Reader_pass (adK := adK) (adV := adV) l D cy b N x0 (60 : Int32) h7 _ hw) qm_Reader_pass wm_Reader_121 wi_Reader_pass wl_Reader_pass qcls4 g9 rfl rfl rfl ⟨Nat.le_of_ble_eq_true rfl, Nat.le_of_ble_eq_true rfl⟩ ⟨Nat.le_refl 0, Nat.le_refl 0⟩ (Nat.le_of_ble_eq_true rfl) rfl d_Reader_readIf_18 (fun r10 h11 hw => ?_)
      refine qx_if_ne X 26 d_Reader_readIf_21 (by decide) (fun q12 => ?_) (fun q12 => ?_)
      · have hw := hw.1 q12
        refine qx_aload_n (x := x0) X d_Reader_readIf_26 rfl 0 rfl ?_
        refine qx_aload_n (x := x1) X d_Reader_readIf_27 rfl 1 rfl ?_
        obtain ⟨g13, hw⟩ := hw
        refine qx_callVI (st := []) (As := [qr b x1]) X (t_Reader_readSum (adK := adK) (adV := adV) l D cy b N x0 x1 h11 _ hw) qm_Reader_readSum wm_Reader_167 wi_Reader_readSum wl_Reader_readSum qcls4 g13 rfl rfl rfl ⟨Nat.le_of_ble_eq_true rfl, Nat.le_of_ble_eq_true rfl⟩ ⟨Nat.le_refl 0, Nat.le_refl 0⟩ (Nat.le_of_ble_eq_true rfl) rfl d_Reader_readIf_28 (fun r14 h15 hw => ?_)
        refine qx_if_eq X 44 d_Reader_readIf_31 (by decide) (fun q16 => ?_) (fun q16 => ?_)
        · have hw := hw.1 q16
          refine qx_iconst (v := (0 : Int32)) X d_Reader_readIf_44 (by decide) ?_
          exact qx_zret X hw (Nat.le_refl 0) (Nat.le_refl 0) rfl d_Reader_readIf_45
        · have hw := hw.2 q16
          refine qx_aload_n (x := x0) X d_Reader_readIf_34 rfl 0 rfl ?_
          refine qx_sipush (v := (266 : Int32)) X d_Reader_readIf_35 (by decide) ?_
          obtain ⟨g17, hw⟩ := hw
          refine qx_callVI (st := []) (As := [.int (266 : Int32)]) X (t_Reader_pass (adK := adK) (adV := adV) l D cy b N x0 (266 : Int32) h15 _ hw) qm_Reader_pass wm_Reader_121 wi_Reader_pass wl_Reader_pass qcls4 g17 rfl rfl rfl ⟨Nat.le_of_ble_eq_true rfl, Nat.le_of_ble_eq_true rfl⟩ ⟨Nat.le_refl 0, Nat.le_refl 0⟩ (Nat.le_of_ble_eq_true rfl) rfl d_Reader_readIf_38 (fun r18 h19 hw => ?_)
          refine qx_if_ne X 46 d_Reader_readIf_41 (by decide) (fun q20 => ?_) (fun q20 => ?_)
          · have hw := hw.1 q20
            refine qx_aload_n (x := x1) X d_Reader_readIf_46 rfl 1 rfl ?_
            obtain ⟨g21, hw⟩ := hw
            refine qx_getI X qcls0 g21 2 (by decide) rfl wf_Reader_159 d_Reader_readIf_47 ?_
            refine qx_topi (fun y22 ey22 => ?_)
            have hw := hw y22 ey22
            refine qx_istore_n (L' := [(2, .inl y22), (0, .inr (.inr (.inl x0))), (1, .inr (.inr (.inl x1)))]) X d_Reader_readIf_50 rfl (by decide) rfl ?_
            refine qx_aload_n (x := x1) X d_Reader_readIf_51 rfl 2 rfl ?_
            refine qx_iconst (v := (3 : Int32)) X d_Reader_readIf_52 (by decide) ?_
            refine qx_iconst (v := (0 : Int32)) X d_Reader_readIf_53 (by decide) ?_
            refine qx_callVV (st := []) (As := [.int (3 : Int32), .int (0 : Int32)]) X (t_Law_add (adK := adK) (adV := adV) l D cy b N x1 (3 : Int32) (0 : Int32) h19 _ hw) qm_Law_add wm_Reader_170 wi_Law_add wl_Law_add qcls0 g21 rfl rfl rfl ⟨Nat.le_of_ble_eq_true rfl, Nat.le_of_ble_eq_true rfl⟩ ⟨Nat.le_refl 0, Nat.le_refl 0⟩ (Nat.le_of_ble_eq_true rfl) rfl d_Reader_readIf_54 (fun h23 hw => ?_)
            refine qx_aload_n (x := x0) X d_Reader_readIf_57 rfl 1 rfl ?_
            refine qx_aload_n (x := x1) X d_Reader_readIf_58 rfl 2 rfl ?_
            obtain ⟨g24, hw⟩ := hw
            refine qx_callVI (st := []) (As := [qr b x1]) X (t_Reader_readSum (adK := adK) (adV := adV) l D cy b N x0 x1 h23 _ hw) qm_Reader_readSum wm_Reader_167 wi_Reader_readSum wl_Reader_readSum qcls4 g24 rfl rfl rfl ⟨Nat.le_of_ble_eq_true rfl, Nat.le_of_ble_eq_true rfl⟩ ⟨Nat.le_refl 0, Nat.le_refl 0⟩ (Nat.le_of_ble_eq_true rfl) rfl d_Reader_readIf_59 (fun r25 h26 hw => ?_)
            refine qx_if_eq X 75 d_Reader_readIf_62 (by decide) (fun q27 => ?_) (fun q27 => ?_)
            · have hw := hw.1 q27
              refine qx_iconst (v := (0 : Int32)) X d_Reader_readIf_75 (by decide) ?_
              exact qx_zret X hw (Nat.le_refl 0) (Nat.le_refl 0) rfl d_Reader_readIf_76
            · have hw := hw.2 q27
              refine qx_aload_n (x := x0) X d_Reader_readIf_65 rfl 1 rfl ?_
              refine qx_sipush (v := (267 : Int32)) X d_Reader_readIf_66 (by decide) ?_
              obtain ⟨g28, hw⟩ := hw
              refine qx_callVI (st := []) (As := [.int (267 : Int32)]) X (t_Reader_pass (adK := adK) (adV := adV) l D cy b N x0 (267 : Int32) h26 _ hw) qm_Reader_pass wm_Reader_121 wi_Reader_pass wl_Reader_pass qcls4 g28 rfl rfl rfl ⟨Nat.le_of_ble_eq_true rfl, Nat.le_of_ble_eq_true rfl⟩ ⟨Nat.le_refl 0, Nat.le_refl 0⟩ (Nat.le_of_ble_eq_true rfl) rfl d_Reader_readIf_69 (fun r29 h30 hw => ?_)
              refine qx_if_ne X 77 d_Reader_readIf_72 (by decide) (fun q31 => ?_) (fun q31 => ?_)
              · have hw := hw.1 q31
                refine qx_aload_n (x := x1) X d_Reader_readIf_77 rfl 2 rfl ?_
                refine qx_iconst (v := (4 : Int32)) X d_Reader_readIf_78 (by decide) ?_
                refine qx_iconst (v := (0 : Int32)) X d_Reader_readIf_79 (by decide) ?_
                obtain ⟨g32, hw⟩ := hw
                refine qx_callVV (st := []) (As := [.int (4 : Int32), .int (0 : Int32)]) X (t_Law_add (adK := adK) (adV := adV) l D cy b N x1 (4 : Int32) (0 : Int32) h30 _ hw) qm_Law_add wm_Reader_170 wi_Law_add wl_Law_add qcls0 g32 rfl rfl rfl ⟨Nat.le_of_ble_eq_true rfl, Nat.le_of_ble_eq_true rfl⟩ ⟨Nat.le_refl 0, Nat.le_refl 0⟩ (Nat.le_of_ble_eq_true rfl) rfl d_Reader_readIf_80 (fun h33 hw => ?_)
                refine qx_aload_n (x := x1) X d_Reader_readIf_83 rfl 2 rfl ?_
                refine qx_iload_n (x := y22) X d_Reader_readIf_84 rfl 0 rfl ?_
                obtain ⟨g34, hw⟩ := hw
                refine qx_callVV (st := []) (As := [.int y22]) X (t_Law_aimAtEnd (adK := adK) (adV := adV) l D cy b N x1 y22 h33 _ hw) qm_Law_aimAtEnd wm_Reader_174 wi_Law_aimAtEnd wl_Law_aimAtEnd qcls0 g34 rfl rfl rfl ⟨Nat.le_of_ble_eq_true rfl, Nat.le_of_ble_eq_true rfl⟩ ⟨Nat.le_refl 0, Nat.le_refl 0⟩ (Nat.le_of_ble_eq_true rfl) rfl d_Reader_readIf_85 (fun h35 hw => ?_)
                refine qx_iconst (v := (1 : Int32)) X d_Reader_readIf_88 (by decide) ?_
                exact qx_zret X hw (Nat.le_refl 0) (Nat.le_refl 0) rfl d_Reader_readIf_89
              · have hw := hw.2 q31
                refine qx_iconst (v := (0 : Int32)) X d_Reader_readIf_75 (by decide) ?_
                exact qx_zret X hw (Nat.le_refl 0) (Nat.le_refl 0) rfl d_Reader_readIf_76
          · have hw := hw.2 q20
            refine qx_iconst (v := (0 : Int32)) X d_Reader_readIf_44 (by decide) ?_
            exact qx_zret X hw (Nat.le_refl 0) (Nat.le_refl 0) rfl d_Reader_readIf_45
      · have hw := hw.2 q12
        refine qx_iconst (v := (0 : Int32)) X d_Reader_readIf_24 (by decide) ?_
        exact qx_zret X hw (Nat.le_refl 0) (Nat.le_refl 0) rfl d_Reader_readIf_25
set_option maxRecDepth 4000 in
theorem t_Reader_readLaw_25 (X : qX p s m args meth c D cy b adK adV prog_6_method_11_code "CoatHangers$Reader" 3 (some .boolean) "readLaw") (N k : Nat) (x0 : Nat) (x1 : Nat) (x2 : Int32) (h : qH) (Q : Int32 → qH → Prop) (K67 : Nat → Nat → qH → Prop) (hw : w_Reader_readLaw_25 N k x0 x1 x2 h Q K67) (hK67 : ∀ (x0 : Nat) (x1 : Nat) (h : qH), K67 x0 x1 h → qW p l e (qrm 5 0 0 111) s m args below meth c D cy b 3 0 0 (MQ below (qQc D cy b qrI Q) args s 0 0 (qA b)) 67 [(0, .inr (.inr (.inl x0))), (1, .inr (.inr (.inl x1)))] [] h) : qW p l e (qrm 5 0 0 111) s m args below meth c D cy b 3 0 0 (MQ below (qQc D cy b qrI Q) args s 0 0 (qA b)) 25 [(0, .inr (.inr (.inl x0))), (1, .inr (.inr (.inl x1))), (2, .inl x2)] [] h := by
  induction k generalizing x0 x1 x2 h with
  | zero => exact hw.elim
  | succ k ih =>
    refine qx_iload_n (x := x2) X d_Reader_readLaw_25 rfl 2 rfl ?_
    refine qx_iconst (v := (4 : Int32)) X d_Reader_readLaw_26 (by decide) ?_
    refine qx_icmp_gt X 67 d_Reader_readLaw_27 (by decide) (fun q1 => ?_) (fun q1 => ?_)
    · have hw := hw.1 q1
      refine qx_sub [0, 1] rfl ?_
      exact hK67 x0 x1 h hw
    · have hw := hw.2 q1
      refine qx_aload_n (x := x0) X d_Reader_readLaw_30 rfl 0 rfl ?_
      obtain ⟨g2, hw⟩ := hw
      refine qx_getI X qcls4 g2 2 (by decide) rfl wf_Reader_61 d_Reader_readLaw_31 ?_
      refine qx_sipush (v := (265 : Int32)) X d_Reader_readLaw_34 (by decide) ?_
      refine qx_icmp_ne X 67 d_Reader_readLaw_37 (by decide) (fun q3 => ?_) (fun q3 => ?_)
      · have hw := hw.1 q3
        refine qx_sub [0, 1] rfl ?_
        exact hK67 x0 x1 h hw
      · have hw := hw.2 q3
        refine qx_iload_n (x := x2) X d_Reader_readLaw_40 rfl 2 rfl ?_
        refine qx_iconst (v := (4 : Int32)) X d_Reader_readLaw_41 (by decide) ?_
        refine qx_icmp_ne X 51 d_Reader_readLaw_42 (by decide) (fun q4 => ?_) (fun q4 => ?_)
        · have hw := hw.1 q4
          refine qx_aload_n (x := x0) X d_Reader_readLaw_51 rfl 0 rfl ?_
          refine qx_aload_n (x := x1) X d_Reader_readLaw_52 rfl 1 rfl ?_
          refine qx_callVI (st := []) (As := [qr b x1]) X (t_Reader_readIf (adK := adK) (adV := adV) l D cy b N x0 x1 h _ hw) qm_Reader_readIf wm_Reader_164 wi_Reader_readIf wl_Reader_readIf qcls4 g2 rfl rfl rfl ⟨Nat.le_of_ble_eq_true rfl, Nat.le_of_ble_eq_true rfl⟩ ⟨Nat.le_refl 0, Nat.le_refl 0⟩ (Nat.le_of_ble_eq_true rfl) rfl d_Reader_readLaw_53 (fun r5 h6 hw => ?_)
          refine qx_if_ne X 61 d_Reader_readLaw_56 (by decide) (fun q7 => ?_) (fun q7 => ?_)
          · have hw := hw.1 q7
            refine qx_iinc (v := (x2 + (1 : Int32))) (L' := [(2, .inl (x2 + (1 : Int32))), (0, .inr (.inr (.inl x0))), (1, .inr (.inr (.inl x1)))]) X d_Reader_readLaw_61 2 rfl rfl (by decide) rfl ?_
            refine qx_goto X 25 d_Reader_readLaw_64 (by decide) ?_
            refine qx_sub [1, 2, 0] rfl ?_
            exact ih x0 x1 (x2 + (1 : Int32)) h6 hw
          · have hw := hw.2 q7
            refine qx_iconst (v := (0 : Int32)) X d_Reader_readLaw_59 (by decide) ?_
            exact qx_zret X hw (Nat.le_refl 0) (Nat.le_refl 0) rfl d_Reader_readLaw_60
        · have hw := hw.2 q4
          refine qx_aload_n (x := x0) X d_Reader_readLaw_45 rfl 0 rfl ?_
          refine qx_iconst (v := (2 : Int32)) X d_Reader_readLaw_46 (by decide) ?_
          refine qx_callVI (st := []) (As := [.int (2 : Int32)]) X (t_Reader_fails (adK := adK) (adV := adV) l D cy b N x0 (2 : Int32) h _ hw) qm_Reader_fails wm_Reader_94 wi_Reader_fails wl_Reader_fails qcls4 g2 rfl rfl rfl ⟨Nat.le_of_ble_eq_true rfl, Nat.le_of_ble_eq_true rfl⟩ ⟨Nat.le_refl 0, Nat.le_refl 0⟩ (Nat.le_of_ble_eq_true rfl) rfl d_Reader_readLaw_47 (fun r8 h9 hw => ?_)
          exact qx_zret X hw (Nat.le_refl 0) (Nat.le_refl 0) rfl d_Reader_readLaw_50
set_option maxRecDepth 4000 in
theorem t_Reader_readLaw_67 (X : qX p s m args meth c D cy b adK adV prog_6_method_11_code "CoatHangers$Reader" 3 (some .boolean) "readLaw") (N : Nat) (x0 : Nat) (x1 : Nat) (h : qH) (Q : Int32 → qH → Prop)  (hw : w_Reader_readLaw_67 N x0 x1 h Q ) : qW p l e (qrm 5 0 0 111) s m args below meth c D cy b 3 0 0 (MQ below (qQc D cy b qrI Q) args s 0 0 (qA b)) 67 [(0, .inr (.inr (.inl x0))), (1, .inr (.inr (.inl x1)))] [] h := by
  unfold w_Reader_readLaw_67 at hw
  refine qx_aload_n (x := x0) X d_Reader_readLaw_67 rfl 0 rfl ?_
  refine qx_aload_n (x := x1) X d_Reader_readLaw_68 rfl 1 rfl ?_
  obtain ⟨g1, hw⟩ := hw
  refine qx_callVI (st := []) (As := [qr b x1]) X (t_Reader_readSum (adK := adK) (adV := adV) l D cy b N x0 x1 h _ hw) qm_Reader_readSum wm_Reader_167 wi_Reader_readSum wl_Reader_readSum qcls4 g1 rfl rfl rfl ⟨Nat.le_of_ble_eq_true rfl, Nat.le_of_ble_eq_true rfl⟩ ⟨Nat.le_refl 0, Nat.le_refl 0⟩ (Nat.le_of_ble_eq_true rfl) rfl d_Reader_readLaw_69 (fun r2 h3 hw => ?_)
  refine qx_if_ne X 77 d_Reader_readLaw_72 (by decide) (fun q4 => ?_) (fun q4 => ?_)
  · have hw := hw.1 q4
    refine qx_aload_n (x := x1) X d_Reader_readLaw_77 rfl 1 rfl ?_
    refine qx_iconst (v := (4 : Int32)) X d_Reader_readLaw_78 (by decide) ?_
    refine qx_iconst (v := (0 : Int32)) X d_Reader_readLaw_79 (by decide) ?_
    obtain ⟨g5, hw⟩ := hw
    refine qx_callVV (st := []) (As := [.int (4 : Int32), .int (0 : Int32)]) X (t_Law_add (adK := adK) (adV := adV) l D cy b N x1 (4 : Int32) (0 : Int32) h3 _ hw) qm_Law_add wm_Reader_170 wi_Law_add wl_Law_add qcls0 g5 rfl rfl rfl ⟨Nat.le_of_ble_eq_true rfl, Nat.le_of_ble_eq_true rfl⟩ ⟨Nat.le_refl 0, Nat.le_refl 0⟩ (Nat.le_of_ble_eq_true rfl) rfl d_Reader_readLaw_80 (fun h6 hw => ?_)
    refine qx_aload_n (x := x0) X d_Reader_readLaw_83 rfl 0 rfl ?_
    refine qx_bipush (v := (59 : Int32)) X d_Reader_readLaw_84 (by decide) ?_
    obtain ⟨g7, hw⟩ := hw
    refine qx_callVI (st := []) (As := [.int (59 : Int32)]) X (t_Reader_pass (adK := adK) (adV := adV) l D cy b N x0 (59 : Int32) h6 _ hw) qm_Reader_pass wm_Reader_121 wi_Reader_pass wl_Reader_pass qcls4 g7 rfl rfl rfl ⟨Nat.le_of_ble_eq_true rfl, Nat.le_of_ble_eq_true rfl⟩ ⟨Nat.le_refl 0, Nat.le_refl 0⟩ (Nat.le_of_ble_eq_true rfl) rfl d_Reader_readLaw_86 (fun r8 h9 hw => ?_)
    exact qx_zret X hw (Nat.le_refl 0) (Nat.le_refl 0) rfl d_Reader_readLaw_89
  · have hw := hw.2 q4
    refine qx_iconst (v := (0 : Int32)) X d_Reader_readLaw_75 (by decide) ?_
    exact qx_zret X hw (Nat.le_refl 0) (Nat.le_refl 0) rfl d_Reader_readLaw_76
set_option maxRecDepth 4000 in
theorem t_Reader_readLaw {adK adV : Nat → Nat} (l : Launch) (D : va_G) (cy : Nat → ClassId) (b : Nat) (N : Nat) (x0 : Nat) (x1 : Nat) (h : qH) (Q : Int32 → qH → Prop) (hw : w_Reader_readLaw N x0 x1 h Q) : Met l y_Reader_readLaw (Cond.code y_Reader_readLaw prog_6_method_11_code 3 (some .boolean) :: qT) (qrm 5 0 0 111) (qPc D cy b adK adV h [qr b x0, qr b x1]) (qQc D cy b qrI Q) 0 0 (qA b) := by
  refine qmet (L0 := [(0, .inr (.inr (.inl x0))), (1, .inr (.inr (.inl x1)))]) qm_Reader_readLaw (plainFor_of_name (by decide)) [.inr (.inr (.inl x0)), .inr (.inr (.inl x1))] rfl (Nat.le_of_ble_eq_true rfl) rfl (fun p e s m args below meth c X => ?_)
  unfold w_Reader_readLaw at hw
  refine qx_aload_n (x := x1) X d_Reader_readLaw_0 rfl 1 rfl ?_
  refine qx_iconst (v := (0 : Int32)) X d_Reader_readLaw_1 (by decide) ?_
  obtain ⟨g1, hw⟩ := hw
  refine qx_putI X qcls0 g1 2 (by decide) rfl wf_Reader_159 rfl rfl rfl d_Reader_readLaw_2 ?_
  refine qx_toph (fun h2 eh2 => ?_)
  have hw := hw h2 eh2
  refine qx_aload_n (x := x0) X d_Reader_readLaw_5 rfl 0 rfl ?_
  obtain ⟨g3, hw⟩ := hw
  refine qx_callVI (st := []) (As := []) X (t_Reader_goOn (adK := adK) (adV := adV) l D cy b N x0 h2 _ hw) qm_Reader_goOn wm_Reader_101 wi_Reader_goOn wl_Reader_goOn qcls4 g3 rfl rfl rfl ⟨Nat.le_of_ble_eq_true rfl, Nat.le_of_ble_eq_true rfl⟩ ⟨Nat.le_refl 0, Nat.le_refl 0⟩ (Nat.le_of_ble_eq_true rfl) rfl d_Reader_readLaw_6 (fun r4 h5 hw => ?_)
  refine qx_if_eq X 21 d_Reader_readLaw_9 (by decide) (fun q6 => ?_) (fun q6 => ?_)
  · have hw := hw.1 q6
    refine qx_iconst (v := (0 : Int32)) X d_Reader_readLaw_21 (by decide) ?_
    exact qx_zret X hw (Nat.le_refl 0) (Nat.le_refl 0) rfl d_Reader_readLaw_22
  · have hw := hw.2 q6
    refine qx_aload_n (x := x0) X d_Reader_readLaw_12 rfl 0 rfl ?_
    refine qx_bipush (v := (61 : Int32)) X d_Reader_readLaw_13 (by decide) ?_
    obtain ⟨g7, hw⟩ := hw
    refine qx_callVI (st := []) (As := [.int (61 : Int32)]) X (t_Reader_pass (adK := adK) (adV := adV) l D cy b N x0 (61 : Int32) h5 _ hw) qm_Reader_pass wm_Reader_121 wi_Reader_pass wl_Reader_pass qcls4 g7 rfl rfl rfl ⟨Nat.le_of_ble_eq_true rfl, Nat.le_of_ble_eq_true rfl⟩ ⟨Nat.le_refl 0, Nat.le_refl 0⟩ (Nat.le_of_ble_eq_true rfl) rfl d_Reader_readLaw_15 (fun r8 h9 hw => ?_)
    refine qx_if_ne X 23 d_Reader_readLaw_18 (by decide) (fun q10 => ?_) (fun q10 => ?_)
    · have hw := hw.1 q10
      refine qx_iconst (v := (0 : Int32)) X d_Reader_readLaw_23 (by decide) ?_
      refine qx_istore_n (L' := [(2, .inl (0 : Int32)), (0, .inr (.inr (.inl x0))), (1, .inr (.inr (.inl x1)))]) X d_Reader_readLaw_24 rfl (by decide) rfl ?_
      refine qx_sub [1, 2, 0] rfl ?_
      refine t_Reader_readLaw_25 X N N x0 x1 (0 : Int32) h9 Q _ hw (fun x11 x12 h13 hw => ?_)
      exact t_Reader_readLaw_67 X N x11 x12 h13 Q  hw 
    · have hw := hw.2 q10
      refine qx_iconst (v := (0 : Int32)) X d_Reader_readLaw_21 (by decide) ?_
      exact qx_zret X hw (Nat.le_refl 0) (Nat.le_refl 0) rfl d_Reader_readLaw_22
set_option maxRecDepth 4000 in
theorem t_Reader_indexOf_2 (X : qX p s m args meth c D cy b adK adV prog_6_method_19_code "CoatHangers$Reader" 4 (some .int) "indexOf") (N k : Nat) (x0 : Nat) (x1 : Nat) (x2 : Int32) (x3 : Int32) (h : qH) (Q : Int32 → qH → Prop)  (hw : w_Reader_indexOf_2 N k x0 x1 x2 x3 h Q ) : qW p l e (qrm 0 0 0 0) s m args below meth c D cy b 4 0 0 (MQ below (qQc D cy b qrI Q) args s 0 0 (qA b)) 2 [(0, .inr (.inr (.inl x0))), (1, .inr (.inr (.inl x1))), (2, .inl x2), (3, .inl x3)] [] h := by
  induction k generalizing x0 x1 x2 x3 h with
  | zero => exact hw.elim
  | succ k ih =>
    refine qx_iload_n (x := x3) X d_Reader_indexOf_2 rfl 3 rfl ?_
    refine qx_iload_n (x := x2) X d_Reader_indexOf_3 rfl 2 rfl ?_
    refine qx_icmp_ge X 32 d_Reader_indexOf_4 (by decide) (fun q1 => ?_) (fun q1 => ?_)
    · have hw := hw.1 q1
      refine qx_iconst (v := (-1 : Int32)) X d_Reader_indexOf_32 (by decide) ?_
      exact qx_iret X hw (Nat.le_refl 0) (Nat.le_refl 0) rfl d_Reader_indexOf_33
    · have hw := hw.2 q1
      refine qx_iload_n (x := x3) X d_Reader_indexOf_7 rfl 3 rfl ?_
      refine qx_aload_n (x := x1) X d_Reader_indexOf_8 rfl 1 rfl ?_
      obtain ⟨n2, g3, hw⟩ := hw
      refine qx_len X g3 (by decide) d_Reader_indexOf_9 ?_
      refine qx_icmp_ge X 32 d_Reader_indexOf_10 (by decide) (fun q4 => ?_) (fun q4 => ?_)
      · have hw := hw.1 q4
        refine qx_iconst (v := (-1 : Int32)) X d_Reader_indexOf_32 (by decide) ?_
        exact qx_iret X hw (Nat.le_refl 0) (Nat.le_refl 0) rfl d_Reader_indexOf_33
      · have hw := hw.2 q4
        refine qx_aload_n (x := x1) X d_Reader_indexOf_13 rfl 1 rfl ?_
        refine qx_iload_n (x := x3) X d_Reader_indexOf_14 rfl 3 rfl ?_
        obtain ⟨g5, hw⟩ := hw
        refine qx_lld X g5 d_Reader_indexOf_15 ?_
        refine qx_aload_n (x := x0) X d_Reader_indexOf_16 rfl 0 rfl ?_
        obtain ⟨g6, hw⟩ := hw
        refine qx_getJ X qcls4 g6 3 (by decide) rfl wf_Reader_205 d_Reader_indexOf_17 ?_
        refine qx_lcmp X d_Reader_indexOf_20 ?_
        refine qx_if_ne X 26 d_Reader_indexOf_21 (by decide) (fun q7 => ?_) (fun q7 => ?_)
        · have hw := hw.1 q7
          refine qx_iinc (v := (x3 + (1 : Int32))) (L' := [(3, .inl (x3 + (1 : Int32))), (0, .inr (.inr (.inl x0))), (1, .inr (.inr (.inl x1))), (2, .inl x2)]) X d_Reader_indexOf_26 3 rfl rfl (by decide) rfl ?_
          refine qx_goto X 2 d_Reader_indexOf_29 (by decide) ?_
          refine qx_sub [1, 2, 3, 0] rfl ?_
          exact ih x0 x1 x2 (x3 + (1 : Int32)) h hw
        · have hw := hw.2 q7
          refine qx_iload_n (x := x3) X d_Reader_indexOf_24 rfl 3 rfl ?_
          exact qx_iret X hw (Nat.le_refl 0) (Nat.le_refl 0) rfl d_Reader_indexOf_25
set_option maxRecDepth 4000 in
theorem t_Reader_indexOf {adK adV : Nat → Nat} (l : Launch) (D : va_G) (cy : Nat → ClassId) (b : Nat) (N : Nat) (x0 : Nat) (x1 : Nat) (x2 : Int32) (h : qH) (Q : Int32 → qH → Prop) (hw : w_Reader_indexOf N x0 x1 x2 h Q) : Met l y_Reader_indexOf (Cond.code y_Reader_indexOf prog_6_method_19_code 4 (some .int) :: qT) (qrm 0 0 0 0) (qPc D cy b adK adV h [qr b x0, qr b x1, .int x2]) (qQc D cy b qrI Q) 0 0 (qA b) := by
  refine qmet (L0 := [(0, .inr (.inr (.inl x0))), (1, .inr (.inr (.inl x1))), (2, .inl x2)]) qm_Reader_indexOf (plainFor_of_name (by decide)) [.inr (.inr (.inl x0)), .inr (.inr (.inl x1)), .inl x2] rfl (Nat.le_of_ble_eq_true rfl) rfl (fun p e s m args below meth c X => ?_)
  unfold w_Reader_indexOf at hw
  refine qx_iconst (v := (0 : Int32)) X d_Reader_indexOf_0 (by decide) ?_
  refine qx_istore_n (L' := [(3, .inl (0 : Int32)), (0, .inr (.inr (.inl x0))), (1, .inr (.inr (.inl x1))), (2, .inl x2)]) X d_Reader_indexOf_1 rfl (by decide) rfl ?_
  refine qx_sub [1, 2, 3, 0] rfl ?_
  exact t_Reader_indexOf_2 X N N x0 x1 x2 (0 : Int32) h Q  hw 
set_option maxRecDepth 4000 in
theorem t_Reader_isNameTold {adK adV : Nat → Nat} (l : Launch) (D : va_G) (cy : Nat → ClassId) (b : Nat) (N : Nat) (x0 : Nat) (h : qH) (Q : Int32 → qH → Prop) (hw : w_Reader_isNameTold N x0 h Q) : Met l y_Reader_isNameTold (Cond.code y_Reader_isNameTold prog_6_method_18_code 1 (some .boolean) :: qT) (qrm 1 0 0 23) (qPc D cy b adK adV h [qr b x0]) (qQc D cy b qrI Q) 0 0 (qA b) := by
  refine qmet (L0 := [(0, .inr (.inr (.inl x0)))]) qm_Reader_isNameTold (plainFor_of_name (by decide)) [.inr (.inr (.inl x0))] rfl (Nat.le_of_ble_eq_true rfl) rfl (fun p e s m args below meth c X => ?_)
  unfold w_Reader_isNameTold at hw
  refine qx_aload_n (x := x0) X d_Reader_isNameTold_0 rfl 0 rfl ?_
  refine qx_aload_n (x := x0) X d_Reader_isNameTold_1 rfl 0 rfl ?_
  obtain ⟨g1, hw⟩ := hw
  refine qx_getR X qcls4 g1 6 (by decide) rfl wf_Reader_18 d_Reader_isNameTold_2 ?_
  refine qx_aload_n (x := x0) X d_Reader_isNameTold_5 rfl 0 rfl ?_
  refine qx_getR X qcls4 g1 5 (by decide) rfl wf_Reader_12 d_Reader_isNameTold_6 ?_
  obtain ⟨g2, hw⟩ := hw
  refine qx_getI X qcls8 g2 0 (by decide) rfl wf_Reader_98 d_Reader_isNameTold_9 ?_
  refine qx_callVI (st := []) (As := [qr b (qR h x0 6), .int (qI h (qR h x0 5) 0)]) X (t_Reader_indexOf (adK := adK) (adV := adV) l D cy b N x0 (qR h x0 6) (qI h (qR h x0 5) 0) h _ hw) qm_Reader_indexOf wm_Reader_143 wi_Reader_indexOf wl_Reader_indexOf qcls4 g1 rfl rfl rfl ⟨Nat.le_of_ble_eq_true rfl, Nat.le_of_ble_eq_true rfl⟩ ⟨Nat.le_refl 0, Nat.le_refl 0⟩ (Nat.le_of_ble_eq_true rfl) rfl d_Reader_isNameTold_12 (fun r3 h4 hw => ?_)
  refine qx_if_ge X 36 d_Reader_isNameTold_15 (by decide) (fun q5 => ?_) (fun q5 => ?_)
  · have hw := hw.1 q5
    refine qx_iconst (v := (1 : Int32)) X d_Reader_isNameTold_36 (by decide) ?_
    refine qx_goto X 41 d_Reader_isNameTold_37 (by decide) ?_
    exact qx_zret X hw (Nat.le_refl 0) (Nat.le_refl 0) rfl d_Reader_isNameTold_41
  · have hw := hw.2 q5
    refine qx_aload_n (x := x0) X d_Reader_isNameTold_18 rfl 0 rfl ?_
    refine qx_aload_n (x := x0) X d_Reader_isNameTold_19 rfl 0 rfl ?_
    obtain ⟨g6, hw⟩ := hw
    refine qx_getR X qcls4 g6 7 (by decide) rfl wf_Reader_22 d_Reader_isNameTold_20 ?_
    refine qx_aload_n (x := x0) X d_Reader_isNameTold_23 rfl 0 rfl ?_
    refine qx_getR X qcls4 g6 5 (by decide) rfl wf_Reader_12 d_Reader_isNameTold_24 ?_
    obtain ⟨g7, hw⟩ := hw
    refine qx_getI X qcls8 g7 3 (by decide) rfl wf_Reader_124 d_Reader_isNameTold_27 ?_
    refine qx_callVI (st := []) (As := [qr b (qR h4 x0 7), .int (qI h4 (qR h4 x0 5) 3)]) X (t_Reader_indexOf (adK := adK) (adV := adV) l D cy b N x0 (qR h4 x0 7) (qI h4 (qR h4 x0 5) 3) h4 _ hw) qm_Reader_indexOf wm_Reader_143 wi_Reader_indexOf wl_Reader_indexOf qcls4 g6 rfl rfl rfl ⟨Nat.le_of_ble_eq_true rfl, Nat.le_of_ble_eq_true rfl⟩ ⟨Nat.le_refl 0, Nat.le_refl 0⟩ (Nat.le_of_ble_eq_true rfl) rfl d_Reader_isNameTold_30 (fun r8 h9 hw => ?_)
    refine qx_if_lt X 40 d_Reader_isNameTold_33 (by decide) (fun q10 => ?_) (fun q10 => ?_)
    · have hw := hw.1 q10
      refine qx_iconst (v := (0 : Int32)) X d_Reader_isNameTold_40 (by decide) ?_
      exact qx_zret X hw (Nat.le_refl 0) (Nat.le_refl 0) rfl d_Reader_isNameTold_41
    · have hw := hw.2 q10
      refine qx_iconst (v := (1 : Int32)) X d_Reader_isNameTold_36 (by decide) ?_
      refine qx_goto X 41 d_Reader_isNameTold_37 (by decide) ?_
      exact qx_zret X hw (Nat.le_refl 0) (Nat.le_refl 0) rfl d_Reader_isNameTold_41
set_option maxRecDepth 4000 in
theorem t_Reader_keepFault {adK adV : Nat → Nat} (l : Launch) (D : va_G) (cy : Nat → ClassId) (b : Nat) (N : Nat) (x0 : Nat) (x1 : Int32) (h : qH) (Q : qH → Prop) (hw : w_Reader_keepFault N x0 x1 h Q) : Met l y_Reader_keepFault (Cond.code y_Reader_keepFault prog_6_method_25_code 2 (none) :: qT) (qrm 0 0 0 0) (qPc D cy b adK adV h [qr b x0, .int x1]) (qQc D cy b qrV (fun (_ : Unit) h => Q h)) 0 0 (qA b) := by
  refine qmet (L0 := [(0, .inr (.inr (.inl x0))), (1, .inl x1)]) qm_Reader_keepFault (plainFor_of_name (by decide)) [.inr (.inr (.inl x0)), .inl x1] rfl (Nat.le_of_ble_eq_true rfl) rfl (fun p e s m args below meth c X => ?_)
  unfold w_Reader_keepFault at hw
  refine qx_aload_n (x := x0) X d_Reader_keepFault_0 rfl 0 rfl ?_
  obtain ⟨g1, hw⟩ := hw
  refine qx_getI X qcls4 g1 10 (by decide) rfl wf_Reader_43 d_Reader_keepFault_1 ?_
  refine qx_if_ne X 28 d_Reader_keepFault_4 (by decide) (fun q2 => ?_) (fun q2 => ?_)
  · have hw := hw.1 q2
    exact qx_vret X hw (Nat.le_refl 0) (Nat.le_refl 0) rfl d_Reader_keepFault_28
  · have hw := hw.2 q2
    refine qx_aload_n (x := x0) X d_Reader_keepFault_7 rfl 0 rfl ?_
    refine qx_iload_n (x := x1) X d_Reader_keepFault_8 rfl 1 rfl ?_
    refine qx_putI X qcls4 g1 10 (by decide) rfl wf_Reader_43 rfl rfl rfl d_Reader_keepFault_9 ?_
    refine qx_toph (fun h3 eh3 => ?_)
    have hw := hw h3 eh3
    refine qx_aload_n (x := x0) X d_Reader_keepFault_12 rfl 0 rfl ?_
    refine qx_aload_n (x := x0) X d_Reader_keepFault_13 rfl 0 rfl ?_
    obtain ⟨g4, hw⟩ := hw
    refine qx_getR X qcls4 g4 0 (by decide) rfl wf_Reader_36 d_Reader_keepFault_14 ?_
    obtain ⟨g5, hw⟩ := hw
    refine qx_getR X qcls7 g5 5 (by decide) rfl wf_Reader_224 d_Reader_keepFault_17 ?_
    refine qx_aload_n (x := x0) X d_Reader_keepFault_20 rfl 0 rfl ?_
    refine qx_getI X qcls4 g4 1 (by decide) rfl wf_Reader_215 d_Reader_keepFault_21 ?_
    obtain ⟨g6, hw⟩ := hw
    refine qx_ild X g6 d_Reader_keepFault_24 ?_
    refine qx_putI X qcls4 g4 11 (by decide) rfl wf_Reader_76 rfl rfl rfl d_Reader_keepFault_25 ?_
    refine qx_toph (fun h7 eh7 => ?_)
    have hw := hw h7 eh7
    exact qx_vret X hw (Nat.le_refl 0) (Nat.le_refl 0) rfl d_Reader_keepFault_28
set_option maxRecDepth 4000 in
theorem t_Reader_readNewName_20 (X : qX p s m args meth c D cy b adK adV prog_6_method_17_code "CoatHangers$Reader" 3 (some .boolean) "readNewName") (N : Nat) (x0 : Nat) (x1 : Nat) (x2 : Int32) (h : qH) (Q : Int32 → qH → Prop)  (hw : w_Reader_readNewName_20 N x0 x1 x2 h Q ) : qW p l e (qrm 3 0 0 62) s m args below meth c D cy b 3 0 0 (MQ below (qQc D cy b qrI Q) args s 0 0 (qA b)) 20 [(0, .inr (.inr (.inl x0))), (1, .inr (.inr (.inl x1))), (2, .inl x2)] [] h := by
  unfold w_Reader_readNewName_20 at hw
  refine qx_iload_n (x := x2) X d_Reader_readNewName_20 rfl 2 rfl ?_
  refine qx_if_lt X 37 d_Reader_readNewName_21 (by decide) (fun q1 => ?_) (fun q1 => ?_)
  · have hw := hw.1 q1
    refine qx_aload_n (x := x0) X d_Reader_readNewName_37 rfl 0 rfl ?_
    refine qx_iconst (v := (3 : Int32)) X d_Reader_readNewName_38 (by decide) ?_
    obtain ⟨g2, hw⟩ := hw
    refine qx_callVI (st := []) (As := [.int (3 : Int32)]) X (t_Reader_pass (adK := adK) (adV := adV) l D cy b N x0 (3 : Int32) h _ hw) qm_Reader_pass wm_Reader_121 wi_Reader_pass wl_Reader_pass qcls4 g2 rfl rfl rfl ⟨Nat.le_of_ble_eq_true rfl, Nat.le_of_ble_eq_true rfl⟩ ⟨Nat.le_refl 0, Nat.le_refl 0⟩ (Nat.le_of_ble_eq_true rfl) rfl d_Reader_readNewName_39 (fun r3 h4 hw => ?_)
    exact qx_zret X hw (Nat.le_refl 0) (Nat.le_refl 0) rfl d_Reader_readNewName_42
  · have hw := hw.2 q1
    refine qx_iload_n (x := x2) X d_Reader_readNewName_24 rfl 2 rfl ?_
    refine qx_aload_n (x := x1) X d_Reader_readNewName_25 rfl 1 rfl ?_
    obtain ⟨n5, g6, hw⟩ := hw
    refine qx_len X g6 (by decide) d_Reader_readNewName_26 ?_
    refine qx_icmp_ge X 37 d_Reader_readNewName_27 (by decide) (fun q7 => ?_) (fun q7 => ?_)
    · have hw := hw.1 q7
      refine qx_aload_n (x := x0) X d_Reader_readNewName_37 rfl 0 rfl ?_
      refine qx_iconst (v := (3 : Int32)) X d_Reader_readNewName_38 (by decide) ?_
      obtain ⟨g8, hw⟩ := hw
      refine qx_callVI (st := []) (As := [.int (3 : Int32)]) X (t_Reader_pass (adK := adK) (adV := adV) l D cy b N x0 (3 : Int32) h _ hw) qm_Reader_pass wm_Reader_121 wi_Reader_pass wl_Reader_pass qcls4 g8 rfl rfl rfl ⟨Nat.le_of_ble_eq_true rfl, Nat.le_of_ble_eq_true rfl⟩ ⟨Nat.le_refl 0, Nat.le_refl 0⟩ (Nat.le_of_ble_eq_true rfl) rfl d_Reader_readNewName_39 (fun r9 h10 hw => ?_)
      exact qx_zret X hw (Nat.le_refl 0) (Nat.le_refl 0) rfl d_Reader_readNewName_42
    · have hw := hw.2 q7
      refine qx_aload_n (x := x1) X d_Reader_readNewName_30 rfl 1 rfl ?_
      refine qx_iload_n (x := x2) X d_Reader_readNewName_31 rfl 2 rfl ?_
      refine qx_aload_n (x := x0) X d_Reader_readNewName_32 rfl 0 rfl ?_
      obtain ⟨g11, hw⟩ := hw
      refine qx_getJ X qcls4 g11 3 (by decide) rfl wf_Reader_205 d_Reader_readNewName_33 ?_
      obtain ⟨g12, hw⟩ := hw
      refine qx_lst X g12 d_Reader_readNewName_36 ?_
      refine qx_toph (fun h13 eh13 => ?_)
      have hw := hw h13 eh13
      refine qx_aload_n (x := x0) X d_Reader_readNewName_37 rfl 0 rfl ?_
      refine qx_iconst (v := (3 : Int32)) X d_Reader_readNewName_38 (by decide) ?_
      obtain ⟨g14, hw⟩ := hw
      refine qx_callVI (st := []) (As := [.int (3 : Int32)]) X (t_Reader_pass (adK := adK) (adV := adV) l D cy b N x0 (3 : Int32) h13 _ hw) qm_Reader_pass wm_Reader_121 wi_Reader_pass wl_Reader_pass qcls4 g14 rfl rfl rfl ⟨Nat.le_of_ble_eq_true rfl, Nat.le_of_ble_eq_true rfl⟩ ⟨Nat.le_refl 0, Nat.le_refl 0⟩ (Nat.le_of_ble_eq_true rfl) rfl d_Reader_readNewName_39 (fun r15 h16 hw => ?_)
      exact qx_zret X hw (Nat.le_refl 0) (Nat.le_refl 0) rfl d_Reader_readNewName_42
set_option maxRecDepth 4000 in
theorem t_Reader_readNewName {adK adV : Nat → Nat} (l : Launch) (D : va_G) (cy : Nat → ClassId) (b : Nat) (N : Nat) (x0 : Nat) (x1 : Nat) (x2 : Int32) (h : qH) (Q : Int32 → qH → Prop) (hw : w_Reader_readNewName N x0 x1 x2 h Q) : Met l y_Reader_readNewName (Cond.code y_Reader_readNewName prog_6_method_17_code 3 (some .boolean) :: qT) (qrm 3 0 0 62) (qPc D cy b adK adV h [qr b x0, qr b x1, .int x2]) (qQc D cy b qrI Q) 0 0 (qA b) := by
  refine qmet (L0 := [(0, .inr (.inr (.inl x0))), (1, .inr (.inr (.inl x1))), (2, .inl x2)]) qm_Reader_readNewName (plainFor_of_name (by decide)) [.inr (.inr (.inl x0)), .inr (.inr (.inl x1)), .inl x2] rfl (Nat.le_of_ble_eq_true rfl) rfl (fun p e s m args below meth c X => ?_)
  unfold w_Reader_readNewName at hw
  refine qx_aload_n (x := x0) X d_Reader_readNewName_0 rfl 0 rfl ?_
  obtain ⟨g1, hw⟩ := hw
  refine qx_getI X qcls4 g1 2 (by decide) rfl wf_Reader_61 d_Reader_readNewName_1 ?_
  refine qx_iconst (v := (3 : Int32)) X d_Reader_readNewName_4 (by decide) ?_
  refine qx_icmp_ne X 20 d_Reader_readNewName_5 (by decide) (fun q2 => ?_) (fun q2 => ?_)
  · have hw := hw.1 q2
    exact t_Reader_readNewName_20 X N x0 x1 x2 h Q  hw 
  · have hw := hw.2 q2
    refine qx_aload_n (x := x0) X d_Reader_readNewName_8 rfl 0 rfl ?_
    refine qx_callVI (st := []) (As := []) X (t_Reader_isNameTold (adK := adK) (adV := adV) l D cy b N x0 h _ hw) qm_Reader_isNameTold wm_Reader_212 wi_Reader_isNameTold wl_Reader_isNameTold qcls4 g1 rfl rfl rfl ⟨Nat.le_of_ble_eq_true rfl, Nat.le_of_ble_eq_true rfl⟩ ⟨Nat.le_refl 0, Nat.le_refl 0⟩ (Nat.le_of_ble_eq_true rfl) rfl d_Reader_readNewName_9 (fun r3 h4 hw => ?_)
    refine qx_if_eq X 20 d_Reader_readNewName_12 (by decide) (fun q5 => ?_) (fun q5 => ?_)
    · have hw := hw.1 q5
      exact t_Reader_readNewName_20 X N x0 x1 x2 h4 Q  hw 
    · have hw := hw.2 q5
      refine qx_aload_n (x := x0) X d_Reader_readNewName_15 rfl 0 rfl ?_
      refine qx_iconst (v := (3 : Int32)) X d_Reader_readNewName_16 (by decide) ?_
      obtain ⟨g6, hw⟩ := hw
      refine qx_callVV (st := []) (As := [.int (3 : Int32)]) X (t_Reader_keepFault (adK := adK) (adV := adV) l D cy b N x0 (3 : Int32) h4 _ hw) qm_Reader_keepFault wm_Reader_147 wi_Reader_keepFault wl_Reader_keepFault qcls4 g6 rfl rfl rfl ⟨Nat.le_of_ble_eq_true rfl, Nat.le_of_ble_eq_true rfl⟩ ⟨Nat.le_refl 0, Nat.le_refl 0⟩ (Nat.le_of_ble_eq_true rfl) rfl d_Reader_readNewName_17 (fun h7 hw => ?_)
      exact t_Reader_readNewName_20 X N x0 x1 x2 h7 Q  hw 
set_option maxRecDepth 4000 in
theorem t_Reader_readNumber {adK adV : Nat → Nat} (l : Launch) (D : va_G) (cy : Nat → ClassId) (b : Nat) (N : Nat) (x0 : Nat) (x1 : Int32) (h : qH) (Q : Int32 → qH → Prop) (hw : w_Reader_readNumber N x0 x1 h Q) : Met l y_Reader_readNumber (Cond.code y_Reader_readNumber prog_6_method_20_code 2 (some .boolean) :: qT) (qrm 3 0 0 62) (qPc D cy b adK adV h [qr b x0, .int x1]) (qQc D cy b qrI Q) 0 0 (qA b) := by
  refine qmet (L0 := [(0, .inr (.inr (.inl x0))), (1, .inl x1)]) qm_Reader_readNumber (plainFor_of_name (by decide)) [.inr (.inr (.inl x0)), .inl x1] rfl (Nat.le_of_ble_eq_true rfl) rfl (fun p e s m args below meth c X => ?_)
  unfold w_Reader_readNumber at hw
  refine qx_aload_n (x := x0) X d_Reader_readNumber_0 rfl 0 rfl ?_
  obtain ⟨g1, hw⟩ := hw
  refine qx_getI X qcls4 g1 2 (by decide) rfl wf_Reader_61 d_Reader_readNumber_1 ?_
  refine qx_iconst (v := (4 : Int32)) X d_Reader_readNumber_4 (by decide) ?_
  refine qx_icmp_ne X 23 d_Reader_readNumber_5 (by decide) (fun q2 => ?_) (fun q2 => ?_)
  · have hw := hw.1 q2
    refine qx_aload_n (x := x0) X d_Reader_readNumber_23 rfl 0 rfl ?_
    refine qx_aload_n (x := x0) X d_Reader_readNumber_24 rfl 0 rfl ?_
    refine qx_getJ X qcls4 g1 3 (by decide) rfl wf_Reader_205 d_Reader_readNumber_25 ?_
    refine qx_l2i X d_Reader_readNumber_28 ?_
    refine qx_putI X qcls4 g1 4 (by decide) rfl wf_Reader_115 rfl rfl rfl d_Reader_readNumber_29 ?_
    refine qx_toph (fun h3 eh3 => ?_)
    have hw := hw h3 eh3
    refine qx_aload_n (x := x0) X d_Reader_readNumber_32 rfl 0 rfl ?_
    refine qx_iconst (v := (4 : Int32)) X d_Reader_readNumber_33 (by decide) ?_
    obtain ⟨g4, hw⟩ := hw
    refine qx_callVI (st := []) (As := [.int (4 : Int32)]) X (t_Reader_pass (adK := adK) (adV := adV) l D cy b N x0 (4 : Int32) h3 _ hw) qm_Reader_pass wm_Reader_121 wi_Reader_pass wl_Reader_pass qcls4 g4 rfl rfl rfl ⟨Nat.le_of_ble_eq_true rfl, Nat.le_of_ble_eq_true rfl⟩ ⟨Nat.le_refl 0, Nat.le_refl 0⟩ (Nat.le_of_ble_eq_true rfl) rfl d_Reader_readNumber_34 (fun r5 h6 hw => ?_)
    exact qx_zret X hw (Nat.le_refl 0) (Nat.le_refl 0) rfl d_Reader_readNumber_37
  · have hw := hw.2 q2
    refine qx_aload_n (x := x0) X d_Reader_readNumber_8 rfl 0 rfl ?_
    refine qx_getJ X qcls4 g1 3 (by decide) rfl wf_Reader_205 d_Reader_readNumber_9 ?_
    refine qx_iload_n (x := x1) X d_Reader_readNumber_12 rfl 1 rfl ?_
    refine qx_i2l X d_Reader_readNumber_13 ?_
    refine qx_lcmp X d_Reader_readNumber_14 ?_
    refine qx_if_le X 23 d_Reader_readNumber_15 (by decide) (fun q7 => ?_) (fun q7 => ?_)
    · have hw := hw.1 q7
      refine qx_aload_n (x := x0) X d_Reader_readNumber_23 rfl 0 rfl ?_
      refine qx_aload_n (x := x0) X d_Reader_readNumber_24 rfl 0 rfl ?_
      refine qx_getJ X qcls4 g1 3 (by decide) rfl wf_Reader_205 d_Reader_readNumber_25 ?_
      refine qx_l2i X d_Reader_readNumber_28 ?_
      refine qx_putI X qcls4 g1 4 (by decide) rfl wf_Reader_115 rfl rfl rfl d_Reader_readNumber_29 ?_
      refine qx_toph (fun h8 eh8 => ?_)
      have hw := hw h8 eh8
      refine qx_aload_n (x := x0) X d_Reader_readNumber_32 rfl 0 rfl ?_
      refine qx_iconst (v := (4 : Int32)) X d_Reader_readNumber_33 (by decide) ?_
      obtain ⟨g9, hw⟩ := hw
      refine qx_callVI (st := []) (As := [.int (4 : Int32)]) X (t_Reader_pass (adK := adK) (adV := adV) l D cy b N x0 (4 : Int32) h8 _ hw) qm_Reader_pass wm_Reader_121 wi_Reader_pass wl_Reader_pass qcls4 g9 rfl rfl rfl ⟨Nat.le_of_ble_eq_true rfl, Nat.le_of_ble_eq_true rfl⟩ ⟨Nat.le_refl 0, Nat.le_refl 0⟩ (Nat.le_of_ble_eq_true rfl) rfl d_Reader_readNumber_34 (fun r10 h11 hw => ?_)
      exact qx_zret X hw (Nat.le_refl 0) (Nat.le_refl 0) rfl d_Reader_readNumber_37
    · have hw := hw.2 q7
      refine qx_aload_n (x := x0) X d_Reader_readNumber_18 rfl 0 rfl ?_
      refine qx_iconst (v := (5 : Int32)) X d_Reader_readNumber_19 (by decide) ?_
      refine qx_callVV (st := []) (As := [.int (5 : Int32)]) X (t_Reader_keepFault (adK := adK) (adV := adV) l D cy b N x0 (5 : Int32) h _ hw) qm_Reader_keepFault wm_Reader_147 wi_Reader_keepFault wl_Reader_keepFault qcls4 g1 rfl rfl rfl ⟨Nat.le_of_ble_eq_true rfl, Nat.le_of_ble_eq_true rfl⟩ ⟨Nat.le_refl 0, Nat.le_refl 0⟩ (Nat.le_of_ble_eq_true rfl) rfl d_Reader_readNumber_20 (fun h12 hw => ?_)
      refine qx_aload_n (x := x0) X d_Reader_readNumber_23 rfl 0 rfl ?_
      refine qx_aload_n (x := x0) X d_Reader_readNumber_24 rfl 0 rfl ?_
      obtain ⟨g13, hw⟩ := hw
      refine qx_getJ X qcls4 g13 3 (by decide) rfl wf_Reader_205 d_Reader_readNumber_25 ?_
      refine qx_l2i X d_Reader_readNumber_28 ?_
      refine qx_putI X qcls4 g13 4 (by decide) rfl wf_Reader_115 rfl rfl rfl d_Reader_readNumber_29 ?_
      refine qx_toph (fun h14 eh14 => ?_)
      have hw := hw h14 eh14
      refine qx_aload_n (x := x0) X d_Reader_readNumber_32 rfl 0 rfl ?_
      refine qx_iconst (v := (4 : Int32)) X d_Reader_readNumber_33 (by decide) ?_
      obtain ⟨g15, hw⟩ := hw
      refine qx_callVI (st := []) (As := [.int (4 : Int32)]) X (t_Reader_pass (adK := adK) (adV := adV) l D cy b N x0 (4 : Int32) h14 _ hw) qm_Reader_pass wm_Reader_121 wi_Reader_pass wl_Reader_pass qcls4 g15 rfl rfl rfl ⟨Nat.le_of_ble_eq_true rfl, Nat.le_of_ble_eq_true rfl⟩ ⟨Nat.le_refl 0, Nat.le_refl 0⟩ (Nat.le_of_ble_eq_true rfl) rfl d_Reader_readNumber_34 (fun r16 h17 hw => ?_)
      exact qx_zret X hw (Nat.le_refl 0) (Nat.le_refl 0) rfl d_Reader_readNumber_37
set_option maxRecDepth 4000 in
theorem t_Reader_readHanger {adK adV : Nat → Nat} (l : Launch) (D : va_G) (cy : Nat → ClassId) (b : Nat) (N : Nat) (x0 : Nat) (h : qH) (Q : Int32 → qH → Prop) (hw : w_Reader_readHanger N x0 h Q) : Met l y_Reader_readHanger (Cond.code y_Reader_readHanger prog_6_method_4_code 2 (some .boolean) :: qT) (qrm 4 0 0 84) (qPc D cy b adK adV h [qr b x0]) (qQc D cy b qrI Q) 0 0 (qA b) := by
  refine qmet (L0 := [(0, .inr (.inr (.inl x0)))]) qm_Reader_readHanger (plainFor_of_name (by decide)) [.inr (.inr (.inl x0))] rfl (Nat.le_of_ble_eq_true rfl) rfl (fun p e s m args below meth c X => ?_)
  unfold w_Reader_readHanger at hw
  refine qx_aload_n (x := x0) X d_Reader_readHanger_0 rfl 0 rfl ?_
  obtain ⟨g1, hw⟩ := hw
  refine qx_getR X qcls4 g1 5 (by decide) rfl wf_Reader_12 d_Reader_readHanger_1 ?_
  obtain ⟨g2, hw⟩ := hw
  refine qx_getI X qcls8 g2 0 (by decide) rfl wf_Reader_98 d_Reader_readHanger_4 ?_
  refine qx_topi (fun y3 ey3 => ?_)
  have hw := hw y3 ey3
  refine qx_istore_n (L' := [(1, .inl y3), (0, .inr (.inr (.inl x0)))]) X d_Reader_readHanger_7 rfl (by decide) rfl ?_
  refine qx_iload_n (x := y3) X d_Reader_readHanger_8 rfl 0 rfl ?_
  refine qx_bipush (v := (7 : Int32)) X d_Reader_readHanger_9 (by decide) ?_
  refine qx_icmp_lt X 20 d_Reader_readHanger_11 (by decide) (fun q4 => ?_) (fun q4 => ?_)
  · have hw := hw.1 q4
    refine qx_aload_n (x := x0) X d_Reader_readHanger_20 rfl 1 rfl ?_
    refine qx_callVI (st := []) (As := []) X (t_Reader_goOn (adK := adK) (adV := adV) l D cy b N x0 h _ hw) qm_Reader_goOn wm_Reader_101 wi_Reader_goOn wl_Reader_goOn qcls4 g1 rfl rfl rfl ⟨Nat.le_of_ble_eq_true rfl, Nat.le_of_ble_eq_true rfl⟩ ⟨Nat.le_refl 0, Nat.le_refl 0⟩ (Nat.le_of_ble_eq_true rfl) rfl d_Reader_readHanger_21 (fun r5 h6 hw => ?_)
    refine qx_if_eq X 47 d_Reader_readHanger_24 (by decide) (fun q7 => ?_) (fun q7 => ?_)
    · have hw := hw.1 q7
      refine qx_iconst (v := (0 : Int32)) X d_Reader_readHanger_47 (by decide) ?_
      exact qx_zret X hw (Nat.le_refl 0) (Nat.le_refl 0) rfl d_Reader_readHanger_48
    · have hw := hw.2 q7
      refine qx_aload_n (x := x0) X d_Reader_readHanger_27 rfl 1 rfl ?_
      refine qx_aload_n (x := x0) X d_Reader_readHanger_28 rfl 1 rfl ?_
      obtain ⟨g8, hw⟩ := hw
      refine qx_getR X qcls4 g8 6 (by decide) rfl wf_Reader_18 d_Reader_readHanger_29 ?_
      refine qx_iload_n (x := y3) X d_Reader_readHanger_32 rfl 0 rfl ?_
      refine qx_callVI (st := []) (As := [qr b (qR h6 x0 6), .int y3]) X (t_Reader_readNewName (adK := adK) (adV := adV) l D cy b N x0 (qR h6 x0 6) y3 h6 _ hw) qm_Reader_readNewName wm_Reader_104 wi_Reader_readNewName wl_Reader_readNewName qcls4 g8 rfl rfl rfl ⟨Nat.le_of_ble_eq_true rfl, Nat.le_of_ble_eq_true rfl⟩ ⟨Nat.le_refl 0, Nat.le_refl 0⟩ (Nat.le_of_ble_eq_true rfl) rfl d_Reader_readHanger_33 (fun r9 h10 hw => ?_)
      refine qx_if_eq X 47 d_Reader_readHanger_36 (by decide) (fun q11 => ?_) (fun q11 => ?_)
      · have hw := hw.1 q11
        refine qx_iconst (v := (0 : Int32)) X d_Reader_readHanger_47 (by decide) ?_
        exact qx_zret X hw (Nat.le_refl 0) (Nat.le_refl 0) rfl d_Reader_readHanger_48
      · have hw := hw.2 q11
        refine qx_aload_n (x := x0) X d_Reader_readHanger_39 rfl 1 rfl ?_
        refine qx_iconst (v := (4 : Int32)) X d_Reader_readHanger_40 (by decide) ?_
        obtain ⟨g12, hw⟩ := hw
        refine qx_callVI (st := []) (As := [.int (4 : Int32)]) X (t_Reader_readNumber (adK := adK) (adV := adV) l D cy b N x0 (4 : Int32) h10 _ hw) qm_Reader_readNumber wm_Reader_108 wi_Reader_readNumber wl_Reader_readNumber qcls4 g12 rfl rfl rfl ⟨Nat.le_of_ble_eq_true rfl, Nat.le_of_ble_eq_true rfl⟩ ⟨Nat.le_refl 0, Nat.le_refl 0⟩ (Nat.le_of_ble_eq_true rfl) rfl d_Reader_readHanger_41 (fun r13 h14 hw => ?_)
        refine qx_if_ne X 49 d_Reader_readHanger_44 (by decide) (fun q15 => ?_) (fun q15 => ?_)
        · have hw := hw.1 q15
          refine qx_aload_n (x := x0) X d_Reader_readHanger_49 rfl 1 rfl ?_
          obtain ⟨g16, hw⟩ := hw
          refine qx_getR X qcls4 g16 5 (by decide) rfl wf_Reader_12 d_Reader_readHanger_50 ?_
          obtain ⟨g17, hw⟩ := hw
          refine qx_getR X qcls8 g17 1 (by decide) rfl wf_Reader_111 d_Reader_readHanger_53 ?_
          refine qx_iload_n (x := y3) X d_Reader_readHanger_56 rfl 0 rfl ?_
          refine qx_aload_n (x := x0) X d_Reader_readHanger_57 rfl 1 rfl ?_
          refine qx_getI X qcls4 g16 4 (by decide) rfl wf_Reader_115 d_Reader_readHanger_58 ?_
          obtain ⟨g18, hw⟩ := hw
          refine qx_ist X g18 d_Reader_readHanger_61 ?_
          refine qx_toph (fun h19 eh19 => ?_)
          have hw := hw h19 eh19
          refine qx_aload_n (x := x0) X d_Reader_readHanger_62 rfl 1 rfl ?_
          refine qx_bipush (v := (99 : Int32)) X d_Reader_readHanger_63 (by decide) ?_
          obtain ⟨g20, hw⟩ := hw
          refine qx_callVI (st := []) (As := [.int (99 : Int32)]) X (t_Reader_readNumber (adK := adK) (adV := adV) l D cy b N x0 (99 : Int32) h19 _ hw) qm_Reader_readNumber wm_Reader_108 wi_Reader_readNumber wl_Reader_readNumber qcls4 g20 rfl rfl rfl ⟨Nat.le_of_ble_eq_true rfl, Nat.le_of_ble_eq_true rfl⟩ ⟨Nat.le_refl 0, Nat.le_refl 0⟩ (Nat.le_of_ble_eq_true rfl) rfl d_Reader_readHanger_65 (fun r21 h22 hw => ?_)
          refine qx_if_ne X 73 d_Reader_readHanger_68 (by decide) (fun q23 => ?_) (fun q23 => ?_)
          · have hw := hw.1 q23
            refine qx_aload_n (x := x0) X d_Reader_readHanger_73 rfl 1 rfl ?_
            obtain ⟨g24, hw⟩ := hw
            refine qx_getR X qcls4 g24 5 (by decide) rfl wf_Reader_12 d_Reader_readHanger_74 ?_
            obtain ⟨g25, hw⟩ := hw
            refine qx_getR X qcls8 g25 2 (by decide) rfl wf_Reader_118 d_Reader_readHanger_77 ?_
            refine qx_iload_n (x := y3) X d_Reader_readHanger_80 rfl 0 rfl ?_
            refine qx_aload_n (x := x0) X d_Reader_readHanger_81 rfl 1 rfl ?_
            refine qx_getI X qcls4 g24 4 (by decide) rfl wf_Reader_115 d_Reader_readHanger_82 ?_
            obtain ⟨g26, hw⟩ := hw
            refine qx_ist X g26 d_Reader_readHanger_85 ?_
            refine qx_toph (fun h27 eh27 => ?_)
            have hw := hw h27 eh27
            refine qx_aload_n (x := x0) X d_Reader_readHanger_86 rfl 1 rfl ?_
            obtain ⟨g28, hw⟩ := hw
            refine qx_getR X qcls4 g28 5 (by decide) rfl wf_Reader_12 d_Reader_readHanger_87 ?_
            refine qx_dup X (qr_cat _ _) d_Reader_readHanger_90 ?_
            obtain ⟨g29, hw⟩ := hw
            refine qx_getI X qcls8 g29 0 (by decide) rfl wf_Reader_98 d_Reader_readHanger_91 ?_
            refine qx_iconst (v := (1 : Int32)) X d_Reader_readHanger_94 (by decide) ?_
            refine qx_iadd X d_Reader_readHanger_95 ?_
            refine qx_putI X qcls8 g29 0 (by decide) rfl wf_Reader_98 rfl rfl rfl d_Reader_readHanger_96 ?_
            refine qx_toph (fun h30 eh30 => ?_)
            have hw := hw h30 eh30
            refine qx_aload_n (x := x0) X d_Reader_readHanger_99 rfl 1 rfl ?_
            refine qx_bipush (v := (59 : Int32)) X d_Reader_readHanger_100 (by decide) ?_
            obtain ⟨g31, hw⟩ := hw
            refine qx_callVI (st := []) (As := [.int (59 : Int32)]) X (t_Reader_pass (adK := adK) (adV := adV) l D cy b N x0 (59 : Int32) h30 _ hw) qm_Reader_pass wm_Reader_121 wi_Reader_pass wl_Reader_pass qcls4 g31 rfl rfl rfl ⟨Nat.le_of_ble_eq_true rfl, Nat.le_of_ble_eq_true rfl⟩ ⟨Nat.le_refl 0, Nat.le_refl 0⟩ (Nat.le_of_ble_eq_true rfl) rfl d_Reader_readHanger_102 (fun r32 h33 hw => ?_)
            exact qx_zret X hw (Nat.le_refl 0) (Nat.le_refl 0) rfl d_Reader_readHanger_105
          · have hw := hw.2 q23
            refine qx_iconst (v := (0 : Int32)) X d_Reader_readHanger_71 (by decide) ?_
            exact qx_zret X hw (Nat.le_refl 0) (Nat.le_refl 0) rfl d_Reader_readHanger_72
        · have hw := hw.2 q15
          refine qx_iconst (v := (0 : Int32)) X d_Reader_readHanger_47 (by decide) ?_
          exact qx_zret X hw (Nat.le_refl 0) (Nat.le_refl 0) rfl d_Reader_readHanger_48
  · have hw := hw.2 q4
    refine qx_aload_n (x := x0) X d_Reader_readHanger_14 rfl 1 rfl ?_
    refine qx_iconst (v := (2 : Int32)) X d_Reader_readHanger_15 (by decide) ?_
    refine qx_callVI (st := []) (As := [.int (2 : Int32)]) X (t_Reader_fails (adK := adK) (adV := adV) l D cy b N x0 (2 : Int32) h _ hw) qm_Reader_fails wm_Reader_94 wi_Reader_fails wl_Reader_fails qcls4 g1 rfl rfl rfl ⟨Nat.le_of_ble_eq_true rfl, Nat.le_of_ble_eq_true rfl⟩ ⟨Nat.le_refl 0, Nat.le_refl 0⟩ (Nat.le_of_ble_eq_true rfl) rfl d_Reader_readHanger_16 (fun r34 h35 hw => ?_)
    exact qx_zret X hw (Nat.le_refl 0) (Nat.le_refl 0) rfl d_Reader_readHanger_19
set_option maxRecDepth 4000 in
theorem t_Reader_hangerNamed {adK adV : Nat → Nat} (l : Launch) (D : va_G) (cy : Nat → ClassId) (b : Nat) (N : Nat) (x0 : Nat) (h : qH) (Q : Int32 → qH → Prop) (hw : w_Reader_hangerNamed N x0 h Q) : Met l y_Reader_hangerNamed (Cond.code y_Reader_hangerNamed prog_6_method_8_code 2 (some .int) :: qT) (qrm 1 0 0 23) (qPc D cy b adK adV h [qr b x0]) (qQc D cy b qrI Q) 0 0 (qA b) := by
  refine qmet (L0 := [(0, .inr (.inr (.inl x0)))]) qm_Reader_hangerNamed (plainFor_of_name (by decide)) [.inr (.inr (.inl x0))] rfl (Nat.le_of_ble_eq_true rfl) rfl (fun p e s m args below meth c X => ?_)
  unfold w_Reader_hangerNamed at hw
  refine qx_aload_n (x := x0) X d_Reader_hangerNamed_0 rfl 0 rfl ?_
  refine qx_aload_n (x := x0) X d_Reader_hangerNamed_1 rfl 0 rfl ?_
  obtain ⟨g1, hw⟩ := hw
  refine qx_getR X qcls4 g1 6 (by decide) rfl wf_Reader_18 d_Reader_hangerNamed_2 ?_
  refine qx_aload_n (x := x0) X d_Reader_hangerNamed_5 rfl 0 rfl ?_
  refine qx_getR X qcls4 g1 5 (by decide) rfl wf_Reader_12 d_Reader_hangerNamed_6 ?_
  obtain ⟨g2, hw⟩ := hw
  refine qx_getI X qcls8 g2 0 (by decide) rfl wf_Reader_98 d_Reader_hangerNamed_9 ?_
  refine qx_callVI (st := []) (As := [qr b (qR h x0 6), .int (qI h (qR h x0 5) 0)]) X (t_Reader_indexOf (adK := adK) (adV := adV) l D cy b N x0 (qR h x0 6) (qI h (qR h x0 5) 0) h _ hw) qm_Reader_indexOf wm_Reader_143 wi_Reader_indexOf wl_Reader_indexOf qcls4 g1 rfl rfl rfl ⟨Nat.le_of_ble_eq_true rfl, Nat.le_of_ble_eq_true rfl⟩ ⟨Nat.le_refl 0, Nat.le_refl 0⟩ (Nat.le_of_ble_eq_true rfl) rfl d_Reader_hangerNamed_12 (fun r3 h4 hw => ?_)
  refine qx_istore_n (L' := [(1, .inl r3), (0, .inr (.inr (.inl x0)))]) X d_Reader_hangerNamed_15 rfl (by decide) rfl ?_
  refine qx_iload_n (x := r3) X d_Reader_hangerNamed_16 rfl 0 rfl ?_
  refine qx_if_ge X 28 d_Reader_hangerNamed_17 (by decide) (fun q5 => ?_) (fun q5 => ?_)
  · have hw := hw.1 q5
    refine qx_aload_n (x := x0) X d_Reader_hangerNamed_28 rfl 1 rfl ?_
    obtain ⟨g6, hw⟩ := hw
    refine qx_getR X qcls4 g6 5 (by decide) rfl wf_Reader_12 d_Reader_hangerNamed_29 ?_
    refine qx_iload_n (x := r3) X d_Reader_hangerNamed_32 rfl 0 rfl ?_
    obtain ⟨g7, hw⟩ := hw
    refine qx_callVI (st := []) (As := [.int r3]) X (t_Text_isFirstTaken (adK := adK) (adV := adV) l D cy b N (qR h4 x0 5) r3 h4 _ hw) qm_Text_isFirstTaken wm_Reader_150 wi_Text_isFirstTaken wl_Text_isFirstTaken qcls8 g7 rfl rfl rfl ⟨Nat.le_of_ble_eq_true rfl, Nat.le_of_ble_eq_true rfl⟩ ⟨Nat.le_refl 0, Nat.le_refl 0⟩ (Nat.le_of_ble_eq_true rfl) rfl d_Reader_hangerNamed_33 (fun r8 h9 hw => ?_)
    refine qx_if_eq X 44 d_Reader_hangerNamed_36 (by decide) (fun q10 => ?_) (fun q10 => ?_)
    · have hw := hw.1 q10
      refine qx_iload_n (x := r3) X d_Reader_hangerNamed_44 rfl 0 rfl ?_
      exact qx_iret X hw (Nat.le_refl 0) (Nat.le_refl 0) rfl d_Reader_hangerNamed_45
    · have hw := hw.2 q10
      refine qx_aload_n (x := x0) X d_Reader_hangerNamed_39 rfl 1 rfl ?_
      refine qx_iconst (v := (3 : Int32)) X d_Reader_hangerNamed_40 (by decide) ?_
      obtain ⟨g11, hw⟩ := hw
      refine qx_callVV (st := []) (As := [.int (3 : Int32)]) X (t_Reader_keepFault (adK := adK) (adV := adV) l D cy b N x0 (3 : Int32) h9 _ hw) qm_Reader_keepFault wm_Reader_147 wi_Reader_keepFault wl_Reader_keepFault qcls4 g11 rfl rfl rfl ⟨Nat.le_of_ble_eq_true rfl, Nat.le_of_ble_eq_true rfl⟩ ⟨Nat.le_refl 0, Nat.le_refl 0⟩ (Nat.le_of_ble_eq_true rfl) rfl d_Reader_hangerNamed_41 (fun h12 hw => ?_)
      refine qx_iload_n (x := r3) X d_Reader_hangerNamed_44 rfl 0 rfl ?_
      exact qx_iret X hw (Nat.le_refl 0) (Nat.le_refl 0) rfl d_Reader_hangerNamed_45
  · have hw := hw.2 q5
    refine qx_aload_n (x := x0) X d_Reader_hangerNamed_20 rfl 1 rfl ?_
    refine qx_iconst (v := (4 : Int32)) X d_Reader_hangerNamed_21 (by decide) ?_
    obtain ⟨g13, hw⟩ := hw
    refine qx_callVV (st := []) (As := [.int (4 : Int32)]) X (t_Reader_keepFault (adK := adK) (adV := adV) l D cy b N x0 (4 : Int32) h4 _ hw) qm_Reader_keepFault wm_Reader_147 wi_Reader_keepFault wl_Reader_keepFault qcls4 g13 rfl rfl rfl ⟨Nat.le_of_ble_eq_true rfl, Nat.le_of_ble_eq_true rfl⟩ ⟨Nat.le_refl 0, Nat.le_refl 0⟩ (Nat.le_of_ble_eq_true rfl) rfl d_Reader_hangerNamed_22 (fun h14 hw => ?_)
    refine qx_goto X 44 d_Reader_hangerNamed_25 (by decide) ?_
    refine qx_iload_n (x := r3) X d_Reader_hangerNamed_44 rfl 0 rfl ?_
    exact qx_iret X hw (Nat.le_refl 0) (Nat.le_refl 0) rfl d_Reader_hangerNamed_45
set_option maxRecDepth 4000 in
theorem t_Reader_personNamed {adK adV : Nat → Nat} (l : Launch) (D : va_G) (cy : Nat → ClassId) (b : Nat) (N : Nat) (x0 : Nat) (h : qH) (Q : Int32 → qH → Prop) (hw : w_Reader_personNamed N x0 h Q) : Met l y_Reader_personNamed (Cond.code y_Reader_personNamed prog_6_method_7_code 2 (some .int) :: qT) (qrm 1 0 0 23) (qPc D cy b adK adV h [qr b x0]) (qQc D cy b qrI Q) 0 0 (qA b) := by
  refine qmet (L0 := [(0, .inr (.inr (.inl x0)))]) qm_Reader_personNamed (plainFor_of_name (by decide)) [.inr (.inr (.inl x0))] rfl (Nat.le_of_ble_eq_true rfl) rfl (fun p e s m args below meth c X => ?_)
  unfold w_Reader_personNamed at hw
  refine qx_aload_n (x := x0) X d_Reader_personNamed_0 rfl 0 rfl ?_
  refine qx_aload_n (x := x0) X d_Reader_personNamed_1 rfl 0 rfl ?_
  obtain ⟨g1, hw⟩ := hw
  refine qx_getR X qcls4 g1 7 (by decide) rfl wf_Reader_22 d_Reader_personNamed_2 ?_
  refine qx_aload_n (x := x0) X d_Reader_personNamed_5 rfl 0 rfl ?_
  refine qx_getR X qcls4 g1 5 (by decide) rfl wf_Reader_12 d_Reader_personNamed_6 ?_
  obtain ⟨g2, hw⟩ := hw
  refine qx_getI X qcls8 g2 3 (by decide) rfl wf_Reader_124 d_Reader_personNamed_9 ?_
  refine qx_callVI (st := []) (As := [qr b (qR h x0 7), .int (qI h (qR h x0 5) 3)]) X (t_Reader_indexOf (adK := adK) (adV := adV) l D cy b N x0 (qR h x0 7) (qI h (qR h x0 5) 3) h _ hw) qm_Reader_indexOf wm_Reader_143 wi_Reader_indexOf wl_Reader_indexOf qcls4 g1 rfl rfl rfl ⟨Nat.le_of_ble_eq_true rfl, Nat.le_of_ble_eq_true rfl⟩ ⟨Nat.le_refl 0, Nat.le_refl 0⟩ (Nat.le_of_ble_eq_true rfl) rfl d_Reader_personNamed_12 (fun r3 h4 hw => ?_)
  refine qx_istore_n (L' := [(1, .inl r3), (0, .inr (.inr (.inl x0)))]) X d_Reader_personNamed_15 rfl (by decide) rfl ?_
  refine qx_iload_n (x := r3) X d_Reader_personNamed_16 rfl 0 rfl ?_
  refine qx_if_ge X 28 d_Reader_personNamed_17 (by decide) (fun q5 => ?_) (fun q5 => ?_)
  · have hw := hw.1 q5
    refine qx_aload_n (x := x0) X d_Reader_personNamed_28 rfl 1 rfl ?_
    obtain ⟨g6, hw⟩ := hw
    refine qx_getR X qcls4 g6 5 (by decide) rfl wf_Reader_12 d_Reader_personNamed_29 ?_
    obtain ⟨g7, hw⟩ := hw
    refine qx_getR X qcls8 g7 6 (by decide) rfl wf_Reader_140 d_Reader_personNamed_32 ?_
    refine qx_iload_n (x := r3) X d_Reader_personNamed_35 rfl 0 rfl ?_
    obtain ⟨g8, hw⟩ := hw
    refine qx_ild X g8 d_Reader_personNamed_36 ?_
    refine qx_if_lt X 45 d_Reader_personNamed_37 (by decide) (fun q9 => ?_) (fun q9 => ?_)
    · have hw := hw.1 q9
      refine qx_iload_n (x := r3) X d_Reader_personNamed_45 rfl 0 rfl ?_
      exact qx_iret X hw (Nat.le_refl 0) (Nat.le_refl 0) rfl d_Reader_personNamed_46
    · have hw := hw.2 q9
      refine qx_aload_n (x := x0) X d_Reader_personNamed_40 rfl 1 rfl ?_
      refine qx_iconst (v := (3 : Int32)) X d_Reader_personNamed_41 (by decide) ?_
      refine qx_callVV (st := []) (As := [.int (3 : Int32)]) X (t_Reader_keepFault (adK := adK) (adV := adV) l D cy b N x0 (3 : Int32) h4 _ hw) qm_Reader_keepFault wm_Reader_147 wi_Reader_keepFault wl_Reader_keepFault qcls4 g6 rfl rfl rfl ⟨Nat.le_of_ble_eq_true rfl, Nat.le_of_ble_eq_true rfl⟩ ⟨Nat.le_refl 0, Nat.le_refl 0⟩ (Nat.le_of_ble_eq_true rfl) rfl d_Reader_personNamed_42 (fun h10 hw => ?_)
      refine qx_iload_n (x := r3) X d_Reader_personNamed_45 rfl 0 rfl ?_
      exact qx_iret X hw (Nat.le_refl 0) (Nat.le_refl 0) rfl d_Reader_personNamed_46
  · have hw := hw.2 q5
    refine qx_aload_n (x := x0) X d_Reader_personNamed_20 rfl 1 rfl ?_
    refine qx_iconst (v := (4 : Int32)) X d_Reader_personNamed_21 (by decide) ?_
    obtain ⟨g11, hw⟩ := hw
    refine qx_callVV (st := []) (As := [.int (4 : Int32)]) X (t_Reader_keepFault (adK := adK) (adV := adV) l D cy b N x0 (4 : Int32) h4 _ hw) qm_Reader_keepFault wm_Reader_147 wi_Reader_keepFault wl_Reader_keepFault qcls4 g11 rfl rfl rfl ⟨Nat.le_of_ble_eq_true rfl, Nat.le_of_ble_eq_true rfl⟩ ⟨Nat.le_refl 0, Nat.le_refl 0⟩ (Nat.le_of_ble_eq_true rfl) rfl d_Reader_personNamed_22 (fun h12 hw => ?_)
    refine qx_goto X 45 d_Reader_personNamed_25 (by decide) ?_
    refine qx_iload_n (x := r3) X d_Reader_personNamed_45 rfl 0 rfl ?_
    exact qx_iret X hw (Nat.le_refl 0) (Nat.le_refl 0) rfl d_Reader_personNamed_46
set_option maxRecDepth 4000 in
theorem t_Reader_readHangs {adK adV : Nat → Nat} (l : Launch) (D : va_G) (cy : Nat → ClassId) (b : Nat) (N : Nat) (x0 : Nat) (h : qH) (Q : Int32 → qH → Prop) (hw : w_Reader_readHangs N x0 h Q) : Met l y_Reader_readHangs (Cond.code y_Reader_readHangs prog_6_method_6_code 3 (some .boolean) :: qT) (qrm 3 0 0 62) (qPc D cy b adK adV h [qr b x0]) (qQc D cy b qrI Q) 0 0 (qA b) := by
  refine qmet (L0 := [(0, .inr (.inr (.inl x0)))]) qm_Reader_readHangs (plainFor_of_name (by decide)) [.inr (.inr (.inl x0))] rfl (Nat.le_of_ble_eq_true rfl) rfl (fun p e s m args below meth c X => ?_)
  unfold w_Reader_readHangs at hw
  refine qx_aload_n (x := x0) X d_Reader_readHangs_0 rfl 0 rfl ?_
  obtain ⟨g1, hw⟩ := hw
  refine qx_getI X qcls4 g1 8 (by decide) rfl wf_Reader_46 d_Reader_readHangs_1 ?_
  refine qx_bipush (v := (6 : Int32)) X d_Reader_readHangs_4 (by decide) ?_
  refine qx_icmp_lt X 15 d_Reader_readHangs_6 (by decide) (fun q2 => ?_) (fun q2 => ?_)
  · have hw := hw.1 q2
    refine qx_aload_n (x := x0) X d_Reader_readHangs_15 rfl 0 rfl ?_
    refine qx_dup X (qr_cat _ _) d_Reader_readHangs_16 ?_
    refine qx_getI X qcls4 g1 8 (by decide) rfl wf_Reader_46 d_Reader_readHangs_17 ?_
    refine qx_iconst (v := (1 : Int32)) X d_Reader_readHangs_20 (by decide) ?_
    refine qx_iadd X d_Reader_readHangs_21 ?_
    refine qx_putI X qcls4 g1 8 (by decide) rfl wf_Reader_46 rfl rfl rfl d_Reader_readHangs_22 ?_
    refine qx_toph (fun h3 eh3 => ?_)
    have hw := hw h3 eh3
    refine qx_aload_n (x := x0) X d_Reader_readHangs_25 rfl 0 rfl ?_
    obtain ⟨g4, hw⟩ := hw
    refine qx_callVI (st := []) (As := []) X (t_Reader_goOn (adK := adK) (adV := adV) l D cy b N x0 h3 _ hw) qm_Reader_goOn wm_Reader_101 wi_Reader_goOn wl_Reader_goOn qcls4 g4 rfl rfl rfl ⟨Nat.le_of_ble_eq_true rfl, Nat.le_of_ble_eq_true rfl⟩ ⟨Nat.le_refl 0, Nat.le_refl 0⟩ (Nat.le_of_ble_eq_true rfl) rfl d_Reader_readHangs_26 (fun r5 h6 hw => ?_)
    refine qx_if_ne X 34 d_Reader_readHangs_29 (by decide) (fun q7 => ?_) (fun q7 => ?_)
    · have hw := hw.1 q7
      refine qx_aload_n (x := x0) X d_Reader_readHangs_34 rfl 0 rfl ?_
      obtain ⟨g8, hw⟩ := hw
      refine qx_callVI (st := []) (As := []) X (t_Reader_personNamed (adK := adK) (adV := adV) l D cy b N x0 h6 _ hw) qm_Reader_personNamed wm_Reader_133 wi_Reader_personNamed wl_Reader_personNamed qcls4 g8 rfl rfl rfl ⟨Nat.le_of_ble_eq_true rfl, Nat.le_of_ble_eq_true rfl⟩ ⟨Nat.le_refl 0, Nat.le_refl 0⟩ (Nat.le_of_ble_eq_true rfl) rfl d_Reader_readHangs_35 (fun r9 h10 hw => ?_)
      refine qx_istore_n (L' := [(1, .inl r9), (0, .inr (.inr (.inl x0)))]) X d_Reader_readHangs_38 rfl (by decide) rfl ?_
      refine qx_aload_n (x := x0) X d_Reader_readHangs_39 rfl 1 rfl ?_
      refine qx_iconst (v := (3 : Int32)) X d_Reader_readHangs_40 (by decide) ?_
      obtain ⟨g11, hw⟩ := hw
      refine qx_callVI (st := []) (As := [.int (3 : Int32)]) X (t_Reader_pass (adK := adK) (adV := adV) l D cy b N x0 (3 : Int32) h10 _ hw) qm_Reader_pass wm_Reader_121 wi_Reader_pass wl_Reader_pass qcls4 g11 rfl rfl rfl ⟨Nat.le_of_ble_eq_true rfl, Nat.le_of_ble_eq_true rfl⟩ ⟨Nat.le_refl 0, Nat.le_refl 0⟩ (Nat.le_of_ble_eq_true rfl) rfl d_Reader_readHangs_41 (fun r12 h13 hw => ?_)
      refine qx_if_ne X 49 d_Reader_readHangs_44 (by decide) (fun q14 => ?_) (fun q14 => ?_)
      · have hw := hw.1 q14
        refine qx_aload_n (x := x0) X d_Reader_readHangs_49 rfl 1 rfl ?_
        obtain ⟨g15, hw⟩ := hw
        refine qx_callVI (st := []) (As := []) X (t_Reader_hangerNamed (adK := adK) (adV := adV) l D cy b N x0 h13 _ hw) qm_Reader_hangerNamed wm_Reader_137 wi_Reader_hangerNamed wl_Reader_hangerNamed qcls4 g15 rfl rfl rfl ⟨Nat.le_of_ble_eq_true rfl, Nat.le_of_ble_eq_true rfl⟩ ⟨Nat.le_refl 0, Nat.le_refl 0⟩ (Nat.le_of_ble_eq_true rfl) rfl d_Reader_readHangs_50 (fun r16 h17 hw => ?_)
        refine qx_istore_n (L' := [(2, .inl r16), (1, .inl r9), (0, .inr (.inr (.inl x0)))]) X d_Reader_readHangs_53 rfl (by decide) rfl ?_
        refine qx_aload_n (x := x0) X d_Reader_readHangs_54 rfl 2 rfl ?_
        refine qx_iconst (v := (3 : Int32)) X d_Reader_readHangs_55 (by decide) ?_
        obtain ⟨g18, hw⟩ := hw
        refine qx_callVI (st := []) (As := [.int (3 : Int32)]) X (t_Reader_pass (adK := adK) (adV := adV) l D cy b N x0 (3 : Int32) h17 _ hw) qm_Reader_pass wm_Reader_121 wi_Reader_pass wl_Reader_pass qcls4 g18 rfl rfl rfl ⟨Nat.le_of_ble_eq_true rfl, Nat.le_of_ble_eq_true rfl⟩ ⟨Nat.le_refl 0, Nat.le_refl 0⟩ (Nat.le_of_ble_eq_true rfl) rfl d_Reader_readHangs_56 (fun r19 h20 hw => ?_)
        refine qx_if_ne X 64 d_Reader_readHangs_59 (by decide) (fun q21 => ?_) (fun q21 => ?_)
        · have hw := hw.1 q21
          refine qx_iload_n (x := r9) X d_Reader_readHangs_64 rfl 1 rfl ?_
          refine qx_if_lt X 82 d_Reader_readHangs_65 (by decide) (fun q22 => ?_) (fun q22 => ?_)
          · have hw := hw.1 q22
            refine qx_aload_n (x := x0) X d_Reader_readHangs_82 rfl 2 rfl ?_
            refine qx_bipush (v := (59 : Int32)) X d_Reader_readHangs_83 (by decide) ?_
            obtain ⟨g23, hw⟩ := hw
            refine qx_callVI (st := []) (As := [.int (59 : Int32)]) X (t_Reader_pass (adK := adK) (adV := adV) l D cy b N x0 (59 : Int32) h20 _ hw) qm_Reader_pass wm_Reader_121 wi_Reader_pass wl_Reader_pass qcls4 g23 rfl rfl rfl ⟨Nat.le_of_ble_eq_true rfl, Nat.le_of_ble_eq_true rfl⟩ ⟨Nat.le_refl 0, Nat.le_refl 0⟩ (Nat.le_of_ble_eq_true rfl) rfl d_Reader_readHangs_85 (fun r24 h25 hw => ?_)
            exact qx_zret X hw (Nat.le_refl 0) (Nat.le_refl 0) rfl d_Reader_readHangs_88
          · have hw := hw.2 q22
            refine qx_iload_n (x := r16) X d_Reader_readHangs_68 rfl 0 rfl ?_
            refine qx_if_lt X 82 d_Reader_readHangs_69 (by decide) (fun q26 => ?_) (fun q26 => ?_)
            · have hw := hw.1 q26
              refine qx_aload_n (x := x0) X d_Reader_readHangs_82 rfl 2 rfl ?_
              refine qx_bipush (v := (59 : Int32)) X d_Reader_readHangs_83 (by decide) ?_
              obtain ⟨g27, hw⟩ := hw
              refine qx_callVI (st := []) (As := [.int (59 : Int32)]) X (t_Reader_pass (adK := adK) (adV := adV) l D cy b N x0 (59 : Int32) h20 _ hw) qm_Reader_pass wm_Reader_121 wi_Reader_pass wl_Reader_pass qcls4 g27 rfl rfl rfl ⟨Nat.le_of_ble_eq_true rfl, Nat.le_of_ble_eq_true rfl⟩ ⟨Nat.le_refl 0, Nat.le_refl 0⟩ (Nat.le_of_ble_eq_true rfl) rfl d_Reader_readHangs_85 (fun r28 h29 hw => ?_)
              exact qx_zret X hw (Nat.le_refl 0) (Nat.le_refl 0) rfl d_Reader_readHangs_88
            · have hw := hw.2 q26
              refine qx_aload_n (x := x0) X d_Reader_readHangs_72 rfl 2 rfl ?_
              obtain ⟨g30, hw⟩ := hw
              refine qx_getR X qcls4 g30 5 (by decide) rfl wf_Reader_12 d_Reader_readHangs_73 ?_
              obtain ⟨g31, hw⟩ := hw
              refine qx_getR X qcls8 g31 6 (by decide) rfl wf_Reader_140 d_Reader_readHangs_76 ?_
              refine qx_iload_n (x := r9) X d_Reader_readHangs_79 rfl 1 rfl ?_
              refine qx_iload_n (x := r16) X d_Reader_readHangs_80 rfl 0 rfl ?_
              obtain ⟨g32, hw⟩ := hw
              refine qx_ist X g32 d_Reader_readHangs_81 ?_
              refine qx_toph (fun h33 eh33 => ?_)
              have hw := hw h33 eh33
              refine qx_aload_n (x := x0) X d_Reader_readHangs_82 rfl 2 rfl ?_
              refine qx_bipush (v := (59 : Int32)) X d_Reader_readHangs_83 (by decide) ?_
              obtain ⟨g34, hw⟩ := hw
              refine qx_callVI (st := []) (As := [.int (59 : Int32)]) X (t_Reader_pass (adK := adK) (adV := adV) l D cy b N x0 (59 : Int32) h33 _ hw) qm_Reader_pass wm_Reader_121 wi_Reader_pass wl_Reader_pass qcls4 g34 rfl rfl rfl ⟨Nat.le_of_ble_eq_true rfl, Nat.le_of_ble_eq_true rfl⟩ ⟨Nat.le_refl 0, Nat.le_refl 0⟩ (Nat.le_of_ble_eq_true rfl) rfl d_Reader_readHangs_85 (fun r35 h36 hw => ?_)
              exact qx_zret X hw (Nat.le_refl 0) (Nat.le_refl 0) rfl d_Reader_readHangs_88
        · have hw := hw.2 q21
          refine qx_iconst (v := (0 : Int32)) X d_Reader_readHangs_62 (by decide) ?_
          exact qx_zret X hw (Nat.le_refl 0) (Nat.le_refl 0) rfl d_Reader_readHangs_63
      · have hw := hw.2 q14
        refine qx_iconst (v := (0 : Int32)) X d_Reader_readHangs_47 (by decide) ?_
        exact qx_zret X hw (Nat.le_refl 0) (Nat.le_refl 0) rfl d_Reader_readHangs_48
    · have hw := hw.2 q7
      refine qx_iconst (v := (0 : Int32)) X d_Reader_readHangs_32 (by decide) ?_
      exact qx_zret X hw (Nat.le_refl 0) (Nat.le_refl 0) rfl d_Reader_readHangs_33
  · have hw := hw.2 q2
    refine qx_aload_n (x := x0) X d_Reader_readHangs_9 rfl 0 rfl ?_
    refine qx_iconst (v := (2 : Int32)) X d_Reader_readHangs_10 (by decide) ?_
    refine qx_callVI (st := []) (As := [.int (2 : Int32)]) X (t_Reader_fails (adK := adK) (adV := adV) l D cy b N x0 (2 : Int32) h _ hw) qm_Reader_fails wm_Reader_94 wi_Reader_fails wl_Reader_fails qcls4 g1 rfl rfl rfl ⟨Nat.le_of_ble_eq_true rfl, Nat.le_of_ble_eq_true rfl⟩ ⟨Nat.le_refl 0, Nat.le_refl 0⟩ (Nat.le_of_ble_eq_true rfl) rfl d_Reader_readHangs_11 (fun r37 h38 hw => ?_)
    exact qx_zret X hw (Nat.le_refl 0) (Nat.le_refl 0) rfl d_Reader_readHangs_14
set_option maxRecDepth 4000 in
theorem t_Reader_readMoth {adK adV : Nat → Nat} (l : Launch) (D : va_G) (cy : Nat → ClassId) (b : Nat) (N : Nat) (x0 : Nat) (h : qH) (Q : Int32 → qH → Prop) (hw : w_Reader_readMoth N x0 h Q) : Met l y_Reader_readMoth (Cond.code y_Reader_readMoth prog_6_method_9_code 1 (some .boolean) :: qT) (qrm 4 0 0 83) (qPc D cy b adK adV h [qr b x0]) (qQc D cy b qrI Q) 0 0 (qA b) := by
  refine qmet (L0 := [(0, .inr (.inr (.inl x0)))]) qm_Reader_readMoth (plainFor_of_name (by decide)) [.inr (.inr (.inl x0))] rfl (Nat.le_of_ble_eq_true rfl) rfl (fun p e s m args below meth c X => ?_)
  unfold w_Reader_readMoth at hw
  refine qx_aload_n (x := x0) X d_Reader_readMoth_0 rfl 0 rfl ?_
  obtain ⟨g1, hw⟩ := hw
  refine qx_callVI (st := []) (As := []) X (t_Reader_goOn (adK := adK) (adV := adV) l D cy b N x0 h _ hw) qm_Reader_goOn wm_Reader_101 wi_Reader_goOn wl_Reader_goOn qcls4 g1 rfl rfl rfl ⟨Nat.le_of_ble_eq_true rfl, Nat.le_of_ble_eq_true rfl⟩ ⟨Nat.le_refl 0, Nat.le_refl 0⟩ (Nat.le_of_ble_eq_true rfl) rfl d_Reader_readMoth_1 (fun r2 h3 hw => ?_)
  refine qx_if_eq X 16 d_Reader_readMoth_4 (by decide) (fun q4 => ?_) (fun q4 => ?_)
  · have hw := hw.1 q4
    refine qx_iconst (v := (0 : Int32)) X d_Reader_readMoth_16 (by decide) ?_
    exact qx_zret X hw (Nat.le_refl 0) (Nat.le_refl 0) rfl d_Reader_readMoth_17
  · have hw := hw.2 q4
    refine qx_aload_n (x := x0) X d_Reader_readMoth_7 rfl 0 rfl ?_
    refine qx_bipush (v := (100 : Int32)) X d_Reader_readMoth_8 (by decide) ?_
    obtain ⟨g5, hw⟩ := hw
    refine qx_callVI (st := []) (As := [.int (100 : Int32)]) X (t_Reader_readNumber (adK := adK) (adV := adV) l D cy b N x0 (100 : Int32) h3 _ hw) qm_Reader_readNumber wm_Reader_108 wi_Reader_readNumber wl_Reader_readNumber qcls4 g5 rfl rfl rfl ⟨Nat.le_of_ble_eq_true rfl, Nat.le_of_ble_eq_true rfl⟩ ⟨Nat.le_refl 0, Nat.le_refl 0⟩ (Nat.le_of_ble_eq_true rfl) rfl d_Reader_readMoth_10 (fun r6 h7 hw => ?_)
    refine qx_if_ne X 18 d_Reader_readMoth_13 (by decide) (fun q8 => ?_) (fun q8 => ?_)
    · have hw := hw.1 q8
      refine qx_aload_n (x := x0) X d_Reader_readMoth_18 rfl 0 rfl ?_
      obtain ⟨g9, hw⟩ := hw
      refine qx_getR X qcls4 g9 5 (by decide) rfl wf_Reader_12 d_Reader_readMoth_19 ?_
      refine qx_aload_n (x := x0) X d_Reader_readMoth_22 rfl 0 rfl ?_
      refine qx_getI X qcls4 g9 4 (by decide) rfl wf_Reader_115 d_Reader_readMoth_23 ?_
      obtain ⟨g10, hw⟩ := hw
      refine qx_putI X qcls8 g10 11 (by decide) rfl wf_Reader_153 rfl rfl rfl d_Reader_readMoth_26 ?_
      refine qx_toph (fun h11 eh11 => ?_)
      have hw := hw h11 eh11
      refine qx_aload_n (x := x0) X d_Reader_readMoth_29 rfl 0 rfl ?_
      refine qx_bipush (v := (59 : Int32)) X d_Reader_readMoth_30 (by decide) ?_
      obtain ⟨g12, hw⟩ := hw
      refine qx_callVI (st := []) (As := [.int (59 : Int32)]) X (t_Reader_pass (adK := adK) (adV := adV) l D cy b N x0 (59 : Int32) h11 _ hw) qm_Reader_pass wm_Reader_121 wi_Reader_pass wl_Reader_pass qcls4 g12 rfl rfl rfl ⟨Nat.le_of_ble_eq_true rfl, Nat.le_of_ble_eq_true rfl⟩ ⟨Nat.le_refl 0, Nat.le_refl 0⟩ (Nat.le_of_ble_eq_true rfl) rfl d_Reader_readMoth_32 (fun r13 h14 hw => ?_)
      exact qx_zret X hw (Nat.le_refl 0) (Nat.le_refl 0) rfl d_Reader_readMoth_35
    · have hw := hw.2 q8
      refine qx_iconst (v := (0 : Int32)) X d_Reader_readMoth_16 (by decide) ?_
      exact qx_zret X hw (Nat.le_refl 0) (Nat.le_refl 0) rfl d_Reader_readMoth_17
set_option maxRecDepth 4000 in
theorem t_Reader_readPerson {adK adV : Nat → Nat} (l : Launch) (D : va_G) (cy : Nat → ClassId) (b : Nat) (N : Nat) (x0 : Nat) (h : qH) (Q : Int32 → qH → Prop) (hw : w_Reader_readPerson N x0 h Q) : Met l y_Reader_readPerson (Cond.code y_Reader_readPerson prog_6_method_5_code 2 (some .boolean) :: qT) (qrm 4 0 0 84) (qPc D cy b adK adV h [qr b x0]) (qQc D cy b qrI Q) 0 0 (qA b) := by
  refine qmet (L0 := [(0, .inr (.inr (.inl x0)))]) qm_Reader_readPerson (plainFor_of_name (by decide)) [.inr (.inr (.inl x0))] rfl (Nat.le_of_ble_eq_true rfl) rfl (fun p e s m args below meth c X => ?_)
  unfold w_Reader_readPerson at hw
  refine qx_aload_n (x := x0) X d_Reader_readPerson_0 rfl 0 rfl ?_
  obtain ⟨g1, hw⟩ := hw
  refine qx_getR X qcls4 g1 5 (by decide) rfl wf_Reader_12 d_Reader_readPerson_1 ?_
  obtain ⟨g2, hw⟩ := hw
  refine qx_getI X qcls8 g2 3 (by decide) rfl wf_Reader_124 d_Reader_readPerson_4 ?_
  refine qx_topi (fun y3 ey3 => ?_)
  have hw := hw y3 ey3
  refine qx_istore_n (L' := [(1, .inl y3), (0, .inr (.inr (.inl x0)))]) X d_Reader_readPerson_7 rfl (by decide) rfl ?_
  refine qx_iload_n (x := y3) X d_Reader_readPerson_8 rfl 0 rfl ?_
  refine qx_bipush (v := (6 : Int32)) X d_Reader_readPerson_9 (by decide) ?_
  refine qx_icmp_lt X 20 d_Reader_readPerson_11 (by decide) (fun q4 => ?_) (fun q4 => ?_)
  · have hw := hw.1 q4
    refine qx_aload_n (x := x0) X d_Reader_readPerson_20 rfl 1 rfl ?_
    refine qx_callVI (st := []) (As := []) X (t_Reader_goOn (adK := adK) (adV := adV) l D cy b N x0 h _ hw) qm_Reader_goOn wm_Reader_101 wi_Reader_goOn wl_Reader_goOn qcls4 g1 rfl rfl rfl ⟨Nat.le_of_ble_eq_true rfl, Nat.le_of_ble_eq_true rfl⟩ ⟨Nat.le_refl 0, Nat.le_refl 0⟩ (Nat.le_of_ble_eq_true rfl) rfl d_Reader_readPerson_21 (fun r5 h6 hw => ?_)
    refine qx_if_eq X 48 d_Reader_readPerson_24 (by decide) (fun q7 => ?_) (fun q7 => ?_)
    · have hw := hw.1 q7
      refine qx_iconst (v := (0 : Int32)) X d_Reader_readPerson_48 (by decide) ?_
      exact qx_zret X hw (Nat.le_refl 0) (Nat.le_refl 0) rfl d_Reader_readPerson_49
    · have hw := hw.2 q7
      refine qx_aload_n (x := x0) X d_Reader_readPerson_27 rfl 1 rfl ?_
      refine qx_aload_n (x := x0) X d_Reader_readPerson_28 rfl 1 rfl ?_
      obtain ⟨g8, hw⟩ := hw
      refine qx_getR X qcls4 g8 7 (by decide) rfl wf_Reader_22 d_Reader_readPerson_29 ?_
      refine qx_iload_n (x := y3) X d_Reader_readPerson_32 rfl 0 rfl ?_
      refine qx_callVI (st := []) (As := [qr b (qR h6 x0 7), .int y3]) X (t_Reader_readNewName (adK := adK) (adV := adV) l D cy b N x0 (qR h6 x0 7) y3 h6 _ hw) qm_Reader_readNewName wm_Reader_104 wi_Reader_readNewName wl_Reader_readNewName qcls4 g8 rfl rfl rfl ⟨Nat.le_of_ble_eq_true rfl, Nat.le_of_ble_eq_true rfl⟩ ⟨Nat.le_refl 0, Nat.le_refl 0⟩ (Nat.le_of_ble_eq_true rfl) rfl d_Reader_readPerson_33 (fun r9 h10 hw => ?_)
      refine qx_if_eq X 48 d_Reader_readPerson_36 (by decide) (fun q11 => ?_) (fun q11 => ?_)
      · have hw := hw.1 q11
        refine qx_iconst (v := (0 : Int32)) X d_Reader_readPerson_48 (by decide) ?_
        exact qx_zret X hw (Nat.le_refl 0) (Nat.le_refl 0) rfl d_Reader_readPerson_49
      · have hw := hw.2 q11
        refine qx_aload_n (x := x0) X d_Reader_readPerson_39 rfl 1 rfl ?_
        refine qx_bipush (v := (99 : Int32)) X d_Reader_readPerson_40 (by decide) ?_
        obtain ⟨g12, hw⟩ := hw
        refine qx_callVI (st := []) (As := [.int (99 : Int32)]) X (t_Reader_readNumber (adK := adK) (adV := adV) l D cy b N x0 (99 : Int32) h10 _ hw) qm_Reader_readNumber wm_Reader_108 wi_Reader_readNumber wl_Reader_readNumber qcls4 g12 rfl rfl rfl ⟨Nat.le_of_ble_eq_true rfl, Nat.le_of_ble_eq_true rfl⟩ ⟨Nat.le_refl 0, Nat.le_refl 0⟩ (Nat.le_of_ble_eq_true rfl) rfl d_Reader_readPerson_42 (fun r13 h14 hw => ?_)
        refine qx_if_ne X 50 d_Reader_readPerson_45 (by decide) (fun q15 => ?_) (fun q15 => ?_)
        · have hw := hw.1 q15
          refine qx_aload_n (x := x0) X d_Reader_readPerson_50 rfl 1 rfl ?_
          obtain ⟨g16, hw⟩ := hw
          refine qx_getR X qcls4 g16 5 (by decide) rfl wf_Reader_12 d_Reader_readPerson_51 ?_
          obtain ⟨g17, hw⟩ := hw
          refine qx_getR X qcls8 g17 4 (by decide) rfl wf_Reader_127 d_Reader_readPerson_54 ?_
          refine qx_iload_n (x := y3) X d_Reader_readPerson_57 rfl 0 rfl ?_
          refine qx_aload_n (x := x0) X d_Reader_readPerson_58 rfl 1 rfl ?_
          refine qx_getI X qcls4 g16 4 (by decide) rfl wf_Reader_115 d_Reader_readPerson_59 ?_
          obtain ⟨g18, hw⟩ := hw
          refine qx_ist X g18 d_Reader_readPerson_62 ?_
          refine qx_toph (fun h19 eh19 => ?_)
          have hw := hw h19 eh19
          refine qx_aload_n (x := x0) X d_Reader_readPerson_63 rfl 1 rfl ?_
          refine qx_bipush (v := (9 : Int32)) X d_Reader_readPerson_64 (by decide) ?_
          obtain ⟨g20, hw⟩ := hw
          refine qx_callVI (st := []) (As := [.int (9 : Int32)]) X (t_Reader_readNumber (adK := adK) (adV := adV) l D cy b N x0 (9 : Int32) h19 _ hw) qm_Reader_readNumber wm_Reader_108 wi_Reader_readNumber wl_Reader_readNumber qcls4 g20 rfl rfl rfl ⟨Nat.le_of_ble_eq_true rfl, Nat.le_of_ble_eq_true rfl⟩ ⟨Nat.le_refl 0, Nat.le_refl 0⟩ (Nat.le_of_ble_eq_true rfl) rfl d_Reader_readPerson_66 (fun r21 h22 hw => ?_)
          refine qx_if_ne X 74 d_Reader_readPerson_69 (by decide) (fun q23 => ?_) (fun q23 => ?_)
          · have hw := hw.1 q23
            refine qx_aload_n (x := x0) X d_Reader_readPerson_74 rfl 1 rfl ?_
            obtain ⟨g24, hw⟩ := hw
            refine qx_getR X qcls4 g24 5 (by decide) rfl wf_Reader_12 d_Reader_readPerson_75 ?_
            obtain ⟨g25, hw⟩ := hw
            refine qx_getR X qcls8 g25 5 (by decide) rfl wf_Reader_130 d_Reader_readPerson_78 ?_
            refine qx_iload_n (x := y3) X d_Reader_readPerson_81 rfl 0 rfl ?_
            refine qx_aload_n (x := x0) X d_Reader_readPerson_82 rfl 1 rfl ?_
            refine qx_getI X qcls4 g24 4 (by decide) rfl wf_Reader_115 d_Reader_readPerson_83 ?_
            obtain ⟨g26, hw⟩ := hw
            refine qx_ist X g26 d_Reader_readPerson_86 ?_
            refine qx_toph (fun h27 eh27 => ?_)
            have hw := hw h27 eh27
            refine qx_aload_n (x := x0) X d_Reader_readPerson_87 rfl 1 rfl ?_
            obtain ⟨g28, hw⟩ := hw
            refine qx_getR X qcls4 g28 5 (by decide) rfl wf_Reader_12 d_Reader_readPerson_88 ?_
            refine qx_dup X (qr_cat _ _) d_Reader_readPerson_91 ?_
            obtain ⟨g29, hw⟩ := hw
            refine qx_getI X qcls8 g29 3 (by decide) rfl wf_Reader_124 d_Reader_readPerson_92 ?_
            refine qx_iconst (v := (1 : Int32)) X d_Reader_readPerson_95 (by decide) ?_
            refine qx_iadd X d_Reader_readPerson_96 ?_
            refine qx_putI X qcls8 g29 3 (by decide) rfl wf_Reader_124 rfl rfl rfl d_Reader_readPerson_97 ?_
            refine qx_toph (fun h30 eh30 => ?_)
            have hw := hw h30 eh30
            refine qx_aload_n (x := x0) X d_Reader_readPerson_100 rfl 1 rfl ?_
            refine qx_bipush (v := (59 : Int32)) X d_Reader_readPerson_101 (by decide) ?_
            obtain ⟨g31, hw⟩ := hw
            refine qx_callVI (st := []) (As := [.int (59 : Int32)]) X (t_Reader_pass (adK := adK) (adV := adV) l D cy b N x0 (59 : Int32) h30 _ hw) qm_Reader_pass wm_Reader_121 wi_Reader_pass wl_Reader_pass qcls4 g31 rfl rfl rfl ⟨Nat.le_of_ble_eq_true rfl, Nat.le_of_ble_eq_true rfl⟩ ⟨Nat.le_refl 0, Nat.le_refl 0⟩ (Nat.le_of_ble_eq_true rfl) rfl d_Reader_readPerson_103 (fun r32 h33 hw => ?_)
            exact qx_zret X hw (Nat.le_refl 0) (Nat.le_refl 0) rfl d_Reader_readPerson_106
          · have hw := hw.2 q23
            refine qx_iconst (v := (0 : Int32)) X d_Reader_readPerson_72 (by decide) ?_
            exact qx_zret X hw (Nat.le_refl 0) (Nat.le_refl 0) rfl d_Reader_readPerson_73
        · have hw := hw.2 q15
          refine qx_iconst (v := (0 : Int32)) X d_Reader_readPerson_48 (by decide) ?_
          exact qx_zret X hw (Nat.le_refl 0) (Nat.le_refl 0) rfl d_Reader_readPerson_49
  · have hw := hw.2 q4
    refine qx_aload_n (x := x0) X d_Reader_readPerson_14 rfl 1 rfl ?_
    refine qx_iconst (v := (2 : Int32)) X d_Reader_readPerson_15 (by decide) ?_
    refine qx_callVI (st := []) (As := [.int (2 : Int32)]) X (t_Reader_fails (adK := adK) (adV := adV) l D cy b N x0 (2 : Int32) h _ hw) qm_Reader_fails wm_Reader_94 wi_Reader_fails wl_Reader_fails qcls4 g1 rfl rfl rfl ⟨Nat.le_of_ble_eq_true rfl, Nat.le_of_ble_eq_true rfl⟩ ⟨Nat.le_refl 0, Nat.le_refl 0⟩ (Nat.le_of_ble_eq_true rfl) rfl d_Reader_readPerson_16 (fun r34 h35 hw => ?_)
    exact qx_zret X hw (Nat.le_refl 0) (Nat.le_refl 0) rfl d_Reader_readPerson_19
set_option maxRecDepth 4000 in
theorem t_Reader_readSeed {adK adV : Nat → Nat} (l : Launch) (D : va_G) (cy : Nat → ClassId) (b : Nat) (N : Nat) (x0 : Nat) (h : qH) (Q : Int32 → qH → Prop) (hw : w_Reader_readSeed N x0 h Q) : Met l y_Reader_readSeed (Cond.code y_Reader_readSeed prog_6_method_10_code 1 (some .boolean) :: qT) (qrm 4 0 0 83) (qPc D cy b adK adV h [qr b x0]) (qQc D cy b qrI Q) 0 0 (qA b) := by
  refine qmet (L0 := [(0, .inr (.inr (.inl x0)))]) qm_Reader_readSeed (plainFor_of_name (by decide)) [.inr (.inr (.inl x0))] rfl (Nat.le_of_ble_eq_true rfl) rfl (fun p e s m args below meth c X => ?_)
  unfold w_Reader_readSeed at hw
  refine qx_aload_n (x := x0) X d_Reader_readSeed_0 rfl 0 rfl ?_
  obtain ⟨g1, hw⟩ := hw
  refine qx_callVI (st := []) (As := []) X (t_Reader_goOn (adK := adK) (adV := adV) l D cy b N x0 h _ hw) qm_Reader_goOn wm_Reader_101 wi_Reader_goOn wl_Reader_goOn qcls4 g1 rfl rfl rfl ⟨Nat.le_of_ble_eq_true rfl, Nat.le_of_ble_eq_true rfl⟩ ⟨Nat.le_refl 0, Nat.le_refl 0⟩ (Nat.le_of_ble_eq_true rfl) rfl d_Reader_readSeed_1 (fun r2 h3 hw => ?_)
  refine qx_if_eq X 17 d_Reader_readSeed_4 (by decide) (fun q4 => ?_) (fun q4 => ?_)
  · have hw := hw.1 q4
    refine qx_iconst (v := (0 : Int32)) X d_Reader_readSeed_17 (by decide) ?_
    exact qx_zret X hw (Nat.le_refl 0) (Nat.le_refl 0) rfl d_Reader_readSeed_18
  · have hw := hw.2 q4
    refine qx_aload_n (x := x0) X d_Reader_readSeed_7 rfl 0 rfl ?_
    refine qx_sipush (v := (9999 : Int32)) X d_Reader_readSeed_8 (by decide) ?_
    obtain ⟨g5, hw⟩ := hw
    refine qx_callVI (st := []) (As := [.int (9999 : Int32)]) X (t_Reader_readNumber (adK := adK) (adV := adV) l D cy b N x0 (9999 : Int32) h3 _ hw) qm_Reader_readNumber wm_Reader_108 wi_Reader_readNumber wl_Reader_readNumber qcls4 g5 rfl rfl rfl ⟨Nat.le_of_ble_eq_true rfl, Nat.le_of_ble_eq_true rfl⟩ ⟨Nat.le_refl 0, Nat.le_refl 0⟩ (Nat.le_of_ble_eq_true rfl) rfl d_Reader_readSeed_11 (fun r6 h7 hw => ?_)
    refine qx_if_ne X 19 d_Reader_readSeed_14 (by decide) (fun q8 => ?_) (fun q8 => ?_)
    · have hw := hw.1 q8
      refine qx_aload_n (x := x0) X d_Reader_readSeed_19 rfl 0 rfl ?_
      obtain ⟨g9, hw⟩ := hw
      refine qx_getR X qcls4 g9 5 (by decide) rfl wf_Reader_12 d_Reader_readSeed_20 ?_
      refine qx_aload_n (x := x0) X d_Reader_readSeed_23 rfl 0 rfl ?_
      refine qx_getI X qcls4 g9 4 (by decide) rfl wf_Reader_115 d_Reader_readSeed_24 ?_
      obtain ⟨g10, hw⟩ := hw
      refine qx_putI X qcls8 g10 12 (by decide) rfl wf_Reader_156 rfl rfl rfl d_Reader_readSeed_27 ?_
      refine qx_toph (fun h11 eh11 => ?_)
      have hw := hw h11 eh11
      refine qx_aload_n (x := x0) X d_Reader_readSeed_30 rfl 0 rfl ?_
      refine qx_bipush (v := (59 : Int32)) X d_Reader_readSeed_31 (by decide) ?_
      obtain ⟨g12, hw⟩ := hw
      refine qx_callVI (st := []) (As := [.int (59 : Int32)]) X (t_Reader_pass (adK := adK) (adV := adV) l D cy b N x0 (59 : Int32) h11 _ hw) qm_Reader_pass wm_Reader_121 wi_Reader_pass wl_Reader_pass qcls4 g12 rfl rfl rfl ⟨Nat.le_of_ble_eq_true rfl, Nat.le_of_ble_eq_true rfl⟩ ⟨Nat.le_refl 0, Nat.le_refl 0⟩ (Nat.le_of_ble_eq_true rfl) rfl d_Reader_readSeed_33 (fun r13 h14 hw => ?_)
      exact qx_zret X hw (Nat.le_refl 0) (Nat.le_refl 0) rfl d_Reader_readSeed_36
    · have hw := hw.2 q8
      refine qx_iconst (v := (0 : Int32)) X d_Reader_readSeed_17 (by decide) ?_
      exact qx_zret X hw (Nat.le_refl 0) (Nat.le_refl 0) rfl d_Reader_readSeed_18
set_option maxRecDepth 4000 in
theorem t_Reader_readTell {adK adV : Nat → Nat} (l : Launch) (D : va_G) (cy : Nat → ClassId) (b : Nat) (N : Nat) (x0 : Nat) (h : qH) (Q : Int32 → qH → Prop) (hw : w_Reader_readTell N x0 h Q) : Met l y_Reader_readTell (Cond.code y_Reader_readTell prog_6_method_3_code 1 (some .boolean) :: qT) (qrm 5 0 0 105) (qPc D cy b adK adV h [qr b x0]) (qQc D cy b qrI Q) 0 0 (qA b) := by
  refine qmet (L0 := [(0, .inr (.inr (.inl x0)))]) qm_Reader_readTell (plainFor_of_name (by decide)) [.inr (.inr (.inl x0))] rfl (Nat.le_of_ble_eq_true rfl) rfl (fun p e s m args below meth c X => ?_)
  unfold w_Reader_readTell at hw
  refine qx_aload_n (x := x0) X d_Reader_readTell_0 rfl 0 rfl ?_
  obtain ⟨g1, hw⟩ := hw
  refine qx_getI X qcls4 g1 2 (by decide) rfl wf_Reader_61 d_Reader_readTell_1 ?_
  refine qx_topi (fun y2 ey2 => ?_)
  have hw := hw y2 ey2
  by_cases q3 : y2 = (256 : Int32)
  · have hw := hw.1 q3
    refine qx_tableIn (off := (52)) X 56 d_Reader_readTell_4 (by rw [q3]; decide) (by rw [q3]; decide) (by rw [q3]; rfl) (by decide) ?_
    refine qx_aload_n (x := x0) X d_Reader_readTell_56 rfl 0 rfl ?_
    refine qx_callVI (st := []) (As := []) X (t_Reader_readHanger (adK := adK) (adV := adV) l D cy b N x0 h _ hw) qm_Reader_readHanger wm_Reader_79 wi_Reader_readHanger wl_Reader_readHanger qcls4 g1 rfl rfl rfl ⟨Nat.le_of_ble_eq_true rfl, Nat.le_of_ble_eq_true rfl⟩ ⟨Nat.le_refl 0, Nat.le_refl 0⟩ (Nat.le_of_ble_eq_true rfl) rfl d_Reader_readTell_57 (fun r4 h5 hw => ?_)
    exact qx_zret X hw (Nat.le_refl 0) (Nat.le_refl 0) rfl d_Reader_readTell_60
  · have hw := hw.2 q3
    by_cases q6 : y2 = (257 : Int32)
    · have hw := hw.1 q6
      refine qx_tableIn (off := (57)) X 61 d_Reader_readTell_4 (by rw [q6]; decide) (by rw [q6]; decide) (by rw [q6]; rfl) (by decide) ?_
      refine qx_aload_n (x := x0) X d_Reader_readTell_61 rfl 0 rfl ?_
      refine qx_callVI (st := []) (As := []) X (t_Reader_readPerson (adK := adK) (adV := adV) l D cy b N x0 h _ hw) qm_Reader_readPerson wm_Reader_82 wi_Reader_readPerson wl_Reader_readPerson qcls4 g1 rfl rfl rfl ⟨Nat.le_of_ble_eq_true rfl, Nat.le_of_ble_eq_true rfl⟩ ⟨Nat.le_refl 0, Nat.le_refl 0⟩ (Nat.le_of_ble_eq_true rfl) rfl d_Reader_readTell_62 (fun r7 h8 hw => ?_)
      exact qx_zret X hw (Nat.le_refl 0) (Nat.le_refl 0) rfl d_Reader_readTell_65
    · have hw := hw.2 q6
      by_cases q9 : y2 = (258 : Int32)
      · have hw := hw.1 q9
        refine qx_tableIn (off := (62)) X 66 d_Reader_readTell_4 (by rw [q9]; decide) (by rw [q9]; decide) (by rw [q9]; rfl) (by decide) ?_
        refine qx_aload_n (x := x0) X d_Reader_readTell_66 rfl 0 rfl ?_
        refine qx_callVI (st := []) (As := []) X (t_Reader_readHangs (adK := adK) (adV := adV) l D cy b N x0 h _ hw) qm_Reader_readHangs wm_Reader_85 wi_Reader_readHangs wl_Reader_readHangs qcls4 g1 rfl rfl rfl ⟨Nat.le_of_ble_eq_true rfl, Nat.le_of_ble_eq_true rfl⟩ ⟨Nat.le_refl 0, Nat.le_refl 0⟩ (Nat.le_of_ble_eq_true rfl) rfl d_Reader_readTell_67 (fun r10 h11 hw => ?_)
        exact qx_zret X hw (Nat.le_refl 0) (Nat.le_refl 0) rfl d_Reader_readTell_70
      · have hw := hw.2 q9
        by_cases q12 : y2 = (259 : Int32)
        · have hw := hw.1 q12
          refine qx_tableIn (off := (77)) X 81 d_Reader_readTell_4 (by rw [q12]; decide) (by rw [q12]; decide) (by rw [q12]; rfl) (by decide) ?_
          refine qx_aload_n (x := x0) X d_Reader_readTell_81 rfl 0 rfl ?_
          refine qx_iconst (v := (1 : Int32)) X d_Reader_readTell_82 (by decide) ?_
          refine qx_callVI (st := []) (As := [.int (1 : Int32)]) X (t_Reader_fails (adK := adK) (adV := adV) l D cy b N x0 (1 : Int32) h _ hw) qm_Reader_fails wm_Reader_94 wi_Reader_fails wl_Reader_fails qcls4 g1 rfl rfl rfl ⟨Nat.le_of_ble_eq_true rfl, Nat.le_of_ble_eq_true rfl⟩ ⟨Nat.le_refl 0, Nat.le_refl 0⟩ (Nat.le_of_ble_eq_true rfl) rfl d_Reader_readTell_83 (fun r13 h14 hw => ?_)
          exact qx_zret X hw (Nat.le_refl 0) (Nat.le_refl 0) rfl d_Reader_readTell_86
        · have hw := hw.2 q12
          by_cases q15 : y2 = (260 : Int32)
          · have hw := hw.1 q15
            refine qx_tableIn (off := (77)) X 81 d_Reader_readTell_4 (by rw [q15]; decide) (by rw [q15]; decide) (by rw [q15]; rfl) (by decide) ?_
            refine qx_aload_n (x := x0) X d_Reader_readTell_81 rfl 0 rfl ?_
            refine qx_iconst (v := (1 : Int32)) X d_Reader_readTell_82 (by decide) ?_
            refine qx_callVI (st := []) (As := [.int (1 : Int32)]) X (t_Reader_fails (adK := adK) (adV := adV) l D cy b N x0 (1 : Int32) h _ hw) qm_Reader_fails wm_Reader_94 wi_Reader_fails wl_Reader_fails qcls4 g1 rfl rfl rfl ⟨Nat.le_of_ble_eq_true rfl, Nat.le_of_ble_eq_true rfl⟩ ⟨Nat.le_refl 0, Nat.le_refl 0⟩ (Nat.le_of_ble_eq_true rfl) rfl d_Reader_readTell_83 (fun r16 h17 hw => ?_)
            exact qx_zret X hw (Nat.le_refl 0) (Nat.le_refl 0) rfl d_Reader_readTell_86
          · have hw := hw.2 q15
            by_cases q18 : y2 = (261 : Int32)
            · have hw := hw.1 q18
              refine qx_tableIn (off := (77)) X 81 d_Reader_readTell_4 (by rw [q18]; decide) (by rw [q18]; decide) (by rw [q18]; rfl) (by decide) ?_
              refine qx_aload_n (x := x0) X d_Reader_readTell_81 rfl 0 rfl ?_
              refine qx_iconst (v := (1 : Int32)) X d_Reader_readTell_82 (by decide) ?_
              refine qx_callVI (st := []) (As := [.int (1 : Int32)]) X (t_Reader_fails (adK := adK) (adV := adV) l D cy b N x0 (1 : Int32) h _ hw) qm_Reader_fails wm_Reader_94 wi_Reader_fails wl_Reader_fails qcls4 g1 rfl rfl rfl ⟨Nat.le_of_ble_eq_true rfl, Nat.le_of_ble_eq_true rfl⟩ ⟨Nat.le_refl 0, Nat.le_refl 0⟩ (Nat.le_of_ble_eq_true rfl) rfl d_Reader_readTell_83 (fun r19 h20 hw => ?_)
              exact qx_zret X hw (Nat.le_refl 0) (Nat.le_refl 0) rfl d_Reader_readTell_86
            · have hw := hw.2 q18
              by_cases q21 : y2 = (262 : Int32)
              · have hw := hw.1 q21
                refine qx_tableIn (off := (77)) X 81 d_Reader_readTell_4 (by rw [q21]; decide) (by rw [q21]; decide) (by rw [q21]; rfl) (by decide) ?_
                refine qx_aload_n (x := x0) X d_Reader_readTell_81 rfl 0 rfl ?_
                refine qx_iconst (v := (1 : Int32)) X d_Reader_readTell_82 (by decide) ?_
                refine qx_callVI (st := []) (As := [.int (1 : Int32)]) X (t_Reader_fails (adK := adK) (adV := adV) l D cy b N x0 (1 : Int32) h _ hw) qm_Reader_fails wm_Reader_94 wi_Reader_fails wl_Reader_fails qcls4 g1 rfl rfl rfl ⟨Nat.le_of_ble_eq_true rfl, Nat.le_of_ble_eq_true rfl⟩ ⟨Nat.le_refl 0, Nat.le_refl 0⟩ (Nat.le_of_ble_eq_true rfl) rfl d_Reader_readTell_83 (fun r22 h23 hw => ?_)
                exact qx_zret X hw (Nat.le_refl 0) (Nat.le_refl 0) rfl d_Reader_readTell_86
              · have hw := hw.2 q21
                by_cases q24 : y2 = (263 : Int32)
                · have hw := hw.1 q24
                  refine qx_tableIn (off := (67)) X 71 d_Reader_readTell_4 (by rw [q24]; decide) (by rw [q24]; decide) (by rw [q24]; rfl) (by decide) ?_
                  refine qx_aload_n (x := x0) X d_Reader_readTell_71 rfl 0 rfl ?_
                  refine qx_callVI (st := []) (As := []) X (t_Reader_readMoth (adK := adK) (adV := adV) l D cy b N x0 h _ hw) qm_Reader_readMoth wm_Reader_88 wi_Reader_readMoth wl_Reader_readMoth qcls4 g1 rfl rfl rfl ⟨Nat.le_of_ble_eq_true rfl, Nat.le_of_ble_eq_true rfl⟩ ⟨Nat.le_refl 0, Nat.le_refl 0⟩ (Nat.le_of_ble_eq_true rfl) rfl d_Reader_readTell_72 (fun r25 h26 hw => ?_)
                  exact qx_zret X hw (Nat.le_refl 0) (Nat.le_refl 0) rfl d_Reader_readTell_75
                · have hw := hw.2 q24
                  by_cases q27 : y2 = (264 : Int32)
                  · have hw := hw.1 q27
                    refine qx_tableIn (off := (72)) X 76 d_Reader_readTell_4 (by rw [q27]; decide) (by rw [q27]; decide) (by rw [q27]; rfl) (by decide) ?_
                    refine qx_aload_n (x := x0) X d_Reader_readTell_76 rfl 0 rfl ?_
                    refine qx_callVI (st := []) (As := []) X (t_Reader_readSeed (adK := adK) (adV := adV) l D cy b N x0 h _ hw) qm_Reader_readSeed wm_Reader_91 wi_Reader_readSeed wl_Reader_readSeed qcls4 g1 rfl rfl rfl ⟨Nat.le_of_ble_eq_true rfl, Nat.le_of_ble_eq_true rfl⟩ ⟨Nat.le_refl 0, Nat.le_refl 0⟩ (Nat.le_of_ble_eq_true rfl) rfl d_Reader_readTell_77 (fun r28 h29 hw => ?_)
                    exact qx_zret X hw (Nat.le_refl 0) (Nat.le_refl 0) rfl d_Reader_readTell_80
                  · have hw := hw.2 q27
                    have gx : y2.toInt < 256 ∨ 264 < y2.toInt := by
                      have nq3 : y2.toInt ≠ 256 := fun z => q3 (Int32.toInt_inj.mp z)
                      have nq6 : y2.toInt ≠ 257 := fun z => q6 (Int32.toInt_inj.mp z)
                      have nq9 : y2.toInt ≠ 258 := fun z => q9 (Int32.toInt_inj.mp z)
                      have nq12 : y2.toInt ≠ 259 := fun z => q12 (Int32.toInt_inj.mp z)
                      have nq15 : y2.toInt ≠ 260 := fun z => q15 (Int32.toInt_inj.mp z)
                      have nq18 : y2.toInt ≠ 261 := fun z => q18 (Int32.toInt_inj.mp z)
                      have nq21 : y2.toInt ≠ 262 := fun z => q21 (Int32.toInt_inj.mp z)
                      have nq24 : y2.toInt ≠ 263 := fun z => q24 (Int32.toInt_inj.mp z)
                      have nq27 : y2.toInt ≠ 264 := fun z => q27 (Int32.toInt_inj.mp z)
                      omega
                    refine qx_tableOut X 81 d_Reader_readTell_4 gx (by decide) ?_
                    refine qx_aload_n (x := x0) X d_Reader_readTell_81 rfl 0 rfl ?_
                    refine qx_iconst (v := (1 : Int32)) X d_Reader_readTell_82 (by decide) ?_
                    refine qx_callVI (st := []) (As := [.int (1 : Int32)]) X (t_Reader_fails (adK := adK) (adV := adV) l D cy b N x0 (1 : Int32) h _ hw) qm_Reader_fails wm_Reader_94 wi_Reader_fails wl_Reader_fails qcls4 g1 rfl rfl rfl ⟨Nat.le_of_ble_eq_true rfl, Nat.le_of_ble_eq_true rfl⟩ ⟨Nat.le_refl 0, Nat.le_refl 0⟩ (Nat.le_of_ble_eq_true rfl) rfl d_Reader_readTell_83 (fun r30 h31 hw => ?_)
                    exact qx_zret X hw (Nat.le_refl 0) (Nat.le_refl 0) rfl d_Reader_readTell_86
set_option maxRecDepth 4000 in
theorem t_Reader_readAll_87 (X : qX p s m args meth c D cy b adK adV prog_6_method_2_code "CoatHangers$Reader" 4 (some .int) "readAll") (N : Nat) (x0 : Nat) (x2 : Int32) (z0 : Int32) (h : qH) (Q : Int32 → qH → Prop) (K43 : Nat → Int32 → Int32 → qH → Prop) (hw : w_Reader_readAll_87 N x0 x2 z0 h Q K43) (hK43 : ∀ (x0 : Nat) (x1 : Int32) (x2 : Int32) (h : qH), K43 x0 x1 x2 h → qW p l e (qrm 6 0 0 135) s m args below meth c D cy b 4 0 0 (MQ below (qQc D cy b qrI Q) args s 0 0 (qA b)) 43 [(0, .inr (.inr (.inl x0))), (1, .inl x1), (2, .inl x2)] [] h) : qW p l e (qrm 6 0 0 135) s m args below meth c D cy b 4 0 0 (MQ below (qQc D cy b qrI Q) args s 0 0 (qA b)) 87 [(0, .inr (.inr (.inl x0))), (2, .inl x2)] [.int z0] h := by
  unfold w_Reader_readAll_87 at hw
  refine qx_istore_n (L' := [(3, .inl z0), (0, .inr (.inr (.inl x0))), (2, .inl x2)]) X d_Reader_readAll_87 rfl (by decide) rfl ?_
  refine qx_iload_n (x := z0) X d_Reader_readAll_88 rfl 0 rfl ?_
  refine qx_if_eq X 114 d_Reader_readAll_89 (by decide) (fun q1 => ?_) (fun q1 => ?_)
  · have hw := hw.1 q1
    refine qx_aload_n (x := x0) X d_Reader_readAll_114 rfl 1 rfl ?_
    obtain ⟨g2, hw⟩ := hw
    refine qx_callVI (st := []) (As := []) X (t_Reader_readTell (adK := adK) (adV := adV) l D cy b N x0 h _ hw) qm_Reader_readTell wm_Reader_72 wi_Reader_readTell wl_Reader_readTell qcls4 g2 rfl rfl rfl ⟨Nat.le_of_ble_eq_true rfl, Nat.le_of_ble_eq_true rfl⟩ ⟨Nat.le_refl 0, Nat.le_refl 0⟩ (Nat.le_of_ble_eq_true rfl) rfl d_Reader_readAll_115 (fun r3 h4 hw => ?_)
    refine qx_istore_n (L' := [(1, .inl r3), (3, .inl z0), (0, .inr (.inr (.inl x0))), (2, .inl x2)]) X d_Reader_readAll_118 rfl (by decide) rfl ?_
    refine qx_iinc (v := (x2 + (1 : Int32))) (L' := [(2, .inl (x2 + (1 : Int32))), (1, .inl r3), (3, .inl z0), (0, .inr (.inr (.inl x0)))]) X d_Reader_readAll_119 3 rfl rfl (by decide) rfl ?_
    refine qx_goto X 43 d_Reader_readAll_122 (by decide) ?_
    refine qx_sub [3, 1, 0] rfl ?_
    exact hK43 x0 r3 (x2 + (1 : Int32)) h4 hw
  · have hw := hw.2 q1
    refine qx_aload_n (x := x0) X d_Reader_readAll_92 rfl 1 rfl ?_
    refine qx_aload_n (x := x0) X d_Reader_readAll_93 rfl 1 rfl ?_
    obtain ⟨g5, hw⟩ := hw
    refine qx_getR X qcls4 g5 5 (by decide) rfl wf_Reader_12 d_Reader_readAll_94 ?_
    refine qx_aload_n (x := x0) X d_Reader_readAll_97 rfl 1 rfl ?_
    refine qx_getI X qcls4 g5 2 (by decide) rfl wf_Reader_61 d_Reader_readAll_98 ?_
    refine qx_sipush (v := (259 : Int32)) X d_Reader_readAll_101 (by decide) ?_
    refine qx_isub X d_Reader_readAll_104 ?_
    obtain ⟨g6, hw⟩ := hw
    refine qx_callVR (st := [qr b x0]) (As := [.int ((qI h x0 2) - (259 : Int32))]) X (t_Text_law (adK := adK) (adV := adV) l D cy b N (qR h x0 5) ((qI h x0 2) - (259 : Int32)) h _ hw) qm_Text_law wm_Reader_64 wi_Text_law wl_Text_law qcls8 g6 rfl rfl rfl ⟨Nat.le_of_ble_eq_true rfl, Nat.le_of_ble_eq_true rfl⟩ ⟨Nat.le_refl 0, Nat.le_refl 0⟩ (Nat.le_of_ble_eq_true rfl) rfl d_Reader_readAll_105 (fun r7 h8 hw => ?_)
    obtain ⟨g9, hw⟩ := hw
    refine qx_callVI (st := []) (As := [qr b r7]) X (t_Reader_readLaw (adK := adK) (adV := adV) l D cy b N x0 r7 h8 _ hw) qm_Reader_readLaw wm_Reader_68 wi_Reader_readLaw wl_Reader_readLaw qcls4 g9 rfl rfl rfl ⟨Nat.le_of_ble_eq_true rfl, Nat.le_of_ble_eq_true rfl⟩ ⟨Nat.le_refl 0, Nat.le_refl 0⟩ (Nat.le_of_ble_eq_true rfl) rfl d_Reader_readAll_108 (fun r10 h11 hw => ?_)
    refine qx_goto X 118 d_Reader_readAll_111 (by decide) ?_
    refine qx_istore_n (L' := [(1, .inl r10), (3, .inl z0), (0, .inr (.inr (.inl x0))), (2, .inl x2)]) X d_Reader_readAll_118 rfl (by decide) rfl ?_
    refine qx_iinc (v := (x2 + (1 : Int32))) (L' := [(2, .inl (x2 + (1 : Int32))), (1, .inl r10), (3, .inl z0), (0, .inr (.inr (.inl x0)))]) X d_Reader_readAll_119 3 rfl rfl (by decide) rfl ?_
    refine qx_goto X 43 d_Reader_readAll_122 (by decide) ?_
    refine qx_sub [3, 1, 0] rfl ?_
    exact hK43 x0 r10 (x2 + (1 : Int32)) h11 hw
set_option maxRecDepth 4000 in
theorem t_Reader_readAll_86 (X : qX p s m args meth c D cy b adK adV prog_6_method_2_code "CoatHangers$Reader" 4 (some .int) "readAll") (N : Nat) (x0 : Nat) (x2 : Int32) (h : qH) (Q : Int32 → qH → Prop) (K43 : Nat → Int32 → Int32 → qH → Prop) (hw : w_Reader_readAll_86 N x0 x2 h Q K43) (hK43 : ∀ (x0 : Nat) (x1 : Int32) (x2 : Int32) (h : qH), K43 x0 x1 x2 h → qW p l e (qrm 6 0 0 135) s m args below meth c D cy b 4 0 0 (MQ below (qQc D cy b qrI Q) args s 0 0 (qA b)) 43 [(0, .inr (.inr (.inl x0))), (1, .inl x1), (2, .inl x2)] [] h) : qW p l e (qrm 6 0 0 135) s m args below meth c D cy b 4 0 0 (MQ below (qQc D cy b qrI Q) args s 0 0 (qA b)) 86 [(0, .inr (.inr (.inl x0))), (2, .inl x2)] [] h := by
  unfold w_Reader_readAll_86 at hw
  refine qx_iconst (v := (0 : Int32)) X d_Reader_readAll_86 (by decide) ?_
  exact t_Reader_readAll_87 X N x0 x2 (0 : Int32) h Q _ hw hK43
set_option maxRecDepth 4000 in
theorem t_Reader_readAll_43 (X : qX p s m args meth c D cy b adK adV prog_6_method_2_code "CoatHangers$Reader" 4 (some .int) "readAll") (N k : Nat) (x0 : Nat) (x1 : Int32) (x2 : Int32) (h : qH) (Q : Int32 → qH → Prop) (K125 : Nat → qH → Prop) (hw : w_Reader_readAll_43 N k x0 x1 x2 h Q K125) (hK125 : ∀ (x0 : Nat) (h : qH), K125 x0 h → qW p l e (qrm 6 0 0 135) s m args below meth c D cy b 4 0 0 (MQ below (qQc D cy b qrI Q) args s 0 0 (qA b)) 125 [(0, .inr (.inr (.inl x0)))] [] h) : qW p l e (qrm 6 0 0 135) s m args below meth c D cy b 4 0 0 (MQ below (qQc D cy b qrI Q) args s 0 0 (qA b)) 43 [(0, .inr (.inr (.inl x0))), (1, .inl x1), (2, .inl x2)] [] h := by
  induction k generalizing x0 x1 x2 h with
  | zero => exact hw.elim
  | succ k ih =>
    refine qx_iload_n (x := x2) X d_Reader_readAll_43 rfl 2 rfl ?_
    refine qx_sipush (v := (400 : Int32)) X d_Reader_readAll_44 (by decide) ?_
    refine qx_icmp_gt X 125 d_Reader_readAll_47 (by decide) (fun q1 => ?_) (fun q1 => ?_)
    · have hw := hw.1 q1
      refine qx_sub [0] rfl ?_
      exact hK125 x0 h hw
    · have hw := hw.2 q1
      refine qx_iload_n (x := x1) X d_Reader_readAll_50 rfl 1 rfl ?_
      refine qx_if_eq X 125 d_Reader_readAll_51 (by decide) (fun q2 => ?_) (fun q2 => ?_)
      · have hw := hw.1 q2
        refine qx_sub [0] rfl ?_
        exact hK125 x0 h hw
      · have hw := hw.2 q2
        refine qx_aload_n (x := x0) X d_Reader_readAll_54 rfl 0 rfl ?_
        obtain ⟨g3, hw⟩ := hw
        refine qx_getI X qcls4 g3 2 (by decide) rfl wf_Reader_61 d_Reader_readAll_55 ?_
        refine qx_iconst (v := (1 : Int32)) X d_Reader_readAll_58 (by decide) ?_
        refine qx_icmp_eq X 125 d_Reader_readAll_59 (by decide) (fun q4 => ?_) (fun q4 => ?_)
        · have hw := hw.1 q4
          refine qx_sub [0] rfl ?_
          exact hK125 x0 h hw
        · have hw := hw.2 q4
          refine qx_aload_n (x := x0) X d_Reader_readAll_62 rfl 0 rfl ?_
          refine qx_getI X qcls4 g3 2 (by decide) rfl wf_Reader_61 d_Reader_readAll_63 ?_
          refine qx_sipush (v := (259 : Int32)) X d_Reader_readAll_66 (by decide) ?_
          refine qx_icmp_lt X 86 d_Reader_readAll_69 (by decide) (fun q5 => ?_) (fun q5 => ?_)
          · have hw := hw.1 q5
            refine qx_sub [0, 2] rfl ?_
            exact t_Reader_readAll_86 X N x0 x2 h Q _ hw ih
          · have hw := hw.2 q5
            refine qx_aload_n (x := x0) X d_Reader_readAll_72 rfl 0 rfl ?_
            refine qx_getI X qcls4 g3 2 (by decide) rfl wf_Reader_61 d_Reader_readAll_73 ?_
            refine qx_sipush (v := (262 : Int32)) X d_Reader_readAll_76 (by decide) ?_
            refine qx_icmp_gt X 86 d_Reader_readAll_79 (by decide) (fun q6 => ?_) (fun q6 => ?_)
            · have hw := hw.1 q6
              refine qx_sub [0, 2] rfl ?_
              exact t_Reader_readAll_86 X N x0 x2 h Q _ hw ih
            · have hw := hw.2 q6
              refine qx_iconst (v := (1 : Int32)) X d_Reader_readAll_82 (by decide) ?_
              refine qx_goto X 87 d_Reader_readAll_83 (by decide) ?_
              refine qx_sub [0, 2] rfl ?_
              exact t_Reader_readAll_87 X N x0 x2 (1 : Int32) h Q _ hw ih
set_option maxRecDepth 4000 in
theorem t_Reader_readAll_125 (X : qX p s m args meth c D cy b adK adV prog_6_method_2_code "CoatHangers$Reader" 4 (some .int) "readAll") (N : Nat) (x0 : Nat) (h : qH) (Q : Int32 → qH → Prop)  (hw : w_Reader_readAll_125 N x0 h Q ) : qW p l e (qrm 6 0 0 135) s m args below meth c D cy b 4 0 0 (MQ below (qQc D cy b qrI Q) args s 0 0 (qA b)) 125 [(0, .inr (.inr (.inl x0)))] [] h := by
  unfold w_Reader_readAll_125 at hw
  refine qx_aload_n (x := x0) X d_Reader_readAll_125 rfl 0 rfl ?_
  obtain ⟨g1, hw⟩ := hw
  refine qx_getI X qcls4 g1 12 (by decide) rfl wf_Reader_40 d_Reader_readAll_126 ?_
  refine qx_if_ne X 155 d_Reader_readAll_129 (by decide) (fun q2 => ?_) (fun q2 => ?_)
  · have hw := hw.1 q2
    refine qx_aload_n (x := x0) X d_Reader_readAll_155 rfl 0 rfl ?_
    refine qx_getI X qcls4 g1 12 (by decide) rfl wf_Reader_40 d_Reader_readAll_156 ?_
    exact qx_iret X hw (Nat.le_refl 0) (Nat.le_refl 0) rfl d_Reader_readAll_159
  · have hw := hw.2 q2
    refine qx_aload_n (x := x0) X d_Reader_readAll_132 rfl 0 rfl ?_
    refine qx_getI X qcls4 g1 10 (by decide) rfl wf_Reader_43 d_Reader_readAll_133 ?_
    refine qx_if_eq X 155 d_Reader_readAll_136 (by decide) (fun q3 => ?_) (fun q3 => ?_)
    · have hw := hw.1 q3
      refine qx_aload_n (x := x0) X d_Reader_readAll_155 rfl 0 rfl ?_
      refine qx_getI X qcls4 g1 12 (by decide) rfl wf_Reader_40 d_Reader_readAll_156 ?_
      exact qx_iret X hw (Nat.le_refl 0) (Nat.le_refl 0) rfl d_Reader_readAll_159
    · have hw := hw.2 q3
      refine qx_aload_n (x := x0) X d_Reader_readAll_139 rfl 0 rfl ?_
      refine qx_aload_n (x := x0) X d_Reader_readAll_140 rfl 0 rfl ?_
      refine qx_getI X qcls4 g1 10 (by decide) rfl wf_Reader_43 d_Reader_readAll_141 ?_
      refine qx_putI X qcls4 g1 12 (by decide) rfl wf_Reader_40 rfl rfl rfl d_Reader_readAll_144 ?_
      refine qx_toph (fun h4 eh4 => ?_)
      have hw := hw h4 eh4
      refine qx_aload_n (x := x0) X d_Reader_readAll_147 rfl 0 rfl ?_
      refine qx_aload_n (x := x0) X d_Reader_readAll_148 rfl 0 rfl ?_
      obtain ⟨g5, hw⟩ := hw
      refine qx_getI X qcls4 g5 11 (by decide) rfl wf_Reader_76 d_Reader_readAll_149 ?_
      refine qx_putI X qcls4 g5 13 (by decide) rfl wf_Reader_32 rfl rfl rfl d_Reader_readAll_152 ?_
      refine qx_toph (fun h6 eh6 => ?_)
      have hw := hw h6 eh6
      refine qx_aload_n (x := x0) X d_Reader_readAll_155 rfl 0 rfl ?_
      obtain ⟨g7, hw⟩ := hw
      refine qx_getI X qcls4 g7 12 (by decide) rfl wf_Reader_40 d_Reader_readAll_156 ?_
      exact qx_iret X hw (Nat.le_refl 0) (Nat.le_refl 0) rfl d_Reader_readAll_159
set_option maxRecDepth 4000 in
theorem t_Reader_readAll {adK adV : Nat → Nat} (l : Launch) (D : va_G) (cy : Nat → ClassId) (b : Nat) (N : Nat) (x0 : Nat) (h : qH) (Q : Int32 → qH → Prop) (hw : w_Reader_readAll N x0 h Q) : Met l y_Reader_readAll (Cond.code y_Reader_readAll prog_6_method_2_code 4 (some .int) :: qT) (qrm 6 0 0 135) (qPc D cy b adK adV h [qr b x0]) (qQc D cy b qrI Q) 0 0 (qA b) := by
  refine qmet (L0 := [(0, .inr (.inr (.inl x0)))]) qm_Reader_readAll (plainFor_of_name (by decide)) [.inr (.inr (.inl x0))] rfl (Nat.le_of_ble_eq_true rfl) rfl (fun p e s m args below meth c X => ?_)
  unfold w_Reader_readAll at hw
  refine qx_aload_n (x := x0) X d_Reader_readAll_0 rfl 0 rfl ?_
  refine qx_iconst (v := (0 : Int32)) X d_Reader_readAll_1 (by decide) ?_
  obtain ⟨g1, hw⟩ := hw
  refine qx_putI X qcls4 g1 12 (by decide) rfl wf_Reader_40 rfl rfl rfl d_Reader_readAll_2 ?_
  refine qx_toph (fun h2 eh2 => ?_)
  have hw := hw h2 eh2
  refine qx_aload_n (x := x0) X d_Reader_readAll_5 rfl 0 rfl ?_
  refine qx_iconst (v := (-1 : Int32)) X d_Reader_readAll_6 (by decide) ?_
  obtain ⟨g3, hw⟩ := hw
  refine qx_putI X qcls4 g3 13 (by decide) rfl wf_Reader_32 rfl rfl rfl d_Reader_readAll_7 ?_
  refine qx_toph (fun h4 eh4 => ?_)
  have hw := hw h4 eh4
  refine qx_aload_n (x := x0) X d_Reader_readAll_10 rfl 0 rfl ?_
  refine qx_iconst (v := (0 : Int32)) X d_Reader_readAll_11 (by decide) ?_
  obtain ⟨g5, hw⟩ := hw
  refine qx_putI X qcls4 g5 10 (by decide) rfl wf_Reader_43 rfl rfl rfl d_Reader_readAll_12 ?_
  refine qx_toph (fun h6 eh6 => ?_)
  have hw := hw h6 eh6
  refine qx_aload_n (x := x0) X d_Reader_readAll_15 rfl 0 rfl ?_
  refine qx_iconst (v := (0 : Int32)) X d_Reader_readAll_16 (by decide) ?_
  obtain ⟨g7, hw⟩ := hw
  refine qx_putI X qcls4 g7 8 (by decide) rfl wf_Reader_46 rfl rfl rfl d_Reader_readAll_17 ?_
  refine qx_toph (fun h8 eh8 => ?_)
  have hw := hw h8 eh8
  refine qx_aload_n (x := x0) X d_Reader_readAll_20 rfl 0 rfl ?_
  obtain ⟨g9, hw⟩ := hw
  refine qx_getR X qcls4 g9 5 (by decide) rfl wf_Reader_12 d_Reader_readAll_21 ?_
  obtain ⟨g10, hw⟩ := hw
  refine qx_callVV (st := []) (As := []) X (t_Text_clear (adK := adK) (adV := adV) l D cy b N (qR h8 x0 5) h8 _ hw) qm_Text_clear wm_Reader_49 wi_Text_clear wl_Text_clear qcls8 g10 rfl rfl rfl ⟨Nat.le_of_ble_eq_true rfl, Nat.le_of_ble_eq_true rfl⟩ ⟨Nat.le_refl 0, Nat.le_refl 0⟩ (Nat.le_of_ble_eq_true rfl) rfl d_Reader_readAll_24 (fun h11 hw => ?_)
  refine qx_aload_n (x := x0) X d_Reader_readAll_27 rfl 0 rfl ?_
  obtain ⟨g12, hw⟩ := hw
  refine qx_getR X qcls4 g12 0 (by decide) rfl wf_Reader_36 d_Reader_readAll_28 ?_
  obtain ⟨g13, hw⟩ := hw
  refine qx_callVV (st := []) (As := []) X (t_Tape_split (adK := adK) (adV := adV) l D cy b N (qR h11 x0 0) h11 _ hw) qm_Tape_split wm_Reader_52 wi_Tape_split wl_Tape_split qcls7 g13 rfl rfl rfl ⟨Nat.le_of_ble_eq_true rfl, Nat.le_of_ble_eq_true rfl⟩ ⟨Nat.le_refl 0, Nat.le_refl 0⟩ (Nat.le_of_ble_eq_true rfl) rfl d_Reader_readAll_31 (fun h14 hw => ?_)
  refine qx_aload_n (x := x0) X d_Reader_readAll_34 rfl 0 rfl ?_
  refine qx_iconst (v := (0 : Int32)) X d_Reader_readAll_35 (by decide) ?_
  obtain ⟨g15, hw⟩ := hw
  refine qx_callVV (st := []) (As := [.int (0 : Int32)]) X (t_Reader_lookAt (adK := adK) (adV := adV) l D cy b N x0 (0 : Int32) h14 _ hw) qm_Reader_lookAt wm_Reader_57 wi_Reader_lookAt wl_Reader_lookAt qcls4 g15 rfl rfl rfl ⟨Nat.le_of_ble_eq_true rfl, Nat.le_of_ble_eq_true rfl⟩ ⟨Nat.le_refl 0, Nat.le_refl 0⟩ (Nat.le_of_ble_eq_true rfl) rfl d_Reader_readAll_36 (fun h16 hw => ?_)
  refine qx_iconst (v := (1 : Int32)) X d_Reader_readAll_39 (by decide) ?_
  refine qx_istore_n (L' := [(1, .inl (1 : Int32)), (0, .inr (.inr (.inl x0)))]) X d_Reader_readAll_40 rfl (by decide) rfl ?_
  refine qx_iconst (v := (0 : Int32)) X d_Reader_readAll_41 (by decide) ?_
  refine qx_istore_n (L' := [(2, .inl (0 : Int32)), (1, .inl (1 : Int32)), (0, .inr (.inr (.inl x0)))]) X d_Reader_readAll_42 rfl (by decide) rfl ?_
  refine qx_sub [2, 1, 0] rfl ?_
  refine t_Reader_readAll_43 X N N x0 (1 : Int32) (0 : Int32) h16 Q _ hw (fun x17 h18 hw => ?_)
  exact t_Reader_readAll_125 X N x17 h18 Q  hw 
end QG
