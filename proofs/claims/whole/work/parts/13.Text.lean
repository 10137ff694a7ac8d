/-! Text: written by wip/whole/emit.py out of the bytecode -/
def y_Text_law : MethodName := ⟨"CoatHangers$Text", "law", "(I)LCoatHangers$Law;"⟩
theorem qm_Text_law : qMt y_Text_law prog_10_method_5_code 2 (some (.object "CoatHangers$Law")) 1 := ⟨qT_3 (i := 144) (by decide +kernel) rfl, qT_1 (i := 7) (by decide +kernel) rfl, by decide, by decide, by decide +kernel⟩
theorem wi_Text_law : Cond.instanceMethod y_Text_law ∈ qT := qT_3 (i := 142) (by decide +kernel) rfl
theorem wl_Text_law : Cond.selects y_Text_law.cls y_Text_law y_Text_law ∈ qT := qT_3 (i := 143) (by decide +kernel) rfl
def y_Text_clear : MethodName := ⟨"CoatHangers$Text", "clear", "()V"⟩
theorem qm_Text_clear : qMt y_Text_clear prog_10_method_2_code 2 (none) 0 := ⟨qT_1 (i := 147) (by decide +kernel) rfl, qT_1 (i := 7) (by decide +kernel) rfl, by decide, by decide, by decide +kernel⟩
theorem wi_Text_clear : Cond.instanceMethod y_Text_clear ∈ qT := qT_1 (i := 145) (by decide +kernel) rfl
theorem wl_Text_clear : Cond.selects y_Text_clear.cls y_Text_clear y_Text_clear ∈ qT := qT_1 (i := 146) (by decide +kernel) rfl
def y_Text_isFirstTaken : MethodName := ⟨"CoatHangers$Text", "isFirstTaken", "(I)Z"⟩
theorem qm_Text_isFirstTaken : qMt y_Text_isFirstTaken prog_10_method_4_code 3 (some .boolean) 1 := ⟨qT_4 (i := 24) (by decide +kernel) rfl, qT_1 (i := 7) (by decide +kernel) rfl, by decide, by decide, by decide +kernel⟩
theorem wi_Text_isFirstTaken : Cond.instanceMethod y_Text_isFirstTaken ∈ qT := qT_4 (i := 22) (by decide +kernel) rfl
theorem wl_Text_isFirstTaken : Cond.selects y_Text_isFirstTaken.cls y_Text_isFirstTaken y_Text_isFirstTaken ∈ qT := qT_4 (i := 23) (by decide +kernel) rfl
def y_Text_become : MethodName := ⟨"CoatHangers$Text", "become", "(LCoatHangers$Text;)V"⟩
theorem qm_Text_become : qMt y_Text_become prog_10_method_3_code 2 (none) 1 := ⟨qT_4 (i := 36) (by decide +kernel) rfl, qT_1 (i := 7) (by decide +kernel) rfl, by decide, by decide, by decide +kernel⟩
theorem wi_Text_become : Cond.instanceMethod y_Text_become ∈ qT := qT_4 (i := 34) (by decide +kernel) rfl
theorem wl_Text_become : Cond.selects y_Text_become.cls y_Text_become y_Text_become ∈ qT := qT_4 (i := 35) (by decide +kernel) rfl
theorem wf_Text_30 : Cond.fieldLink "CoatHangers$Text" 30 "CoatHangers$Text" "crooks" "LCoatHangers$Law;" ∈ qT := qT_1 (i := 188) (by decide +kernel) rfl
theorem wf_Text_34 : Cond.fieldLink "CoatHangers$Text" 34 "CoatHangers$Text" "bends" "LCoatHangers$Law;" ∈ qT := qT_1 (i := 189) (by decide +kernel) rfl
theorem wf_Text_37 : Cond.fieldLink "CoatHangers$Text" 37 "CoatHangers$Text" "slips" "LCoatHangers$Law;" ∈ qT := qT_1 (i := 190) (by decide +kernel) rfl
theorem wf_Text_40 : Cond.fieldLink "CoatHangers$Text" 40 "CoatHangers$Text" "costs" "LCoatHangers$Law;" ∈ qT := qT_1 (i := 191) (by decide +kernel) rfl
theorem wf_Text_46 : Cond.fieldLink "CoatHangers$Text" 46 "CoatHangers$Text" "hangers" "I" ∈ qT := qT_1 (i := 156) (by decide +kernel) rfl
theorem wf_Text_50 : Cond.fieldLink "CoatHangers$Text" 50 "CoatHangers$Text" "people" "I" ∈ qT := qT_1 (i := 170) (by decide +kernel) rfl
theorem wf_Text_53 : Cond.fieldLink "CoatHangers$Text" 53 "CoatHangers$Text" "moth" "I" ∈ qT := qT_1 (i := 192) (by decide +kernel) rfl
theorem wf_Text_56 : Cond.fieldLink "CoatHangers$Text" 56 "CoatHangers$Text" "seed" "I" ∈ qT := qT_1 (i := 195) (by decide +kernel) rfl
theorem wf_Text_24 : Cond.fieldLink "CoatHangers$Text" 24 "CoatHangers$Text" "firstOn" "[I" ∈ qT := qT_1 (i := 185) (by decide +kernel) rfl
theorem wm_Text_61 : Cond.methodLink "CoatHangers$Text" 61 y_Law_becomeOneStep ∈ qT := qT_1 (i := 148) (by decide +kernel) rfl
theorem wf_Text_9 : Cond.fieldLink "CoatHangers$Text" 9 "CoatHangers$Text" "nail" "[I" ∈ qT := qT_1 (i := 160) (by decide +kernel) rfl
theorem wm_Text_65 : Cond.methodLink "CoatHangers$Text" 65 arraycopyName ∈ qT := qT_4 (i := 37) (by decide +kernel) rfl
theorem wf_Text_15 : Cond.fieldLink "CoatHangers$Text" 15 "CoatHangers$Text" "breadth" "[I" ∈ qT := qT_1 (i := 166) (by decide +kernel) rfl
theorem wf_Text_18 : Cond.fieldLink "CoatHangers$Text" 18 "CoatHangers$Text" "shoulders" "[I" ∈ qT := qT_1 (i := 178) (by decide +kernel) rfl
theorem wf_Text_21 : Cond.fieldLink "CoatHangers$Text" 21 "CoatHangers$Text" "rank" "[I" ∈ qT := qT_1 (i := 181) (by decide +kernel) rfl
theorem wm_Text_71 : Cond.methodLink "CoatHangers$Text" 71 y_Law_become ∈ qT := qT_4 (i := 40) (by decide +kernel) rfl
theorem d_Text_law_0 : decode prog_10_method_5_code 0 = .ok (.iload_n 1, 1) := by decide +kernel
theorem d_Text_law_1 : decode prog_10_method_5_code 1 = .ok (.tableswitch 42 0 2 #[27, 32, 37], 27) := by decide +kernel
theorem d_Text_law_28 : decode prog_10_method_5_code 28 = .ok (.aload_n 0, 1) := by decide +kernel
theorem d_Text_law_29 : decode prog_10_method_5_code 29 = .ok (.getfield 30, 3) := by decide +kernel
theorem d_Text_law_32 : decode prog_10_method_5_code 32 = .ok (.areturn, 1) := by decide +kernel
theorem d_Text_law_33 : decode prog_10_method_5_code 33 = .ok (.aload_n 0, 1) := by decide +kernel
theorem d_Text_law_34 : decode prog_10_method_5_code 34 = .ok (.getfield 34, 3) := by decide +kernel
theorem d_Text_law_37 : decode prog_10_method_5_code 37 = .ok (.areturn, 1) := by decide +kernel
theorem d_Text_law_38 : decode prog_10_method_5_code 38 = .ok (.aload_n 0, 1) := by decide +kernel
theorem d_Text_law_39 : decode prog_10_method_5_code 39 = .ok (.getfield 37, 3) := by decide +kernel
theorem d_Text_law_42 : decode prog_10_method_5_code 42 = .ok (.areturn, 1) := by decide +kernel
theorem d_Text_law_43 : decode prog_10_method_5_code 43 = .ok (.aload_n 0, 1) := by decide +kernel
theorem d_Text_law_44 : decode prog_10_method_5_code 44 = .ok (.getfield 40, 3) := by decide +kernel
theorem d_Text_law_47 : decode prog_10_method_5_code 47 = .ok (.areturn, 1) := by decide +kernel
theorem d_Text_clear_0 : decode prog_10_method_2_code 0 = .ok (.aload_n 0, 1) := by decide +kernel
theorem d_Text_clear_1 : decode prog_10_method_2_code 1 = .ok (.iconst 0, 1) := by decide +kernel
theorem d_Text_clear_2 : decode prog_10_method_2_code 2 = .ok (.putfield 46, 3) := by decide +kernel
theorem d_Text_clear_5 : decode prog_10_method_2_code 5 = .ok (.aload_n 0, 1) := by decide +kernel
theorem d_Text_clear_6 : decode prog_10_method_2_code 6 = .ok (.iconst 0, 1) := by decide +kernel
theorem d_Text_clear_7 : decode prog_10_method_2_code 7 = .ok (.putfield 50, 3) := by decide +kernel
theorem d_Text_clear_10 : decode prog_10_method_2_code 10 = .ok (.aload_n 0, 1) := by decide +kernel
theorem d_Text_clear_11 : decode prog_10_method_2_code 11 = .ok (.iconst 0, 1) := by decide +kernel
theorem d_Text_clear_12 : decode prog_10_method_2_code 12 = .ok (.putfield 53, 3) := by decide +kernel
theorem d_Text_clear_15 : decode prog_10_method_2_code 15 = .ok (.aload_n 0, 1) := by decide +kernel
theorem d_Text_clear_16 : decode prog_10_method_2_code 16 = .ok (.iconst 0, 1) := by decide +kernel
theorem d_Text_clear_17 : decode prog_10_method_2_code 17 = .ok (.putfield 56, 3) := by decide +kernel
theorem d_Text_clear_20 : decode prog_10_method_2_code 20 = .ok (.iconst 0, 1) := by decide +kernel
theorem d_Text_clear_21 : decode prog_10_method_2_code 21 = .ok (.istore_n 1, 1) := by decide +kernel
theorem d_Text_clear_22 : decode prog_10_method_2_code 22 = .ok (.iload_n 1, 1) := by decide +kernel
theorem d_Text_clear_23 : decode prog_10_method_2_code 23 = .ok (.bipush 6, 2) := by decide +kernel
theorem d_Text_clear_25 : decode prog_10_method_2_code 25 = .ok (.if_icmp .ge 17, 3) := by decide +kernel
theorem d_Text_clear_28 : decode prog_10_method_2_code 28 = .ok (.aload_n 0, 1) := by decide +kernel
theorem d_Text_clear_29 : decode prog_10_method_2_code 29 = .ok (.getfield 24, 3) := by decide +kernel
theorem d_Text_clear_32 : decode prog_10_method_2_code 32 = .ok (.iload_n 1, 1) := by decide +kernel
theorem d_Text_clear_33 : decode prog_10_method_2_code 33 = .ok (.bipush (-2), 2) := by decide +kernel
theorem d_Text_clear_35 : decode prog_10_method_2_code 35 = .ok (.iastore, 1) := by decide +kernel
theorem d_Text_clear_36 : decode prog_10_method_2_code 36 = .ok (.iinc 1 1, 3) := by decide +kernel
theorem d_Text_clear_39 : decode prog_10_method_2_code 39 = .ok (.goto (-17), 3) := by decide +kernel
theorem d_Text_clear_42 : decode prog_10_method_2_code 42 = .ok (.aload_n 0, 1) := by decide +kernel
theorem d_Text_clear_43 : decode prog_10_method_2_code 43 = .ok (.getfield 30, 3) := by decide +kernel
theorem d_Text_clear_46 : decode prog_10_method_2_code 46 = .ok (.iconst 2, 1) := by decide +kernel
theorem d_Text_clear_47 : decode prog_10_method_2_code 47 = .ok (.iconst 0, 1) := by decide +kernel
theorem d_Text_clear_48 : decode prog_10_method_2_code 48 = .ok (.invokevirtual 61, 3) := by decide +kernel
theorem d_Text_clear_51 : decode prog_10_method_2_code 51 = .ok (.aload_n 0, 1) := by decide +kernel
theorem d_Text_clear_52 : decode prog_10_method_2_code 52 = .ok (.getfield 34, 3) := by decide +kernel
theorem d_Text_clear_55 : decode prog_10_method_2_code 55 = .ok (.iconst 1, 1) := by decide +kernel
theorem d_Text_clear_56 : decode prog_10_method_2_code 56 = .ok (.iconst 0, 1) := by decide +kernel
theorem d_Text_clear_57 : decode prog_10_method_2_code 57 = .ok (.invokevirtual 61, 3) := by decide +kernel
theorem d_Text_clear_60 : decode prog_10_method_2_code 60 = .ok (.aload_n 0, 1) := by decide +kernel
theorem d_Text_clear_61 : decode prog_10_method_2_code 61 = .ok (.getfield 37, 3) := by decide +kernel
theorem d_Text_clear_64 : decode prog_10_method_2_code 64 = .ok (.iconst 1, 1) := by decide +kernel
theorem d_Text_clear_65 : decode prog_10_method_2_code 65 = .ok (.iconst 0, 1) := by decide +kernel
theorem d_Text_clear_66 : decode prog_10_method_2_code 66 = .ok (.invokevirtual 61, 3) := by decide +kernel
theorem d_Text_clear_69 : decode prog_10_method_2_code 69 = .ok (.aload_n 0, 1) := by decide +kernel
theorem d_Text_clear_70 : decode prog_10_method_2_code 70 = .ok (.getfield 40, 3) := by decide +kernel
theorem d_Text_clear_73 : decode prog_10_method_2_code 73 = .ok (.iconst 2, 1) := by decide +kernel
theorem d_Text_clear_74 : decode prog_10_method_2_code 74 = .ok (.iconst 0, 1) := by decide +kernel
theorem d_Text_clear_75 : decode prog_10_method_2_code 75 = .ok (.invokevirtual 61, 3) := by decide +kernel
theorem d_Text_clear_78 : decode prog_10_method_2_code 78 = .ok (.return_, 1) := by decide +kernel
theorem d_Text_isFirstTaken_0 : decode prog_10_method_4_code 0 = .ok (.iconst 0, 1) := by decide +kernel
theorem d_Text_isFirstTaken_1 : decode prog_10_method_4_code 1 = .ok (.istore_n 2, 1) := by decide +kernel
theorem d_Text_isFirstTaken_2 : decode prog_10_method_4_code 2 = .ok (.iload_n 2, 1) := by decide +kernel
theorem d_Text_isFirstTaken_3 : decode prog_10_method_4_code 3 = .ok (.aload_n 0, 1) := by decide +kernel
theorem d_Text_isFirstTaken_4 : decode prog_10_method_4_code 4 = .ok (.getfield 50, 3) := by decide +kernel
theorem d_Text_isFirstTaken_7 : decode prog_10_method_4_code 7 = .ok (.if_icmp .ge 21, 3) := by decide +kernel
theorem d_Text_isFirstTaken_10 : decode prog_10_method_4_code 10 = .ok (.aload_n 0, 1) := by decide +kernel
theorem d_Text_isFirstTaken_11 : decode prog_10_method_4_code 11 = .ok (.getfield 24, 3) := by decide +kernel
theorem d_Text_isFirstTaken_14 : decode prog_10_method_4_code 14 = .ok (.iload_n 2, 1) := by decide +kernel
theorem d_Text_isFirstTaken_15 : decode prog_10_method_4_code 15 = .ok (.iaload, 1) := by decide +kernel
theorem d_Text_isFirstTaken_16 : decode prog_10_method_4_code 16 = .ok (.iload_n 1, 1) := by decide +kernel
theorem d_Text_isFirstTaken_17 : decode prog_10_method_4_code 17 = .ok (.if_icmp .ne 5, 3) := by decide +kernel
theorem d_Text_isFirstTaken_20 : decode prog_10_method_4_code 20 = .ok (.iconst 1, 1) := by decide +kernel
theorem d_Text_isFirstTaken_21 : decode prog_10_method_4_code 21 = .ok (.ireturn, 1) := by decide +kernel
theorem d_Text_isFirstTaken_22 : decode prog_10_method_4_code 22 = .ok (.iinc 2 1, 3) := by decide +kernel
theorem d_Text_isFirstTaken_25 : decode prog_10_method_4_code 25 = .ok (.goto (-23), 3) := by decide +kernel
theorem d_Text_isFirstTaken_28 : decode prog_10_method_4_code 28 = .ok (.iconst 0, 1) := by decide +kernel
theorem d_Text_isFirstTaken_29 : decode prog_10_method_4_code 29 = .ok (.ireturn, 1) := by decide +kernel
theorem d_Text_become_0 : decode prog_10_method_3_code 0 = .ok (.aload_n 0, 1) := by decide +kernel
theorem d_Text_become_1 : decode prog_10_method_3_code 1 = .ok (.aload_n 1, 1) := by decide +kernel
theorem d_Text_become_2 : decode prog_10_method_3_code 2 = .ok (.getfield 46, 3) := by decide +kernel
theorem d_Text_become_5 : decode prog_10_method_3_code 5 = .ok (.putfield 46, 3) := by decide +kernel
theorem d_Text_become_8 : decode prog_10_method_3_code 8 = .ok (.aload_n 0, 1) := by decide +kernel
theorem d_Text_become_9 : decode prog_10_method_3_code 9 = .ok (.aload_n 1, 1) := by decide +kernel
theorem d_Text_become_10 : decode prog_10_method_3_code 10 = .ok (.getfield 50, 3) := by decide +kernel
theorem d_Text_become_13 : decode prog_10_method_3_code 13 = .ok (.putfield 50, 3) := by decide +kernel
theorem d_Text_become_16 : decode prog_10_method_3_code 16 = .ok (.aload_n 0, 1) := by decide +kernel
theorem d_Text_become_17 : decode prog_10_method_3_code 17 = .ok (.aload_n 1, 1) := by decide +kernel
theorem d_Text_become_18 : decode prog_10_method_3_code 18 = .ok (.getfield 53, 3) := by decide +kernel
theorem d_Text_become_21 : decode prog_10_method_3_code 21 = .ok (.putfield 53, 3) := by decide +kernel
theorem d_Text_become_24 : decode prog_10_method_3_code 24 = .ok (.aload_n 0, 1) := by decide +kernel
theorem d_Text_become_25 : decode prog_10_method_3_code 25 = .ok (.aload_n 1, 1) := by decide +kernel
theorem d_Text_become_26 : decode prog_10_method_3_code 26 = .ok (.getfield 56, 3) := by decide +kernel
theorem d_Text_become_29 : decode prog_10_method_3_code 29 = .ok (.putfield 56, 3) := by decide +kernel
theorem d_Text_become_32 : decode prog_10_method_3_code 32 = .ok (.aload_n 1, 1) := by decide +kernel
theorem d_Text_become_33 : decode prog_10_method_3_code 33 = .ok (.getfield 9, 3) := by decide +kernel
theorem d_Text_become_36 : decode prog_10_method_3_code 36 = .ok (.iconst 0, 1) := by decide +kernel
theorem d_Text_become_37 : decode prog_10_method_3_code 37 = .ok (.aload_n 0, 1) := by decide +kernel
theorem d_Text_become_38 : decode prog_10_method_3_code 38 = .ok (.getfield 9, 3) := by decide +kernel
theorem d_Text_become_41 : decode prog_10_method_3_code 41 = .ok (.iconst 0, 1) := by decide +kernel
theorem d_Text_become_42 : decode prog_10_method_3_code 42 = .ok (.bipush 7, 2) := by decide +kernel
theorem d_Text_become_44 : decode prog_10_method_3_code 44 = .ok (.invokestatic 65, 3) := by decide +kernel
theorem d_Text_become_47 : decode prog_10_method_3_code 47 = .ok (.aload_n 1, 1) := by decide +kernel
theorem d_Text_become_48 : decode prog_10_method_3_code 48 = .ok (.getfield 15, 3) := by decide +kernel
theorem d_Text_become_51 : decode prog_10_method_3_code 51 = .ok (.iconst 0, 1) := by decide +kernel
theorem d_Text_become_52 : decode prog_10_method_3_code 52 = .ok (.aload_n 0, 1) := by decide +kernel
theorem d_Text_become_53 : decode prog_10_method_3_code 53 = .ok (.getfield 15, 3) := by decide +kernel
theorem d_Text_become_56 : decode prog_10_method_3_code 56 = .ok (.iconst 0, 1) := by decide +kernel
theorem d_Text_become_57 : decode prog_10_method_3_code 57 = .ok (.bipush 7, 2) := by decide +kernel
theorem d_Text_become_59 : decode prog_10_method_3_code 59 = .ok (.invokestatic 65, 3) := by decide +kernel
theorem d_Text_become_62 : decode prog_10_method_3_code 62 = .ok (.aload_n 1, 1) := by decide +kernel
theorem d_Text_become_63 : decode prog_10_method_3_code 63 = .ok (.getfield 18, 3) := by decide +kernel
theorem d_Text_become_66 : decode prog_10_method_3_code 66 = .ok (.iconst 0, 1) := by decide +kernel
theorem d_Text_become_67 : decode prog_10_method_3_code 67 = .ok (.aload_n 0, 1) := by decide +kernel
theorem d_Text_become_68 : decode prog_10_method_3_code 68 = .ok (.getfield 18, 3) := by decide +kernel
theorem d_Text_become_71 : decode prog_10_method_3_code 71 = .ok (.iconst 0, 1) := by decide +kernel
theorem d_Text_become_72 : decode prog_10_method_3_code 72 = .ok (.bipush 6, 2) := by decide +kernel
theorem d_Text_become_74 : decode prog_10_method_3_code 74 = .ok (.invokestatic 65, 3) := by decide +kernel
theorem d_Text_become_77 : decode prog_10_method_3_code 77 = .ok (.aload_n 1, 1) := by decide +kernel
theorem d_Text_become_78 : decode prog_10_method_3_code 78 = .ok (.getfield 21, 3) := by decide +kernel
theorem d_Text_become_81 : decode prog_10_method_3_code 81 = .ok (.iconst 0, 1) := by decide +kernel
theorem d_Text_become_82 : decode prog_10_method_3_code 82 = .ok (.aload_n 0, 1) := by decide +kernel
theorem d_Text_become_83 : decode prog_10_method_3_code 83 = .ok (.getfield 21, 3) := by decide +kernel
theorem d_Text_become_86 : decode prog_10_method_3_code 86 = .ok (.iconst 0, 1) := by decide +kernel
theorem d_Text_become_87 : decode prog_10_method_3_code 87 = .ok (.bipush 6, 2) := by decide +kernel
theorem d_Text_become_89 : decode prog_10_method_3_code 89 = .ok (.invokestatic 65, 3) := by decide +kernel
theorem d_Text_become_92 : decode prog_10_method_3_code 92 = .ok (.aload_n 1, 1) := by decide +kernel
theorem d_Text_become_93 : decode prog_10_method_3_code 93 = .ok (.getfield 24, 3) := by decide +kernel
theorem d_Text_become_96 : decode prog_10_method_3_code 96 = .ok (.iconst 0, 1) := by decide +kernel
theorem d_Text_become_97 : decode prog_10_method_3_code 97 = .ok (.aload_n 0, 1) := by decide +kernel
theorem d_Text_become_98 : decode prog_10_method_3_code 98 = .ok (.getfield 24, 3) := by decide +kernel
theorem d_Text_become_101 : decode prog_10_method_3_code 101 = .ok (.iconst 0, 1) := by decide +kernel
theorem d_Text_become_102 : decode prog_10_method_3_code 102 = .ok (.bipush 6, 2) := by decide +kernel
theorem d_Text_become_104 : decode prog_10_method_3_code 104 = .ok (.invokestatic 65, 3) := by decide +kernel
theorem d_Text_become_107 : decode prog_10_method_3_code 107 = .ok (.aload_n 0, 1) := by decide +kernel
theorem d_Text_become_108 : decode prog_10_method_3_code 108 = .ok (.getfield 30, 3) := by decide +kernel
theorem d_Text_become_111 : decode prog_10_method_3_code 111 = .ok (.aload_n 1, 1) := by decide +kernel
theorem d_Text_become_112 : decode prog_10_method_3_code 112 = .ok (.getfield 30, 3) := by decide +kernel
theorem d_Text_become_115 : decode prog_10_method_3_code 115 = .ok (.invokevirtual 71, 3) := by decide +kernel
theorem d_Text_become_118 : decode prog_10_method_3_code 118 = .ok (.aload_n 0, 1) := by decide +kernel
theorem d_Text_become_119 : decode prog_10_method_3_code 119 = .ok (.getfield 34, 3) := by decide +kernel
theorem d_Text_become_122 : decode prog_10_method_3_code 122 = .ok (.aload_n 1, 1) := by decide +kernel
theorem d_Text_become_123 : decode prog_10_method_3_code 123 = .ok (.getfield 34, 3) := by decide +kernel
theorem d_Text_become_126 : decode prog_10_method_3_code 126 = .ok (.invokevirtual 71, 3) := by decide +kernel
theorem d_Text_become_129 : decode prog_10_method_3_code 129 = .ok (.aload_n 0, 1) := by decide +kernel
theorem d_Text_become_130 : decode prog_10_method_3_code 130 = .ok (.getfield 37, 3) := by decide +kernel
theorem d_Text_become_133 : decode prog_10_method_3_code 133 = .ok (.aload_n 1, 1) := by decide +kernel
theorem d_Text_become_134 : decode prog_10_method_3_code 134 = .ok (.getfield 37, 3) := by decide +kernel
theorem d_Text_become_137 : decode prog_10_method_3_code 137 = .ok (.invokevirtual 71, 3) := by decide +kernel
theorem d_Text_become_140 : decode prog_10_method_3_code 140 = .ok (.aload_n 0, 1) := by decide +kernel
theorem d_Text_become_141 : decode prog_10_method_3_code 141 = .ok (.getfield 40, 3) := by decide +kernel
theorem d_Text_become_144 : decode prog_10_method_3_code 144 = .ok (.aload_n 1, 1) := by decide +kernel
theorem d_Text_become_145 : decode prog_10_method_3_code 145 = .ok (.getfield 40, 3) := by decide +kernel
theorem d_Text_become_148 : decode prog_10_method_3_code 148 = .ok (.invokevirtual 71, 3) := by decide +kernel
theorem d_Text_become_151 : decode prog_10_method_3_code 151 = .ok (.return_, 1) := by decide +kernel
def w_Text_law (N : Nat) (x0 : Nat) (x1 : Int32) (h : qH) (Q : Nat → qH → Prop) : Prop := ((x1 = (0 : Int32) → (qS h x0 = .inl 8 ∧ Q (qR h x0 7) h)) ∧ (¬ x1 = (0 : Int32) → ((x1 = (1 : Int32) → (qS h x0 = .inl 8 ∧ Q (qR h x0 8) h)) ∧ (¬ x1 = (1 : Int32) → ((x1 = (2 : Int32) → (qS h x0 = .inl 8 ∧ Q (qR h x0 9) h)) ∧ (¬ x1 = (2 : Int32) → (qS h x0 = .inl 8 ∧ Q (qR h x0 10) h)))))))
def w_Text_clear_22 (N : Nat) : Nat → Nat → Int32 → qH → (qH → Prop) → (Nat → qH → Prop) → Prop
  | 0 => fun _ _ _ _ _ => False
  | k + 1 => fun x0 x1 h Q K42 => (((6 : Int32) ≤ x1 → (K42 x0 h)) ∧ (¬ (6 : Int32) ≤ x1 → (qS h x0 = .inl 8 ∧ (qok h (qR h x0 6) 0 x1 ∧ ∀ h4 : qH, h4 = qsI h (qR h x0 6) (x1).toNatClampNeg (-2 : Int32) → (w_Text_clear_22 N k x0 (x1 + (1 : Int32)) h4 Q K42)))))
def w_Text_clear (N : Nat) (x0 : Nat) (h : qH) (Q : qH → Prop) : Prop := (qS h x0 = .inl 8 ∧ ∀ h2 : qH, h2 = qsI h x0 0 (0 : Int32) → (qS h2 x0 = .inl 8 ∧ ∀ h4 : qH, h4 = qsI h2 x0 3 (0 : Int32) → (qS h4 x0 = .inl 8 ∧ ∀ h6 : qH, h6 = qsI h4 x0 11 (0 : Int32) → (qS h6 x0 = .inl 8 ∧ ∀ h8 : qH, h8 = qsI h6 x0 12 (0 : Int32) → (w_Text_clear_22 N N x0 (0 : Int32) h8 Q (fun x9 h10 => (qS h10 x9 = .inl 8 ∧ (qS h10 (qR h10 x9 7) = .inl 0 ∧ w_Law_becomeOneStep N (qR h10 x9 7) (2 : Int32) (0 : Int32) h10 (fun h13 => (qS h13 x9 = .inl 8 ∧ (qS h13 (qR h13 x9 8) = .inl 0 ∧ w_Law_becomeOneStep N (qR h13 x9 8) (1 : Int32) (0 : Int32) h13 (fun h16 => (qS h16 x9 = .inl 8 ∧ (qS h16 (qR h16 x9 9) = .inl 0 ∧ w_Law_becomeOneStep N (qR h16 x9 9) (1 : Int32) (0 : Int32) h16 (fun h19 => (qS h19 x9 = .inl 8 ∧ (qS h19 (qR h19 x9 10) = .inl 0 ∧ w_Law_becomeOneStep N (qR h19 x9 10) (2 : Int32) (0 : Int32) h19 (fun h22 => Q h22))))))))))))))))))
def w_Text_isFirstTaken_2 (N : Nat) : Nat → Nat → Int32 → Int32 → qH → (Int32 → qH → Prop) → Prop
  | 0 => fun _ _ _ _ _ => False
  | k + 1 => fun x0 x1 x2 h Q => (qS h x0 = .inl 8 ∧ (((qI h x0 3) ≤ x2 → (qzb (0 : Int32) ∧ Q (0 : Int32) h)) ∧ (¬ (qI h x0 3) ≤ x2 → (qok h (qR h x0 6) 0 x2 ∧ ((¬ (qI h (qR h x0 6) (x2).toNatClampNeg) = x1 → (w_Text_isFirstTaken_2 N k x0 x1 (x2 + (1 : Int32)) h Q)) ∧ ((qI h (qR h x0 6) (x2).toNatClampNeg) = x1 → (qzb (1 : Int32) ∧ Q (1 : Int32) h)))))))
def w_Text_isFirstTaken (N : Nat) (x0 : Nat) (x1 : Int32) (h : qH) (Q : Int32 → qH → Prop) : Prop := (w_Text_isFirstTaken_2 N N x0 x1 (0 : Int32) h Q )
def w_Text_become (N : Nat) (x0 : Nat) (x1 : Nat) (h : qH) (Q : qH → Prop) : Prop := (qS h x1 = .inl 8 ∧ (qS h x0 = .inl 8 ∧ ∀ h3 : qH, h3 = qsI h x0 0 (qI h x1 0) → (qS h3 x1 = .inl 8 ∧ (qS h3 x0 = .inl 8 ∧ ∀ h6 : qH, h6 = qsI h3 x0 3 (qI h3 x1 3) → (qS h6 x1 = .inl 8 ∧ (qS h6 x0 = .inl 8 ∧ ∀ h9 : qH, h9 = qsI h6 x0 11 (qI h6 x1 11) → (qS h9 x1 = .inl 8 ∧ (qS h9 x0 = .inl 8 ∧ ∀ h12 : qH, h12 = qsI h9 x0 12 (qI h9 x1 12) → (qS h12 x1 = .inl 8 ∧ (qS h12 x0 = .inl 8 ∧ (qcpok h12 (qR h12 x1 1) (qR h12 x0 1) (0 : Int32) (0 : Int32) (7 : Int32) ∧ ∀ h16 : qH, h16 = qcp h12 (qR h12 x0 1) (va_cpy (qI h12 (qR h12 x1 1)) (qI h12 (qR h12 x0 1)) ((0 : Int32)).toNatClampNeg ((0 : Int32)).toNatClampNeg ((7 : Int32)).toNatClampNeg) → (qS h16 x1 = .inl 8 ∧ (qS h16 x0 = .inl 8 ∧ (qcpok h16 (qR h16 x1 2) (qR h16 x0 2) (0 : Int32) (0 : Int32) (7 : Int32) ∧ ∀ h20 : qH, h20 = qcp h16 (qR h16 x0 2) (va_cpy (qI h16 (qR h16 x1 2)) (qI h16 (qR h16 x0 2)) ((0 : Int32)).toNatClampNeg ((0 : Int32)).toNatClampNeg ((7 : Int32)).toNatClampNeg) → (qS h20 x1 = .inl 8 ∧ (qS h20 x0 = .inl 8 ∧ (qcpok h20 (qR h20 x1 4) (qR h20 x0 4) (0 : Int32) (0 : Int32) (6 : Int32) ∧ ∀ h24 : qH, h24 = qcp h20 (qR h20 x0 4) (va_cpy (qI h20 (qR h20 x1 4)) (qI h20 (qR h20 x0 4)) ((0 : Int32)).toNatClampNeg ((0 : Int32)).toNatClampNeg ((6 : Int32)).toNatClampNeg) → (qS h24 x1 = .inl 8 ∧ (qS h24 x0 = .inl 8 ∧ (qcpok h24 (qR h24 x1 5) (qR h24 x0 5) (0 : Int32) (0 : Int32) (6 : Int32) ∧ ∀ h28 : qH, h28 = qcp h24 (qR h24 x0 5) (va_cpy (qI h24 (qR h24 x1 5)) (qI h24 (qR h24 x0 5)) ((0 : Int32)).toNatClampNeg ((0 : Int32)).toNatClampNeg ((6 : Int32)).toNatClampNeg) → (qS h28 x1 = .inl 8 ∧ (qS h28 x0 = .inl 8 ∧ (qcpok h28 (qR h28 x1 6) (qR h28 x0 6) (0 : Int32) (0 : Int32) (6 : Int32) ∧ ∀ h32 : qH, h32 = qcp h28 (qR h28 x0 6) (va_cpy (qI h28 (qR h28 x1 6)) (qI h28 (qR h28 x0 6)) ((0 : Int32)).toNatClampNeg ((0 : Int32)).toNatClampNeg ((6 : Int32)).toNatClampNeg) → (qS h32 x0 = .inl 8 ∧ (qS h32 x1 = .inl 8 ∧ (qS h32 (qR h32 x0 7) = .inl 0 ∧ w_Law_become N (qR h32 x0 7) (qR h32 x1 7) h32 (fun h36 => (qS h36 x0 = .inl 8 ∧ (qS h36 x1 = .inl 8 ∧ (qS h36 (qR h36 x0 8) = .inl 0 ∧ w_Law_become N (qR h36 x0 8) (qR h36 x1 8) h36 (fun h40 => (qS h40 x0 = .inl 8 ∧ (qS h40 x1 = .inl 8 ∧ (qS h40 (qR h40 x0 9) = .inl 0 ∧ w_Law_become N (qR h40 x0 9) (qR h40 x1 9) h40 (fun h44 => (qS h44 x0 = .inl 8 ∧ (qS h44 x1 = .inl 8 ∧ (qS h44 (qR h44 x0 10) = .inl 0 ∧ w_Law_become N (qR h44 x0 10) (qR h44 x1 10) h44 (fun h48 => Q h48)))))))))))))))))))))))))))))))))))))))
section QG
variable {p : Program} {l : Launch} {e : Env} {s : State} {m : MethodId} {args : Array Value} {below : List Frame} {meth : Method} {c : Code} {D : va_G} {cy : Nat → ClassId} {b : Nat} {adK adV : Nat → Nat}

set_option maxRecDepth 4000 in
theorem t_Text_law {adK adV : Nat → Nat} (l : Launch) (D : va_G) (cy : Nat → ClassId) (b : Nat) (N : Nat) (x0 : Nat) (x1 : Int32) (h : qH) (Q : Nat → qH → Prop) (hw : w_Text_law N x0 x1 h Q) : Met l y_Text_law (Cond.code y_Text_law prog_10_method_5_code 2 (some (.object "CoatHangers$Law")) :: qT) (qrm 0 0 0 0) (qPc D cy b adK adV h [qr b x0, .int x1]) (qQc D cy b (qrR b) Q) 0 0 (qA b) := by
  refine qmet (L0 := [(0, .inr (.inr (.inl x0))), (1, .inl x1)]) qm_Text_law (plainFor_of_name (by decide)) [.inr (.inr (.inl x0)), .inl x1] rfl (Nat.le_of_ble_eq_true rfl) rfl (fun p e s m args below meth c X => ?_)
  unfold w_Text_law at hw
  refine qx_iload_n (x := x1) X d_Text_law_0 rfl 1 rfl ?_
  by_cases q1 : x1 = (0 : Int32)
  · have hw := hw.1 q1
    refine qx_tableIn (off := (27)) X 28 d_Text_law_1 (by rw [q1]; decide) (by rw [q1]; decide) (by rw [q1]; rfl) (by decide) ?_
    refine qx_aload_n (x := x0) X d_Text_law_28 rfl 0 rfl ?_
    obtain ⟨g2, hw⟩ := hw
    refine qx_getR X qcls8 g2 7 (by decide) rfl wf_Text_30 d_Text_law_29 ?_
    exact qx_aret X hw (Nat.le_refl 0) (Nat.le_refl 0) rfl (Or.inl ⟨_, rfl⟩) d_Text_law_32
  · have hw := hw.2 q1
    by_cases q3 : x1 = (1 : Int32)
    · have hw := hw.1 q3
      refine qx_tableIn (off := (32)) X 33 d_Text_law_1 (by rw [q3]; decide) (by rw [q3]; decide) (by rw [q3]; rfl) (by decide) ?_
      refine qx_aload_n (x := x0) X d_Text_law_33 rfl 0 rfl ?_
      obtain ⟨g4, hw⟩ := hw
      refine qx_getR X qcls8 g4 8 (by decide) rfl wf_Text_34 d_Text_law_34 ?_
      exact qx_aret X hw (Nat.le_refl 0) (Nat.le_refl 0) rfl (Or.inl ⟨_, rfl⟩) d_Text_law_37
    · have hw := hw.2 q3
      by_cases q5 : x1 = (2 : Int32)
      · have hw := hw.1 q5
        refine qx_tableIn (off := (37)) X 38 d_Text_law_1 (by rw [q5]; decide) (by rw [q5]; decide) (by rw [q5]; rfl) (by decide) ?_
        refine qx_aload_n (x := x0) X d_Text_law_38 rfl 0 rfl ?_
        obtain ⟨g6, hw⟩ := hw
        refine qx_getR X qcls8 g6 9 (by decide) rfl wf_Text_37 d_Text_law_39 ?_
        exact qx_aret X hw (Nat.le_refl 0) (Nat.le_refl 0) rfl (Or.inl ⟨_, rfl⟩) d_Text_law_42
      · have hw := hw.2 q5
        have gx : x1.toInt < 0 ∨ 2 < x1.toInt := by
          have nq1 : x1.toInt ≠ 0 := fun z => q1 (Int32.toInt_inj.mp z)
          have nq3 : x1.toInt ≠ 1 := fun z => q3 (Int32.toInt_inj.mp z)
          have nq5 : x1.toInt ≠ 2 := fun z => q5 (Int32.toInt_inj.mp z)
          omega
        refine qx_tableOut X 43 d_Text_law_1 gx (by decide) ?_
        refine qx_aload_n (x := x0) X d_Text_law_43 rfl 0 rfl ?_
        obtain ⟨g7, hw⟩ := hw
        refine qx_getR X qcls8 g7 10 (by decide) rfl wf_Text_40 d_Text_law_44 ?_
        exact qx_aret X hw (Nat.le_refl 0) (Nat.le_refl 0) rfl (Or.inl ⟨_, rfl⟩) d_Text_law_47
set_option maxRecDepth 4000 in
theorem t_Text_clear_22 (X : qX p s m args meth c D cy b adK adV prog_10_method_2_code "CoatHangers$Text" 2 (none) "clear") (N k : Nat) (x0 : Nat) (x1 : Int32) (h : qH) (Q : qH → Prop) (K42 : Nat → qH → Prop) (hw : w_Text_clear_22 N k x0 x1 h Q K42) (hK42 : ∀ (x0 : Nat) (h : qH), K42 x0 h → qW p l e (qrm 2 0 0 44) s m args below meth c D cy b 2 0 0 (MQ below (qQc D cy b qrV (fun (_ : Unit) h => Q h)) args s 0 0 (qA b)) 42 [(0, .inr (.inr (.inl x0)))] [] h) : qW p l e (qrm 2 0 0 44) s m args below meth c D cy b 2 0 0 (MQ below (qQc D cy b qrV (fun (_ : Unit) h => Q h)) args s 0 0 (qA b)) 22 [(0, .inr (.inr (.inl x0))), (1, .inl x1)] [] h := by
  induction k generalizing x0 x1 h with
  | zero => exact hw.elim
  | succ k ih =>
    refine qx_iload_n (x := x1) X d_Text_clear_22 rfl 1 rfl ?_
    refine qx_bipush (v := (6 : Int32)) X d_Text_clear_23 (by decide) ?_
    refine qx_icmp_ge X 42 d_Text_clear_25 (by decide) (fun q1 => ?_) (fun q1 => ?_)
    · have hw := hw.1 q1
      refine qx_sub [0] rfl ?_
      exact hK42 x0 h hw
    · have hw := hw.2 q1
      refine qx_aload_n (x := x0) X d_Text_clear_28 rfl 0 rfl ?_
      obtain ⟨g2, hw⟩ := hw
      refine qx_getR X qcls8 g2 6 (by decide) rfl wf_Text_24 d_Text_clear_29 ?_
      refine qx_iload_n (x := x1) X d_Text_clear_32 rfl 1 rfl ?_
      refine qx_bipush (v := (-2 : Int32)) X d_Text_clear_33 (by decide) ?_
      obtain ⟨g3, hw⟩ := hw
      refine qx_ist X g3 d_Text_clear_35 ?_
      refine qx_toph (fun h4 eh4 => ?_)
      have hw := hw h4 eh4
      refine qx_iinc (v := (x1 + (1 : Int32))) (L' := [(1, .inl (x1 + (1 : Int32))), (0, .inr (.inr (.inl x0)))]) X d_Text_clear_36 1 rfl rfl (by decide) rfl ?_
      refine qx_goto X 22 d_Text_clear_39 (by decide) ?_
      refine qx_sub [1, 0] rfl ?_
      exact ih x0 (x1 + (1 : Int32)) h4 hw
set_option maxRecDepth 4000 in
theorem t_Text_clear {adK adV : Nat → Nat} (l : Launch) (D : va_G) (cy : Nat → ClassId) (b : Nat) (N : Nat) (x0 : Nat) (h : qH) (Q : qH → Prop) (hw : w_Text_clear N x0 h Q) : Met l y_Text_clear (Cond.code y_Text_clear prog_10_method_2_code 2 (none) :: qT) (qrm 2 0 0 44) (qPc D cy b adK adV h [qr b x0]) (qQc D cy b qrV (fun (_ : Unit) h => Q h)) 0 0 (qA b) := by
  refine qmet (L0 := [(0, .inr (.inr (.inl x0)))]) qm_Text_clear (plainFor_of_name (by decide)) [.inr (.inr (.inl x0))] rfl (Nat.le_of_ble_eq_true rfl) rfl (fun p e s m args below meth c X => ?_)
  unfold w_Text_clear at hw
  refine qx_aload_n (x := x0) X d_Text_clear_0 rfl 0 rfl ?_
  refine qx_iconst (v := (0 : Int32)) X d_Text_clear_1 (by decide) ?_
  obtain ⟨g1, hw⟩ := hw
  refine qx_putI X qcls8 g1 0 (by decide) rfl wf_Text_46 rfl rfl rfl d_Text_clear_2 ?_
  refine qx_toph (fun h2 eh2 => ?_)
  have hw := hw h2 eh2
  refine qx_aload_n (x := x0) X d_Text_clear_5 rfl 0 rfl ?_
  refine qx_iconst (v := (0 : Int32)) X d_Text_clear_6 (by decide) ?_
  obtain ⟨g3, hw⟩ := hw
  refine qx_putI X qcls8 g3 3 (by decide) rfl wf_Text_50 rfl rfl rfl d_Text_clear_7 ?_
  refine qx_toph (fun h4 eh4 => ?_)
  have hw := hw h4 eh4
  refine qx_aload_n (x := x0) X d_Text_clear_10 rfl 0 rfl ?_
  refine qx_iconst (v := (0 : Int32)) X d_Text_clear_11 (by decide) ?_
  obtain ⟨g5, hw⟩ := hw
  refine qx_putI X qcls8 g5 11 (by decide) rfl wf_Text_53 rfl rfl rfl d_Text_clear_12 ?_
  refine qx_toph (fun h6 eh6 => ?_)
  have hw := hw h6 eh6
  refine qx_aload_n (x := x0) X d_Text_clear_15 rfl 0 rfl ?_
  refine qx_iconst (v := (0 : Int32)) X d_Text_clear_16 (by decide) ?_
  obtain ⟨g7, hw⟩ := hw
  refine qx_putI X qcls8 g7 12 (by decide) rfl wf_Text_56 rfl rfl rfl d_Text_clear_17 ?_
  refine qx_toph (fun h8 eh8 => ?_)
  have hw := hw h8 eh8
  refine qx_iconst (v := (0 : Int32)) X d_Text_clear_20 (by decide) ?_
  refine qx_istore_n (L' := [(1, .inl (0 : Int32)), (0, .inr (.inr (.inl x0)))]) X d_Text_clear_21 rfl (by decide) rfl ?_
  refine qx_sub [1, 0] rfl ?_
  refine t_Text_clear_22 X N N x0 (0 : Int32) h8 Q _ hw (fun x9 h10 hw => ?_)
  refine qx_aload_n (x := x9) X d_Text_clear_42 rfl 0 rfl ?_
  obtain ⟨g11, hw⟩ := hw
  refine qx_getR X qcls8 g11 7 (by decide) rfl wf_Text_30 d_Text_clear_43 ?_
  refine qx_iconst (v := (2 : Int32)) X d_Text_clear_46 (by decide) ?_
  refine qx_iconst (v := (0 : Int32)) X d_Text_clear_47 (by decide) ?_
  obtain ⟨g12, hw⟩ := hw
  refine qx_callVV (st := []) (As := [.int (2 : Int32), .int (0 : Int32)]) X (t_Law_becomeOneStep (adK := adK) (adV := adV) l D cy b N (qR h10 x9 7) (2 : Int32) (0 : Int32) h10 _ hw) qm_Law_becomeOneStep wm_Text_61 wi_Law_becomeOneStep wl_Law_becomeOneStep qcls0 g12 rfl rfl rfl ⟨Nat.le_of_ble_eq_true rfl, Nat.le_of_ble_eq_true rfl⟩ ⟨Nat.le_refl 0, Nat.le_refl 0⟩ (Nat.le_of_ble_eq_true rfl) rfl d_Text_clear_48 (fun h13 hw => ?_)
  refine qx_aload_n (x := x9) X d_Text_clear_51 rfl 0 rfl ?_
  obtain ⟨g14, hw⟩ := hw
  refine qx_getR X qcls8 g14 8 (by decide) rfl wf_Text_34 d_Text_clear_52 ?_
  refine qx_iconst (v := (1 : Int32)) X d_Text_clear_55 (by decide) ?_
  refine qx_iconst (v := (0 : Int32)) X d_Text_clear_56 (by decide) ?_
  obtain ⟨g15, hw⟩ := hw
  refine qx_callVV (st := []) (As := [.int (1 : Int32), .int (0 : Int32)]) X (t_Law_becomeOneStep (adK := adK) (adV := adV) l D cy b N (qR h13 x9 8) (1 : Int32) (0 : Int32) h13 _ hw) qm_Law_becomeOneStep wm_Text_61 wi_Law_becomeOneStep wl_Law_becomeOneStep qcls0 g15 rfl rfl rfl ⟨Nat.le_of_ble_eq_true rfl, Nat.le_of_ble_eq_true rfl⟩ ⟨Nat.le_refl 0, Nat.le_refl 0⟩ (Nat.le_of_ble_eq_true rfl) rfl d_Text_clear_57 (fun h16 hw => ?_)
  refine qx_aload_n (x := x9) X d_Text_clear_60 rfl 0 rfl ?_
  obtain ⟨g17, hw⟩ := hw
  refine qx_getR X qcls8 g17 9 (by decide) rfl wf_Text_37 d_Text_clear_61 ?_
  refine qx_iconst (v := (1 : Int32)) X d_Text_clear_64 (by decide) ?_
  refine qx_iconst (v := (0 : Int32)) X d_Text_clear_65 (by decide) ?_
  obtain ⟨g18, hw⟩ := hw
  refine qx_callVV (st := []) (As := [.int (1 : Int32), .int (0 : Int32)]) X (t_Law_becomeOneStep (adK := adK) (adV := adV) l D cy b N (qR h16 x9 9) (1 : Int32) (0 : Int32) h16 _ hw) qm_Law_becomeOneStep wm_Text_61 wi_Law_becomeOneStep wl_Law_becomeOneStep qcls0 g18 rfl rfl rfl ⟨Nat.le_of_ble_eq_true rfl, Nat.le_of_ble_eq_true rfl⟩ ⟨Nat.le_refl 0, Nat.le_refl 0⟩ (Nat.le_of_ble_eq_true rfl) rfl d_Text_clear_66 (fun h19 hw => ?_)
  refine qx_aload_n (x := x9) X d_Text_clear_69 rfl 0 rfl ?_
  obtain ⟨g20, hw⟩ := hw
  refine qx_getR X qcls8 g20 10 (by decide) rfl wf_Text_40 d_Text_clear_70 ?_
  refine qx_iconst (v := (2 : Int32)) X d_Text_clear_73 (by decide) ?_
  refine qx_iconst (v := (0 : Int32)) X d_Text_clear_74 (by decide) ?_
  obtain ⟨g21, hw⟩ := hw
  refine qx_callVV (st := []) (As := [.int (2 : Int32), .int (0 : Int32)]) X (t_Law_becomeOneStep (adK := adK) (adV := adV) l D cy b N (qR h19 x9 10) (2 : Int32) (0 : Int32) h19 _ hw) qm_Law_becomeOneStep wm_Text_61 wi_Law_becomeOneStep wl_Law_becomeOneStep qcls0 g21 rfl rfl rfl ⟨Nat.le_of_ble_eq_true rfl, Nat.le_of_ble_eq_true rfl⟩ ⟨Nat.le_refl 0, Nat.le_refl 0⟩ (Nat.le_of_ble_eq_true rfl) rfl d_Text_clear_75 (fun h22 hw => ?_)
  exact qx_vret X hw (Nat.le_refl 0) (Nat.le_refl 0) rfl d_Text_clear_78
set_option maxRecDepth 4000 in
theorem t_Text_isFirstTaken_2 (X : qX p s m args meth c D cy b adK adV prog_10_method_4_code "CoatHangers$Text" 3 (some .boolean) "isFirstTaken") (N k : Nat) (x0 : Nat) (x1 : Int32) (x2 : Int32) (h : qH) (Q : Int32 → qH → Prop)  (hw : w_Text_isFirstTaken_2 N k x0 x1 x2 h Q ) : qW p l e (qrm 0 0 0 0) s m args below meth c D cy b 3 0 0 (MQ below (qQc D cy b qrI Q) args s 0 0 (qA b)) 2 [(0, .inr (.inr (.inl x0))), (1, .inl x1), (2, .inl x2)] [] h := by
  induction k generalizing x0 x1 x2 h with
  | zero => exact hw.elim
  | succ k ih =>
    refine qx_iload_n (x := x2) X d_Text_isFirstTaken_2 rfl 2 rfl ?_
    refine qx_aload_n (x := x0) X d_Text_isFirstTaken_3 rfl 0 rfl ?_
    obtain ⟨g1, hw⟩ := hw
    refine qx_getI X qcls8 g1 3 (by decide) rfl wf_Text_50 d_Text_isFirstTaken_4 ?_
    refine qx_icmp_ge X 28 d_Text_isFirstTaken_7 (by decide) (fun q2 => ?_) (fun q2 => ?_)
    · have hw := hw.1 q2
      refine qx_iconst (v := (0 : Int32)) X d_Text_isFirstTaken_28 (by decide) ?_
      exact qx_zret X hw (Nat.le_refl 0) (Nat.le_refl 0) rfl d_Text_isFirstTaken_29
    · have hw := hw.2 q2
      refine qx_aload_n (x := x0) X d_Text_isFirstTaken_10 rfl 0 rfl ?_
      refine qx_getR X qcls8 g1 6 (by decide) rfl wf_Text_24 d_Text_isFirstTaken_11 ?_
      refine qx_iload_n (x := x2) X d_Text_isFirstTaken_14 rfl 2 rfl ?_
      obtain ⟨g3, hw⟩ := hw
      refine qx_ild X g3 d_Text_isFirstTaken_15 ?_
      refine qx_iload_n (x := x1) X d_Text_isFirstTaken_16 rfl 1 rfl ?_
      refine qx_icmp_ne X 22 d_Text_isFirstTaken_17 (by decide) (fun q4 => ?_) (fun q4 => ?_)
      · have hw := hw.1 q4
        refine qx_iinc (v := (x2 + (1 : Int32))) (L' := [(2, .inl (x2 + (1 : Int32))), (0, .inr (.inr (.inl x0))), (1, .inl x1)]) X d_Text_isFirstTaken_22 2 rfl rfl (by decide) rfl ?_
        refine qx_goto X 2 d_Text_isFirstTaken_25 (by decide) ?_
        refine qx_sub [1, 2, 0] rfl ?_
        exact ih x0 x1 (x2 + (1 : Int32)) h hw
      · have hw := hw.2 q4
        refine qx_iconst (v := (1 : Int32)) X d_Text_isFirstTaken_20 (by decide) ?_
        exact qx_zret X hw (Nat.le_refl 0) (Nat.le_refl 0) rfl d_Text_isFirstTaken_21
set_option maxRecDepth 4000 in
theorem t_Text_isFirstTaken {adK adV : Nat → Nat} (l : Launch) (D : va_G) (cy : Nat → ClassId) (b : Nat) (N : Nat) (x0 : Nat) (x1 : Int32) (h : qH) (Q : Int32 → qH → Prop) (hw : w_Text_isFirstTaken N x0 x1 h Q) : Met l y_Text_isFirstTaken (Cond.code y_Text_isFirstTaken prog_10_method_4_code 3 (some .boolean) :: qT) (qrm 0 0 0 0) (qPc D cy b adK adV h [qr b x0, .int x1]) (qQc D cy b qrI Q) 0 0 (qA b) := by
  refine qmet (L0 := [(0, .inr (.inr (.inl x0))), (1, .inl x1)]) qm_Text_isFirstTaken (plainFor_of_name (by decide)) [.inr (.inr (.inl x0)), .inl x1] rfl (Nat.le_of_ble_eq_true rfl) rfl (fun p e s m args below meth c X => ?_)
  unfold w_Text_isFirstTaken at hw
  refine qx_iconst (v := (0 : Int32)) X d_Text_isFirstTaken_0 (by decide) ?_
  refine qx_istore_n (L' := [(2, .inl (0 : Int32)), (0, .inr (.inr (.inl x0))), (1, .inl x1)]) X d_Text_isFirstTaken_1 rfl (by decide) rfl ?_
  refine qx_sub [1, 2, 0] rfl ?_
  exact t_Text_isFirstTaken_2 X N N x0 x1 (0 : Int32) h Q  hw 
set_option maxRecDepth 4000 in
theorem t_Text_become {adK adV : Nat → Nat} (l : Launch) (D : va_G) (cy : Nat → ClassId) (b : Nat) (N : Nat) (x0 : Nat) (x1 : Nat) (h : qH) (Q : qH → Prop) (hw : w_Text_become N x0 x1 h Q) : Met l y_Text_become (Cond.code y_Text_become prog_10_method_3_code 2 (none) :: qT) (qrm 2 0 0 39) (qPc D cy b adK adV h [qr b x0, qr b x1]) (qQc D cy b qrV (fun (_ : Unit) h => Q h)) 0 0 (qA b) := by
  refine qmet (L0 := [(0, .inr (.inr (.inl x0))), (1, .inr (.inr (.inl x1)))]) qm_Text_become (plainFor_of_name (by decide)) [.inr (.inr (.inl x0)), .inr (.inr (.inl x1))] rfl (Nat.le_of_ble_eq_true rfl) rfl (fun p e s m args below meth c X => ?_)
  unfold w_Text_become at hw
  refine qx_aload_n (x := x0) X d_Text_become_0 rfl 0 rfl ?_
  refine qx_aload_n (x := x1) X d_Text_become_1 rfl 1 rfl ?_
  obtain ⟨g1, hw⟩ := hw
  refine qx_getI X qcls8 g1 0 (by decide) rfl wf_Text_46 d_Text_become_2 ?_
  obtain ⟨g2, hw⟩ := hw
  refine qx_putI X qcls8 g2 0 (by decide) rfl wf_Text_46 rfl rfl rfl d_Text_become_5 ?_
  refine qx_toph (fun h3 eh3 => ?_)
  have hw := hw h3 eh3
  refine qx_aload_n (x := x0) X d_Text_become_8 rfl 0 rfl ?_
  refine qx_aload_n (x := x1) X d_Text_become_9 rfl 1 rfl ?_
  obtain ⟨g4, hw⟩ := hw
  refine qx_getI X qcls8 g4 3 (by decide) rfl wf_Text_50 d_Text_become_10 ?_
  obtain ⟨g5, hw⟩ := hw
  refine qx_putI X qcls8 g5 3 (by decide) rfl wf_Text_50 rfl rfl rfl d_Text_become_13 ?_
  refine qx_toph (fun h6 eh6 => ?_)
  have hw := hw h6 eh6
  refine qx_aload_n (x := x0) X d_Text_become_16 rfl 0 rfl ?_
  refine qx_aload_n (x := x1) X d_Text_become_17 rfl 1 rfl ?_
  obtain ⟨g7, hw⟩ := hw
  refine qx_getI X qcls8 g7 11 (by decide) rfl wf_Text_53 d_Text_become_18 ?_
  obtain ⟨g8, hw⟩ := hw
  refine qx_putI X qcls8 g8 11 (by decide) rfl wf_Text_53 rfl rfl rfl d_Text_become_21 ?_
  refine qx_toph (fun h9 eh9 => ?_)
  have hw := hw h9 eh9
  refine qx_aload_n (x := x0) X d_Text_become_24 rfl 0 rfl ?_
  refine qx_aload_n (x := x1) X d_Text_become_25 rfl 1 rfl ?_
  obtain ⟨g10, hw⟩ := hw
  refine qx_getI X qcls8 g10 12 (by decide) rfl wf_Text_56 d_Text_become_26 ?_
  obtain ⟨g11, hw⟩ := hw
  refine qx_putI X qcls8 g11 12 (by decide) rfl wf_Text_56 rfl rfl rfl d_Text_become_29 ?_
  refine qx_toph (fun h12 eh12 => ?_)
  have hw := hw h12 eh12
  refine qx_aload_n (x := x1) X d_Text_become_32 rfl 1 rfl ?_
  obtain ⟨g13, hw⟩ := hw
  refine qx_getR X qcls8 g13 1 (by decide) rfl wf_Text_9 d_Text_become_33 ?_
  refine qx_iconst (v := (0 : Int32)) X d_Text_become_36 (by decide) ?_
  refine qx_aload_n (x := x0) X d_Text_become_37 rfl 0 rfl ?_
  obtain ⟨g14, hw⟩ := hw
  refine qx_getR X qcls8 g14 1 (by decide) rfl wf_Text_9 d_Text_become_38 ?_
  refine qx_iconst (v := (0 : Int32)) X d_Text_become_41 (by decide) ?_
  refine qx_bipush (v := (7 : Int32)) X d_Text_become_42 (by decide) ?_
  obtain ⟨g15, hw⟩ := hw
  refine qx_copyi X g15 wm_Text_65 (Nat.le_of_ble_eq_true rfl) (Nat.le_of_ble_eq_true rfl) d_Text_become_44 ?_
  refine qx_toph (fun h16 eh16 => ?_)
  have hw := hw h16 eh16
  refine qx_aload_n (x := x1) X d_Text_become_47 rfl 1 rfl ?_
  obtain ⟨g17, hw⟩ := hw
  refine qx_getR X qcls8 g17 2 (by decide) rfl wf_Text_15 d_Text_become_48 ?_
  refine qx_iconst (v := (0 : Int32)) X d_Text_become_51 (by decide) ?_
  refine qx_aload_n (x := x0) X d_Text_become_52 rfl 0 rfl ?_
  obtain ⟨g18, hw⟩ := hw
  refine qx_getR X qcls8 g18 2 (by decide) rfl wf_Text_15 d_Text_become_53 ?_
  refine qx_iconst (v := (0 : Int32)) X d_Text_become_56 (by decide) ?_
  refine qx_bipush (v := (7 : Int32)) X d_Text_become_57 (by decide) ?_
  obtain ⟨g19, hw⟩ := hw
  refine qx_copyi X g19 wm_Text_65 (Nat.le_of_ble_eq_true rfl) (Nat.le_of_ble_eq_true rfl) d_Text_become_59 ?_
  refine qx_toph (fun h20 eh20 => ?_)
  have hw := hw h20 eh20
  refine qx_aload_n (x := x1) X d_Text_become_62 rfl 1 rfl ?_
  obtain ⟨g21, hw⟩ := hw
  refine qx_getR X qcls8 g21 4 (by decide) rfl wf_Text_18 d_Text_become_63 ?_
  refine qx_iconst (v := (0 : Int32)) X d_Text_become_66 (by decide) ?_
  refine qx_aload_n (x := x0) X d_Text_become_67 rfl 0 rfl ?_
  obtain ⟨g22, hw⟩ := hw
  refine qx_getR X qcls8 g22 4 (by decide) rfl wf_Text_18 d_Text_become_68 ?_
  refine qx_iconst (v := (0 : Int32)) X d_Text_become_71 (by decide) ?_
  refine qx_bipush (v := (6 : Int32)) X d_Text_become_72 (by decide) ?_
  obtain ⟨g23, hw⟩ := hw
  refine qx_copyi X g23 wm_Text_65 (Nat.le_of_ble_eq_true rfl) (Nat.le_of_ble_eq_true rfl) d_Text_become_74 ?_
  refine qx_toph (fun h24 eh24 => ?_)
  have hw := hw h24 eh24
  refine qx_aload_n (x := x1) X d_Text_become_77 rfl 1 rfl ?_
  obtain ⟨g25, hw⟩ := hw
  refine qx_getR X qcls8 g25 5 (by decide) rfl wf_Text_21 d_Text_become_78 ?_
  refine qx_iconst (v := (0 : Int32)) X d_Text_become_81 (by decide) ?_
  refine qx_aload_n (x := x0) X d_Text_become_82 rfl 0 rfl ?_
  obtain ⟨g26, hw⟩ := hw
  refine qx_getR X qcls8 g26 5 (by decide) rfl wf_Text_21 d_Text_become_83 ?_
  refine qx_iconst (v := (0 : Int32)) X d_Text_become_86 (by decide) ?_
  refine qx_bipush (v := (6 : Int32)) X d_Text_become_87 (by decide) ?_
  obtain ⟨g27, hw⟩ := hw
  refine qx_copyi X g27 wm_Text_65 (Nat.le_of_ble_eq_true rfl) (Nat.le_of_ble_eq_true rfl) d_Text_become_89 ?_
  refine qx_toph (fun h28 eh28 => ?_)
  have hw := hw h28 eh28
  refine qx_aload_n (x := x1) X d_Text_become_92 rfl 1 rfl ?_
  obtain ⟨g29, hw⟩ := hw
  refine qx_getR X qcls8 g29 6 (by decide) rfl wf_Text_24 d_Text_become_93 ?_
  refine qx_iconst (v := (0 : Int32)) X d_Text_become_96 (by decide) ?_
  refine qx_aload_n (x := x0) X d_Text_become_97 rfl 0 rfl ?_
  obtain ⟨g30, hw⟩ := hw
  refine qx_getR X qcls8 g30 6 (by decide) rfl wf_Text_24 d_Text_become_98 ?_
  refine qx_iconst (v := (0 : Int32)) X d_Text_become_101 (by decide) ?_
  refine qx_bipush (v := (6 : Int32)) X d_Text_become_102 (by decide) ?_
  obtain ⟨g31, hw⟩ := hw
  refine qx_copyi X g31 wm_Text_65 (Nat.le_of_ble_eq_true rfl) (Nat.le_of_ble_eq_true rfl) d_Text_become_104 ?_
  refine qx_toph (fun h32 eh32 => ?_)
  have hw := hw h32 eh32
  refine qx_aload_n (x := x0) X d_Text_become_107 rfl 0 rfl ?_
  obtain ⟨g33, hw⟩ := hw
  refine qx_getR X qcls8 g33 7 (by decide) rfl wf_Text_30 d_Text_become_108 ?_
  refine qx_aload_n (x := x1) X d_Text_become_111 rfl 1 rfl ?_
  obtain ⟨g34, hw⟩ := hw
  refine qx_getR X qcls8 g34 7 (by decide) rfl wf_Text_30 d_Text_become_112 ?_
  obtain ⟨g35, hw⟩ := hw
  refine qx_callVV (st := []) (As := [qr b (qR h32 x1 7)]) X (t_Law_become (adK := adK) (adV := adV) l D cy b N (qR h32 x0 7) (qR h32 x1 7) h32 _ hw) qm_Law_become wm_Text_71 wi_Law_become wl_Law_become qcls0 g35 rfl rfl rfl ⟨Nat.le_of_ble_eq_true rfl, Nat.le_of_ble_eq_true rfl⟩ ⟨Nat.le_refl 0, Nat.le_refl 0⟩ (Nat.le_of_ble_eq_true rfl) rfl d_Text_become_115 (fun h36 hw => ?_)
  refine qx_aload_n (x := x0) X d_Text_become_118 rfl 0 rfl ?_
  obtain ⟨g37, hw⟩ := hw
  refine qx_getR X qcls8 g37 8 (by decide) rfl wf_Text_34 d_Text_become_119 ?_
  refine qx_aload_n (x := x1) X d_Text_become_122 rfl 1 rfl ?_
  obtain ⟨g38, hw⟩ := hw
  refine qx_getR X qcls8 g38 8 (by decide) rfl wf_Text_34 d_Text_become_123 ?_
  obtain ⟨g39, hw⟩ := hw
  refine qx_callVV (st := []) (As := [qr b (qR h36 x1 8)]) X (t_Law_become (adK := adK) (adV := adV) l D cy b N (qR h36 x0 8) (qR h36 x1 8) h36 _ hw) qm_Law_become wm_Text_71 wi_Law_become wl_Law_become qcls0 g39 rfl rfl rfl ⟨Nat.le_of_ble_eq_true rfl, Nat.le_of_ble_eq_true rfl⟩ ⟨Nat.le_refl 0, Nat.le_refl 0⟩ (Nat.le_of_ble_eq_true rfl) rfl d_Text_become_126 (fun h40 hw => ?_)
  refine qx_aload_n (x := x0) X d_Text_become_129 rfl 0 rfl ?_
  obtain ⟨g41, hw⟩ := hw
  refine qx_getR X qcls8 g41 9 (by decide) rfl wf_Text_37 d_Text_become_130 ?_
  refine qx_aload_n (x := x1) X d_Text_become_133 rfl 1 rfl ?_
  obtain ⟨g42, hw⟩ := hw
  refine qx_getR X qcls8 g42 9 (by decide) rfl wf_Text_37 d_Text_become_134 ?_
  obtain ⟨g43, hw⟩ := hw
  refine qx_callVV (st := []) (As := [qr b (qR h40 x1 9)]) X (t_Law_become (adK := adK) (adV := adV) l D cy b N (qR h40 x0 9) (qR h40 x1 9) h40 _ hw) qm_Law_become wm_Text_71 wi_Law_become wl_Law_become qcls0 g43 rfl rfl rfl ⟨Nat.le_of_ble_eq_true rfl, Nat.le_of_ble_eq_true rfl⟩ ⟨Nat.le_refl 0, Nat.le_refl 0⟩ (Nat.le_of_ble_eq_true rfl) rfl d_Text_become_137 (fun h44 hw => ?_)
  refine qx_aload_n (x := x0) X d_Text_become_140 rfl 0 rfl ?_
  obtain ⟨g45, hw⟩ := hw
  refine qx_getR X qcls8 g45 10 (by decide) rfl wf_Text_40 d_Text_become_141 ?_
  refine qx_aload_n (x := x1) X d_Text_become_144 rfl 1 rfl ?_
  obtain ⟨g46, hw⟩ := hw
  refine qx_getR X qcls8 g46 10 (by decide) rfl wf_Text_40 d_Text_become_145 ?_
  obtain ⟨g47, hw⟩ := hw
  refine qx_callVV (st := []) (As := [qr b (qR h44 x1 10)]) X (t_Law_become (adK := adK) (adV := adV) l D cy b N (qR h44 x0 10) (qR h44 x1 10) h44 _ hw) qm_Law_become wm_Text_71 wi_Law_become wl_Law_become qcls0 g47 rfl rfl rfl ⟨Nat.le_of_ble_eq_true rfl, Nat.le_of_ble_eq_true rfl⟩ ⟨Nat.le_refl 0, Nat.le_refl 0⟩ (Nat.le_of_ble_eq_true rfl) rfl d_Text_become_148 (fun h48 hw => ?_)
  exact qx_vret X hw (Nat.le_refl 0) (Nat.le_refl 0) rfl d_Text_become_151
end QG
