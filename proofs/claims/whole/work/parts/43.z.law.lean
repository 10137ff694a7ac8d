/-! the law: written by wip/whole/emit3.py out of its bytecode -/
theorem wc_law_7 : Cond.classLink "CoatHangersLaw" 7 "CoatHangers" ∈ qT := qT_1 (i := 22) (by decide +kernel) rfl
theorem wn_X : Cond.instantiable "CoatHangers" 12 ∈ qT := qT_1 (i := 23) (by decide +kernel) rfl
theorem wz_X : Cond.initialized "CoatHangers" ∈ qT := qT_1 (i := 1) (by decide +kernel) rfl
theorem wm_law_9 : Cond.methodLink "CoatHangersLaw" 9 y_X_init ∈ qT := qT_1 (i := 24) (by decide +kernel) rfl
theorem wc_law_10 : Cond.classLink "CoatHangersLaw" 10 "CoatHangersModel" ∈ qT := qT_6 (i := 20) (by decide +kernel) rfl
theorem wn_M : Cond.instantiable "CoatHangersModel" 71 ∈ qT := qT_6 (i := 21) (by decide +kernel) rfl
theorem wz_M : Cond.initialized "CoatHangersModel" ∈ qT := qT_1 (i := 17) (by decide +kernel) rfl
theorem wm_law_12 : Cond.methodLink "CoatHangersLaw" 12 y_M_init ∈ qT := qT_6 (i := 22) (by decide +kernel) rfl
theorem wm_law_13 : Cond.methodLink "CoatHangersLaw" 13 y_X_feed ∈ qT := qT_3 (i := 14) (by decide +kernel) rfl
theorem wm_law_17 : Cond.methodLink "CoatHangersLaw" 17 y_M_feed ∈ qT := qT_7 (i := 18) (by decide +kernel) rfl
theorem wm_law_18 : Cond.methodLink "CoatHangersLaw" 18 y_X_back ∈ qT := qT_3 (i := 26) (by decide +kernel) rfl
theorem wm_law_22 : Cond.methodLink "CoatHangersLaw" 22 y_M_back ∈ qT := qT_7 (i := 26) (by decide +kernel) rfl
theorem wm_law_23 : Cond.methodLink "CoatHangersLaw" 23 y_X_read ∈ qT := qT_3 (i := 30) (by decide +kernel) rfl
theorem wm_law_27 : Cond.methodLink "CoatHangersLaw" 27 y_M_read ∈ qT := qT_7 (i := 30) (by decide +kernel) rfl
theorem wm_law_28 : Cond.methodLink "CoatHangersLaw" 28 y_X_place ∈ qT := qT_4 (i := 50) (by decide +kernel) rfl
theorem wm_law_31 : Cond.methodLink "CoatHangersLaw" 31 y_M_place ∈ qT := qT_7 (i := 128) (by decide +kernel) rfl
theorem wm_law_32 : Cond.methodLink "CoatHangersLaw" 32 y_X_hanger ∈ qT := qT_4 (i := 54) (by decide +kernel) rfl
theorem wm_law_36 : Cond.methodLink "CoatHangersLaw" 36 y_M_hanger ∈ qT := qT_7 (i := 132) (by decide +kernel) rfl
theorem wm_law_37 : Cond.methodLink "CoatHangersLaw" 37 y_X_person ∈ qT := qT_4 (i := 66) (by decide +kernel) rfl
theorem wm_law_40 : Cond.methodLink "CoatHangersLaw" 40 y_M_person ∈ qT := qT_7 (i := 155) (by decide +kernel) rfl
theorem wm_law_41 : Cond.methodLink "CoatHangersLaw" 41 y_X_tells ∈ qT := qT_4 (i := 90) (by decide +kernel) rfl
theorem wm_law_44 : Cond.methodLink "CoatHangersLaw" 44 y_M_tells ∈ qT := qT_7 (i := 175) (by decide +kernel) rfl
theorem wm_law_45 : Cond.methodLink "CoatHangersLaw" 45 y_X_hang ∈ qT := qT_4 (i := 126) (by decide +kernel) rfl
theorem wm_law_49 : Cond.methodLink "CoatHangersLaw" 49 y_M_hang ∈ qT := qT_7 (i := 201) (by decide +kernel) rfl
theorem wm_law_50 : Cond.methodLink "CoatHangersLaw" 50 y_X_take ∈ qT := qT_4 (i := 145) (by decide +kernel) rfl
theorem wm_law_54 : Cond.methodLink "CoatHangersLaw" 54 y_M_take ∈ qT := qT_7 (i := 213) (by decide +kernel) rfl
theorem wm_law_55 : Cond.methodLink "CoatHangersLaw" 55 y_X_change ∈ qT := qT_4 (i := 149) (by decide +kernel) rfl
theorem wm_law_58 : Cond.methodLink "CoatHangersLaw" 58 y_M_change ∈ qT := qT_7 (i := 217) (by decide +kernel) rfl
theorem wm_law_59 : Cond.methodLink "CoatHangersLaw" 59 y_X_straighten ∈ qT := qT_4 (i := 157) (by decide +kernel) rfl
theorem wm_law_62 : Cond.methodLink "CoatHangersLaw" 62 y_M_straighten ∈ qT := qT_7 (i := 233) (by decide +kernel) rfl
theorem wm_law_63 : Cond.methodLink "CoatHangersLaw" 63 y_X_nights ∈ qT := qT_4 (i := 161) (by decide +kernel) rfl
theorem wm_law_66 : Cond.methodLink "CoatHangersLaw" 66 y_M_nights ∈ qT := qT_7 (i := 237) (by decide +kernel) rfl
theorem wm_law_67 : Cond.methodLink "CoatHangersLaw" 67 y_X_undo ∈ qT := qT_4 (i := 214) (by decide +kernel) rfl
theorem wm_law_71 : Cond.methodLink "CoatHangersLaw" 71 y_M_undo ∈ qT := qT_8 (i := 32) (by decide +kernel) rfl
theorem wm_law_72 : Cond.methodLink "CoatHangersLaw" 72 y_X_hanging ∈ qT := qT_4 (i := 222) (by decide +kernel) rfl
theorem wm_law_75 : Cond.methodLink "CoatHangersLaw" 75 y_M_hanging ∈ qT := qT_8 (i := 36) (by decide +kernel) rfl
theorem wm_law_76 : Cond.methodLink "CoatHangersLaw" 76 y_X_apart ∈ qT := qT_5 (i := 41) (by decide +kernel) rfl
theorem wm_law_79 : Cond.methodLink "CoatHangersLaw" 79 y_M_apart ∈ qT := qT_8 (i := 71) (by decide +kernel) rfl
theorem wm_law_80 : Cond.methodLink "CoatHangersLaw" 80 y_X_ways ∈ qT := qT_5 (i := 45) (by decide +kernel) rfl
theorem wm_law_83 : Cond.methodLink "CoatHangersLaw" 83 y_M_ways ∈ qT := qT_8 (i := 79) (by decide +kernel) rfl
theorem wm_law_84 : Cond.methodLink "CoatHangersLaw" 84 y_X_sets ∈ qT := qT_5 (i := 57) (by decide +kernel) rfl
theorem wm_law_87 : Cond.methodLink "CoatHangersLaw" 87 y_M_sets ∈ qT := qT_8 (i := 83) (by decide +kernel) rfl
theorem wm_law_88 : Cond.methodLink "CoatHangersLaw" 88 y_X_changes ∈ qT := qT_5 (i := 65) (by decide +kernel) rfl
theorem wm_law_91 : Cond.methodLink "CoatHangersLaw" 91 y_M_changes ∈ qT := qT_8 (i := 87) (by decide +kernel) rfl
theorem wm_law_92 : Cond.methodLink "CoatHangersLaw" 92 y_X_themselves ∈ qT := qT_5 (i := 70) (by decide +kernel) rfl
theorem wm_law_95 : Cond.methodLink "CoatHangersLaw" 95 y_M_themselves ∈ qT := qT_8 (i := 92) (by decide +kernel) rfl
theorem wm_law_96 : Cond.methodLink "CoatHangersLaw" 96 y_X_crossed ∈ qT := qT_5 (i := 80) (by decide +kernel) rfl
theorem wm_law_99 : Cond.methodLink "CoatHangersLaw" 99 y_M_crossed ∈ qT := qT_8 (i := 112) (by decide +kernel) rfl
theorem wm_law_100 : Cond.methodLink "CoatHangersLaw" 100 y_X_fit ∈ qT := qT_5 (i := 84) (by decide +kernel) rfl
theorem wm_law_103 : Cond.methodLink "CoatHangersLaw" 103 y_M_fit ∈ qT := qT_8 (i := 120) (by decide +kernel) rfl
theorem wm_law_104 : Cond.methodLink "CoatHangersLaw" 104 y_X_missed ∈ qT := qT_5 (i := 92) (by decide +kernel) rfl
theorem wm_law_107 : Cond.methodLink "CoatHangersLaw" 107 y_M_missed ∈ qT := qT_8 (i := 75) (by decide +kernel) rfl
theorem wm_law_108 : Cond.methodLink "CoatHangersLaw" 108 y_X_crowded ∈ qT := qT_5 (i := 96) (by decide +kernel) rfl
theorem wm_law_111 : Cond.methodLink "CoatHangersLaw" 111 y_M_crowded ∈ qT := qT_8 (i := 124) (by decide +kernel) rfl
theorem wm_law_112 : Cond.methodLink "CoatHangersLaw" 112 y_X_straight ∈ qT := qT_5 (i := 101) (by decide +kernel) rfl
theorem wm_law_115 : Cond.methodLink "CoatHangersLaw" 115 y_M_straight ∈ qT := qT_8 (i := 128) (by decide +kernel) rfl
theorem wm_law_116 : Cond.methodLink "CoatHangersLaw" 116 y_X_bill ∈ qT := qT_5 (i := 105) (by decide +kernel) rfl
theorem wm_law_119 : Cond.methodLink "CoatHangersLaw" 119 y_M_bill ∈ qT := qT_8 (i := 132) (by decide +kernel) rfl
theorem wm_law_120 : Cond.methodLink "CoatHangersLaw" 120 y_X_swap ∈ qT := qT_5 (i := 118) (by decide +kernel) rfl
theorem wm_law_123 : Cond.methodLink "CoatHangersLaw" 123 y_M_swap ∈ qT := qT_8 (i := 140) (by decide +kernel) rfl
theorem wm_law_124 : Cond.methodLink "CoatHangersLaw" 124 y_X_round ∈ qT := qT_5 (i := 126) (by decide +kernel) rfl
theorem wm_law_127 : Cond.methodLink "CoatHangersLaw" 127 y_M_round ∈ qT := qT_8 (i := 104) (by decide +kernel) rfl
theorem wm_law_128 : Cond.methodLink "CoatHangersLaw" 128 y_X_upright ∈ qT := qT_5 (i := 134) (by decide +kernel) rfl
theorem wm_law_131 : Cond.methodLink "CoatHangersLaw" 131 y_M_upright ∈ qT := qT_8 (i := 144) (by decide +kernel) rfl
theorem wm_law_132 : Cond.methodLink "CoatHangersLaw" 132 y_X_holder ∈ qT := qT_5 (i := 138) (by decide +kernel) rfl
theorem wm_law_135 : Cond.methodLink "CoatHangersLaw" 135 y_M_holder ∈ qT := qT_8 (i := 116) (by decide +kernel) rfl
theorem wm_law_136 : Cond.methodLink "CoatHangersLaw" 136 y_X_free ∈ qT := qT_5 (i := 142) (by decide +kernel) rfl
theorem wm_law_139 : Cond.methodLink "CoatHangersLaw" 139 y_M_free ∈ qT := qT_8 (i := 148) (by decide +kernel) rfl
theorem wm_law_140 : Cond.methodLink "CoatHangersLaw" 140 y_X_day ∈ qT := qT_5 (i := 146) (by decide +kernel) rfl
theorem wm_law_143 : Cond.methodLink "CoatHangersLaw" 143 y_M_day ∈ qT := qT_8 (i := 100) (by decide +kernel) rfl
theorem wm_law_144 : Cond.methodLink "CoatHangersLaw" 144 y_X_then ∈ qT := qT_5 (i := 150) (by decide +kernel) rfl
theorem wm_law_148 : Cond.methodLink "CoatHangersLaw" 148 y_M_then ∈ qT := qT_8 (i := 152) (by decide +kernel) rfl
theorem wm_law_149 : Cond.methodLink "CoatHangersLaw" 149 y_X_bentIn ∈ qT := qT_5 (i := 154) (by decide +kernel) rfl
theorem wm_law_152 : Cond.methodLink "CoatHangersLaw" 152 y_M_bentIn ∈ qT := qT_8 (i := 156) (by decide +kernel) rfl
theorem wm_law_153 : Cond.methodLink "CoatHangersLaw" 153 y_X_year ∈ qT := qT_5 (i := 158) (by decide +kernel) rfl
theorem wm_law_156 : Cond.methodLink "CoatHangersLaw" 156 y_M_year ∈ qT := qT_8 (i := 160) (by decide +kernel) rfl
theorem wm_law_157 : Cond.methodLink "CoatHangersLaw" 157 y_X_tell ∈ qT := qT_5 (i := 166) (by decide +kernel) rfl
theorem wm_law_161 : Cond.methodLink "CoatHangersLaw" 161 y_M_tell ∈ qT := qT_8 (i := 164) (by decide +kernel) rfl
theorem wm_law_162 : Cond.methodLink "CoatHangersLaw" 162 y_X_forget ∈ qT := qT_5 (i := 179) (by decide +kernel) rfl
theorem wm_law_165 : Cond.methodLink "CoatHangersLaw" 165 y_M_forget ∈ qT := qT_8 (i := 168) (by decide +kernel) rfl
theorem wm_law_166 : Cond.methodLink "CoatHangersLaw" 166 y_X_two ∈ qT := qT_5 (i := 183) (by decide +kernel) rfl
theorem wm_law_169 : Cond.methodLink "CoatHangersLaw" 169 y_M_two ∈ qT := qT_8 (i := 172) (by decide +kernel) rfl
theorem wm_law_170 : Cond.methodLink "CoatHangersLaw" 170 y_X_ask ∈ qT := qT_5 (i := 207) (by decide +kernel) rfl
theorem wm_law_173 : Cond.methodLink "CoatHangersLaw" 173 y_M_ask ∈ qT := qT_8 (i := 180) (by decide +kernel) rfl
theorem wm_law_174 : Cond.methodLink "CoatHangersLaw" 174 y_X_hold ∈ qT := qT_5 (i := 228) (by decide +kernel) rfl
theorem wm_law_177 : Cond.methodLink "CoatHangersLaw" 177 y_M_hold ∈ qT := qT_8 (i := 188) (by decide +kernel) rfl
theorem wm_law_178 : Cond.methodLink "CoatHangersLaw" 178 y_X_restore ∈ qT := qT_5 (i := 235) (by decide +kernel) rfl
theorem wm_law_181 : Cond.methodLink "CoatHangersLaw" 181 y_M_restore ∈ qT := qT_8 (i := 192) (by decide +kernel) rfl
theorem wm_law_182 : Cond.methodLink "CoatHangersLaw" 182 y_X_count ∈ qT := qT_5 (i := 239) (by decide +kernel) rfl
theorem wm_law_185 : Cond.methodLink "CoatHangersLaw" 185 y_M_count ∈ qT := qT_8 (i := 196) (by decide +kernel) rfl
set_option maxRecDepth 20000 in
def w_law_1098 (xs : Nat → Int32) (Ls : Nat) (N : Nat) (x0 : Nat) (x1 : Nat) (x2 : Nat) (x3 : Int32) (z0 : Int32) (z1 : Int32) (z2 : Int32) (z3 : Nat) (C S : Nat) (h : qH) (Q : Int32 → qH → Prop) (K18 : Nat → Nat → Nat → Int32 → Nat → Nat → qH → Prop) : Prop := (qS h z3 = .inl 11 ∧ C + 0 ≤ 600000 ∧ S + 0 ≤ 7302250 ∧ w_X_tell N z3 z2 z1 z0 h (fun r2 h3 => (vp_in (x3 + (1 : Int32)) Ls ∧ (vp_in (x3 + (2 : Int32)) Ls ∧ (vp_in (x3 + (3 : Int32)) Ls ∧ (((xs ((x3 + (3 : Int32))).toNatClampNeg) = 0 → (qS h3 x2 = .inl 12 ∧ C + 0 ≤ 600000 ∧ S + 0 ≤ 7302250 ∧ w_M_tell N x2 (xs ((x3 + (1 : Int32))).toNatClampNeg) (xs ((x3 + (2 : Int32))).toNatClampNeg) (0 : Int32) h3 (fun r11 h12 => ((r2 = r11 → (K18 x0 x1 x2 (x3 + (6 : Int32)) C S h12)) ∧ (¬ r2 = r11 → (C ≤ 600000 ∧ S ≤ 7302250 ∧ (0 : Int32) = 1)))))) ∧ (¬ (xs ((x3 + (3 : Int32))).toNatClampNeg) = 0 → (qS h3 x2 = .inl 12 ∧ C + 0 ≤ 600000 ∧ S + 0 ≤ 7302250 ∧ w_M_tell N x2 (xs ((x3 + (1 : Int32))).toNatClampNeg) (xs ((x3 + (2 : Int32))).toNatClampNeg) (1 : Int32) h3 (fun r19 h20 => ((r2 = r19 → (K18 x0 x1 x2 (x3 + (6 : Int32)) C S h20)) ∧ (¬ r2 = r19 → (C ≤ 600000 ∧ S ≤ 7302250 ∧ (0 : Int32) = 1))))))))))))
set_option maxRecDepth 20000 in
def w_law_18 (xs : Nat → Int32) (Ls : Nat) (N : Nat) : Nat → Nat → Nat → Nat → Int32 → Nat → Nat → qH → (Int32 → qH → Prop) → Prop
  | 0 => fun _ _ _ _ _ _ _ _ => False
  | k + 1 => fun x0 x1 x2 x3 C S h Q => ((((nI Ls) - (6 : Int32)) < x3 → (C ≤ 600000 ∧ S ≤ 7302250 ∧ (1 : Int32) = 1)) ∧ (¬ ((nI Ls) - (6 : Int32)) < x3 → (vp_in x3 Ls ∧ (∀ y5 : Int32, y5 = ((xs (x3).toNatClampNeg) &&& (63 : Int32)) → ((y5 = (0 : Int32) → (vp_in (x3 + (1 : Int32)) Ls ∧ (vp_in (x3 + (2 : Int32)) Ls ∧ (vp_in (x3 + (3 : Int32)) Ls ∧ (vp_in (x3 + (4 : Int32)) Ls ∧ (vp_in (x3 + (5 : Int32)) Ls ∧ (qS h x1 = .inl 11 ∧ C + 0 ≤ 600000 ∧ S + 0 ≤ 7302250 ∧ w_X_feed N x1 (xs ((x3 + (1 : Int32))).toNatClampNeg) (xs ((x3 + (2 : Int32))).toNatClampNeg) (xs ((x3 + (3 : Int32))).toNatClampNeg) (xs ((x3 + (4 : Int32))).toNatClampNeg) (xs ((x3 + (5 : Int32))).toNatClampNeg) h (fun r13 h14 => (qS h14 x2 = .inl 12 ∧ C + 0 ≤ 600000 ∧ S + 0 ≤ 7302250 ∧ w_M_feed N x2 (xs ((x3 + (1 : Int32))).toNatClampNeg) (xs ((x3 + (2 : Int32))).toNatClampNeg) (xs ((x3 + (3 : Int32))).toNatClampNeg) (xs ((x3 + (4 : Int32))).toNatClampNeg) (xs ((x3 + (5 : Int32))).toNatClampNeg) h14 (fun r18 h19 => ((r13 = r18 → (w_law_18 xs Ls N k x0 x1 x2 (x3 + (6 : Int32)) C S h19 Q)) ∧ (¬ r13 = r18 → (C ≤ 600000 ∧ S ≤ 7302250 ∧ (0 : Int32) = 1))))))))))))) ∧ (¬ y5 = (0 : Int32) → ((y5 = (1 : Int32) → (vp_in (x3 + (1 : Int32)) Ls ∧ (qS h x1 = .inl 11 ∧ C + 0 ≤ 600000 ∧ S + 0 ≤ 7302250 ∧ w_X_back N x1 (xs ((x3 + (1 : Int32))).toNatClampNeg) h (fun r28 h29 => (qS h29 x2 = .inl 12 ∧ C + 0 ≤ 600000 ∧ S + 0 ≤ 7302250 ∧ w_M_back N x2 (xs ((x3 + (1 : Int32))).toNatClampNeg) h29 (fun r33 h34 => ((r28 = r33 → (w_law_18 xs Ls N k x0 x1 x2 (x3 + (6 : Int32)) C S h34 Q)) ∧ (¬ r28 = r33 → (C ≤ 600000 ∧ S ≤ 7302250 ∧ (0 : Int32) = 1))))))))) ∧ (¬ y5 = (1 : Int32) → ((y5 = (2 : Int32) → (qS h x1 = .inl 11 ∧ C + 0 ≤ 600000 ∧ S + 0 ≤ 7302250 ∧ w_X_read N x1 h (fun r42 h43 => (qS h43 x2 = .inl 12 ∧ C + 0 ≤ 600000 ∧ S + 0 ≤ 7302250 ∧ w_M_read N x2 h43 (fun r47 h48 => ((r42 = r47 → (w_law_18 xs Ls N k x0 x1 x2 (x3 + (6 : Int32)) C S h48 Q)) ∧ (¬ r42 = r47 → (C ≤ 600000 ∧ S ≤ 7302250 ∧ (0 : Int32) = 1)))))))) ∧ (¬ y5 = (2 : Int32) → ((y5 = (3 : Int32) → (qS h x1 = .inl 11 ∧ C + 0 ≤ 600000 ∧ S + 0 ≤ 7302250 ∧ w_X_place N x1 h (fun r56 h57 => (qS h57 x2 = .inl 12 ∧ C + 0 ≤ 600000 ∧ S + 0 ≤ 7302250 ∧ w_M_place N x2 h57 (fun r61 h62 => ((r56 = r61 → (w_law_18 xs Ls N k x0 x1 x2 (x3 + (6 : Int32)) C S h62 Q)) ∧ (¬ r56 = r61 → (C ≤ 600000 ∧ S ≤ 7302250 ∧ (0 : Int32) = 1)))))))) ∧ (¬ y5 = (3 : Int32) → ((y5 = (4 : Int32) → (vp_in (x3 + (1 : Int32)) Ls ∧ (vp_in (x3 + (2 : Int32)) Ls ∧ (qS h x1 = .inl 11 ∧ C + 0 ≤ 600000 ∧ S + 0 ≤ 7302250 ∧ w_X_hanger N x1 (xs ((x3 + (1 : Int32))).toNatClampNeg) (xs ((x3 + (2 : Int32))).toNatClampNeg) h (fun r72 h73 => (qS h73 x2 = .inl 12 ∧ C + 0 ≤ 600000 ∧ S + 0 ≤ 7302250 ∧ w_M_hanger N x2 (xs ((x3 + (1 : Int32))).toNatClampNeg) (xs ((x3 + (2 : Int32))).toNatClampNeg) h73 (fun r77 h78 => ((r72 = r77 → (w_law_18 xs Ls N k x0 x1 x2 (x3 + (6 : Int32)) C S h78 Q)) ∧ (¬ r72 = r77 → (C ≤ 600000 ∧ S ≤ 7302250 ∧ (0 : Int32) = 1)))))))))) ∧ (¬ y5 = (4 : Int32) → ((y5 = (5 : Int32) → (vp_in (x3 + (1 : Int32)) Ls ∧ (vp_in (x3 + (2 : Int32)) Ls ∧ (qS h x1 = .inl 11 ∧ C + 0 ≤ 600000 ∧ S + 0 ≤ 7302250 ∧ w_X_person N x1 (xs ((x3 + (1 : Int32))).toNatClampNeg) (xs ((x3 + (2 : Int32))).toNatClampNeg) h (fun r88 h89 => (qS h89 x2 = .inl 12 ∧ C + 0 ≤ 600000 ∧ S + 0 ≤ 7302250 ∧ w_M_person N x2 (xs ((x3 + (1 : Int32))).toNatClampNeg) (xs ((x3 + (2 : Int32))).toNatClampNeg) h89 (fun r93 h94 => ((r88 = r93 → (w_law_18 xs Ls N k x0 x1 x2 (x3 + (6 : Int32)) C S h94 Q)) ∧ (¬ r88 = r93 → (C ≤ 600000 ∧ S ≤ 7302250 ∧ (0 : Int32) = 1)))))))))) ∧ (¬ y5 = (5 : Int32) → ((y5 = (6 : Int32) → (vp_in (x3 + (1 : Int32)) Ls ∧ (vp_in (x3 + (2 : Int32)) Ls ∧ (qS h x1 = .inl 11 ∧ C + 0 ≤ 600000 ∧ S + 0 ≤ 7302250 ∧ w_X_tells N x1 (xs ((x3 + (1 : Int32))).toNatClampNeg) (xs ((x3 + (2 : Int32))).toNatClampNeg) h (fun r104 h105 => (qS h105 x2 = .inl 12 ∧ C + 0 ≤ 600000 ∧ S + 0 ≤ 7302250 ∧ w_M_tells N x2 (xs ((x3 + (1 : Int32))).toNatClampNeg) (xs ((x3 + (2 : Int32))).toNatClampNeg) h105 (fun r109 h110 => ((r104 = r109 → (w_law_18 xs Ls N k x0 x1 x2 (x3 + (6 : Int32)) C S h110 Q)) ∧ (¬ r104 = r109 → (C ≤ 600000 ∧ S ≤ 7302250 ∧ (0 : Int32) = 1)))))))))) ∧ (¬ y5 = (6 : Int32) → ((y5 = (7 : Int32) → (vp_in (x3 + (1 : Int32)) Ls ∧ (vp_in (x3 + (2 : Int32)) Ls ∧ (qS h x1 = .inl 11 ∧ C + 0 ≤ 600000 ∧ S + 0 ≤ 7302250 ∧ w_X_hang N x1 (xs ((x3 + (1 : Int32))).toNatClampNeg) (xs ((x3 + (2 : Int32))).toNatClampNeg) h (fun r120 h121 => (qS h121 x2 = .inl 12 ∧ C + 0 ≤ 600000 ∧ S + 0 ≤ 7302250 ∧ w_M_hang N x2 (xs ((x3 + (1 : Int32))).toNatClampNeg) (xs ((x3 + (2 : Int32))).toNatClampNeg) h121 (fun r125 h126 => ((r120 = r125 → (w_law_18 xs Ls N k x0 x1 x2 (x3 + (6 : Int32)) C S h126 Q)) ∧ (¬ r120 = r125 → (C ≤ 600000 ∧ S ≤ 7302250 ∧ (0 : Int32) = 1)))))))))) ∧ (¬ y5 = (7 : Int32) → ((y5 = (8 : Int32) → (vp_in (x3 + (1 : Int32)) Ls ∧ (qS h x1 = .inl 11 ∧ C + 0 ≤ 600000 ∧ S + 0 ≤ 7302250 ∧ w_X_take N x1 (xs ((x3 + (1 : Int32))).toNatClampNeg) h (fun r135 h136 => (qS h136 x2 = .inl 12 ∧ C + 0 ≤ 600000 ∧ S + 0 ≤ 7302250 ∧ w_M_take N x2 (xs ((x3 + (1 : Int32))).toNatClampNeg) h136 (fun r140 h141 => ((r135 = r140 → (w_law_18 xs Ls N k x0 x1 x2 (x3 + (6 : Int32)) C S h141 Q)) ∧ (¬ r135 = r140 → (C ≤ 600000 ∧ S ≤ 7302250 ∧ (0 : Int32) = 1))))))))) ∧ (¬ y5 = (8 : Int32) → ((y5 = (9 : Int32) → (vp_in (x3 + (1 : Int32)) Ls ∧ (vp_in (x3 + (2 : Int32)) Ls ∧ (qS h x1 = .inl 11 ∧ C + 0 ≤ 600000 ∧ S + 0 ≤ 7302250 ∧ w_X_change N x1 (xs ((x3 + (1 : Int32))).toNatClampNeg) (xs ((x3 + (2 : Int32))).toNatClampNeg) h (fun r151 h152 => (qS h152 x2 = .inl 12 ∧ C + 0 ≤ 600000 ∧ S + 0 ≤ 7302250 ∧ w_M_change N x2 (xs ((x3 + (1 : Int32))).toNatClampNeg) (xs ((x3 + (2 : Int32))).toNatClampNeg) h152 (fun r156 h157 => ((r151 = r156 → (w_law_18 xs Ls N k x0 x1 x2 (x3 + (6 : Int32)) C S h157 Q)) ∧ (¬ r151 = r156 → (C ≤ 600000 ∧ S ≤ 7302250 ∧ (0 : Int32) = 1)))))))))) ∧ (¬ y5 = (9 : Int32) → ((y5 = (10 : Int32) → (vp_in (x3 + (1 : Int32)) Ls ∧ (qS h x1 = .inl 11 ∧ C + 0 ≤ 600000 ∧ S + 0 ≤ 7302250 ∧ w_X_straighten N x1 (xs ((x3 + (1 : Int32))).toNatClampNeg) h (fun r166 h167 => (qS h167 x2 = .inl 12 ∧ C + 0 ≤ 600000 ∧ S + 0 ≤ 7302250 ∧ w_M_straighten N x2 (xs ((x3 + (1 : Int32))).toNatClampNeg) h167 (fun r171 h172 => ((r166 = r171 → (w_law_18 xs Ls N k x0 x1 x2 (x3 + (6 : Int32)) C S h172 Q)) ∧ (¬ r166 = r171 → (C ≤ 600000 ∧ S ≤ 7302250 ∧ (0 : Int32) = 1))))))))) ∧ (¬ y5 = (10 : Int32) → ((y5 = (11 : Int32) → (vp_in (x3 + (1 : Int32)) Ls ∧ (qS h x1 = .inl 11 ∧ C + 0 ≤ 600000 ∧ S + 0 ≤ 7302250 ∧ w_X_nights N x1 (xs ((x3 + (1 : Int32))).toNatClampNeg) h (fun r181 h182 => (qS h182 x2 = .inl 12 ∧ C + 0 ≤ 600000 ∧ S + 0 ≤ 7302250 ∧ w_M_nights N x2 (xs ((x3 + (1 : Int32))).toNatClampNeg) h182 (fun r186 h187 => ((r181 = r186 → (w_law_18 xs Ls N k x0 x1 x2 (x3 + (6 : Int32)) C S h187 Q)) ∧ (¬ r181 = r186 → (C ≤ 600000 ∧ S ≤ 7302250 ∧ (0 : Int32) = 1))))))))) ∧ (¬ y5 = (11 : Int32) → ((y5 = (12 : Int32) → (qS h x1 = .inl 11 ∧ C + 0 ≤ 600000 ∧ S + 0 ≤ 7302250 ∧ w_X_undo N x1 h (fun r195 h196 => (qS h196 x2 = .inl 12 ∧ C + 0 ≤ 600000 ∧ S + 0 ≤ 7302250 ∧ w_M_undo N x2 h196 (fun r200 h201 => ((r195 = r200 → (w_law_18 xs Ls N k x0 x1 x2 (x3 + (6 : Int32)) C S h201 Q)) ∧ (¬ r195 = r200 → (C ≤ 600000 ∧ S ≤ 7302250 ∧ (0 : Int32) = 1)))))))) ∧ (¬ y5 = (12 : Int32) → ((y5 = (13 : Int32) → (vp_in (x3 + (1 : Int32)) Ls ∧ (qS h x1 = .inl 11 ∧ C + 0 ≤ 600000 ∧ S + 0 ≤ 7302250 ∧ w_X_hanging N x1 (xs ((x3 + (1 : Int32))).toNatClampNeg) h (fun r210 h211 => (qS h211 x2 = .inl 12 ∧ C + 0 ≤ 600000 ∧ S + 0 ≤ 7302250 ∧ w_M_hanging N x2 (xs ((x3 + (1 : Int32))).toNatClampNeg) h211 (fun r215 h216 => ((r210 = r215 → (w_law_18 xs Ls N k x0 x1 x2 (x3 + (6 : Int32)) C S h216 Q)) ∧ (¬ r210 = r215 → (C ≤ 600000 ∧ S ≤ 7302250 ∧ (0 : Int32) = 1))))))))) ∧ (¬ y5 = (13 : Int32) → ((y5 = (14 : Int32) → (vp_in (x3 + (1 : Int32)) Ls ∧ (qS h x1 = .inl 11 ∧ C + 0 ≤ 600000 ∧ S + 0 ≤ 7302250 ∧ w_X_apart N x1 (xs ((x3 + (1 : Int32))).toNatClampNeg) h (fun r225 h226 => (qS h226 x2 = .inl 12 ∧ C + 0 ≤ 600000 ∧ S + 0 ≤ 7302250 ∧ w_M_apart N x2 (xs ((x3 + (1 : Int32))).toNatClampNeg) h226 (fun r230 h231 => ((r225 = r230 → (w_law_18 xs Ls N k x0 x1 x2 (x3 + (6 : Int32)) C S h231 Q)) ∧ (¬ r225 = r230 → (C ≤ 600000 ∧ S ≤ 7302250 ∧ (0 : Int32) = 1))))))))) ∧ (¬ y5 = (14 : Int32) → ((y5 = (15 : Int32) → (vp_in (x3 + (1 : Int32)) Ls ∧ (qS h x1 = .inl 11 ∧ C + 0 ≤ 600000 ∧ S + 0 ≤ 7302250 ∧ w_X_ways N x1 (xs ((x3 + (1 : Int32))).toNatClampNeg) h (fun r240 h241 => (qS h241 x2 = .inl 12 ∧ C + 0 ≤ 600000 ∧ S + 0 ≤ 7302250 ∧ w_M_ways N x2 (xs ((x3 + (1 : Int32))).toNatClampNeg) h241 (fun r245 h246 => ((r240 = r245 → (w_law_18 xs Ls N k x0 x1 x2 (x3 + (6 : Int32)) C S h246 Q)) ∧ (¬ r240 = r245 → (C ≤ 600000 ∧ S ≤ 7302250 ∧ (0 : Int32) = 1))))))))) ∧ (¬ y5 = (15 : Int32) → ((y5 = (16 : Int32) → (qS h x1 = .inl 11 ∧ C + 0 ≤ 600000 ∧ S + 0 ≤ 7302250 ∧ w_X_sets N x1 h (fun r254 h255 => (qS h255 x2 = .inl 12 ∧ C + 0 ≤ 600000 ∧ S + 0 ≤ 7302250 ∧ w_M_sets N x2 h255 (fun r259 h260 => ((r254 = r259 → (w_law_18 xs Ls N k x0 x1 x2 (x3 + (6 : Int32)) C S h260 Q)) ∧ (¬ r254 = r259 → (C ≤ 600000 ∧ S ≤ 7302250 ∧ (0 : Int32) = 1)))))))) ∧ (¬ y5 = (16 : Int32) → ((y5 = (17 : Int32) → (qS h x1 = .inl 11 ∧ C + 0 ≤ 600000 ∧ S + 0 ≤ 7302250 ∧ w_X_changes N x1 h (fun r268 h269 => (qS h269 x2 = .inl 12 ∧ C + 0 ≤ 600000 ∧ S + 0 ≤ 7302250 ∧ w_M_changes N x2 h269 (fun r273 h274 => ((r268 = r273 → (w_law_18 xs Ls N k x0 x1 x2 (x3 + (6 : Int32)) C S h274 Q)) ∧ (¬ r268 = r273 → (C ≤ 600000 ∧ S ≤ 7302250 ∧ (0 : Int32) = 1)))))))) ∧ (¬ y5 = (17 : Int32) → ((y5 = (18 : Int32) → (qS h x1 = .inl 11 ∧ C + 0 ≤ 600000 ∧ S + 0 ≤ 7302250 ∧ w_X_themselves N x1 h (fun r282 h283 => (qS h283 x2 = .inl 12 ∧ C + 0 ≤ 600000 ∧ S + 0 ≤ 7302250 ∧ w_M_themselves N x2 h283 (fun r287 h288 => ((r282 = r287 → (w_law_18 xs Ls N k x0 x1 x2 (x3 + (6 : Int32)) C S h288 Q)) ∧ (¬ r282 = r287 → (C ≤ 600000 ∧ S ≤ 7302250 ∧ (0 : Int32) = 1)))))))) ∧ (¬ y5 = (18 : Int32) → ((y5 = (19 : Int32) → (vp_in (x3 + (1 : Int32)) Ls ∧ (qS h x1 = .inl 11 ∧ C + 0 ≤ 600000 ∧ S + 0 ≤ 7302250 ∧ w_X_crossed N x1 (xs ((x3 + (1 : Int32))).toNatClampNeg) h (fun r297 h298 => (qS h298 x2 = .inl 12 ∧ C + 0 ≤ 600000 ∧ S + 0 ≤ 7302250 ∧ w_M_crossed N x2 (xs ((x3 + (1 : Int32))).toNatClampNeg) h298 (fun r302 h303 => ((r297 = r302 → (w_law_18 xs Ls N k x0 x1 x2 (x3 + (6 : Int32)) C S h303 Q)) ∧ (¬ r297 = r302 → (C ≤ 600000 ∧ S ≤ 7302250 ∧ (0 : Int32) = 1))))))))) ∧ (¬ y5 = (19 : Int32) → ((y5 = (20 : Int32) → (vp_in (x3 + (1 : Int32)) Ls ∧ (vp_in (x3 + (2 : Int32)) Ls ∧ (qS h x1 = .inl 11 ∧ C + 0 ≤ 600000 ∧ S + 0 ≤ 7302250 ∧ w_X_fit N x1 (xs ((x3 + (1 : Int32))).toNatClampNeg) (xs ((x3 + (2 : Int32))).toNatClampNeg) h (fun r313 h314 => (qS h314 x2 = .inl 12 ∧ C + 0 ≤ 600000 ∧ S + 0 ≤ 7302250 ∧ w_M_fit N x2 (xs ((x3 + (1 : Int32))).toNatClampNeg) (xs ((x3 + (2 : Int32))).toNatClampNeg) h314 (fun r318 h319 => ((r313 = r318 → (w_law_18 xs Ls N k x0 x1 x2 (x3 + (6 : Int32)) C S h319 Q)) ∧ (¬ r313 = r318 → (C ≤ 600000 ∧ S ≤ 7302250 ∧ (0 : Int32) = 1)))))))))) ∧ (¬ y5 = (20 : Int32) → ((y5 = (21 : Int32) → (vp_in (x3 + (1 : Int32)) Ls ∧ (qS h x1 = .inl 11 ∧ C + 0 ≤ 600000 ∧ S + 0 ≤ 7302250 ∧ w_X_missed N x1 (xs ((x3 + (1 : Int32))).toNatClampNeg) h (fun r328 h329 => (qS h329 x2 = .inl 12 ∧ C + 0 ≤ 600000 ∧ S + 0 ≤ 7302250 ∧ w_M_missed N x2 (xs ((x3 + (1 : Int32))).toNatClampNeg) h329 (fun r333 h334 => ((r328 = r333 → (w_law_18 xs Ls N k x0 x1 x2 (x3 + (6 : Int32)) C S h334 Q)) ∧ (¬ r328 = r333 → (C ≤ 600000 ∧ S ≤ 7302250 ∧ (0 : Int32) = 1))))))))) ∧ (¬ y5 = (21 : Int32) → ((y5 = (22 : Int32) → (vp_in (x3 + (1 : Int32)) Ls ∧ (qS h x1 = .inl 11 ∧ C + 0 ≤ 600000 ∧ S + 0 ≤ 7302250 ∧ w_X_crowded N x1 (xs ((x3 + (1 : Int32))).toNatClampNeg) h (fun r343 h344 => (qS h344 x2 = .inl 12 ∧ C + 0 ≤ 600000 ∧ S + 0 ≤ 7302250 ∧ w_M_crowded N x2 (xs ((x3 + (1 : Int32))).toNatClampNeg) h344 (fun r348 h349 => ((r343 = r348 → (w_law_18 xs Ls N k x0 x1 x2 (x3 + (6 : Int32)) C S h349 Q)) ∧ (¬ r343 = r348 → (C ≤ 600000 ∧ S ≤ 7302250 ∧ (0 : Int32) = 1))))))))) ∧ (¬ y5 = (22 : Int32) → ((y5 = (23 : Int32) → (qS h x1 = .inl 11 ∧ C + 0 ≤ 600000 ∧ S + 0 ≤ 7302250 ∧ w_X_straight N x1 h (fun r357 h358 => (qS h358 x2 = .inl 12 ∧ C + 0 ≤ 600000 ∧ S + 0 ≤ 7302250 ∧ w_M_straight N x2 h358 (fun r362 h363 => ((r357 = r362 → (w_law_18 xs Ls N k x0 x1 x2 (x3 + (6 : Int32)) C S h363 Q)) ∧ (¬ r357 = r362 → (C ≤ 600000 ∧ S ≤ 7302250 ∧ (0 : Int32) = 1)))))))) ∧ (¬ y5 = (23 : Int32) → ((y5 = (24 : Int32) → (vp_in (x3 + (1 : Int32)) Ls ∧ (qS h x1 = .inl 11 ∧ C + 0 ≤ 600000 ∧ S + 0 ≤ 7302250 ∧ w_X_bill N x1 (xs ((x3 + (1 : Int32))).toNatClampNeg) h (fun r372 h373 => (qS h373 x2 = .inl 12 ∧ C + 0 ≤ 600000 ∧ S + 0 ≤ 7302250 ∧ w_M_bill N x2 (xs ((x3 + (1 : Int32))).toNatClampNeg) h373 (fun r377 h378 => ((r372 = r377 → (w_law_18 xs Ls N k x0 x1 x2 (x3 + (6 : Int32)) C S h378 Q)) ∧ (¬ r372 = r377 → (C ≤ 600000 ∧ S ≤ 7302250 ∧ (0 : Int32) = 1))))))))) ∧ (¬ y5 = (24 : Int32) → ((y5 = (25 : Int32) → (vp_in (x3 + (1 : Int32)) Ls ∧ (qS h x1 = .inl 11 ∧ C + 0 ≤ 600000 ∧ S + 0 ≤ 7302250 ∧ w_X_swap N x1 (xs ((x3 + (1 : Int32))).toNatClampNeg) h (fun r387 h388 => (qS h388 x2 = .inl 12 ∧ C + 0 ≤ 600000 ∧ S + 0 ≤ 7302250 ∧ w_M_swap N x2 (xs ((x3 + (1 : Int32))).toNatClampNeg) h388 (fun r392 h393 => ((r387 = r392 → (w_law_18 xs Ls N k x0 x1 x2 (x3 + (6 : Int32)) C S h393 Q)) ∧ (¬ r387 = r392 → (C ≤ 600000 ∧ S ≤ 7302250 ∧ (0 : Int32) = 1))))))))) ∧ (¬ y5 = (25 : Int32) → ((y5 = (26 : Int32) → (qS h x1 = .inl 11 ∧ C + 0 ≤ 600000 ∧ S + 0 ≤ 7302250 ∧ w_X_round N x1 h (fun r401 h402 => (qS h402 x2 = .inl 12 ∧ C + 0 ≤ 600000 ∧ S + 0 ≤ 7302250 ∧ w_M_round N x2 h402 (fun r406 h407 => ((r401 = r406 → (w_law_18 xs Ls N k x0 x1 x2 (x3 + (6 : Int32)) C S h407 Q)) ∧ (¬ r401 = r406 → (C ≤ 600000 ∧ S ≤ 7302250 ∧ (0 : Int32) = 1)))))))) ∧ (¬ y5 = (26 : Int32) → ((y5 = (27 : Int32) → (vp_in (x3 + (1 : Int32)) Ls ∧ (vp_in (x3 + (2 : Int32)) Ls ∧ (qS h x1 = .inl 11 ∧ C + 0 ≤ 600000 ∧ S + 0 ≤ 7302250 ∧ w_X_upright N x1 (xs ((x3 + (1 : Int32))).toNatClampNeg) (xs ((x3 + (2 : Int32))).toNatClampNeg) h (fun r417 h418 => (qS h418 x2 = .inl 12 ∧ C + 0 ≤ 600000 ∧ S + 0 ≤ 7302250 ∧ w_M_upright N x2 (xs ((x3 + (1 : Int32))).toNatClampNeg) (xs ((x3 + (2 : Int32))).toNatClampNeg) h418 (fun r422 h423 => ((r417 = r422 → (w_law_18 xs Ls N k x0 x1 x2 (x3 + (6 : Int32)) C S h423 Q)) ∧ (¬ r417 = r422 → (C ≤ 600000 ∧ S ≤ 7302250 ∧ (0 : Int32) = 1)))))))))) ∧ (¬ y5 = (27 : Int32) → ((y5 = (28 : Int32) → (vp_in (x3 + (1 : Int32)) Ls ∧ (qS h x1 = .inl 11 ∧ C + 0 ≤ 600000 ∧ S + 0 ≤ 7302250 ∧ w_X_holder N x1 (xs ((x3 + (1 : Int32))).toNatClampNeg) h (fun r432 h433 => (qS h433 x2 = .inl 12 ∧ C + 0 ≤ 600000 ∧ S + 0 ≤ 7302250 ∧ w_M_holder N x2 (xs ((x3 + (1 : Int32))).toNatClampNeg) h433 (fun r437 h438 => ((r432 = r437 → (w_law_18 xs Ls N k x0 x1 x2 (x3 + (6 : Int32)) C S h438 Q)) ∧ (¬ r432 = r437 → (C ≤ 600000 ∧ S ≤ 7302250 ∧ (0 : Int32) = 1))))))))) ∧ (¬ y5 = (28 : Int32) → ((y5 = (29 : Int32) → (vp_in (x3 + (1 : Int32)) Ls ∧ (qS h x1 = .inl 11 ∧ C + 0 ≤ 600000 ∧ S + 0 ≤ 7302250 ∧ w_X_free N x1 (xs ((x3 + (1 : Int32))).toNatClampNeg) h (fun r447 h448 => (qS h448 x2 = .inl 12 ∧ C + 0 ≤ 600000 ∧ S + 0 ≤ 7302250 ∧ w_M_free N x2 (xs ((x3 + (1 : Int32))).toNatClampNeg) h448 (fun r452 h453 => ((r447 = r452 → (w_law_18 xs Ls N k x0 x1 x2 (x3 + (6 : Int32)) C S h453 Q)) ∧ (¬ r447 = r452 → (C ≤ 600000 ∧ S ≤ 7302250 ∧ (0 : Int32) = 1))))))))) ∧ (¬ y5 = (29 : Int32) → ((y5 = (30 : Int32) → (vp_in (x3 + (1 : Int32)) Ls ∧ (qS h x1 = .inl 11 ∧ C + 0 ≤ 600000 ∧ S + 0 ≤ 7302250 ∧ w_X_day N x1 (xs ((x3 + (1 : Int32))).toNatClampNeg) h (fun r462 h463 => (qS h463 x2 = .inl 12 ∧ C + 0 ≤ 600000 ∧ S + 0 ≤ 7302250 ∧ w_M_day N x2 (xs ((x3 + (1 : Int32))).toNatClampNeg) h463 (fun r467 h468 => ((r462 = r467 → (w_law_18 xs Ls N k x0 x1 x2 (x3 + (6 : Int32)) C S h468 Q)) ∧ (¬ r462 = r467 → (C ≤ 600000 ∧ S ≤ 7302250 ∧ (0 : Int32) = 1))))))))) ∧ (¬ y5 = (30 : Int32) → ((y5 = (31 : Int32) → (vp_in (x3 + (1 : Int32)) Ls ∧ (vp_in (x3 + (2 : Int32)) Ls ∧ (vp_in (x3 + (3 : Int32)) Ls ∧ (qS h x1 = .inl 11 ∧ C + 0 ≤ 600000 ∧ S + 0 ≤ 7302250 ∧ w_X_then N x1 (xs ((x3 + (1 : Int32))).toNatClampNeg) (xs ((x3 + (2 : Int32))).toNatClampNeg) (xs ((x3 + (3 : Int32))).toNatClampNeg) h (fun r479 h480 => (qS h480 x2 = .inl 12 ∧ C + 0 ≤ 600000 ∧ S + 0 ≤ 7302250 ∧ w_M_then N x2 (xs ((x3 + (1 : Int32))).toNatClampNeg) (xs ((x3 + (2 : Int32))).toNatClampNeg) (xs ((x3 + (3 : Int32))).toNatClampNeg) h480 (fun r484 h485 => ((r479 = r484 → (w_law_18 xs Ls N k x0 x1 x2 (x3 + (6 : Int32)) C S h485 Q)) ∧ (¬ r479 = r484 → (C ≤ 600000 ∧ S ≤ 7302250 ∧ (0 : Int32) = 1))))))))))) ∧ (¬ y5 = (31 : Int32) → ((y5 = (32 : Int32) → (vp_in (x3 + (1 : Int32)) Ls ∧ (vp_in (x3 + (2 : Int32)) Ls ∧ (qS h x1 = .inl 11 ∧ C + 0 ≤ 600000 ∧ S + 0 ≤ 7302250 ∧ w_X_bentIn N x1 (xs ((x3 + (1 : Int32))).toNatClampNeg) (xs ((x3 + (2 : Int32))).toNatClampNeg) h (fun r495 h496 => (qS h496 x2 = .inl 12 ∧ C + 0 ≤ 600000 ∧ S + 0 ≤ 7302250 ∧ w_M_bentIn N x2 (xs ((x3 + (1 : Int32))).toNatClampNeg) (xs ((x3 + (2 : Int32))).toNatClampNeg) h496 (fun r500 h501 => ((r495 = r500 → (w_law_18 xs Ls N k x0 x1 x2 (x3 + (6 : Int32)) C S h501 Q)) ∧ (¬ r495 = r500 → (C ≤ 600000 ∧ S ≤ 7302250 ∧ (0 : Int32) = 1)))))))))) ∧ (¬ y5 = (32 : Int32) → ((y5 = (33 : Int32) → (vp_in (x3 + (1 : Int32)) Ls ∧ (vp_in (x3 + (2 : Int32)) Ls ∧ (vp_in (x3 + (3 : Int32)) Ls ∧ (qS h x1 = .inl 11 ∧ C + 0 ≤ 600000 ∧ S + 0 ≤ 7302250 ∧ w_X_year N x1 (xs ((x3 + (1 : Int32))).toNatClampNeg) (xs ((x3 + (2 : Int32))).toNatClampNeg) (xs ((x3 + (3 : Int32))).toNatClampNeg) h (fun r512 h513 => (qS h513 x2 = .inl 12 ∧ C + 0 ≤ 600000 ∧ S + 0 ≤ 7302250 ∧ w_M_year N x2 (xs ((x3 + (1 : Int32))).toNatClampNeg) (xs ((x3 + (2 : Int32))).toNatClampNeg) (xs ((x3 + (3 : Int32))).toNatClampNeg) h513 (fun r517 h518 => ((r512 = r517 → (w_law_18 xs Ls N k x0 x1 x2 (x3 + (6 : Int32)) C S h518 Q)) ∧ (¬ r512 = r517 → (C ≤ 600000 ∧ S ≤ 7302250 ∧ (0 : Int32) = 1))))))))))) ∧ (¬ y5 = (33 : Int32) → ((y5 = (34 : Int32) → (vp_in (x3 + (1 : Int32)) Ls ∧ (vp_in (x3 + (2 : Int32)) Ls ∧ (vp_in (x3 + (3 : Int32)) Ls ∧ (((xs ((x3 + (3 : Int32))).toNatClampNeg) = 0 → (w_law_1098 xs Ls N x0 x1 x2 x3 (0 : Int32) (xs ((x3 + (2 : Int32))).toNatClampNeg) (xs ((x3 + (1 : Int32))).toNatClampNeg) x1 C S h Q (fun x0 x1 x2 x3 C S h => w_law_18 xs Ls N k x0 x1 x2 x3 C S h Q))) ∧ (¬ (xs ((x3 + (3 : Int32))).toNatClampNeg) = 0 → (w_law_1098 xs Ls N x0 x1 x2 x3 (1 : Int32) (xs ((x3 + (2 : Int32))).toNatClampNeg) (xs ((x3 + (1 : Int32))).toNatClampNeg) x1 C S h Q (fun x0 x1 x2 x3 C S h => w_law_18 xs Ls N k x0 x1 x2 x3 C S h Q)))))))) ∧ (¬ y5 = (34 : Int32) → ((y5 = (35 : Int32) → (qS h x1 = .inl 11 ∧ C + 0 ≤ 600000 ∧ S + 0 ≤ 7302250 ∧ w_X_forget N x1 h (fun r531 h532 => (qS h532 x2 = .inl 12 ∧ C + 0 ≤ 600000 ∧ S + 0 ≤ 7302250 ∧ w_M_forget N x2 h532 (fun r536 h537 => ((r531 = r536 → (w_law_18 xs Ls N k x0 x1 x2 (x3 + (6 : Int32)) C S h537 Q)) ∧ (¬ r531 = r536 → (C ≤ 600000 ∧ S ≤ 7302250 ∧ (0 : Int32) = 1)))))))) ∧ (¬ y5 = (35 : Int32) → ((y5 = (36 : Int32) → (vp_in (x3 + (1 : Int32)) Ls ∧ (vp_in (x3 + (2 : Int32)) Ls ∧ (qS h x1 = .inl 11 ∧ C + 0 ≤ 600000 ∧ S + 0 ≤ 7302250 ∧ w_X_two N x1 (xs ((x3 + (1 : Int32))).toNatClampNeg) (xs ((x3 + (2 : Int32))).toNatClampNeg) h (fun r547 h548 => (qS h548 x2 = .inl 12 ∧ C + 0 ≤ 600000 ∧ S + 0 ≤ 7302250 ∧ w_M_two N x2 (xs ((x3 + (1 : Int32))).toNatClampNeg) (xs ((x3 + (2 : Int32))).toNatClampNeg) h548 (fun r552 h553 => ((r547 = r552 → (w_law_18 xs Ls N k x0 x1 x2 (x3 + (6 : Int32)) C S h553 Q)) ∧ (¬ r547 = r552 → (C ≤ 600000 ∧ S ≤ 7302250 ∧ (0 : Int32) = 1)))))))))) ∧ (¬ y5 = (36 : Int32) → ((y5 = (37 : Int32) → (vp_in (x3 + (1 : Int32)) Ls ∧ (qS h x1 = .inl 11 ∧ C + 0 ≤ 600000 ∧ S + 0 ≤ 7302250 ∧ w_X_ask N x1 (xs ((x3 + (1 : Int32))).toNatClampNeg) h (fun r562 h563 => (qS h563 x2 = .inl 12 ∧ C + 0 ≤ 600000 ∧ S + 0 ≤ 7302250 ∧ w_M_ask N x2 (xs ((x3 + (1 : Int32))).toNatClampNeg) h563 (fun r567 h568 => ((r562 = r567 → (w_law_18 xs Ls N k x0 x1 x2 (x3 + (6 : Int32)) C S h568 Q)) ∧ (¬ r562 = r567 → (C ≤ 600000 ∧ S ≤ 7302250 ∧ (0 : Int32) = 1))))))))) ∧ (¬ y5 = (37 : Int32) → ((y5 = (38 : Int32) → (vp_in (x3 + (1 : Int32)) Ls ∧ (qS h x1 = .inl 11 ∧ C + 0 ≤ 600000 ∧ S + 0 ≤ 7302250 ∧ w_X_hold N x1 (xs ((x3 + (1 : Int32))).toNatClampNeg) h (fun r577 h578 => (qS h578 x2 = .inl 12 ∧ C + 0 ≤ 600000 ∧ S + 0 ≤ 7302250 ∧ w_M_hold N x2 (xs ((x3 + (1 : Int32))).toNatClampNeg) h578 (fun r582 h583 => ((r577 = r582 → (w_law_18 xs Ls N k x0 x1 x2 (x3 + (6 : Int32)) C S h583 Q)) ∧ (¬ r577 = r582 → (C ≤ 600000 ∧ S ≤ 7302250 ∧ (0 : Int32) = 1))))))))) ∧ (¬ y5 = (38 : Int32) → ((y5 = (39 : Int32) → (vp_in (x3 + (1 : Int32)) Ls ∧ (qS h x1 = .inl 11 ∧ C + 0 ≤ 600000 ∧ S + 0 ≤ 7302250 ∧ w_X_restore N x1 (xs ((x3 + (1 : Int32))).toNatClampNeg) h (fun r592 h593 => (qS h593 x2 = .inl 12 ∧ C + 0 ≤ 600000 ∧ S + 0 ≤ 7302250 ∧ w_M_restore N x2 (xs ((x3 + (1 : Int32))).toNatClampNeg) h593 (fun r597 h598 => ((r592 = r597 → (w_law_18 xs Ls N k x0 x1 x2 (x3 + (6 : Int32)) C S h598 Q)) ∧ (¬ r592 = r597 → (C ≤ 600000 ∧ S ≤ 7302250 ∧ (0 : Int32) = 1))))))))) ∧ (¬ y5 = (39 : Int32) → ((y5 = (40 : Int32) → (vp_in (x3 + (1 : Int32)) Ls ∧ (qS h x1 = .inl 11 ∧ C + 0 ≤ 600000 ∧ S + 0 ≤ 7302250 ∧ w_X_count N x1 (xs ((x3 + (1 : Int32))).toNatClampNeg) h (fun r607 h608 => (qS h608 x2 = .inl 12 ∧ C + 0 ≤ 600000 ∧ S + 0 ≤ 7302250 ∧ w_M_count N x2 (xs ((x3 + (1 : Int32))).toNatClampNeg) h608 (fun r612 h613 => ((r607 = r612 → (w_law_18 xs Ls N k x0 x1 x2 (x3 + (6 : Int32)) C S h613 Q)) ∧ (¬ r607 = r612 → (C ≤ 600000 ∧ S ≤ 7302250 ∧ (0 : Int32) = 1))))))))) ∧ (¬ y5 = (40 : Int32) → (w_law_18 xs Ls N k x0 x1 x2 (x3 + (6 : Int32)) C S h Q)))))))))))))))))))))))))))))))))))))))))))))))))))))))))))))))))))))))))))))))))))))))
set_option maxRecDepth 20000 in
def w_law (N bs : Nat) (xs : Nat → Int32) (Ls : Nat) (h : qH) (Q : Int32 → qH → Prop) : Prop := (0 + 1 ≤ 600000 ∧ 0 + 12 ≤ 7302250 ∧ ∀ y4 : Nat, y4 = qN h + 1 → ∀ h3 : qH, h3 = qnew h (.inl 11) → (0 < y4 ∧ 1 + 359 ≤ 600000 ∧ 12 + 12730 ≤ 7302250 ∧ w_X_init N y4 h3 (fun h6 => (360 + 1 ≤ 600000 ∧ 12742 + 71 ≤ 7302250 ∧ ∀ y12 : Nat, y12 = qN h6 + 1 → ∀ h11 : qH, h11 = qnew h6 (.inl 12) → (0 < y12 ∧ 361 + 48 ≤ 600000 ∧ 12813 + 12143 ≤ 7302250 ∧ w_M_init N y12 h11 (fun h14 => (w_law_18 xs Ls N N bs y4 y12 (0 : Int32) 409 24956 h14 Q )))))))
section QG
variable {p : Program} {l : Launch} {e : Env} {s : State} {m : MethodId} {args : Array Value} {below : List Frame} {meth : Method} {c : Code} {D : va_G} {cy : Nat → ClassId} {b : Nat} {adK adV : Nat → Nat}
variable {nm : String}
set_option maxRecDepth 20000 in
set_option maxHeartbeats 4000000 in
theorem t_law_1098 {bs Ls : Nat} {xs : Nat → Int32} (X : qX p s m #[Value.ref bs] meth c D cy b adK adV code "CoatHangersLaw" 4 ret nm) (hX : va_X bs Ls xs s s.heap) (hbl : bs < s.heap.size) (hbA : ¬ qA b bs) (hsz : s.heap.size = b + 1) (N : Nat) (x0 : Nat) (x1 : Nat) (x2 : Nat) (x3 : Int32) (z0 : Int32) (z1 : Int32) (z2 : Int32) (z3 : Nat) (C S : Nat) (h : qH) (Q : Int32 → qH → Prop) (K18 : Nat → Nat → Nat → Int32 → Nat → Nat → qH → Prop) (hw : w_law_1098 xs Ls N x0 x1 x2 x3 z0 z1 z2 z3 C S h Q K18) (hK18 : ∀ (x0 : Nat) (x1 : Nat) (x2 : Nat) (x3 : Int32) (C S : Nat) (h : qH), K18 x0 x1 x2 x3 C S h → qW p l e room_1 s m #[Value.ref bs] below meth c D cy b 4 C S (lw_Z below #[Value.ref bs] s) 18 [(0, .inr (.inr (.inr bs))), (1, .inr (.inr (.inl x1))), (2, .inr (.inr (.inl x2))), (3, .inl x3)] [] h) : qW p l e room_1 s m #[Value.ref bs] below meth c D cy b 4 C S (lw_Z below #[Value.ref bs] s) 1098 [(0, .inr (.inr (.inr bs))), (1, .inr (.inr (.inl x1))), (2, .inr (.inr (.inl x2))), (3, .inl x3)] [.int z0, .int z1, .int z2, qr b z3] h := by
  unfold w_law_1098 at hw
  obtain ⟨g1, hw⟩ := hw
  obtain ⟨g4, g5, hw⟩ := hw
  refine qx_callVI (st := []) (As := [.int z2, .int z1, .int z0]) X (t_X_tell (adK := adK) (adV := adV) l D cy b N z3 z2 z1 z0 h _ hw) qm_X_tell wm_law_157 wi_X_tell wl_X_tell qcls11 g1 rfl rfl rfl ⟨Nat.le_of_ble_eq_true rfl, Nat.le_of_ble_eq_true rfl⟩ ⟨g4, g5⟩ (Nat.le_of_ble_eq_true rfl) rfl d_law_1098 (fun r2 h3 hw => ?_)
  refine qx_aload_n (x := x2) X d_law_1101 rfl 2 rfl ?_
  refine qx_aloadA (x := bs) X d_law_1102 rfl 0 rfl ?_
  refine qx_iload_n (x := x3) X d_law_1103 rfl 3 rfl ?_
  refine qx_iconst (v := (1 : Int32)) X d_law_1104 (by decide) ?_
  refine qx_iadd X d_law_1105 ?_
  obtain ⟨g6, hw⟩ := hw
  refine qx_sld X hX hbl hbA g6 d_law_1106 ?_
  refine qx_aloadA (x := bs) X d_law_1107 rfl 0 rfl ?_
  refine qx_iload_n (x := x3) X d_law_1108 rfl 3 rfl ?_
  refine qx_iconst (v := (2 : Int32)) X d_law_1109 (by decide) ?_
  refine qx_iadd X d_law_1110 ?_
  obtain ⟨g7, hw⟩ := hw
  refine qx_sld X hX hbl hbA g7 d_law_1111 ?_
  refine qx_aloadA (x := bs) X d_law_1112 rfl 0 rfl ?_
  refine qx_iload_n (x := x3) X d_law_1113 rfl 3 rfl ?_
  refine qx_iconst (v := (3 : Int32)) X d_law_1114 (by decide) ?_
  refine qx_iadd X d_law_1115 ?_
  obtain ⟨g8, hw⟩ := hw
  refine qx_sld X hX hbl hbA g8 d_law_1116 ?_
  refine qx_if_eq X 1124 d_law_1117 (by decide) (fun q9 => ?_) (fun q9 => ?_)
  · have hw := hw.1 q9
    refine qx_iconst (v := (0 : Int32)) X d_law_1124 (by decide) ?_
    obtain ⟨g10, hw⟩ := hw
    obtain ⟨g13, g14, hw⟩ := hw
    refine qx_callVI (st := [.int r2]) (As := [.int (xs ((x3 + (1 : Int32))).toNatClampNeg), .int (xs ((x3 + (2 : Int32))).toNatClampNeg), .int (0 : Int32)]) X (t_M_tell (adK := adK) (adV := adV) l D cy b N x2 (xs ((x3 + (1 : Int32))).toNatClampNeg) (xs ((x3 + (2 : Int32))).toNatClampNeg) (0 : Int32) h3 _ hw) qm_M_tell wm_law_161 wi_M_tell wl_M_tell qcls12 g10 rfl rfl rfl ⟨Nat.le_of_ble_eq_true rfl, Nat.le_of_ble_eq_true rfl⟩ ⟨g13, g14⟩ (Nat.le_of_ble_eq_true rfl) rfl d_law_1125 (fun r11 h12 hw => ?_)
    refine qx_icmp_eq X 1271 d_law_1128 (by decide) (fun q15 => ?_) (fun q15 => ?_)
    · have hw := hw.1 q15
      refine qx_iinc (v := (x3 + (6 : Int32))) (L' := [(3, .inl (x3 + (6 : Int32))), (0, .inr (.inr (.inr bs))), (1, .inr (.inr (.inl x1))), (2, .inr (.inr (.inl x2)))]) X d_law_1271 3 rfl rfl (by decide) rfl ?_
      refine qx_goto X 18 d_law_1274 (by decide) ?_
      refine qx_sub [1, 2, 3, 0] rfl ?_
      exact hK18 x0 x1 x2 (x3 + (6 : Int32)) C S h12 hw
    · have hw := hw.2 q15
      refine qx_iconst (v := (0 : Int32)) X d_law_1131 (by decide) ?_
      obtain ⟨g16, g17, hw⟩ := hw
      exact qx_lawret X hsz g16 g17 hw rfl d_law_1132
  · have hw := hw.2 q9
    refine qx_iconst (v := (1 : Int32)) X d_law_1120 (by decide) ?_
    refine qx_goto X 1125 d_law_1121 (by decide) ?_
    obtain ⟨g18, hw⟩ := hw
    obtain ⟨g21, g22, hw⟩ := hw
    refine qx_callVI (st := [.int r2]) (As := [.int (xs ((x3 + (1 : Int32))).toNatClampNeg), .int (xs ((x3 + (2 : Int32))).toNatClampNeg), .int (1 : Int32)]) X (t_M_tell (adK := adK) (adV := adV) l D cy b N x2 (xs ((x3 + (1 : Int32))).toNatClampNeg) (xs ((x3 + (2 : Int32))).toNatClampNeg) (1 : Int32) h3 _ hw) qm_M_tell wm_law_161 wi_M_tell wl_M_tell qcls12 g18 rfl rfl rfl ⟨Nat.le_of_ble_eq_true rfl, Nat.le_of_ble_eq_true rfl⟩ ⟨g21, g22⟩ (Nat.le_of_ble_eq_true rfl) rfl d_law_1125 (fun r19 h20 hw => ?_)
    refine qx_icmp_eq X 1271 d_law_1128 (by decide) (fun q23 => ?_) (fun q23 => ?_)
    · have hw := hw.1 q23
      refine qx_iinc (v := (x3 + (6 : Int32))) (L' := [(3, .inl (x3 + (6 : Int32))), (0, .inr (.inr (.inr bs))), (1, .inr (.inr (.inl x1))), (2, .inr (.inr (.inl x2)))]) X d_law_1271 3 rfl rfl (by decide) rfl ?_
      refine qx_goto X 18 d_law_1274 (by decide) ?_
      refine qx_sub [1, 2, 3, 0] rfl ?_
      exact hK18 x0 x1 x2 (x3 + (6 : Int32)) C S h20 hw
    · have hw := hw.2 q23
      refine qx_iconst (v := (0 : Int32)) X d_law_1131 (by decide) ?_
      obtain ⟨g24, g25, hw⟩ := hw
      exact qx_lawret X hsz g24 g25 hw rfl d_law_1132
set_option maxRecDepth 20000 in
set_option maxHeartbeats 4000000 in
theorem t_law_18 {bs Ls : Nat} {xs : Nat → Int32} (X : qX p s m #[Value.ref bs] meth c D cy b adK adV code "CoatHangersLaw" 4 ret nm) (hX : va_X bs Ls xs s s.heap) (hbl : bs < s.heap.size) (hbA : ¬ qA b bs) (hsz : s.heap.size = b + 1) (N k : Nat) (x0 : Nat) (x1 : Nat) (x2 : Nat) (x3 : Int32) (C S : Nat) (h : qH) (Q : Int32 → qH → Prop)  (hw : w_law_18 xs Ls N k x0 x1 x2 x3 C S h Q ) : qW p l e room_1 s m #[Value.ref bs] below meth c D cy b 4 C S (lw_Z below #[Value.ref bs] s) 18 [(0, .inr (.inr (.inr bs))), (1, .inr (.inr (.inl x1))), (2, .inr (.inr (.inl x2))), (3, .inl x3)] [] h := by
  induction k generalizing x0 x1 x2 x3 C S h with
  | zero => exact hw.elim
  | succ k ih =>
    refine qx_iload_n (x := x3) X d_law_18 rfl 3 rfl ?_
    refine qx_aloadA (x := bs) X d_law_19 rfl 0 rfl ?_
    refine qx_slen X hX hbl hbA d_law_20 ?_
    refine qx_bipush (v := (6 : Int32)) X d_law_21 (by decide) ?_
    refine qx_isub X d_law_23 ?_
    refine qx_icmp_gt X 1277 d_law_24 (by decide) (fun q1 => ?_) (fun q1 => ?_)
    · have hw := hw.1 q1
      refine qx_iconst (v := (1 : Int32)) X d_law_1277 (by decide) ?_
      obtain ⟨g2, g3, hw⟩ := hw
      exact qx_lawret X hsz g2 g3 hw rfl d_law_1278
    · have hw := hw.2 q1
      refine qx_aloadA (x := bs) X d_law_27 rfl 0 rfl ?_
      refine qx_iload_n (x := x3) X d_law_28 rfl 3 rfl ?_
      obtain ⟨g4, hw⟩ := hw
      refine qx_sld X hX hbl hbA g4 d_law_29 ?_
      refine qx_bipush (v := (63 : Int32)) X d_law_30 (by decide) ?_
      refine qx_iand X d_law_32 ?_
      refine qx_topi (fun y5 ey5 => ?_)
      have hw := hw y5 ey5
      by_cases q6 : y5 = (0 : Int32)
      · have hw := hw.1 q6
        refine qx_tableIn (off := (179)) X 212 d_law_33 (by rw [q6]; decide) (by rw [q6]; decide) (by rw [q6]; rfl) (by decide) ?_
        refine qx_aload_n (x := x1) X d_law_212 rfl 1 rfl ?_
        refine qx_aloadA (x := bs) X d_law_213 rfl 0 rfl ?_
        refine qx_iload_n (x := x3) X d_law_214 rfl 3 rfl ?_
        refine qx_iconst (v := (1 : Int32)) X d_law_215 (by decide) ?_
        refine qx_iadd X d_law_216 ?_
        obtain ⟨g7, hw⟩ := hw
        refine qx_sld X hX hbl hbA g7 d_law_217 ?_
        refine qx_aloadA (x := bs) X d_law_218 rfl 0 rfl ?_
        refine qx_iload_n (x := x3) X d_law_219 rfl 3 rfl ?_
        refine qx_iconst (v := (2 : Int32)) X d_law_220 (by decide) ?_
        refine qx_iadd X d_law_221 ?_
        obtain ⟨g8, hw⟩ := hw
        refine qx_sld X hX hbl hbA g8 d_law_222 ?_
        refine qx_aloadA (x := bs) X d_law_223 rfl 0 rfl ?_
        refine qx_iload_n (x := x3) X d_law_224 rfl 3 rfl ?_
        refine qx_iconst (v := (3 : Int32)) X d_law_225 (by decide) ?_
        refine qx_iadd X d_law_226 ?_
        obtain ⟨g9, hw⟩ := hw
        refine qx_sld X hX hbl hbA g9 d_law_227 ?_
        refine qx_aloadA (x := bs) X d_law_228 rfl 0 rfl ?_
        refine qx_iload_n (x := x3) X d_law_229 rfl 3 rfl ?_
        refine qx_iconst (v := (4 : Int32)) X d_law_230 (by decide) ?_
        refine qx_iadd X d_law_231 ?_
        obtain ⟨g10, hw⟩ := hw
        refine qx_sld X hX hbl hbA g10 d_law_232 ?_
        refine qx_aloadA (x := bs) X d_law_233 rfl 0 rfl ?_
        refine qx_iload_n (x := x3) X d_law_234 rfl 3 rfl ?_
        refine qx_iconst (v := (5 : Int32)) X d_law_235 (by decide) ?_
        refine qx_iadd X d_law_236 ?_
        obtain ⟨g11, hw⟩ := hw
        refine qx_sld X hX hbl hbA g11 d_law_237 ?_
        obtain ⟨g12, hw⟩ := hw
        obtain ⟨g15, g16, hw⟩ := hw
        refine qx_callVI (st := []) (As := [.int (xs ((x3 + (1 : Int32))).toNatClampNeg), .int (xs ((x3 + (2 : Int32))).toNatClampNeg), .int (xs ((x3 + (3 : Int32))).toNatClampNeg), .int (xs ((x3 + (4 : Int32))).toNatClampNeg), .int (xs ((x3 + (5 : Int32))).toNatClampNeg)]) X (t_X_feed (adK := adK) (adV := adV) l D cy b N x1 (xs ((x3 + (1 : Int32))).toNatClampNeg) (xs ((x3 + (2 : Int32))).toNatClampNeg) (xs ((x3 + (3 : Int32))).toNatClampNeg) (xs ((x3 + (4 : Int32))).toNatClampNeg) (xs ((x3 + (5 : Int32))).toNatClampNeg) h _ hw) qm_X_feed wm_law_13 wi_X_feed wl_X_feed qcls11 g12 rfl rfl rfl ⟨Nat.le_of_ble_eq_true rfl, Nat.le_of_ble_eq_true rfl⟩ ⟨g15, g16⟩ (Nat.le_of_ble_eq_true rfl) rfl d_law_238 (fun r13 h14 hw => ?_)
        refine qx_aload_n (x := x2) X d_law_241 rfl 2 rfl ?_
        refine qx_aloadA (x := bs) X d_law_242 rfl 0 rfl ?_
        refine qx_iload_n (x := x3) X d_law_243 rfl 3 rfl ?_
        refine qx_iconst (v := (1 : Int32)) X d_law_244 (by decide) ?_
        refine qx_iadd X d_law_245 ?_
        refine qx_sld X hX hbl hbA g7 d_law_246 ?_
        refine qx_aloadA (x := bs) X d_law_247 rfl 0 rfl ?_
        refine qx_iload_n (x := x3) X d_law_248 rfl 3 rfl ?_
        refine qx_iconst (v := (2 : Int32)) X d_law_249 (by decide) ?_
        refine qx_iadd X d_law_250 ?_
        refine qx_sld X hX hbl hbA g8 d_law_251 ?_
        refine qx_aloadA (x := bs) X d_law_252 rfl 0 rfl ?_
        refine qx_iload_n (x := x3) X d_law_253 rfl 3 rfl ?_
        refine qx_iconst (v := (3 : Int32)) X d_law_254 (by decide) ?_
        refine qx_iadd X d_law_255 ?_
        refine qx_sld X hX hbl hbA g9 d_law_256 ?_
        refine qx_aloadA (x := bs) X d_law_257 rfl 0 rfl ?_
        refine qx_iload_n (x := x3) X d_law_258 rfl 3 rfl ?_
        refine qx_iconst (v := (4 : Int32)) X d_law_259 (by decide) ?_
        refine qx_iadd X d_law_260 ?_
        refine qx_sld X hX hbl hbA g10 d_law_261 ?_
        refine qx_aloadA (x := bs) X d_law_262 rfl 0 rfl ?_
        refine qx_iload_n (x := x3) X d_law_263 rfl 3 rfl ?_
        refine qx_iconst (v := (5 : Int32)) X d_law_264 (by decide) ?_
        refine qx_iadd X d_law_265 ?_
        refine qx_sld X hX hbl hbA g11 d_law_266 ?_
        obtain ⟨g17, hw⟩ := hw
        obtain ⟨g20, g21, hw⟩ := hw
        refine qx_callVI (st := [.int r13]) (As := [.int (xs ((x3 + (1 : Int32))).toNatClampNeg), .int (xs ((x3 + (2 : Int32))).toNatClampNeg), .int (xs ((x3 + (3 : Int32))).toNatClampNeg), .int (xs ((x3 + (4 : Int32))).toNatClampNeg), .int (xs ((x3 + (5 : Int32))).toNatClampNeg)]) X (t_M_feed (adK := adK) (adV := adV) l D cy b N x2 (xs ((x3 + (1 : Int32))).toNatClampNeg) (xs ((x3 + (2 : Int32))).toNatClampNeg) (xs ((x3 + (3 : Int32))).toNatClampNeg) (xs ((x3 + (4 : Int32))).toNatClampNeg) (xs ((x3 + (5 : Int32))).toNatClampNeg) h14 _ hw) qm_M_feed wm_law_17 wi_M_feed wl_M_feed qcls12 g17 rfl rfl rfl ⟨Nat.le_of_ble_eq_true rfl, Nat.le_of_ble_eq_true rfl⟩ ⟨g20, g21⟩ (Nat.le_of_ble_eq_true rfl) rfl d_law_267 (fun r18 h19 hw => ?_)
        refine qx_icmp_eq X 1271 d_law_270 (by decide) (fun q22 => ?_) (fun q22 => ?_)
        · have hw := hw.1 q22
          refine qx_iinc (v := (x3 + (6 : Int32))) (L' := [(3, .inl (x3 + (6 : Int32))), (0, .inr (.inr (.inr bs))), (1, .inr (.inr (.inl x1))), (2, .inr (.inr (.inl x2)))]) X d_law_1271 3 rfl rfl (by decide) rfl ?_
          refine qx_goto X 18 d_law_1274 (by decide) ?_
          refine qx_sub [1, 2, 3, 0] rfl ?_
          exact ih x0 x1 x2 (x3 + (6 : Int32)) C S h19 hw
        · have hw := hw.2 q22
          refine qx_iconst (v := (0 : Int32)) X d_law_273 (by decide) ?_
          obtain ⟨g23, g24, hw⟩ := hw
          exact qx_lawret X hsz g23 g24 hw rfl d_law_274
      · have hw := hw.2 q6
        by_cases q25 : y5 = (1 : Int32)
        · have hw := hw.1 q25
          refine qx_tableIn (off := (242)) X 275 d_law_33 (by rw [q25]; decide) (by rw [q25]; decide) (by rw [q25]; rfl) (by decide) ?_
          refine qx_aload_n (x := x1) X d_law_275 rfl 1 rfl ?_
          refine qx_aloadA (x := bs) X d_law_276 rfl 0 rfl ?_
          refine qx_iload_n (x := x3) X d_law_277 rfl 3 rfl ?_
          refine qx_iconst (v := (1 : Int32)) X d_law_278 (by decide) ?_
          refine qx_iadd X d_law_279 ?_
          obtain ⟨g26, hw⟩ := hw
          refine qx_sld X hX hbl hbA g26 d_law_280 ?_
          obtain ⟨g27, hw⟩ := hw
          obtain ⟨g30, g31, hw⟩ := hw
          refine qx_callVI (st := []) (As := [.int (xs ((x3 + (1 : Int32))).toNatClampNeg)]) X (t_X_back (adK := adK) (adV := adV) l D cy b N x1 (xs ((x3 + (1 : Int32))).toNatClampNeg) h _ hw) qm_X_back wm_law_18 wi_X_back wl_X_back qcls11 g27 rfl rfl rfl ⟨Nat.le_of_ble_eq_true rfl, Nat.le_of_ble_eq_true rfl⟩ ⟨g30, g31⟩ (Nat.le_of_ble_eq_true rfl) rfl d_law_281 (fun r28 h29 hw => ?_)
          refine qx_aload_n (x := x2) X d_law_284 rfl 2 rfl ?_
          refine qx_aloadA (x := bs) X d_law_285 rfl 0 rfl ?_
          refine qx_iload_n (x := x3) X d_law_286 rfl 3 rfl ?_
          refine qx_iconst (v := (1 : Int32)) X d_law_287 (by decide) ?_
          refine qx_iadd X d_law_288 ?_
          refine qx_sld X hX hbl hbA g26 d_law_289 ?_
          obtain ⟨g32, hw⟩ := hw
          obtain ⟨g35, g36, hw⟩ := hw
          refine qx_callVI (st := [.int r28]) (As := [.int (xs ((x3 + (1 : Int32))).toNatClampNeg)]) X (t_M_back (adK := adK) (adV := adV) l D cy b N x2 (xs ((x3 + (1 : Int32))).toNatClampNeg) h29 _ hw) qm_M_back wm_law_22 wi_M_back wl_M_back qcls12 g32 rfl rfl rfl ⟨Nat.le_of_ble_eq_true rfl, Nat.le_of_ble_eq_true rfl⟩ ⟨g35, g36⟩ (Nat.le_of_ble_eq_true rfl) rfl d_law_290 (fun r33 h34 hw => ?_)
          refine qx_icmp_eq X 1271 d_law_293 (by decide) (fun q37 => ?_) (fun q37 => ?_)
          · have hw := hw.1 q37
            refine qx_iinc (v := (x3 + (6 : Int32))) (L' := [(3, .inl (x3 + (6 : Int32))), (0, .inr (.inr (.inr bs))), (1, .inr (.inr (.inl x1))), (2, .inr (.inr (.inl x2)))]) X d_law_1271 3 rfl rfl (by decide) rfl ?_
            refine qx_goto X 18 d_law_1274 (by decide) ?_
            refine qx_sub [1, 2, 3, 0] rfl ?_
            exact ih x0 x1 x2 (x3 + (6 : Int32)) C S h34 hw
          · have hw := hw.2 q37
            refine qx_iconst (v := (0 : Int32)) X d_law_296 (by decide) ?_
            obtain ⟨g38, g39, hw⟩ := hw
            exact qx_lawret X hsz g38 g39 hw rfl d_law_297
        · have hw := hw.2 q25
          by_cases q40 : y5 = (2 : Int32)
          · have hw := hw.1 q40
            refine qx_tableIn (off := (265)) X 298 d_law_33 (by rw [q40]; decide) (by rw [q40]; decide) (by rw [q40]; rfl) (by decide) ?_
            refine qx_aload_n (x := x1) X d_law_298 rfl 1 rfl ?_
            obtain ⟨g41, hw⟩ := hw
            obtain ⟨g44, g45, hw⟩ := hw
            refine qx_callVI (st := []) (As := []) X (t_X_read (adK := adK) (adV := adV) l D cy b N x1 h _ hw) qm_X_read wm_law_23 wi_X_read wl_X_read qcls11 g41 rfl rfl rfl ⟨Nat.le_of_ble_eq_true rfl, Nat.le_of_ble_eq_true rfl⟩ ⟨g44, g45⟩ (Nat.le_of_ble_eq_true rfl) rfl d_law_299 (fun r42 h43 hw => ?_)
            refine qx_aload_n (x := x2) X d_law_302 rfl 2 rfl ?_
            obtain ⟨g46, hw⟩ := hw
            obtain ⟨g49, g50, hw⟩ := hw
            refine qx_callVI (st := [.int r42]) (As := []) X (t_M_read (adK := adK) (adV := adV) l D cy b N x2 h43 _ hw) qm_M_read wm_law_27 wi_M_read wl_M_read qcls12 g46 rfl rfl rfl ⟨Nat.le_of_ble_eq_true rfl, Nat.le_of_ble_eq_true rfl⟩ ⟨g49, g50⟩ (Nat.le_of_ble_eq_true rfl) rfl d_law_303 (fun r47 h48 hw => ?_)
            refine qx_icmp_eq X 1271 d_law_306 (by decide) (fun q51 => ?_) (fun q51 => ?_)
            · have hw := hw.1 q51
              refine qx_iinc (v := (x3 + (6 : Int32))) (L' := [(3, .inl (x3 + (6 : Int32))), (0, .inr (.inr (.inr bs))), (1, .inr (.inr (.inl x1))), (2, .inr (.inr (.inl x2)))]) X d_law_1271 3 rfl rfl (by decide) rfl ?_
              refine qx_goto X 18 d_law_1274 (by decide) ?_
              refine qx_sub [1, 2, 3, 0] rfl ?_
              exact ih x0 x1 x2 (x3 + (6 : Int32)) C S h48 hw
            · have hw := hw.2 q51
              refine qx_iconst (v := (0 : Int32)) X d_law_309 (by decide) ?_
              obtain ⟨g52, g53, hw⟩ := hw
              exact qx_lawret X hsz g52 g53 hw rfl d_law_310
          · have hw := hw.2 q40
            by_cases q54 : y5 = (3 : Int32)
            · have hw := hw.1 q54
              refine qx_tableIn (off := (278)) X 311 d_law_33 (by rw [q54]; decide) (by rw [q54]; decide) (by rw [q54]; rfl) (by decide) ?_
              refine qx_aload_n (x := x1) X d_law_311 rfl 1 rfl ?_
              obtain ⟨g55, hw⟩ := hw
              obtain ⟨g58, g59, hw⟩ := hw
              refine qx_callVI (st := []) (As := []) X (t_X_place (adK := adK) (adV := adV) l D cy b N x1 h _ hw) qm_X_place wm_law_28 wi_X_place wl_X_place qcls11 g55 rfl rfl rfl ⟨Nat.le_of_ble_eq_true rfl, Nat.le_of_ble_eq_true rfl⟩ ⟨g58, g59⟩ (Nat.le_of_ble_eq_true rfl) rfl d_law_312 (fun r56 h57 hw => ?_)
              refine qx_aload_n (x := x2) X d_law_315 rfl 2 rfl ?_
              obtain ⟨g60, hw⟩ := hw
              obtain ⟨g63, g64, hw⟩ := hw
              refine qx_callVI (st := [.int r56]) (As := []) X (t_M_place (adK := adK) (adV := adV) l D cy b N x2 h57 _ hw) qm_M_place wm_law_31 wi_M_place wl_M_place qcls12 g60 rfl rfl rfl ⟨Nat.le_of_ble_eq_true rfl, Nat.le_of_ble_eq_true rfl⟩ ⟨g63, g64⟩ (Nat.le_of_ble_eq_true rfl) rfl d_law_316 (fun r61 h62 hw => ?_)
              refine qx_icmp_eq X 1271 d_law_319 (by decide) (fun q65 => ?_) (fun q65 => ?_)
              · have hw := hw.1 q65
                refine qx_iinc (v := (x3 + (6 : Int32))) (L' := [(3, .inl (x3 + (6 : Int32))), (0, .inr (.inr (.inr bs))), (1, .inr (.inr (.inl x1))), (2, .inr (.inr (.inl x2)))]) X d_law_1271 3 rfl rfl (by decide) rfl ?_
                refine qx_goto X 18 d_law_1274 (by decide) ?_
                refine qx_sub [1, 2, 3, 0] rfl ?_
                exact ih x0 x1 x2 (x3 + (6 : Int32)) C S h62 hw
              · have hw := hw.2 q65
                refine qx_iconst (v := (0 : Int32)) X d_law_322 (by decide) ?_
                obtain ⟨g66, g67, hw⟩ := hw
                exact qx_lawret X hsz g66 g67 hw rfl d_law_323
            · have hw := hw.2 q54
              by_cases q68 : y5 = (4 : Int32)
              · have hw := hw.1 q68
                refine qx_tableIn (off := (291)) X 324 d_law_33 (by rw [q68]; decide) (by rw [q68]; decide) (by rw [q68]; rfl) (by decide) ?_
                refine qx_aload_n (x := x1) X d_law_324 rfl 1 rfl ?_
                refine qx_aloadA (x := bs) X d_law_325 rfl 0 rfl ?_
                refine qx_iload_n (x := x3) X d_law_326 rfl 3 rfl ?_
                refine qx_iconst (v := (1 : Int32)) X d_law_327 (by decide) ?_
                refine qx_iadd X d_law_328 ?_
                obtain ⟨g69, hw⟩ := hw
                refine qx_sld X hX hbl hbA g69 d_law_329 ?_
                refine qx_aloadA (x := bs) X d_law_330 rfl 0 rfl ?_
                refine qx_iload_n (x := x3) X d_law_331 rfl 3 rfl ?_
                refine qx_iconst (v := (2 : Int32)) X d_law_332 (by decide) ?_
                refine qx_iadd X d_law_333 ?_
                obtain ⟨g70, hw⟩ := hw
                refine qx_sld X hX hbl hbA g70 d_law_334 ?_
                obtain ⟨g71, hw⟩ := hw
                obtain ⟨g74, g75, hw⟩ := hw
                refine qx_callVI (st := []) (As := [.int (xs ((x3 + (1 : Int32))).toNatClampNeg), .int (xs ((x3 + (2 : Int32))).toNatClampNeg)]) X (t_X_hanger (adK := adK) (adV := adV) l D cy b N x1 (xs ((x3 + (1 : Int32))).toNatClampNeg) (xs ((x3 + (2 : Int32))).toNatClampNeg) h _ hw) qm_X_hanger wm_law_32 wi_X_hanger wl_X_hanger qcls11 g71 rfl rfl rfl ⟨Nat.le_of_ble_eq_true rfl, Nat.le_of_ble_eq_true rfl⟩ ⟨g74, g75⟩ (Nat.le_of_ble_eq_true rfl) rfl d_law_335 (fun r72 h73 hw => ?_)
                refine qx_aload_n (x := x2) X d_law_338 rfl 2 rfl ?_
                refine qx_aloadA (x := bs) X d_law_339 rfl 0 rfl ?_
                refine qx_iload_n (x := x3) X d_law_340 rfl 3 rfl ?_
                refine qx_iconst (v := (1 : Int32)) X d_law_341 (by decide) ?_
                refine qx_iadd X d_law_342 ?_
                refine qx_sld X hX hbl hbA g69 d_law_343 ?_
                refine qx_aloadA (x := bs) X d_law_344 rfl 0 rfl ?_
                refine qx_iload_n (x := x3) X d_law_345 rfl 3 rfl ?_
                refine qx_iconst (v := (2 : Int32)) X d_law_346 (by decide) ?_
                refine qx_iadd X d_law_347 ?_
                refine qx_sld X hX hbl hbA g70 d_law_348 ?_
                obtain ⟨g76, hw⟩ := hw
                obtain ⟨g79, g80, hw⟩ := hw
                refine qx_callVI (st := [.int r72]) (As := [.int (xs ((x3 + (1 : Int32))).toNatClampNeg), .int (xs ((x3 + (2 : Int32))).toNatClampNeg)]) X (t_M_hanger (adK := adK) (adV := adV) l D cy b N x2 (xs ((x3 + (1 : Int32))).toNatClampNeg) (xs ((x3 + (2 : Int32))).toNatClampNeg) h73 _ hw) qm_M_hanger wm_law_36 wi_M_hanger wl_M_hanger qcls12 g76 rfl rfl rfl ⟨Nat.le_of_ble_eq_true rfl, Nat.le_of_ble_eq_true rfl⟩ ⟨g79, g80⟩ (Nat.le_of_ble_eq_true rfl) rfl d_law_349 (fun r77 h78 hw => ?_)
                refine qx_icmp_eq X 1271 d_law_352 (by decide) (fun q81 => ?_) (fun q81 => ?_)
                · have hw := hw.1 q81
                  refine qx_iinc (v := (x3 + (6 : Int32))) (L' := [(3, .inl (x3 + (6 : Int32))), (0, .inr (.inr (.inr bs))), (1, .inr (.inr (.inl x1))), (2, .inr (.inr (.inl x2)))]) X d_law_1271 3 rfl rfl (by decide) rfl ?_
                  refine qx_goto X 18 d_law_1274 (by decide) ?_
                  refine qx_sub [1, 2, 3, 0] rfl ?_
                  exact ih x0 x1 x2 (x3 + (6 : Int32)) C S h78 hw
                · have hw := hw.2 q81
                  refine qx_iconst (v := (0 : Int32)) X d_law_355 (by decide) ?_
                  obtain ⟨g82, g83, hw⟩ := hw
                  exact qx_lawret X hsz g82 g83 hw rfl d_law_356
              · have hw := hw.2 q68
                by_cases q84 : y5 = (5 : Int32)
                · have hw := hw.1 q84
                  refine qx_tableIn (off := (324)) X 357 d_law_33 (by rw [q84]; decide) (by rw [q84]; decide) (by rw [q84]; rfl) (by decide) ?_
                  refine qx_aload_n (x := x1) X d_law_357 rfl 1 rfl ?_
                  refine qx_aloadA (x := bs) X d_law_358 rfl 0 rfl ?_
                  refine qx_iload_n (x := x3) X d_law_359 rfl 3 rfl ?_
                  refine qx_iconst (v := (1 : Int32)) X d_law_360 (by decide) ?_
                  refine qx_iadd X d_law_361 ?_
                  obtain ⟨g85, hw⟩ := hw
                  refine qx_sld X hX hbl hbA g85 d_law_362 ?_
                  refine qx_aloadA (x := bs) X d_law_363 rfl 0 rfl ?_
                  refine qx_iload_n (x := x3) X d_law_364 rfl 3 rfl ?_
                  refine qx_iconst (v := (2 : Int32)) X d_law_365 (by decide) ?_
                  refine qx_iadd X d_law_366 ?_
                  obtain ⟨g86, hw⟩ := hw
                  refine qx_sld X hX hbl hbA g86 d_law_367 ?_
                  obtain ⟨g87, hw⟩ := hw
                  obtain ⟨g90, g91, hw⟩ := hw
                  refine qx_callVI (st := []) (As := [.int (xs ((x3 + (1 : Int32))).toNatClampNeg), .int (xs ((x3 + (2 : Int32))).toNatClampNeg)]) X (t_X_person (adK := adK) (adV := adV) l D cy b N x1 (xs ((x3 + (1 : Int32))).toNatClampNeg) (xs ((x3 + (2 : Int32))).toNatClampNeg) h _ hw) qm_X_person wm_law_37 wi_X_person wl_X_person qcls11 g87 rfl rfl rfl ⟨Nat.le_of_ble_eq_true rfl, Nat.le_of_ble_eq_true rfl⟩ ⟨g90, g91⟩ (Nat.le_of_ble_eq_true rfl) rfl d_law_368 (fun r88 h89 hw => ?_)
                  refine qx_aload_n (x := x2) X d_law_371 rfl 2 rfl ?_
                  refine qx_aloadA (x := bs) X d_law_372 rfl 0 rfl ?_
                  refine qx_iload_n (x := x3) X d_law_373 rfl 3 rfl ?_
                  refine qx_iconst (v := (1 : Int32)) X d_law_374 (by decide) ?_
                  refine qx_iadd X d_law_375 ?_
                  refine qx_sld X hX hbl hbA g85 d_law_376 ?_
                  refine qx_aloadA (x := bs) X d_law_377 rfl 0 rfl ?_
                  refine qx_iload_n (x := x3) X d_law_378 rfl 3 rfl ?_
                  refine qx_iconst (v := (2 : Int32)) X d_law_379 (by decide) ?_
                  refine qx_iadd X d_law_380 ?_
                  refine qx_sld X hX hbl hbA g86 d_law_381 ?_
                  obtain ⟨g92, hw⟩ := hw
                  obtain ⟨g95, g96, hw⟩ := hw
                  refine qx_callVI (st := [.int r88]) (As := [.int (xs ((x3 + (1 : Int32))).toNatClampNeg), .int (xs ((x3 + (2 : Int32))).toNatClampNeg)]) X (t_M_person (adK := adK) (adV := adV) l D cy b N x2 (xs ((x3 + (1 : Int32))).toNatClampNeg) (xs ((x3 + (2 : Int32))).toNatClampNeg) h89 _ hw) qm_M_person wm_law_40 wi_M_person wl_M_person qcls12 g92 rfl rfl rfl ⟨Nat.le_of_ble_eq_true rfl, Nat.le_of_ble_eq_true rfl⟩ ⟨g95, g96⟩ (Nat.le_of_ble_eq_true rfl) rfl d_law_382 (fun r93 h94 hw => ?_)
                  refine qx_icmp_eq X 1271 d_law_385 (by decide) (fun q97 => ?_) (fun q97 => ?_)
                  · have hw := hw.1 q97
                    refine qx_iinc (v := (x3 + (6 : Int32))) (L' := [(3, .inl (x3 + (6 : Int32))), (0, .inr (.inr (.inr bs))), (1, .inr (.inr (.inl x1))), (2, .inr (.inr (.inl x2)))]) X d_law_1271 3 rfl rfl (by decide) rfl ?_
                    refine qx_goto X 18 d_law_1274 (by decide) ?_
                    refine qx_sub [1, 2, 3, 0] rfl ?_
                    exact ih x0 x1 x2 (x3 + (6 : Int32)) C S h94 hw
                  · have hw := hw.2 q97
                    refine qx_iconst (v := (0 : Int32)) X d_law_388 (by decide) ?_
                    obtain ⟨g98, g99, hw⟩ := hw
                    exact qx_lawret X hsz g98 g99 hw rfl d_law_389
                · have hw := hw.2 q84
                  by_cases q100 : y5 = (6 : Int32)
                  · have hw := hw.1 q100
                    refine qx_tableIn (off := (357)) X 390 d_law_33 (by rw [q100]; decide) (by rw [q100]; decide) (by rw [q100]; rfl) (by decide) ?_
                    refine qx_aload_n (x := x1) X d_law_390 rfl 1 rfl ?_
                    refine qx_aloadA (x := bs) X d_law_391 rfl 0 rfl ?_
                    refine qx_iload_n (x := x3) X d_law_392 rfl 3 rfl ?_
                    refine qx_iconst (v := (1 : Int32)) X d_law_393 (by decide) ?_
                    refine qx_iadd X d_law_394 ?_
                    obtain ⟨g101, hw⟩ := hw
                    refine qx_sld X hX hbl hbA g101 d_law_395 ?_
                    refine qx_aloadA (x := bs) X d_law_396 rfl 0 rfl ?_
                    refine qx_iload_n (x := x3) X d_law_397 rfl 3 rfl ?_
                    refine qx_iconst (v := (2 : Int32)) X d_law_398 (by decide) ?_
                    refine qx_iadd X d_law_399 ?_
                    obtain ⟨g102, hw⟩ := hw
                    refine qx_sld X hX hbl hbA g102 d_law_400 ?_
                    obtain ⟨g103, hw⟩ := hw
                    obtain ⟨g106, g107, hw⟩ := hw
                    refine qx_callVI (st := []) (As := [.int (xs ((x3 + (1 : Int32))).toNatClampNeg), .int (xs ((x3 + (2 : Int32))).toNatClampNeg)]) X (t_X_tells (adK := adK) (adV := adV) l D cy b N x1 (xs ((x3 + (1 : Int32))).toNatClampNeg) (xs ((x3 + (2 : Int32))).toNatClampNeg) h _ hw) qm_X_tells wm_law_41 wi_X_tells wl_X_tells qcls11 g103 rfl rfl rfl ⟨Nat.le_of_ble_eq_true rfl, Nat.le_of_ble_eq_true rfl⟩ ⟨g106, g107⟩ (Nat.le_of_ble_eq_true rfl) rfl d_law_401 (fun r104 h105 hw => ?_)
                    refine qx_aload_n (x := x2) X d_law_404 rfl 2 rfl ?_
                    refine qx_aloadA (x := bs) X d_law_405 rfl 0 rfl ?_
                    refine qx_iload_n (x := x3) X d_law_406 rfl 3 rfl ?_
                    refine qx_iconst (v := (1 : Int32)) X d_law_407 (by decide) ?_
                    refine qx_iadd X d_law_408 ?_
                    refine qx_sld X hX hbl hbA g101 d_law_409 ?_
                    refine qx_aloadA (x := bs) X d_law_410 rfl 0 rfl ?_
                    refine qx_iload_n (x := x3) X d_law_411 rfl 3 rfl ?_
                    refine qx_iconst (v := (2 : Int32)) X d_law_412 (by decide) ?_
                    refine qx_iadd X d_law_413 ?_
                    refine qx_sld X hX hbl hbA g102 d_law_414 ?_
                    obtain ⟨g108, hw⟩ := hw
                    obtain ⟨g111, g112, hw⟩ := hw
                    refine qx_callVI (st := [.int r104]) (As := [.int (xs ((x3 + (1 : Int32))).toNatClampNeg), .int (xs ((x3 + (2 : Int32))).toNatClampNeg)]) X (t_M_tells (adK := adK) (adV := adV) l D cy b N x2 (xs ((x3 + (1 : Int32))).toNatClampNeg) (xs ((x3 + (2 : Int32))).toNatClampNeg) h105 _ hw) qm_M_tells wm_law_44 wi_M_tells wl_M_tells qcls12 g108 rfl rfl rfl ⟨Nat.le_of_ble_eq_true rfl, Nat.le_of_ble_eq_true rfl⟩ ⟨g111, g112⟩ (Nat.le_of_ble_eq_true rfl) rfl d_law_415 (fun r109 h110 hw => ?_)
                    refine qx_icmp_eq X 1271 d_law_418 (by decide) (fun q113 => ?_) (fun q113 => ?_)
                    · have hw := hw.1 q113
                      refine qx_iinc (v := (x3 + (6 : Int32))) (L' := [(3, .inl (x3 + (6 : Int32))), (0, .inr (.inr (.inr bs))), (1, .inr (.inr (.inl x1))), (2, .inr (.inr (.inl x2)))]) X d_law_1271 3 rfl rfl (by decide) rfl ?_
                      refine qx_goto X 18 d_law_1274 (by decide) ?_
                      refine qx_sub [1, 2, 3, 0] rfl ?_
                      exact ih x0 x1 x2 (x3 + (6 : Int32)) C S h110 hw
                    · have hw := hw.2 q113
                      refine qx_iconst (v := (0 : Int32)) X d_law_421 (by decide) ?_
                      obtain ⟨g114, g115, hw⟩ := hw
                      exact qx_lawret X hsz g114 g115 hw rfl d_law_422
                  · have hw := hw.2 q100
                    by_cases q116 : y5 = (7 : Int32)
                    · have hw := hw.1 q116
                      refine qx_tableIn (off := (390)) X 423 d_law_33 (by rw [q116]; decide) (by rw [q116]; decide) (by rw [q116]; rfl) (by decide) ?_
                      refine qx_aload_n (x := x1) X d_law_423 rfl 1 rfl ?_
                      refine qx_aloadA (x := bs) X d_law_424 rfl 0 rfl ?_
                      refine qx_iload_n (x := x3) X d_law_425 rfl 3 rfl ?_
                      refine qx_iconst (v := (1 : Int32)) X d_law_426 (by decide) ?_
                      refine qx_iadd X d_law_427 ?_
                      obtain ⟨g117, hw⟩ := hw
                      refine qx_sld X hX hbl hbA g117 d_law_428 ?_
                      refine qx_aloadA (x := bs) X d_law_429 rfl 0 rfl ?_
                      refine qx_iload_n (x := x3) X d_law_430 rfl 3 rfl ?_
                      refine qx_iconst (v := (2 : Int32)) X d_law_431 (by decide) ?_
                      refine qx_iadd X d_law_432 ?_
                      obtain ⟨g118, hw⟩ := hw
                      refine qx_sld X hX hbl hbA g118 d_law_433 ?_
                      obtain ⟨g119, hw⟩ := hw
                      obtain ⟨g122, g123, hw⟩ := hw
                      refine qx_callVI (st := []) (As := [.int (xs ((x3 + (1 : Int32))).toNatClampNeg), .int (xs ((x3 + (2 : Int32))).toNatClampNeg)]) X (t_X_hang (adK := adK) (adV := adV) l D cy b N x1 (xs ((x3 + (1 : Int32))).toNatClampNeg) (xs ((x3 + (2 : Int32))).toNatClampNeg) h _ hw) qm_X_hang wm_law_45 wi_X_hang wl_X_hang qcls11 g119 rfl rfl rfl ⟨Nat.le_of_ble_eq_true rfl, Nat.le_of_ble_eq_true rfl⟩ ⟨g122, g123⟩ (Nat.le_of_ble_eq_true rfl) rfl d_law_434 (fun r120 h121 hw => ?_)
                      refine qx_aload_n (x := x2) X d_law_437 rfl 2 rfl ?_
                      refine qx_aloadA (x := bs) X d_law_438 rfl 0 rfl ?_
                      refine qx_iload_n (x := x3) X d_law_439 rfl 3 rfl ?_
                      refine qx_iconst (v := (1 : Int32)) X d_law_440 (by decide) ?_
                      refine qx_iadd X d_law_441 ?_
                      refine qx_sld X hX hbl hbA g117 d_law_442 ?_
                      refine qx_aloadA (x := bs) X d_law_443 rfl 0 rfl ?_
                      refine qx_iload_n (x := x3) X d_law_444 rfl 3 rfl ?_
                      refine qx_iconst (v := (2 : Int32)) X d_law_445 (by decide) ?_
                      refine qx_iadd X d_law_446 ?_
                      refine qx_sld X hX hbl hbA g118 d_law_447 ?_
                      obtain ⟨g124, hw⟩ := hw
                      obtain ⟨g127, g128, hw⟩ := hw
                      refine qx_callVI (st := [.int r120]) (As := [.int (xs ((x3 + (1 : Int32))).toNatClampNeg), .int (xs ((x3 + (2 : Int32))).toNatClampNeg)]) X (t_M_hang (adK := adK) (adV := adV) l D cy b N x2 (xs ((x3 + (1 : Int32))).toNatClampNeg) (xs ((x3 + (2 : Int32))).toNatClampNeg) h121 _ hw) qm_M_hang wm_law_49 wi_M_hang wl_M_hang qcls12 g124 rfl rfl rfl ⟨Nat.le_of_ble_eq_true rfl, Nat.le_of_ble_eq_true rfl⟩ ⟨g127, g128⟩ (Nat.le_of_ble_eq_true rfl) rfl d_law_448 (fun r125 h126 hw => ?_)
                      refine qx_icmp_eq X 1271 d_law_451 (by decide) (fun q129 => ?_) (fun q129 => ?_)
                      · have hw := hw.1 q129
                        refine qx_iinc (v := (x3 + (6 : Int32))) (L' := [(3, .inl (x3 + (6 : Int32))), (0, .inr (.inr (.inr bs))), (1, .inr (.inr (.inl x1))), (2, .inr (.inr (.inl x2)))]) X d_law_1271 3 rfl rfl (by decide) rfl ?_
                        refine qx_goto X 18 d_law_1274 (by decide) ?_
                        refine qx_sub [1, 2, 3, 0] rfl ?_
                        exact ih x0 x1 x2 (x3 + (6 : Int32)) C S h126 hw
                      · have hw := hw.2 q129
                        refine qx_iconst (v := (0 : Int32)) X d_law_454 (by decide) ?_
                        obtain ⟨g130, g131, hw⟩ := hw
                        exact qx_lawret X hsz g130 g131 hw rfl d_law_455
                    · have hw := hw.2 q116
                      by_cases q132 : y5 = (8 : Int32)
                      · have hw := hw.1 q132
                        refine qx_tableIn (off := (423)) X 456 d_law_33 (by rw [q132]; decide) (by rw [q132]; decide) (by rw [q132]; rfl) (by decide) ?_
                        refine qx_aload_n (x := x1) X d_law_456 rfl 1 rfl ?_
                        refine qx_aloadA (x := bs) X d_law_457 rfl 0 rfl ?_
                        refine qx_iload_n (x := x3) X d_law_458 rfl 3 rfl ?_
                        refine qx_iconst (v := (1 : Int32)) X d_law_459 (by decide) ?_
                        refine qx_iadd X d_law_460 ?_
                        obtain ⟨g133, hw⟩ := hw
                        refine qx_sld X hX hbl hbA g133 d_law_461 ?_
                        obtain ⟨g134, hw⟩ := hw
                        obtain ⟨g137, g138, hw⟩ := hw
                        refine qx_callVI (st := []) (As := [.int (xs ((x3 + (1 : Int32))).toNatClampNeg)]) X (t_X_take (adK := adK) (adV := adV) l D cy b N x1 (xs ((x3 + (1 : Int32))).toNatClampNeg) h _ hw) qm_X_take wm_law_50 wi_X_take wl_X_take qcls11 g134 rfl rfl rfl ⟨Nat.le_of_ble_eq_true rfl, Nat.le_of_ble_eq_true rfl⟩ ⟨g137, g138⟩ (Nat.le_of_ble_eq_true rfl) rfl d_law_462 (fun r135 h136 hw => ?_)
                        refine qx_aload_n (x := x2) X d_law_465 rfl 2 rfl ?_
                        refine qx_aloadA (x := bs) X d_law_466 rfl 0 rfl ?_
                        refine qx_iload_n (x := x3) X d_law_467 rfl 3 rfl ?_
                        refine qx_iconst (v := (1 : Int32)) X d_law_468 (by decide) ?_
                        refine qx_iadd X d_law_469 ?_
                        refine qx_sld X hX hbl hbA g133 d_law_470 ?_
                        obtain ⟨g139, hw⟩ := hw
                        obtain ⟨g142, g143, hw⟩ := hw
                        refine qx_callVI (st := [.int r135]) (As := [.int (xs ((x3 + (1 : Int32))).toNatClampNeg)]) X (t_M_take (adK := adK) (adV := adV) l D cy b N x2 (xs ((x3 + (1 : Int32))).toNatClampNeg) h136 _ hw) qm_M_take wm_law_54 wi_M_take wl_M_take qcls12 g139 rfl rfl rfl ⟨Nat.le_of_ble_eq_true rfl, Nat.le_of_ble_eq_true rfl⟩ ⟨g142, g143⟩ (Nat.le_of_ble_eq_true rfl) rfl d_law_471 (fun r140 h141 hw => ?_)
                        refine qx_icmp_eq X 1271 d_law_474 (by decide) (fun q144 => ?_) (fun q144 => ?_)
                        · have hw := hw.1 q144
                          refine qx_iinc (v := (x3 + (6 : Int32))) (L' := [(3, .inl (x3 + (6 : Int32))), (0, .inr (.inr (.inr bs))), (1, .inr (.inr (.inl x1))), (2, .inr (.inr (.inl x2)))]) X d_law_1271 3 rfl rfl (by decide) rfl ?_
                          refine qx_goto X 18 d_law_1274 (by decide) ?_
                          refine qx_sub [1, 2, 3, 0] rfl ?_
                          exact ih x0 x1 x2 (x3 + (6 : Int32)) C S h141 hw
                        · have hw := hw.2 q144
                          refine qx_iconst (v := (0 : Int32)) X d_law_477 (by decide) ?_
                          obtain ⟨g145, g146, hw⟩ := hw
                          exact qx_lawret X hsz g145 g146 hw rfl d_law_478
                      · have hw := hw.2 q132
                        by_cases q147 : y5 = (9 : Int32)
                        · have hw := hw.1 q147
                          refine qx_tableIn (off := (446)) X 479 d_law_33 (by rw [q147]; decide) (by rw [q147]; decide) (by rw [q147]; rfl) (by decide) ?_
                          refine qx_aload_n (x := x1) X d_law_479 rfl 1 rfl ?_
                          refine qx_aloadA (x := bs) X d_law_480 rfl 0 rfl ?_
                          refine qx_iload_n (x := x3) X d_law_481 rfl 3 rfl ?_
                          refine qx_iconst (v := (1 : Int32)) X d_law_482 (by decide) ?_
                          refine qx_iadd X d_law_483 ?_
                          obtain ⟨g148, hw⟩ := hw
                          refine qx_sld X hX hbl hbA g148 d_law_484 ?_
                          refine qx_aloadA (x := bs) X d_law_485 rfl 0 rfl ?_
                          refine qx_iload_n (x := x3) X d_law_486 rfl 3 rfl ?_
                          refine qx_iconst (v := (2 : Int32)) X d_law_487 (by decide) ?_
                          refine qx_iadd X d_law_488 ?_
                          obtain ⟨g149, hw⟩ := hw
                          refine qx_sld X hX hbl hbA g149 d_law_489 ?_
                          obtain ⟨g150, hw⟩ := hw
                          obtain ⟨g153, g154, hw⟩ := hw
                          refine qx_callVI (st := []) (As := [.int (xs ((x3 + (1 : Int32))).toNatClampNeg), .int (xs ((x3 + (2 : Int32))).toNatClampNeg)]) X (t_X_change (adK := adK) (adV := adV) l D cy b N x1 (xs ((x3 + (1 : Int32))).toNatClampNeg) (xs ((x3 + (2 : Int32))).toNatClampNeg) h _ hw) qm_X_change wm_law_55 wi_X_change wl_X_change qcls11 g150 rfl rfl rfl ⟨Nat.le_of_ble_eq_true rfl, Nat.le_of_ble_eq_true rfl⟩ ⟨g153, g154⟩ (Nat.le_of_ble_eq_true rfl) rfl d_law_490 (fun r151 h152 hw => ?_)
                          refine qx_aload_n (x := x2) X d_law_493 rfl 2 rfl ?_
                          refine qx_aloadA (x := bs) X d_law_494 rfl 0 rfl ?_
                          refine qx_iload_n (x := x3) X d_law_495 rfl 3 rfl ?_
                          refine qx_iconst (v := (1 : Int32)) X d_law_496 (by decide) ?_
                          refine qx_iadd X d_law_497 ?_
                          refine qx_sld X hX hbl hbA g148 d_law_498 ?_
                          refine qx_aloadA (x := bs) X d_law_499 rfl 0 rfl ?_
                          refine qx_iload_n (x := x3) X d_law_500 rfl 3 rfl ?_
                          refine qx_iconst (v := (2 : Int32)) X d_law_501 (by decide) ?_
                          refine qx_iadd X d_law_502 ?_
                          refine qx_sld X hX hbl hbA g149 d_law_503 ?_
                          obtain ⟨g155, hw⟩ := hw
                          obtain ⟨g158, g159, hw⟩ := hw
                          refine qx_callVI (st := [.int r151]) (As := [.int (xs ((x3 + (1 : Int32))).toNatClampNeg), .int (xs ((x3 + (2 : Int32))).toNatClampNeg)]) X (t_M_change (adK := adK) (adV := adV) l D cy b N x2 (xs ((x3 + (1 : Int32))).toNatClampNeg) (xs ((x3 + (2 : Int32))).toNatClampNeg) h152 _ hw) qm_M_change wm_law_58 wi_M_change wl_M_change qcls12 g155 rfl rfl rfl ⟨Nat.le_of_ble_eq_true rfl, Nat.le_of_ble_eq_true rfl⟩ ⟨g158, g159⟩ (Nat.le_of_ble_eq_true rfl) rfl d_law_504 (fun r156 h157 hw => ?_)
                          refine qx_icmp_eq X 1271 d_law_507 (by decide) (fun q160 => ?_) (fun q160 => ?_)
                          · have hw := hw.1 q160
                            refine qx_iinc (v := (x3 + (6 : Int32))) (L' := [(3, .inl (x3 + (6 : Int32))), (0, .inr (.inr (.inr bs))), (1, .inr (.inr (.inl x1))), (2, .inr (.inr (.inl x2)))]) X d_law_1271 3 rfl rfl (by decide) rfl ?_
                            refine qx_goto X 18 d_law_1274 (by decide) ?_
                            refine qx_sub [1, 2, 3, 0] rfl ?_
                            exact ih x0 x1 x2 (x3 + (6 : Int32)) C S h157 hw
                          · have hw := hw.2 q160
                            refine qx_iconst (v := (0 : Int32)) X d_law_510 (by decide) ?_
                            obtain ⟨g161, g162, hw⟩ := hw
                            exact qx_lawret X hsz g161 g162 hw rfl d_law_511
                        · have hw := hw.2 q147
                          by_cases q163 : y5 = (10 : Int32)
                          · have hw := hw.1 q163
                            refine qx_tableIn (off := (479)) X 512 d_law_33 (by rw [q163]; decide) (by rw [q163]; decide) (by rw [q163]; rfl) (by decide) ?_
                            refine qx_aload_n (x := x1) X d_law_512 rfl 1 rfl ?_
                            refine qx_aloadA (x := bs) X d_law_513 rfl 0 rfl ?_
                            refine qx_iload_n (x := x3) X d_law_514 rfl 3 rfl ?_
                            refine qx_iconst (v := (1 : Int32)) X d_law_515 (by decide) ?_
                            refine qx_iadd X d_law_516 ?_
                            obtain ⟨g164, hw⟩ := hw
                            refine qx_sld X hX hbl hbA g164 d_law_517 ?_
                            obtain ⟨g165, hw⟩ := hw
                            obtain ⟨g168, g169, hw⟩ := hw
                            refine qx_callVI (st := []) (As := [.int (xs ((x3 + (1 : Int32))).toNatClampNeg)]) X (t_X_straighten (adK := adK) (adV := adV) l D cy b N x1 (xs ((x3 + (1 : Int32))).toNatClampNeg) h _ hw) qm_X_straighten wm_law_59 wi_X_straighten wl_X_straighten qcls11 g165 rfl rfl rfl ⟨Nat.le_of_ble_eq_true rfl, Nat.le_of_ble_eq_true rfl⟩ ⟨g168, g169⟩ (Nat.le_of_ble_eq_true rfl) rfl d_law_518 (fun r166 h167 hw => ?_)
                            refine qx_aload_n (x := x2) X d_law_521 rfl 2 rfl ?_
                            refine qx_aloadA (x := bs) X d_law_522 rfl 0 rfl ?_
                            refine qx_iload_n (x := x3) X d_law_523 rfl 3 rfl ?_
                            refine qx_iconst (v := (1 : Int32)) X d_law_524 (by decide) ?_
                            refine qx_iadd X d_law_525 ?_
                            refine qx_sld X hX hbl hbA g164 d_law_526 ?_
                            obtain ⟨g170, hw⟩ := hw
                            obtain ⟨g173, g174, hw⟩ := hw
                            refine qx_callVI (st := [.int r166]) (As := [.int (xs ((x3 + (1 : Int32))).toNatClampNeg)]) X (t_M_straighten (adK := adK) (adV := adV) l D cy b N x2 (xs ((x3 + (1 : Int32))).toNatClampNeg) h167 _ hw) qm_M_straighten wm_law_62 wi_M_straighten wl_M_straighten qcls12 g170 rfl rfl rfl ⟨Nat.le_of_ble_eq_true rfl, Nat.le_of_ble_eq_true rfl⟩ ⟨g173, g174⟩ (Nat.le_of_ble_eq_true rfl) rfl d_law_527 (fun r171 h172 hw => ?_)
                            refine qx_icmp_eq X 1271 d_law_530 (by decide) (fun q175 => ?_) (fun q175 => ?_)
                            · have hw := hw.1 q175
                              refine qx_iinc (v := (x3 + (6 : Int32))) (L' := [(3, .inl (x3 + (6 : Int32))), (0, .inr (.inr (.inr bs))), (1, .inr (.inr (.inl x1))), (2, .inr (.inr (.inl x2)))]) X d_law_1271 3 rfl rfl (by decide) rfl ?_
                              refine qx_goto X 18 d_law_1274 (by decide) ?_
                              refine qx_sub [1, 2, 3, 0] rfl ?_
                              exact ih x0 x1 x2 (x3 + (6 : Int32)) C S h172 hw
                            · have hw := hw.2 q175
                              refine qx_iconst (v := (0 : Int32)) X d_law_533 (by decide) ?_
                              obtain ⟨g176, g177, hw⟩ := hw
                              exact qx_lawret X hsz g176 g177 hw rfl d_law_534
                          · have hw := hw.2 q163
                            by_cases q178 : y5 = (11 : Int32)
                            · have hw := hw.1 q178
                              refine qx_tableIn (off := (502)) X 535 d_law_33 (by rw [q178]; decide) (by rw [q178]; decide) (by rw [q178]; rfl) (by decide) ?_
                              refine qx_aload_n (x := x1) X d_law_535 rfl 1 rfl ?_
                              refine qx_aloadA (x := bs) X d_law_536 rfl 0 rfl ?_
                              refine qx_iload_n (x := x3) X d_law_537 rfl 3 rfl ?_
                              refine qx_iconst (v := (1 : Int32)) X d_law_538 (by decide) ?_
                              refine qx_iadd X d_law_539 ?_
                              obtain ⟨g179, hw⟩ := hw
                              refine qx_sld X hX hbl hbA g179 d_law_540 ?_
                              obtain ⟨g180, hw⟩ := hw
                              obtain ⟨g183, g184, hw⟩ := hw
                              refine qx_callVI (st := []) (As := [.int (xs ((x3 + (1 : Int32))).toNatClampNeg)]) X (t_X_nights (adK := adK) (adV := adV) l D cy b N x1 (xs ((x3 + (1 : Int32))).toNatClampNeg) h _ hw) qm_X_nights wm_law_63 wi_X_nights wl_X_nights qcls11 g180 rfl rfl rfl ⟨Nat.le_of_ble_eq_true rfl, Nat.le_of_ble_eq_true rfl⟩ ⟨g183, g184⟩ (Nat.le_of_ble_eq_true rfl) rfl d_law_541 (fun r181 h182 hw => ?_)
                              refine qx_aload_n (x := x2) X d_law_544 rfl 2 rfl ?_
                              refine qx_aloadA (x := bs) X d_law_545 rfl 0 rfl ?_
                              refine qx_iload_n (x := x3) X d_law_546 rfl 3 rfl ?_
                              refine qx_iconst (v := (1 : Int32)) X d_law_547 (by decide) ?_
                              refine qx_iadd X d_law_548 ?_
                              refine qx_sld X hX hbl hbA g179 d_law_549 ?_
                              obtain ⟨g185, hw⟩ := hw
                              obtain ⟨g188, g189, hw⟩ := hw
                              refine qx_callVI (st := [.int r181]) (As := [.int (xs ((x3 + (1 : Int32))).toNatClampNeg)]) X (t_M_nights (adK := adK) (adV := adV) l D cy b N x2 (xs ((x3 + (1 : Int32))).toNatClampNeg) h182 _ hw) qm_M_nights wm_law_66 wi_M_nights wl_M_nights qcls12 g185 rfl rfl rfl ⟨Nat.le_of_ble_eq_true rfl, Nat.le_of_ble_eq_true rfl⟩ ⟨g188, g189⟩ (Nat.le_of_ble_eq_true rfl) rfl d_law_550 (fun r186 h187 hw => ?_)
                              refine qx_icmp_eq X 1271 d_law_553 (by decide) (fun q190 => ?_) (fun q190 => ?_)
                              · have hw := hw.1 q190
                                refine qx_iinc (v := (x3 + (6 : Int32))) (L' := [(3, .inl (x3 + (6 : Int32))), (0, .inr (.inr (.inr bs))), (1, .inr (.inr (.inl x1))), (2, .inr (.inr (.inl x2)))]) X d_law_1271 3 rfl rfl (by decide) rfl ?_
                                refine qx_goto X 18 d_law_1274 (by decide) ?_
                                refine qx_sub [1, 2, 3, 0] rfl ?_
                                exact ih x0 x1 x2 (x3 + (6 : Int32)) C S h187 hw
                              · have hw := hw.2 q190
                                refine qx_iconst (v := (0 : Int32)) X d_law_556 (by decide) ?_
                                obtain ⟨g191, g192, hw⟩ := hw
                                exact qx_lawret X hsz g191 g192 hw rfl d_law_557
                            · have hw := hw.2 q178
                              by_cases q193 : y5 = (12 : Int32)
                              · have hw := hw.1 q193
                                refine qx_tableIn (off := (525)) X 558 d_law_33 (by rw [q193]; decide) (by rw [q193]; decide) (by rw [q193]; rfl) (by decide) ?_
                                refine qx_aload_n (x := x1) X d_law_558 rfl 1 rfl ?_
                                obtain ⟨g194, hw⟩ := hw
                                obtain ⟨g197, g198, hw⟩ := hw
                                refine qx_callVI (st := []) (As := []) X (t_X_undo (adK := adK) (adV := adV) l D cy b N x1 h _ hw) qm_X_undo wm_law_67 wi_X_undo wl_X_undo qcls11 g194 rfl rfl rfl ⟨Nat.le_of_ble_eq_true rfl, Nat.le_of_ble_eq_true rfl⟩ ⟨g197, g198⟩ (Nat.le_of_ble_eq_true rfl) rfl d_law_559 (fun r195 h196 hw => ?_)
                                refine qx_aload_n (x := x2) X d_law_562 rfl 2 rfl ?_
                                obtain ⟨g199, hw⟩ := hw
                                obtain ⟨g202, g203, hw⟩ := hw
                                refine qx_callVI (st := [.int r195]) (As := []) X (t_M_undo (adK := adK) (adV := adV) l D cy b N x2 h196 _ hw) qm_M_undo wm_law_71 wi_M_undo wl_M_undo qcls12 g199 rfl rfl rfl ⟨Nat.le_of_ble_eq_true rfl, Nat.le_of_ble_eq_true rfl⟩ ⟨g202, g203⟩ (Nat.le_of_ble_eq_true rfl) rfl d_law_563 (fun r200 h201 hw => ?_)
                                refine qx_icmp_eq X 1271 d_law_566 (by decide) (fun q204 => ?_) (fun q204 => ?_)
                                · have hw := hw.1 q204
                                  refine qx_iinc (v := (x3 + (6 : Int32))) (L' := [(3, .inl (x3 + (6 : Int32))), (0, .inr (.inr (.inr bs))), (1, .inr (.inr (.inl x1))), (2, .inr (.inr (.inl x2)))]) X d_law_1271 3 rfl rfl (by decide) rfl ?_
                                  refine qx_goto X 18 d_law_1274 (by decide) ?_
                                  refine qx_sub [1, 2, 3, 0] rfl ?_
                                  exact ih x0 x1 x2 (x3 + (6 : Int32)) C S h201 hw
                                · have hw := hw.2 q204
                                  refine qx_iconst (v := (0 : Int32)) X d_law_569 (by decide) ?_
                                  obtain ⟨g205, g206, hw⟩ := hw
                                  exact qx_lawret X hsz g205 g206 hw rfl d_law_570
                              · have hw := hw.2 q193
                                by_cases q207 : y5 = (13 : Int32)
                                · have hw := hw.1 q207
                                  refine qx_tableIn (off := (538)) X 571 d_law_33 (by rw [q207]; decide) (by rw [q207]; decide) (by rw [q207]; rfl) (by decide) ?_
                                  refine qx_aload_n (x := x1) X d_law_571 rfl 1 rfl ?_
                                  refine qx_aloadA (x := bs) X d_law_572 rfl 0 rfl ?_
                                  refine qx_iload_n (x := x3) X d_law_573 rfl 3 rfl ?_
                                  refine qx_iconst (v := (1 : Int32)) X d_law_574 (by decide) ?_
                                  refine qx_iadd X d_law_575 ?_
                                  obtain ⟨g208, hw⟩ := hw
                                  refine qx_sld X hX hbl hbA g208 d_law_576 ?_
                                  obtain ⟨g209, hw⟩ := hw
                                  obtain ⟨g212, g213, hw⟩ := hw
                                  refine qx_callVI (st := []) (As := [.int (xs ((x3 + (1 : Int32))).toNatClampNeg)]) X (t_X_hanging (adK := adK) (adV := adV) l D cy b N x1 (xs ((x3 + (1 : Int32))).toNatClampNeg) h _ hw) qm_X_hanging wm_law_72 wi_X_hanging wl_X_hanging qcls11 g209 rfl rfl rfl ⟨Nat.le_of_ble_eq_true rfl, Nat.le_of_ble_eq_true rfl⟩ ⟨g212, g213⟩ (Nat.le_of_ble_eq_true rfl) rfl d_law_577 (fun r210 h211 hw => ?_)
                                  refine qx_aload_n (x := x2) X d_law_580 rfl 2 rfl ?_
                                  refine qx_aloadA (x := bs) X d_law_581 rfl 0 rfl ?_
                                  refine qx_iload_n (x := x3) X d_law_582 rfl 3 rfl ?_
                                  refine qx_iconst (v := (1 : Int32)) X d_law_583 (by decide) ?_
                                  refine qx_iadd X d_law_584 ?_
                                  refine qx_sld X hX hbl hbA g208 d_law_585 ?_
                                  obtain ⟨g214, hw⟩ := hw
                                  obtain ⟨g217, g218, hw⟩ := hw
                                  refine qx_callVI (st := [.int r210]) (As := [.int (xs ((x3 + (1 : Int32))).toNatClampNeg)]) X (t_M_hanging (adK := adK) (adV := adV) l D cy b N x2 (xs ((x3 + (1 : Int32))).toNatClampNeg) h211 _ hw) qm_M_hanging wm_law_75 wi_M_hanging wl_M_hanging qcls12 g214 rfl rfl rfl ⟨Nat.le_of_ble_eq_true rfl, Nat.le_of_ble_eq_true rfl⟩ ⟨g217, g218⟩ (Nat.le_of_ble_eq_true rfl) rfl d_law_586 (fun r215 h216 hw => ?_)
                                  refine qx_icmp_eq X 1271 d_law_589 (by decide) (fun q219 => ?_) (fun q219 => ?_)
                                  · have hw := hw.1 q219
                                    refine qx_iinc (v := (x3 + (6 : Int32))) (L' := [(3, .inl (x3 + (6 : Int32))), (0, .inr (.inr (.inr bs))), (1, .inr (.inr (.inl x1))), (2, .inr (.inr (.inl x2)))]) X d_law_1271 3 rfl rfl (by decide) rfl ?_
                                    refine qx_goto X 18 d_law_1274 (by decide) ?_
                                    refine qx_sub [1, 2, 3, 0] rfl ?_
                                    exact ih x0 x1 x2 (x3 + (6 : Int32)) C S h216 hw
                                  · have hw := hw.2 q219
                                    refine qx_iconst (v := (0 : Int32)) X d_law_592 (by decide) ?_
                                    obtain ⟨g220, g221, hw⟩ := hw
                                    exact qx_lawret X hsz g220 g221 hw rfl d_law_593
                                · have hw := hw.2 q207
                                  by_cases q222 : y5 = (14 : Int32)
                                  · have hw := hw.1 q222
                                    refine qx_tableIn (off := (561)) X 594 d_law_33 (by rw [q222]; decide) (by rw [q222]; decide) (by rw [q222]; rfl) (by decide) ?_
                                    refine qx_aload_n (x := x1) X d_law_594 rfl 1 rfl ?_
                                    refine qx_aloadA (x := bs) X d_law_595 rfl 0 rfl ?_
                                    refine qx_iload_n (x := x3) X d_law_596 rfl 3 rfl ?_
                                    refine qx_iconst (v := (1 : Int32)) X d_law_597 (by decide) ?_
                                    refine qx_iadd X d_law_598 ?_
                                    obtain ⟨g223, hw⟩ := hw
                                    refine qx_sld X hX hbl hbA g223 d_law_599 ?_
                                    obtain ⟨g224, hw⟩ := hw
                                    obtain ⟨g227, g228, hw⟩ := hw
                                    refine qx_callVI (st := []) (As := [.int (xs ((x3 + (1 : Int32))).toNatClampNeg)]) X (t_X_apart (adK := adK) (adV := adV) l D cy b N x1 (xs ((x3 + (1 : Int32))).toNatClampNeg) h _ hw) qm_X_apart wm_law_76 wi_X_apart wl_X_apart qcls11 g224 rfl rfl rfl ⟨Nat.le_of_ble_eq_true rfl, Nat.le_of_ble_eq_true rfl⟩ ⟨g227, g228⟩ (Nat.le_of_ble_eq_true rfl) rfl d_law_600 (fun r225 h226 hw => ?_)
                                    refine qx_aload_n (x := x2) X d_law_603 rfl 2 rfl ?_
                                    refine qx_aloadA (x := bs) X d_law_604 rfl 0 rfl ?_
                                    refine qx_iload_n (x := x3) X d_law_605 rfl 3 rfl ?_
                                    refine qx_iconst (v := (1 : Int32)) X d_law_606 (by decide) ?_
                                    refine qx_iadd X d_law_607 ?_
                                    refine qx_sld X hX hbl hbA g223 d_law_608 ?_
                                    obtain ⟨g229, hw⟩ := hw
                                    obtain ⟨g232, g233, hw⟩ := hw
                                    refine qx_callVI (st := [.int r225]) (As := [.int (xs ((x3 + (1 : Int32))).toNatClampNeg)]) X (t_M_apart (adK := adK) (adV := adV) l D cy b N x2 (xs ((x3 + (1 : Int32))).toNatClampNeg) h226 _ hw) qm_M_apart wm_law_79 wi_M_apart wl_M_apart qcls12 g229 rfl rfl rfl ⟨Nat.le_of_ble_eq_true rfl, Nat.le_of_ble_eq_true rfl⟩ ⟨g232, g233⟩ (Nat.le_of_ble_eq_true rfl) rfl d_law_609 (fun r230 h231 hw => ?_)
                                    refine qx_icmp_eq X 1271 d_law_612 (by decide) (fun q234 => ?_) (fun q234 => ?_)
                                    · have hw := hw.1 q234
                                      refine qx_iinc (v := (x3 + (6 : Int32))) (L' := [(3, .inl (x3 + (6 : Int32))), (0, .inr (.inr (.inr bs))), (1, .inr (.inr (.inl x1))), (2, .inr (.inr (.inl x2)))]) X d_law_1271 3 rfl rfl (by decide) rfl ?_
                                      refine qx_goto X 18 d_law_1274 (by decide) ?_
                                      refine qx_sub [1, 2, 3, 0] rfl ?_
                                      exact ih x0 x1 x2 (x3 + (6 : Int32)) C S h231 hw
                                    · have hw := hw.2 q234
                                      refine qx_iconst (v := (0 : Int32)) X d_law_615 (by decide) ?_
                                      obtain ⟨g235, g236, hw⟩ := hw
                                      exact qx_lawret X hsz g235 g236 hw rfl d_law_616
                                  · have hw := hw.2 q222
                                    by_cases q237 : y5 = (15 : Int32)
                                    · have hw := hw.1 q237
                                      refine qx_tableIn (off := (584)) X 617 d_law_33 (by rw [q237]; decide) (by rw [q237]; decide) (by rw [q237]; rfl) (by decide) ?_
                                      refine qx_aload_n (x := x1) X d_law_617 rfl 1 rfl ?_
                                      refine qx_aloadA (x := bs) X d_law_618 rfl 0 rfl ?_
                                      refine qx_iload_n (x := x3) X d_law_619 rfl 3 rfl ?_
                                      refine qx_iconst (v := (1 : Int32)) X d_law_620 (by decide) ?_
                                      refine qx_iadd X d_law_621 ?_
                                      obtain ⟨g238, hw⟩ := hw
                                      refine qx_sld X hX hbl hbA g238 d_law_622 ?_
                                      obtain ⟨g239, hw⟩ := hw
                                      obtain ⟨g242, g243, hw⟩ := hw
                                      refine qx_callVI (st := []) (As := [.int (xs ((x3 + (1 : Int32))).toNatClampNeg)]) X (t_X_ways (adK := adK) (adV := adV) l D cy b N x1 (xs ((x3 + (1 : Int32))).toNatClampNeg) h _ hw) qm_X_ways wm_law_80 wi_X_ways wl_X_ways qcls11 g239 rfl rfl rfl ⟨Nat.le_of_ble_eq_true rfl, Nat.le_of_ble_eq_true rfl⟩ ⟨g242, g243⟩ (Nat.le_of_ble_eq_true rfl) rfl d_law_623 (fun r240 h241 hw => ?_)
                                      refine qx_aload_n (x := x2) X d_law_626 rfl 2 rfl ?_
                                      refine qx_aloadA (x := bs) X d_law_627 rfl 0 rfl ?_
                                      refine qx_iload_n (x := x3) X d_law_628 rfl 3 rfl ?_
                                      refine qx_iconst (v := (1 : Int32)) X d_law_629 (by decide) ?_
                                      refine qx_iadd X d_law_630 ?_
                                      refine qx_sld X hX hbl hbA g238 d_law_631 ?_
                                      obtain ⟨g244, hw⟩ := hw
                                      obtain ⟨g247, g248, hw⟩ := hw
                                      refine qx_callVI (st := [.int r240]) (As := [.int (xs ((x3 + (1 : Int32))).toNatClampNeg)]) X (t_M_ways (adK := adK) (adV := adV) l D cy b N x2 (xs ((x3 + (1 : Int32))).toNatClampNeg) h241 _ hw) qm_M_ways wm_law_83 wi_M_ways wl_M_ways qcls12 g244 rfl rfl rfl ⟨Nat.le_of_ble_eq_true rfl, Nat.le_of_ble_eq_true rfl⟩ ⟨g247, g248⟩ (Nat.le_of_ble_eq_true rfl) rfl d_law_632 (fun r245 h246 hw => ?_)
                                      refine qx_icmp_eq X 1271 d_law_635 (by decide) (fun q249 => ?_) (fun q249 => ?_)
                                      · have hw := hw.1 q249
                                        refine qx_iinc (v := (x3 + (6 : Int32))) (L' := [(3, .inl (x3 + (6 : Int32))), (0, .inr (.inr (.inr bs))), (1, .inr (.inr (.inl x1))), (2, .inr (.inr (.inl x2)))]) X d_law_1271 3 rfl rfl (by decide) rfl ?_
                                        refine qx_goto X 18 d_law_1274 (by decide) ?_
                                        refine qx_sub [1, 2, 3, 0] rfl ?_
                                        exact ih x0 x1 x2 (x3 + (6 : Int32)) C S h246 hw
                                      · have hw := hw.2 q249
                                        refine qx_iconst (v := (0 : Int32)) X d_law_638 (by decide) ?_
                                        obtain ⟨g250, g251, hw⟩ := hw
                                        exact qx_lawret X hsz g250 g251 hw rfl d_law_639
                                    · have hw := hw.2 q237
                                      by_cases q252 : y5 = (16 : Int32)
                                      · have hw := hw.1 q252
                                        refine qx_tableIn (off := (607)) X 640 d_law_33 (by rw [q252]; decide) (by rw [q252]; decide) (by rw [q252]; rfl) (by decide) ?_
                                        refine qx_aload_n (x := x1) X d_law_640 rfl 1 rfl ?_
                                        obtain ⟨g253, hw⟩ := hw
                                        obtain ⟨g256, g257, hw⟩ := hw
                                        refine qx_callVI (st := []) (As := []) X (t_X_sets (adK := adK) (adV := adV) l D cy b N x1 h _ hw) qm_X_sets wm_law_84 wi_X_sets wl_X_sets qcls11 g253 rfl rfl rfl ⟨Nat.le_of_ble_eq_true rfl, Nat.le_of_ble_eq_true rfl⟩ ⟨g256, g257⟩ (Nat.le_of_ble_eq_true rfl) rfl d_law_641 (fun r254 h255 hw => ?_)
                                        refine qx_aload_n (x := x2) X d_law_644 rfl 2 rfl ?_
                                        obtain ⟨g258, hw⟩ := hw
                                        obtain ⟨g261, g262, hw⟩ := hw
                                        refine qx_callVI (st := [.int r254]) (As := []) X (t_M_sets (adK := adK) (adV := adV) l D cy b N x2 h255 _ hw) qm_M_sets wm_law_87 wi_M_sets wl_M_sets qcls12 g258 rfl rfl rfl ⟨Nat.le_of_ble_eq_true rfl, Nat.le_of_ble_eq_true rfl⟩ ⟨g261, g262⟩ (Nat.le_of_ble_eq_true rfl) rfl d_law_645 (fun r259 h260 hw => ?_)
                                        refine qx_icmp_eq X 1271 d_law_648 (by decide) (fun q263 => ?_) (fun q263 => ?_)
                                        · have hw := hw.1 q263
                                          refine qx_iinc (v := (x3 + (6 : Int32))) (L' := [(3, .inl (x3 + (6 : Int32))), (0, .inr (.inr (.inr bs))), (1, .inr (.inr (.inl x1))), (2, .inr (.inr (.inl x2)))]) X d_law_1271 3 rfl rfl (by decide) rfl ?_
                                          refine qx_goto X 18 d_law_1274 (by decide) ?_
                                          refine qx_sub [1, 2, 3, 0] rfl ?_
                                          exact ih x0 x1 x2 (x3 + (6 : Int32)) C S h260 hw
                                        · have hw := hw.2 q263
                                          refine qx_iconst (v := (0 : Int32)) X d_law_651 (by decide) ?_
                                          obtain ⟨g264, g265, hw⟩ := hw
                                          exact qx_lawret X hsz g264 g265 hw rfl d_law_652
                                      · have hw := hw.2 q252
                                        by_cases q266 : y5 = (17 : Int32)
                                        · have hw := hw.1 q266
                                          refine qx_tableIn (off := (620)) X 653 d_law_33 (by rw [q266]; decide) (by rw [q266]; decide) (by rw [q266]; rfl) (by decide) ?_
                                          refine qx_aload_n (x := x1) X d_law_653 rfl 1 rfl ?_
                                          obtain ⟨g267, hw⟩ := hw
                                          obtain ⟨g270, g271, hw⟩ := hw
                                          refine qx_callVI (st := []) (As := []) X (t_X_changes (adK := adK) (adV := adV) l D cy b N x1 h _ hw) qm_X_changes wm_law_88 wi_X_changes wl_X_changes qcls11 g267 rfl rfl rfl ⟨Nat.le_of_ble_eq_true rfl, Nat.le_of_ble_eq_true rfl⟩ ⟨g270, g271⟩ (Nat.le_of_ble_eq_true rfl) rfl d_law_654 (fun r268 h269 hw => ?_)
                                          refine qx_aload_n (x := x2) X d_law_657 rfl 2 rfl ?_
                                          obtain ⟨g272, hw⟩ := hw
                                          obtain ⟨g275, g276, hw⟩ := hw
                                          refine qx_callVI (st := [.int r268]) (As := []) X (t_M_changes (adK := adK) (adV := adV) l D cy b N x2 h269 _ hw) qm_M_changes wm_law_91 wi_M_changes wl_M_changes qcls12 g272 rfl rfl rfl ⟨Nat.le_of_ble_eq_true rfl, Nat.le_of_ble_eq_true rfl⟩ ⟨g275, g276⟩ (Nat.le_of_ble_eq_true rfl) rfl d_law_658 (fun r273 h274 hw => ?_)
                                          refine qx_icmp_eq X 1271 d_law_661 (by decide) (fun q277 => ?_) (fun q277 => ?_)
                                          · have hw := hw.1 q277
                                            refine qx_iinc (v := (x3 + (6 : Int32))) (L' := [(3, .inl (x3 + (6 : Int32))), (0, .inr (.inr (.inr bs))), (1, .inr (.inr (.inl x1))), (2, .inr (.inr (.inl x2)))]) X d_law_1271 3 rfl rfl (by decide) rfl ?_
                                            refine qx_goto X 18 d_law_1274 (by decide) ?_
                                            refine qx_sub [1, 2, 3, 0] rfl ?_
                                            exact ih x0 x1 x2 (x3 + (6 : Int32)) C S h274 hw
                                          · have hw := hw.2 q277
                                            refine qx_iconst (v := (0 : Int32)) X d_law_664 (by decide) ?_
                                            obtain ⟨g278, g279, hw⟩ := hw
                                            exact qx_lawret X hsz g278 g279 hw rfl d_law_665
                                        · have hw := hw.2 q266
                                          by_cases q280 : y5 = (18 : Int32)
                                          · have hw := hw.1 q280
                                            refine qx_tableIn (off := (633)) X 666 d_law_33 (by rw [q280]; decide) (by rw [q280]; decide) (by rw [q280]; rfl) (by decide) ?_
                                            refine qx_aload_n (x := x1) X d_law_666 rfl 1 rfl ?_
                                            obtain ⟨g281, hw⟩ := hw
                                            obtain ⟨g284, g285, hw⟩ := hw
                                            refine qx_callVI (st := []) (As := []) X (t_X_themselves (adK := adK) (adV := adV) l D cy b N x1 h _ hw) qm_X_themselves wm_law_92 wi_X_themselves wl_X_themselves qcls11 g281 rfl rfl rfl ⟨Nat.le_of_ble_eq_true rfl, Nat.le_of_ble_eq_true rfl⟩ ⟨g284, g285⟩ (Nat.le_of_ble_eq_true rfl) rfl d_law_667 (fun r282 h283 hw => ?_)
                                            refine qx_aload_n (x := x2) X d_law_670 rfl 2 rfl ?_
                                            obtain ⟨g286, hw⟩ := hw
                                            obtain ⟨g289, g290, hw⟩ := hw
                                            refine qx_callVI (st := [.int r282]) (As := []) X (t_M_themselves (adK := adK) (adV := adV) l D cy b N x2 h283 _ hw) qm_M_themselves wm_law_95 wi_M_themselves wl_M_themselves qcls12 g286 rfl rfl rfl ⟨Nat.le_of_ble_eq_true rfl, Nat.le_of_ble_eq_true rfl⟩ ⟨g289, g290⟩ (Nat.le_of_ble_eq_true rfl) rfl d_law_671 (fun r287 h288 hw => ?_)
                                            refine qx_icmp_eq X 1271 d_law_674 (by decide) (fun q291 => ?_) (fun q291 => ?_)
                                            · have hw := hw.1 q291
                                              refine qx_iinc (v := (x3 + (6 : Int32))) (L' := [(3, .inl (x3 + (6 : Int32))), (0, .inr (.inr (.inr bs))), (1, .inr (.inr (.inl x1))), (2, .inr (.inr (.inl x2)))]) X d_law_1271 3 rfl rfl (by decide) rfl ?_
                                              refine qx_goto X 18 d_law_1274 (by decide) ?_
                                              refine qx_sub [1, 2, 3, 0] rfl ?_
                                              exact ih x0 x1 x2 (x3 + (6 : Int32)) C S h288 hw
                                            · have hw := hw.2 q291
                                              refine qx_iconst (v := (0 : Int32)) X d_law_677 (by decide) ?_
                                              obtain ⟨g292, g293, hw⟩ := hw
                                              exact qx_lawret X hsz g292 g293 hw rfl d_law_678
                                          · have hw := hw.2 q280
                                            by_cases q294 : y5 = (19 : Int32)
                                            · have hw := hw.1 q294
                                              refine qx_tableIn (off := (646)) X 679 d_law_33 (by rw [q294]; decide) (by rw [q294]; decide) (by rw [q294]; rfl) (by decide) ?_
                                              refine qx_aload_n (x := x1) X d_law_679 rfl 1 rfl ?_
                                              refine qx_aloadA (x := bs) X d_law_680 rfl 0 rfl ?_
                                              refine qx_iload_n (x := x3) X d_law_681 rfl 3 rfl ?_
                                              refine qx_iconst (v := (1 : Int32)) X d_law_682 (by decide) ?_
                                              refine qx_iadd X d_law_683 ?_
                                              obtain ⟨g295, hw⟩ := hw
                                              refine qx_sld X hX hbl hbA g295 d_law_684 ?_
                                              obtain ⟨g296, hw⟩ := hw
                                              obtain ⟨g299, g300, hw⟩ := hw
                                              refine qx_callVI (st := []) (As := [.int (xs ((x3 + (1 : Int32))).toNatClampNeg)]) X (t_X_crossed (adK := adK) (adV := adV) l D cy b N x1 (xs ((x3 + (1 : Int32))).toNatClampNeg) h _ hw) qm_X_crossed wm_law_96 wi_X_crossed wl_X_crossed qcls11 g296 rfl rfl rfl ⟨Nat.le_of_ble_eq_true rfl, Nat.le_of_ble_eq_true rfl⟩ ⟨g299, g300⟩ (Nat.le_of_ble_eq_true rfl) rfl d_law_685 (fun r297 h298 hw => ?_)
                                              refine qx_aload_n (x := x2) X d_law_688 rfl 2 rfl ?_
                                              refine qx_aloadA (x := bs) X d_law_689 rfl 0 rfl ?_
                                              refine qx_iload_n (x := x3) X d_law_690 rfl 3 rfl ?_
                                              refine qx_iconst (v := (1 : Int32)) X d_law_691 (by decide) ?_
                                              refine qx_iadd X d_law_692 ?_
                                              refine qx_sld X hX hbl hbA g295 d_law_693 ?_
                                              obtain ⟨g301, hw⟩ := hw
                                              obtain ⟨g304, g305, hw⟩ := hw
                                              refine qx_callVI (st := [.int r297]) (As := [.int (xs ((x3 + (1 : Int32))).toNatClampNeg)]) X (t_M_crossed (adK := adK) (adV := adV) l D cy b N x2 (xs ((x3 + (1 : Int32))).toNatClampNeg) h298 _ hw) qm_M_crossed wm_law_99 wi_M_crossed wl_M_crossed qcls12 g301 rfl rfl rfl ⟨Nat.le_of_ble_eq_true rfl, Nat.le_of_ble_eq_true rfl⟩ ⟨g304, g305⟩ (Nat.le_of_ble_eq_true rfl) rfl d_law_694 (fun r302 h303 hw => ?_)
                                              refine qx_icmp_eq X 1271 d_law_697 (by decide) (fun q306 => ?_) (fun q306 => ?_)
                                              · have hw := hw.1 q306
                                                refine qx_iinc (v := (x3 + (6 : Int32))) (L' := [(3, .inl (x3 + (6 : Int32))), (0, .inr (.inr (.inr bs))), (1, .inr (.inr (.inl x1))), (2, .inr (.inr (.inl x2)))]) X d_law_1271 3 rfl rfl (by decide) rfl ?_
                                                refine qx_goto X 18 d_law_1274 (by decide) ?_
                                                refine qx_sub [1, 2, 3, 0] rfl ?_
                                                exact ih x0 x1 x2 (x3 + (6 : Int32)) C S h303 hw
                                              · have hw := hw.2 q306
                                                refine qx_iconst (v := (0 : Int32)) X d_law_700 (by decide) ?_
                                                obtain ⟨g307, g308, hw⟩ := hw
                                                exact qx_lawret X hsz g307 g308 hw rfl d_law_701
                                            · have hw := hw.2 q294
                                              by_cases q309 : y5 = (20 : Int32)
                                              · have hw := hw.1 q309
                                                refine qx_tableIn (off := (669)) X 702 d_law_33 (by rw [q309]; decide) (by rw [q309]; decide) (by rw [q309]; rfl) (by decide) ?_
                                                refine qx_aload_n (x := x1) X d_law_702 rfl 1 rfl ?_
                                                refine qx_aloadA (x := bs) X d_law_703 rfl 0 rfl ?_
                                                refine qx_iload_n (x := x3) X d_law_704 rfl 3 rfl ?_
                                                refine qx_iconst (v := (1 : Int32)) X d_law_705 (by decide) ?_
                                                refine qx_iadd X d_law_706 ?_
                                                obtain ⟨g310, hw⟩ := hw
                                                refine qx_sld X hX hbl hbA g310 d_law_707 ?_
                                                refine qx_aloadA (x := bs) X d_law_708 rfl 0 rfl ?_
                                                refine qx_iload_n (x := x3) X d_law_709 rfl 3 rfl ?_
                                                refine qx_iconst (v := (2 : Int32)) X d_law_710 (by decide) ?_
                                                refine qx_iadd X d_law_711 ?_
                                                obtain ⟨g311, hw⟩ := hw
                                                refine qx_sld X hX hbl hbA g311 d_law_712 ?_
                                                obtain ⟨g312, hw⟩ := hw
                                                obtain ⟨g315, g316, hw⟩ := hw
                                                refine qx_callVI (st := []) (As := [.int (xs ((x3 + (1 : Int32))).toNatClampNeg), .int (xs ((x3 + (2 : Int32))).toNatClampNeg)]) X (t_X_fit (adK := adK) (adV := adV) l D cy b N x1 (xs ((x3 + (1 : Int32))).toNatClampNeg) (xs ((x3 + (2 : Int32))).toNatClampNeg) h _ hw) qm_X_fit wm_law_100 wi_X_fit wl_X_fit qcls11 g312 rfl rfl rfl ⟨Nat.le_of_ble_eq_true rfl, Nat.le_of_ble_eq_true rfl⟩ ⟨g315, g316⟩ (Nat.le_of_ble_eq_true rfl) rfl d_law_713 (fun r313 h314 hw => ?_)
                                                refine qx_aload_n (x := x2) X d_law_716 rfl 2 rfl ?_
                                                refine qx_aloadA (x := bs) X d_law_717 rfl 0 rfl ?_
                                                refine qx_iload_n (x := x3) X d_law_718 rfl 3 rfl ?_
                                                refine qx_iconst (v := (1 : Int32)) X d_law_719 (by decide) ?_
                                                refine qx_iadd X d_law_720 ?_
                                                refine qx_sld X hX hbl hbA g310 d_law_721 ?_
                                                refine qx_aloadA (x := bs) X d_law_722 rfl 0 rfl ?_
                                                refine qx_iload_n (x := x3) X d_law_723 rfl 3 rfl ?_
                                                refine qx_iconst (v := (2 : Int32)) X d_law_724 (by decide) ?_
                                                refine qx_iadd X d_law_725 ?_
                                                refine qx_sld X hX hbl hbA g311 d_law_726 ?_
                                                obtain ⟨g317, hw⟩ := hw
                                                obtain ⟨g320, g321, hw⟩ := hw
                                                refine qx_callVI (st := [.int r313]) (As := [.int (xs ((x3 + (1 : Int32))).toNatClampNeg), .int (xs ((x3 + (2 : Int32))).toNatClampNeg)]) X (t_M_fit (adK := adK) (adV := adV) l D cy b N x2 (xs ((x3 + (1 : Int32))).toNatClampNeg) (xs ((x3 + (2 : Int32))).toNatClampNeg) h314 _ hw) qm_M_fit wm_law_103 wi_M_fit wl_M_fit qcls12 g317 rfl rfl rfl ⟨Nat.le_of_ble_eq_true rfl, Nat.le_of_ble_eq_true rfl⟩ ⟨g320, g321⟩ (Nat.le_of_ble_eq_true rfl) rfl d_law_727 (fun r318 h319 hw => ?_)
                                                refine qx_icmp_eq X 1271 d_law_730 (by decide) (fun q322 => ?_) (fun q322 => ?_)
                                                · have hw := hw.1 q322
                                                  refine qx_iinc (v := (x3 + (6 : Int32))) (L' := [(3, .inl (x3 + (6 : Int32))), (0, .inr (.inr (.inr bs))), (1, .inr (.inr (.inl x1))), (2, .inr (.inr (.inl x2)))]) X d_law_1271 3 rfl rfl (by decide) rfl ?_
                                                  refine qx_goto X 18 d_law_1274 (by decide) ?_
                                                  refine qx_sub [1, 2, 3, 0] rfl ?_
                                                  exact ih x0 x1 x2 (x3 + (6 : Int32)) C S h319 hw
                                                · have hw := hw.2 q322
                                                  refine qx_iconst (v := (0 : Int32)) X d_law_733 (by decide) ?_
                                                  obtain ⟨g323, g324, hw⟩ := hw
                                                  exact qx_lawret X hsz g323 g324 hw rfl d_law_734
                                              · have hw := hw.2 q309
                                                by_cases q325 : y5 = (21 : Int32)
                                                · have hw := hw.1 q325
                                                  refine qx_tableIn (off := (702)) X 735 d_law_33 (by rw [q325]; decide) (by rw [q325]; decide) (by rw [q325]; rfl) (by decide) ?_
                                                  refine qx_aload_n (x := x1) X d_law_735 rfl 1 rfl ?_
                                                  refine qx_aloadA (x := bs) X d_law_736 rfl 0 rfl ?_
                                                  refine qx_iload_n (x := x3) X d_law_737 rfl 3 rfl ?_
                                                  refine qx_iconst (v := (1 : Int32)) X d_law_738 (by decide) ?_
                                                  refine qx_iadd X d_law_739 ?_
                                                  obtain ⟨g326, hw⟩ := hw
                                                  refine qx_sld X hX hbl hbA g326 d_law_740 ?_
                                                  obtain ⟨g327, hw⟩ := hw
                                                  obtain ⟨g330, g331, hw⟩ := hw
                                                  refine qx_callVI (st := []) (As := [.int (xs ((x3 + (1 : Int32))).toNatClampNeg)]) X (t_X_missed (adK := adK) (adV := adV) l D cy b N x1 (xs ((x3 + (1 : Int32))).toNatClampNeg) h _ hw) qm_X_missed wm_law_104 wi_X_missed wl_X_missed qcls11 g327 rfl rfl rfl ⟨Nat.le_of_ble_eq_true rfl, Nat.le_of_ble_eq_true rfl⟩ ⟨g330, g331⟩ (Nat.le_of_ble_eq_true rfl) rfl d_law_741 (fun r328 h329 hw => ?_)
                                                  refine qx_aload_n (x := x2) X d_law_744 rfl 2 rfl ?_
                                                  refine qx_aloadA (x := bs) X d_law_745 rfl 0 rfl ?_
                                                  refine qx_iload_n (x := x3) X d_law_746 rfl 3 rfl ?_
                                                  refine qx_iconst (v := (1 : Int32)) X d_law_747 (by decide) ?_
                                                  refine qx_iadd X d_law_748 ?_
                                                  refine qx_sld X hX hbl hbA g326 d_law_749 ?_
                                                  obtain ⟨g332, hw⟩ := hw
                                                  obtain ⟨g335, g336, hw⟩ := hw
                                                  refine qx_callVI (st := [.int r328]) (As := [.int (xs ((x3 + (1 : Int32))).toNatClampNeg)]) X (t_M_missed (adK := adK) (adV := adV) l D cy b N x2 (xs ((x3 + (1 : Int32))).toNatClampNeg) h329 _ hw) qm_M_missed wm_law_107 wi_M_missed wl_M_missed qcls12 g332 rfl rfl rfl ⟨Nat.le_of_ble_eq_true rfl, Nat.le_of_ble_eq_true rfl⟩ ⟨g335, g336⟩ (Nat.le_of_ble_eq_true rfl) rfl d_law_750 (fun r333 h334 hw => ?_)
                                                  refine qx_icmp_eq X 1271 d_law_753 (by decide) (fun q337 => ?_) (fun q337 => ?_)
                                                  · have hw := hw.1 q337
                                                    refine qx_iinc (v := (x3 + (6 : Int32))) (L' := [(3, .inl (x3 + (6 : Int32))), (0, .inr (.inr (.inr bs))), (1, .inr (.inr (.inl x1))), (2, .inr (.inr (.inl x2)))]) X d_law_1271 3 rfl rfl (by decide) rfl ?_
                                                    refine qx_goto X 18 d_law_1274 (by decide) ?_
                                                    refine qx_sub [1, 2, 3, 0] rfl ?_
                                                    exact ih x0 x1 x2 (x3 + (6 : Int32)) C S h334 hw
                                                  · have hw := hw.2 q337
                                                    refine qx_iconst (v := (0 : Int32)) X d_law_756 (by decide) ?_
                                                    obtain ⟨g338, g339, hw⟩ := hw
                                                    exact qx_lawret X hsz g338 g339 hw rfl d_law_757
                                                · have hw := hw.2 q325
                                                  by_cases q340 : y5 = (22 : Int32)
                                                  · have hw := hw.1 q340
                                                    refine qx_tableIn (off := (725)) X 758 d_law_33 (by rw [q340]; decide) (by rw [q340]; decide) (by rw [q340]; rfl) (by decide) ?_
                                                    refine qx_aload_n (x := x1) X d_law_758 rfl 1 rfl ?_
                                                    refine qx_aloadA (x := bs) X d_law_759 rfl 0 rfl ?_
                                                    refine qx_iload_n (x := x3) X d_law_760 rfl 3 rfl ?_
                                                    refine qx_iconst (v := (1 : Int32)) X d_law_761 (by decide) ?_
                                                    refine qx_iadd X d_law_762 ?_
                                                    obtain ⟨g341, hw⟩ := hw
                                                    refine qx_sld X hX hbl hbA g341 d_law_763 ?_
                                                    obtain ⟨g342, hw⟩ := hw
                                                    obtain ⟨g345, g346, hw⟩ := hw
                                                    refine qx_callVI (st := []) (As := [.int (xs ((x3 + (1 : Int32))).toNatClampNeg)]) X (t_X_crowded (adK := adK) (adV := adV) l D cy b N x1 (xs ((x3 + (1 : Int32))).toNatClampNeg) h _ hw) qm_X_crowded wm_law_108 wi_X_crowded wl_X_crowded qcls11 g342 rfl rfl rfl ⟨Nat.le_of_ble_eq_true rfl, Nat.le_of_ble_eq_true rfl⟩ ⟨g345, g346⟩ (Nat.le_of_ble_eq_true rfl) rfl d_law_764 (fun r343 h344 hw => ?_)
                                                    refine qx_aload_n (x := x2) X d_law_767 rfl 2 rfl ?_
                                                    refine qx_aloadA (x := bs) X d_law_768 rfl 0 rfl ?_
                                                    refine qx_iload_n (x := x3) X d_law_769 rfl 3 rfl ?_
                                                    refine qx_iconst (v := (1 : Int32)) X d_law_770 (by decide) ?_
                                                    refine qx_iadd X d_law_771 ?_
                                                    refine qx_sld X hX hbl hbA g341 d_law_772 ?_
                                                    obtain ⟨g347, hw⟩ := hw
                                                    obtain ⟨g350, g351, hw⟩ := hw
                                                    refine qx_callVI (st := [.int r343]) (As := [.int (xs ((x3 + (1 : Int32))).toNatClampNeg)]) X (t_M_crowded (adK := adK) (adV := adV) l D cy b N x2 (xs ((x3 + (1 : Int32))).toNatClampNeg) h344 _ hw) qm_M_crowded wm_law_111 wi_M_crowded wl_M_crowded qcls12 g347 rfl rfl rfl ⟨Nat.le_of_ble_eq_true rfl, Nat.le_of_ble_eq_true rfl⟩ ⟨g350, g351⟩ (Nat.le_of_ble_eq_true rfl) rfl d_law_773 (fun r348 h349 hw => ?_)
                                                    refine qx_icmp_eq X 1271 d_law_776 (by decide) (fun q352 => ?_) (fun q352 => ?_)
                                                    · have hw := hw.1 q352
                                                      refine qx_iinc (v := (x3 + (6 : Int32))) (L' := [(3, .inl (x3 + (6 : Int32))), (0, .inr (.inr (.inr bs))), (1, .inr (.inr (.inl x1))), (2, .inr (.inr (.inl x2)))]) X d_law_1271 3 rfl rfl (by decide) rfl ?_
                                                      refine qx_goto X 18 d_law_1274 (by decide) ?_
                                                      refine qx_sub [1, 2, 3, 0] rfl ?_
                                                      exact ih x0 x1 x2 (x3 + (6 : Int32)) C S h349 hw
                                                    · have hw := hw.2 q352
                                                      refine qx_iconst (v := (0 : Int32)) X d_law_779 (by decide) ?_
                                                      obtain ⟨g353, g354, hw⟩ := hw
                                                      exact qx_lawret X hsz g353 g354 hw rfl d_law_780
                                                  · have hw := hw.2 q340
                                                    by_cases q355 : y5 = (23 : Int32)
                                                    · have hw := hw.1 q355
                                                      refine qx_tableIn (off := (748)) X 781 d_law_33 (by rw [q355]; decide) (by rw [q355]; decide) (by rw [q355]; rfl) (by decide) ?_
                                                      refine qx_aload_n (x := x1) X d_law_781 rfl 1 rfl ?_
                                                      obtain ⟨g356, hw⟩ := hw
                                                      obtain ⟨g359, g360, hw⟩ := hw
                                                      refine qx_callVI (st := []) (As := []) X (t_X_straight (adK := adK) (adV := adV) l D cy b N x1 h _ hw) qm_X_straight wm_law_112 wi_X_straight wl_X_straight qcls11 g356 rfl rfl rfl ⟨Nat.le_of_ble_eq_true rfl, Nat.le_of_ble_eq_true rfl⟩ ⟨g359, g360⟩ (Nat.le_of_ble_eq_true rfl) rfl d_law_782 (fun r357 h358 hw => ?_)
                                                      refine qx_aload_n (x := x2) X d_law_785 rfl 2 rfl ?_
                                                      obtain ⟨g361, hw⟩ := hw
                                                      obtain ⟨g364, g365, hw⟩ := hw
                                                      refine qx_callVI (st := [.int r357]) (As := []) X (t_M_straight (adK := adK) (adV := adV) l D cy b N x2 h358 _ hw) qm_M_straight wm_law_115 wi_M_straight wl_M_straight qcls12 g361 rfl rfl rfl ⟨Nat.le_of_ble_eq_true rfl, Nat.le_of_ble_eq_true rfl⟩ ⟨g364, g365⟩ (Nat.le_of_ble_eq_true rfl) rfl d_law_786 (fun r362 h363 hw => ?_)
                                                      refine qx_icmp_eq X 1271 d_law_789 (by decide) (fun q366 => ?_) (fun q366 => ?_)
                                                      · have hw := hw.1 q366
                                                        refine qx_iinc (v := (x3 + (6 : Int32))) (L' := [(3, .inl (x3 + (6 : Int32))), (0, .inr (.inr (.inr bs))), (1, .inr (.inr (.inl x1))), (2, .inr (.inr (.inl x2)))]) X d_law_1271 3 rfl rfl (by decide) rfl ?_
                                                        refine qx_goto X 18 d_law_1274 (by decide) ?_
                                                        refine qx_sub [1, 2, 3, 0] rfl ?_
                                                        exact ih x0 x1 x2 (x3 + (6 : Int32)) C S h363 hw
                                                      · have hw := hw.2 q366
                                                        refine qx_iconst (v := (0 : Int32)) X d_law_792 (by decide) ?_
                                                        obtain ⟨g367, g368, hw⟩ := hw
                                                        exact qx_lawret X hsz g367 g368 hw rfl d_law_793
                                                    · have hw := hw.2 q355
                                                      by_cases q369 : y5 = (24 : Int32)
                                                      · have hw := hw.1 q369
                                                        refine qx_tableIn (off := (761)) X 794 d_law_33 (by rw [q369]; decide) (by rw [q369]; decide) (by rw [q369]; rfl) (by decide) ?_
                                                        refine qx_aload_n (x := x1) X d_law_794 rfl 1 rfl ?_
                                                        refine qx_aloadA (x := bs) X d_law_795 rfl 0 rfl ?_
                                                        refine qx_iload_n (x := x3) X d_law_796 rfl 3 rfl ?_
                                                        refine qx_iconst (v := (1 : Int32)) X d_law_797 (by decide) ?_
                                                        refine qx_iadd X d_law_798 ?_
                                                        obtain ⟨g370, hw⟩ := hw
                                                        refine qx_sld X hX hbl hbA g370 d_law_799 ?_
                                                        obtain ⟨g371, hw⟩ := hw
                                                        obtain ⟨g374, g375, hw⟩ := hw
                                                        refine qx_callVI (st := []) (As := [.int (xs ((x3 + (1 : Int32))).toNatClampNeg)]) X (t_X_bill (adK := adK) (adV := adV) l D cy b N x1 (xs ((x3 + (1 : Int32))).toNatClampNeg) h _ hw) qm_X_bill wm_law_116 wi_X_bill wl_X_bill qcls11 g371 rfl rfl rfl ⟨Nat.le_of_ble_eq_true rfl, Nat.le_of_ble_eq_true rfl⟩ ⟨g374, g375⟩ (Nat.le_of_ble_eq_true rfl) rfl d_law_800 (fun r372 h373 hw => ?_)
                                                        refine qx_aload_n (x := x2) X d_law_803 rfl 2 rfl ?_
                                                        refine qx_aloadA (x := bs) X d_law_804 rfl 0 rfl ?_
                                                        refine qx_iload_n (x := x3) X d_law_805 rfl 3 rfl ?_
                                                        refine qx_iconst (v := (1 : Int32)) X d_law_806 (by decide) ?_
                                                        refine qx_iadd X d_law_807 ?_
                                                        refine qx_sld X hX hbl hbA g370 d_law_808 ?_
                                                        obtain ⟨g376, hw⟩ := hw
                                                        obtain ⟨g379, g380, hw⟩ := hw
                                                        refine qx_callVI (st := [.int r372]) (As := [.int (xs ((x3 + (1 : Int32))).toNatClampNeg)]) X (t_M_bill (adK := adK) (adV := adV) l D cy b N x2 (xs ((x3 + (1 : Int32))).toNatClampNeg) h373 _ hw) qm_M_bill wm_law_119 wi_M_bill wl_M_bill qcls12 g376 rfl rfl rfl ⟨Nat.le_of_ble_eq_true rfl, Nat.le_of_ble_eq_true rfl⟩ ⟨g379, g380⟩ (Nat.le_of_ble_eq_true rfl) rfl d_law_809 (fun r377 h378 hw => ?_)
                                                        refine qx_icmp_eq X 1271 d_law_812 (by decide) (fun q381 => ?_) (fun q381 => ?_)
                                                        · have hw := hw.1 q381
                                                          refine qx_iinc (v := (x3 + (6 : Int32))) (L' := [(3, .inl (x3 + (6 : Int32))), (0, .inr (.inr (.inr bs))), (1, .inr (.inr (.inl x1))), (2, .inr (.inr (.inl x2)))]) X d_law_1271 3 rfl rfl (by decide) rfl ?_
                                                          refine qx_goto X 18 d_law_1274 (by decide) ?_
                                                          refine qx_sub [1, 2, 3, 0] rfl ?_
                                                          exact ih x0 x1 x2 (x3 + (6 : Int32)) C S h378 hw
                                                        · have hw := hw.2 q381
                                                          refine qx_iconst (v := (0 : Int32)) X d_law_815 (by decide) ?_
                                                          obtain ⟨g382, g383, hw⟩ := hw
                                                          exact qx_lawret X hsz g382 g383 hw rfl d_law_816
                                                      · have hw := hw.2 q369
                                                        by_cases q384 : y5 = (25 : Int32)
                                                        · have hw := hw.1 q384
                                                          refine qx_tableIn (off := (784)) X 817 d_law_33 (by rw [q384]; decide) (by rw [q384]; decide) (by rw [q384]; rfl) (by decide) ?_
                                                          refine qx_aload_n (x := x1) X d_law_817 rfl 1 rfl ?_
                                                          refine qx_aloadA (x := bs) X d_law_818 rfl 0 rfl ?_
                                                          refine qx_iload_n (x := x3) X d_law_819 rfl 3 rfl ?_
                                                          refine qx_iconst (v := (1 : Int32)) X d_law_820 (by decide) ?_
                                                          refine qx_iadd X d_law_821 ?_
                                                          obtain ⟨g385, hw⟩ := hw
                                                          refine qx_sld X hX hbl hbA g385 d_law_822 ?_
                                                          obtain ⟨g386, hw⟩ := hw
                                                          obtain ⟨g389, g390, hw⟩ := hw
                                                          refine qx_callVI (st := []) (As := [.int (xs ((x3 + (1 : Int32))).toNatClampNeg)]) X (t_X_swap (adK := adK) (adV := adV) l D cy b N x1 (xs ((x3 + (1 : Int32))).toNatClampNeg) h _ hw) qm_X_swap wm_law_120 wi_X_swap wl_X_swap qcls11 g386 rfl rfl rfl ⟨Nat.le_of_ble_eq_true rfl, Nat.le_of_ble_eq_true rfl⟩ ⟨g389, g390⟩ (Nat.le_of_ble_eq_true rfl) rfl d_law_823 (fun r387 h388 hw => ?_)
                                                          refine qx_aload_n (x := x2) X d_law_826 rfl 2 rfl ?_
                                                          refine qx_aloadA (x := bs) X d_law_827 rfl 0 rfl ?_
                                                          refine qx_iload_n (x := x3) X d_law_828 rfl 3 rfl ?_
                                                          refine qx_iconst (v := (1 : Int32)) X d_law_829 (by decide) ?_
                                                          refine qx_iadd X d_law_830 ?_
                                                          refine qx_sld X hX hbl hbA g385 d_law_831 ?_
                                                          obtain ⟨g391, hw⟩ := hw
                                                          obtain ⟨g394, g395, hw⟩ := hw
                                                          refine qx_callVI (st := [.int r387]) (As := [.int (xs ((x3 + (1 : Int32))).toNatClampNeg)]) X (t_M_swap (adK := adK) (adV := adV) l D cy b N x2 (xs ((x3 + (1 : Int32))).toNatClampNeg) h388 _ hw) qm_M_swap wm_law_123 wi_M_swap wl_M_swap qcls12 g391 rfl rfl rfl ⟨Nat.le_of_ble_eq_true rfl, Nat.le_of_ble_eq_true rfl⟩ ⟨g394, g395⟩ (Nat.le_of_ble_eq_true rfl) rfl d_law_832 (fun r392 h393 hw => ?_)
                                                          refine qx_icmp_eq X 1271 d_law_835 (by decide) (fun q396 => ?_) (fun q396 => ?_)
                                                          · have hw := hw.1 q396
                                                            refine qx_iinc (v := (x3 + (6 : Int32))) (L' := [(3, .inl (x3 + (6 : Int32))), (0, .inr (.inr (.inr bs))), (1, .inr (.inr (.inl x1))), (2, .inr (.inr (.inl x2)))]) X d_law_1271 3 rfl rfl (by decide) rfl ?_
                                                            refine qx_goto X 18 d_law_1274 (by decide) ?_
                                                            refine qx_sub [1, 2, 3, 0] rfl ?_
                                                            exact ih x0 x1 x2 (x3 + (6 : Int32)) C S h393 hw
                                                          · have hw := hw.2 q396
                                                            refine qx_iconst (v := (0 : Int32)) X d_law_838 (by decide) ?_
                                                            obtain ⟨g397, g398, hw⟩ := hw
                                                            exact qx_lawret X hsz g397 g398 hw rfl d_law_839
                                                        · have hw := hw.2 q384
                                                          by_cases q399 : y5 = (26 : Int32)
                                                          · have hw := hw.1 q399
                                                            refine qx_tableIn (off := (807)) X 840 d_law_33 (by rw [q399]; decide) (by rw [q399]; decide) (by rw [q399]; rfl) (by decide) ?_
                                                            refine qx_aload_n (x := x1) X d_law_840 rfl 1 rfl ?_
                                                            obtain ⟨g400, hw⟩ := hw
                                                            obtain ⟨g403, g404, hw⟩ := hw
                                                            refine qx_callVI (st := []) (As := []) X (t_X_round (adK := adK) (adV := adV) l D cy b N x1 h _ hw) qm_X_round wm_law_124 wi_X_round wl_X_round qcls11 g400 rfl rfl rfl ⟨Nat.le_of_ble_eq_true rfl, Nat.le_of_ble_eq_true rfl⟩ ⟨g403, g404⟩ (Nat.le_of_ble_eq_true rfl) rfl d_law_841 (fun r401 h402 hw => ?_)
                                                            refine qx_aload_n (x := x2) X d_law_844 rfl 2 rfl ?_
                                                            obtain ⟨g405, hw⟩ := hw
                                                            obtain ⟨g408, g409, hw⟩ := hw
                                                            refine qx_callVI (st := [.int r401]) (As := []) X (t_M_round (adK := adK) (adV := adV) l D cy b N x2 h402 _ hw) qm_M_round wm_law_127 wi_M_round wl_M_round qcls12 g405 rfl rfl rfl ⟨Nat.le_of_ble_eq_true rfl, Nat.le_of_ble_eq_true rfl⟩ ⟨g408, g409⟩ (Nat.le_of_ble_eq_true rfl) rfl d_law_845 (fun r406 h407 hw => ?_)
                                                            refine qx_icmp_eq X 1271 d_law_848 (by decide) (fun q410 => ?_) (fun q410 => ?_)
                                                            · have hw := hw.1 q410
                                                              refine qx_iinc (v := (x3 + (6 : Int32))) (L' := [(3, .inl (x3 + (6 : Int32))), (0, .inr (.inr (.inr bs))), (1, .inr (.inr (.inl x1))), (2, .inr (.inr (.inl x2)))]) X d_law_1271 3 rfl rfl (by decide) rfl ?_
                                                              refine qx_goto X 18 d_law_1274 (by decide) ?_
                                                              refine qx_sub [1, 2, 3, 0] rfl ?_
                                                              exact ih x0 x1 x2 (x3 + (6 : Int32)) C S h407 hw
                                                            · have hw := hw.2 q410
                                                              refine qx_iconst (v := (0 : Int32)) X d_law_851 (by decide) ?_
                                                              obtain ⟨g411, g412, hw⟩ := hw
                                                              exact qx_lawret X hsz g411 g412 hw rfl d_law_852
                                                          · have hw := hw.2 q399
                                                            by_cases q413 : y5 = (27 : Int32)
                                                            · have hw := hw.1 q413
                                                              refine qx_tableIn (off := (820)) X 853 d_law_33 (by rw [q413]; decide) (by rw [q413]; decide) (by rw [q413]; rfl) (by decide) ?_
                                                              refine qx_aload_n (x := x1) X d_law_853 rfl 1 rfl ?_
                                                              refine qx_aloadA (x := bs) X d_law_854 rfl 0 rfl ?_
                                                              refine qx_iload_n (x := x3) X d_law_855 rfl 3 rfl ?_
                                                              refine qx_iconst (v := (1 : Int32)) X d_law_856 (by decide) ?_
                                                              refine qx_iadd X d_law_857 ?_
                                                              obtain ⟨g414, hw⟩ := hw
                                                              refine qx_sld X hX hbl hbA g414 d_law_858 ?_
                                                              refine qx_aloadA (x := bs) X d_law_859 rfl 0 rfl ?_
                                                              refine qx_iload_n (x := x3) X d_law_860 rfl 3 rfl ?_
                                                              refine qx_iconst (v := (2 : Int32)) X d_law_861 (by decide) ?_
                                                              refine qx_iadd X d_law_862 ?_
                                                              obtain ⟨g415, hw⟩ := hw
                                                              refine qx_sld X hX hbl hbA g415 d_law_863 ?_
                                                              obtain ⟨g416, hw⟩ := hw
                                                              obtain ⟨g419, g420, hw⟩ := hw
                                                              refine qx_callVI (st := []) (As := [.int (xs ((x3 + (1 : Int32))).toNatClampNeg), .int (xs ((x3 + (2 : Int32))).toNatClampNeg)]) X (t_X_upright (adK := adK) (adV := adV) l D cy b N x1 (xs ((x3 + (1 : Int32))).toNatClampNeg) (xs ((x3 + (2 : Int32))).toNatClampNeg) h _ hw) qm_X_upright wm_law_128 wi_X_upright wl_X_upright qcls11 g416 rfl rfl rfl ⟨Nat.le_of_ble_eq_true rfl, Nat.le_of_ble_eq_true rfl⟩ ⟨g419, g420⟩ (Nat.le_of_ble_eq_true rfl) rfl d_law_864 (fun r417 h418 hw => ?_)
                                                              refine qx_aload_n (x := x2) X d_law_867 rfl 2 rfl ?_
                                                              refine qx_aloadA (x := bs) X d_law_868 rfl 0 rfl ?_
                                                              refine qx_iload_n (x := x3) X d_law_869 rfl 3 rfl ?_
                                                              refine qx_iconst (v := (1 : Int32)) X d_law_870 (by decide) ?_
                                                              refine qx_iadd X d_law_871 ?_
                                                              refine qx_sld X hX hbl hbA g414 d_law_872 ?_
                                                              refine qx_aloadA (x := bs) X d_law_873 rfl 0 rfl ?_
                                                              refine qx_iload_n (x := x3) X d_law_874 rfl 3 rfl ?_
                                                              refine qx_iconst (v := (2 : Int32)) X d_law_875 (by decide) ?_
                                                              refine qx_iadd X d_law_876 ?_
                                                              refine qx_sld X hX hbl hbA g415 d_law_877 ?_
                                                              obtain ⟨g421, hw⟩ := hw
                                                              obtain ⟨g424, g425, hw⟩ := hw
                                                              refine qx_callVI (st := [.int r417]) (As := [.int (xs ((x3 + (1 : Int32))).toNatClampNeg), .int (xs ((x3 + (2 : Int32))).toNatClampNeg)]) X (t_M_upright (adK := adK) (adV := adV) l D cy b N x2 (xs ((x3 + (1 : Int32))).toNatClampNeg) (xs ((x3 + (2 : Int32))).toNatClampNeg) h418 _ hw) qm_M_upright wm_law_131 wi_M_upright wl_M_upright qcls12 g421 rfl rfl rfl ⟨Nat.le_of_ble_eq_true rfl, Nat.le_of_ble_eq_true rfl⟩ ⟨g424, g425⟩ (Nat.le_of_ble_eq_true rfl) rfl d_law_878 (fun r422 h423 hw => ?_)
                                                              refine qx_icmp_eq X 1271 d_law_881 (by decide) (fun q426 => ?_) (fun q426 => ?_)
                                                              · have hw := hw.1 q426
                                                                refine qx_iinc (v := (x3 + (6 : Int32))) (L' := [(3, .inl (x3 + (6 : Int32))), (0, .inr (.inr (.inr bs))), (1, .inr (.inr (.inl x1))), (2, .inr (.inr (.inl x2)))]) X d_law_1271 3 rfl rfl (by decide) rfl ?_
                                                                refine qx_goto X 18 d_law_1274 (by decide) ?_
                                                                refine qx_sub [1, 2, 3, 0] rfl ?_
                                                                exact ih x0 x1 x2 (x3 + (6 : Int32)) C S h423 hw
                                                              · have hw := hw.2 q426
                                                                refine qx_iconst (v := (0 : Int32)) X d_law_884 (by decide) ?_
                                                                obtain ⟨g427, g428, hw⟩ := hw
                                                                exact qx_lawret X hsz g427 g428 hw rfl d_law_885
                                                            · have hw := hw.2 q413
                                                              by_cases q429 : y5 = (28 : Int32)
                                                              · have hw := hw.1 q429
                                                                refine qx_tableIn (off := (853)) X 886 d_law_33 (by rw [q429]; decide) (by rw [q429]; decide) (by rw [q429]; rfl) (by decide) ?_
                                                                refine qx_aload_n (x := x1) X d_law_886 rfl 1 rfl ?_
                                                                refine qx_aloadA (x := bs) X d_law_887 rfl 0 rfl ?_
                                                                refine qx_iload_n (x := x3) X d_law_888 rfl 3 rfl ?_
                                                                refine qx_iconst (v := (1 : Int32)) X d_law_889 (by decide) ?_
                                                                refine qx_iadd X d_law_890 ?_
                                                                obtain ⟨g430, hw⟩ := hw
                                                                refine qx_sld X hX hbl hbA g430 d_law_891 ?_
                                                                obtain ⟨g431, hw⟩ := hw
                                                                obtain ⟨g434, g435, hw⟩ := hw
                                                                refine qx_callVI (st := []) (As := [.int (xs ((x3 + (1 : Int32))).toNatClampNeg)]) X (t_X_holder (adK := adK) (adV := adV) l D cy b N x1 (xs ((x3 + (1 : Int32))).toNatClampNeg) h _ hw) qm_X_holder wm_law_132 wi_X_holder wl_X_holder qcls11 g431 rfl rfl rfl ⟨Nat.le_of_ble_eq_true rfl, Nat.le_of_ble_eq_true rfl⟩ ⟨g434, g435⟩ (Nat.le_of_ble_eq_true rfl) rfl d_law_892 (fun r432 h433 hw => ?_)
                                                                refine qx_aload_n (x := x2) X d_law_895 rfl 2 rfl ?_
                                                                refine qx_aloadA (x := bs) X d_law_896 rfl 0 rfl ?_
                                                                refine qx_iload_n (x := x3) X d_law_897 rfl 3 rfl ?_
                                                                refine qx_iconst (v := (1 : Int32)) X d_law_898 (by decide) ?_
                                                                refine qx_iadd X d_law_899 ?_
                                                                refine qx_sld X hX hbl hbA g430 d_law_900 ?_
                                                                obtain ⟨g436, hw⟩ := hw
                                                                obtain ⟨g439, g440, hw⟩ := hw
                                                                refine qx_callVI (st := [.int r432]) (As := [.int (xs ((x3 + (1 : Int32))).toNatClampNeg)]) X (t_M_holder (adK := adK) (adV := adV) l D cy b N x2 (xs ((x3 + (1 : Int32))).toNatClampNeg) h433 _ hw) qm_M_holder wm_law_135 wi_M_holder wl_M_holder qcls12 g436 rfl rfl rfl ⟨Nat.le_of_ble_eq_true rfl, Nat.le_of_ble_eq_true rfl⟩ ⟨g439, g440⟩ (Nat.le_of_ble_eq_true rfl) rfl d_law_901 (fun r437 h438 hw => ?_)
                                                                refine qx_icmp_eq X 1271 d_law_904 (by decide) (fun q441 => ?_) (fun q441 => ?_)
                                                                · have hw := hw.1 q441
                                                                  refine qx_iinc (v := (x3 + (6 : Int32))) (L' := [(3, .inl (x3 + (6 : Int32))), (0, .inr (.inr (.inr bs))), (1, .inr (.inr (.inl x1))), (2, .inr (.inr (.inl x2)))]) X d_law_1271 3 rfl rfl (by decide) rfl ?_
                                                                  refine qx_goto X 18 d_law_1274 (by decide) ?_
                                                                  refine qx_sub [1, 2, 3, 0] rfl ?_
                                                                  exact ih x0 x1 x2 (x3 + (6 : Int32)) C S h438 hw
                                                                · have hw := hw.2 q441
                                                                  refine qx_iconst (v := (0 : Int32)) X d_law_907 (by decide) ?_
                                                                  obtain ⟨g442, g443, hw⟩ := hw
                                                                  exact qx_lawret X hsz g442 g443 hw rfl d_law_908
                                                              · have hw := hw.2 q429
                                                                by_cases q444 : y5 = (29 : Int32)
                                                                · have hw := hw.1 q444
                                                                  refine qx_tableIn (off := (876)) X 909 d_law_33 (by rw [q444]; decide) (by rw [q444]; decide) (by rw [q444]; rfl) (by decide) ?_
                                                                  refine qx_aload_n (x := x1) X d_law_909 rfl 1 rfl ?_
                                                                  refine qx_aloadA (x := bs) X d_law_910 rfl 0 rfl ?_
                                                                  refine qx_iload_n (x := x3) X d_law_911 rfl 3 rfl ?_
                                                                  refine qx_iconst (v := (1 : Int32)) X d_law_912 (by decide) ?_
                                                                  refine qx_iadd X d_law_913 ?_
                                                                  obtain ⟨g445, hw⟩ := hw
                                                                  refine qx_sld X hX hbl hbA g445 d_law_914 ?_
                                                                  obtain ⟨g446, hw⟩ := hw
                                                                  obtain ⟨g449, g450, hw⟩ := hw
                                                                  refine qx_callVI (st := []) (As := [.int (xs ((x3 + (1 : Int32))).toNatClampNeg)]) X (t_X_free (adK := adK) (adV := adV) l D cy b N x1 (xs ((x3 + (1 : Int32))).toNatClampNeg) h _ hw) qm_X_free wm_law_136 wi_X_free wl_X_free qcls11 g446 rfl rfl rfl ⟨Nat.le_of_ble_eq_true rfl, Nat.le_of_ble_eq_true rfl⟩ ⟨g449, g450⟩ (Nat.le_of_ble_eq_true rfl) rfl d_law_915 (fun r447 h448 hw => ?_)
                                                                  refine qx_aload_n (x := x2) X d_law_918 rfl 2 rfl ?_
                                                                  refine qx_aloadA (x := bs) X d_law_919 rfl 0 rfl ?_
                                                                  refine qx_iload_n (x := x3) X d_law_920 rfl 3 rfl ?_
                                                                  refine qx_iconst (v := (1 : Int32)) X d_law_921 (by decide) ?_
                                                                  refine qx_iadd X d_law_922 ?_
                                                                  refine qx_sld X hX hbl hbA g445 d_law_923 ?_
                                                                  obtain ⟨g451, hw⟩ := hw
                                                                  obtain ⟨g454, g455, hw⟩ := hw
                                                                  refine qx_callVI (st := [.int r447]) (As := [.int (xs ((x3 + (1 : Int32))).toNatClampNeg)]) X (t_M_free (adK := adK) (adV := adV) l D cy b N x2 (xs ((x3 + (1 : Int32))).toNatClampNeg) h448 _ hw) qm_M_free wm_law_139 wi_M_free wl_M_free qcls12 g451 rfl rfl rfl ⟨Nat.le_of_ble_eq_true rfl, Nat.le_of_ble_eq_true rfl⟩ ⟨g454, g455⟩ (Nat.le_of_ble_eq_true rfl) rfl d_law_924 (fun r452 h453 hw => ?_)
                                                                  refine qx_icmp_eq X 1271 d_law_927 (by decide) (fun q456 => ?_) (fun q456 => ?_)
                                                                  · have hw := hw.1 q456
                                                                    refine qx_iinc (v := (x3 + (6 : Int32))) (L' := [(3, .inl (x3 + (6 : Int32))), (0, .inr (.inr (.inr bs))), (1, .inr (.inr (.inl x1))), (2, .inr (.inr (.inl x2)))]) X d_law_1271 3 rfl rfl (by decide) rfl ?_
                                                                    refine qx_goto X 18 d_law_1274 (by decide) ?_
                                                                    refine qx_sub [1, 2, 3, 0] rfl ?_
                                                                    exact ih x0 x1 x2 (x3 + (6 : Int32)) C S h453 hw
                                                                  · have hw := hw.2 q456
                                                                    refine qx_iconst (v := (0 : Int32)) X d_law_930 (by decide) ?_
                                                                    obtain ⟨g457, g458, hw⟩ := hw
                                                                    exact qx_lawret X hsz g457 g458 hw rfl d_law_931
                                                                · have hw := hw.2 q444
                                                                  by_cases q459 : y5 = (30 : Int32)
                                                                  · have hw := hw.1 q459
                                                                    refine qx_tableIn (off := (899)) X 932 d_law_33 (by rw [q459]; decide) (by rw [q459]; decide) (by rw [q459]; rfl) (by decide) ?_
                                                                    refine qx_aload_n (x := x1) X d_law_932 rfl 1 rfl ?_
                                                                    refine qx_aloadA (x := bs) X d_law_933 rfl 0 rfl ?_
                                                                    refine qx_iload_n (x := x3) X d_law_934 rfl 3 rfl ?_
                                                                    refine qx_iconst (v := (1 : Int32)) X d_law_935 (by decide) ?_
                                                                    refine qx_iadd X d_law_936 ?_
                                                                    obtain ⟨g460, hw⟩ := hw
                                                                    refine qx_sld X hX hbl hbA g460 d_law_937 ?_
                                                                    obtain ⟨g461, hw⟩ := hw
                                                                    obtain ⟨g464, g465, hw⟩ := hw
                                                                    refine qx_callVI (st := []) (As := [.int (xs ((x3 + (1 : Int32))).toNatClampNeg)]) X (t_X_day (adK := adK) (adV := adV) l D cy b N x1 (xs ((x3 + (1 : Int32))).toNatClampNeg) h _ hw) qm_X_day wm_law_140 wi_X_day wl_X_day qcls11 g461 rfl rfl rfl ⟨Nat.le_of_ble_eq_true rfl, Nat.le_of_ble_eq_true rfl⟩ ⟨g464, g465⟩ (Nat.le_of_ble_eq_true rfl) rfl d_law_938 (fun r462 h463 hw => ?_)
                                                                    refine qx_aload_n (x := x2) X d_law_941 rfl 2 rfl ?_
                                                                    refine qx_aloadA (x := bs) X d_law_942 rfl 0 rfl ?_
                                                                    refine qx_iload_n (x := x3) X d_law_943 rfl 3 rfl ?_
                                                                    refine qx_iconst (v := (1 : Int32)) X d_law_944 (by decide) ?_
                                                                    refine qx_iadd X d_law_945 ?_
                                                                    refine qx_sld X hX hbl hbA g460 d_law_946 ?_
                                                                    obtain ⟨g466, hw⟩ := hw
                                                                    obtain ⟨g469, g470, hw⟩ := hw
                                                                    refine qx_callVI (st := [.int r462]) (As := [.int (xs ((x3 + (1 : Int32))).toNatClampNeg)]) X (t_M_day (adK := adK) (adV := adV) l D cy b N x2 (xs ((x3 + (1 : Int32))).toNatClampNeg) h463 _ hw) qm_M_day wm_law_143 wi_M_day wl_M_day qcls12 g466 rfl rfl rfl ⟨Nat.le_of_ble_eq_true rfl, Nat.le_of_ble_eq_true rfl⟩ ⟨g469, g470⟩ (Nat.le_of_ble_eq_true rfl) rfl d_law_947 (fun r467 h468 hw => ?_)
                                                                    refine qx_icmp_eq X 1271 d_law_950 (by decide) (fun q471 => ?_) (fun q471 => ?_)
                                                                    · have hw := hw.1 q471
                                                                      refine qx_iinc (v := (x3 + (6 : Int32))) (L' := [(3, .inl (x3 + (6 : Int32))), (0, .inr (.inr (.inr bs))), (1, .inr (.inr (.inl x1))), (2, .inr (.inr (.inl x2)))]) X d_law_1271 3 rfl rfl (by decide) rfl ?_
                                                                      refine qx_goto X 18 d_law_1274 (by decide) ?_
                                                                      refine qx_sub [1, 2, 3, 0] rfl ?_
                                                                      exact ih x0 x1 x2 (x3 + (6 : Int32)) C S h468 hw
                                                                    · have hw := hw.2 q471
                                                                      refine qx_iconst (v := (0 : Int32)) X d_law_953 (by decide) ?_
                                                                      obtain ⟨g472, g473, hw⟩ := hw
                                                                      exact qx_lawret X hsz g472 g473 hw rfl d_law_954
                                                                  · have hw := hw.2 q459
                                                                    by_cases q474 : y5 = (31 : Int32)
                                                                    · have hw := hw.1 q474
                                                                      refine qx_tableIn (off := (922)) X 955 d_law_33 (by rw [q474]; decide) (by rw [q474]; decide) (by rw [q474]; rfl) (by decide) ?_
                                                                      refine qx_aload_n (x := x1) X d_law_955 rfl 1 rfl ?_
                                                                      refine qx_aloadA (x := bs) X d_law_956 rfl 0 rfl ?_
                                                                      refine qx_iload_n (x := x3) X d_law_957 rfl 3 rfl ?_
                                                                      refine qx_iconst (v := (1 : Int32)) X d_law_958 (by decide) ?_
                                                                      refine qx_iadd X d_law_959 ?_
                                                                      obtain ⟨g475, hw⟩ := hw
                                                                      refine qx_sld X hX hbl hbA g475 d_law_960 ?_
                                                                      refine qx_aloadA (x := bs) X d_law_961 rfl 0 rfl ?_
                                                                      refine qx_iload_n (x := x3) X d_law_962 rfl 3 rfl ?_
                                                                      refine qx_iconst (v := (2 : Int32)) X d_law_963 (by decide) ?_
                                                                      refine qx_iadd X d_law_964 ?_
                                                                      obtain ⟨g476, hw⟩ := hw
                                                                      refine qx_sld X hX hbl hbA g476 d_law_965 ?_
                                                                      refine qx_aloadA (x := bs) X d_law_966 rfl 0 rfl ?_
                                                                      refine qx_iload_n (x := x3) X d_law_967 rfl 3 rfl ?_
                                                                      refine qx_iconst (v := (3 : Int32)) X d_law_968 (by decide) ?_
                                                                      refine qx_iadd X d_law_969 ?_
                                                                      obtain ⟨g477, hw⟩ := hw
                                                                      refine qx_sld X hX hbl hbA g477 d_law_970 ?_
                                                                      obtain ⟨g478, hw⟩ := hw
                                                                      obtain ⟨g481, g482, hw⟩ := hw
                                                                      refine qx_callVI (st := []) (As := [.int (xs ((x3 + (1 : Int32))).toNatClampNeg), .int (xs ((x3 + (2 : Int32))).toNatClampNeg), .int (xs ((x3 + (3 : Int32))).toNatClampNeg)]) X (t_X_then (adK := adK) (adV := adV) l D cy b N x1 (xs ((x3 + (1 : Int32))).toNatClampNeg) (xs ((x3 + (2 : Int32))).toNatClampNeg) (xs ((x3 + (3 : Int32))).toNatClampNeg) h _ hw) qm_X_then wm_law_144 wi_X_then wl_X_then qcls11 g478 rfl rfl rfl ⟨Nat.le_of_ble_eq_true rfl, Nat.le_of_ble_eq_true rfl⟩ ⟨g481, g482⟩ (Nat.le_of_ble_eq_true rfl) rfl d_law_971 (fun r479 h480 hw => ?_)
                                                                      refine qx_aload_n (x := x2) X d_law_974 rfl 2 rfl ?_
                                                                      refine qx_aloadA (x := bs) X d_law_975 rfl 0 rfl ?_
                                                                      refine qx_iload_n (x := x3) X d_law_976 rfl 3 rfl ?_
                                                                      refine qx_iconst (v := (1 : Int32)) X d_law_977 (by decide) ?_
                                                                      refine qx_iadd X d_law_978 ?_
                                                                      refine qx_sld X hX hbl hbA g475 d_law_979 ?_
                                                                      refine qx_aloadA (x := bs) X d_law_980 rfl 0 rfl ?_
                                                                      refine qx_iload_n (x := x3) X d_law_981 rfl 3 rfl ?_
                                                                      refine qx_iconst (v := (2 : Int32)) X d_law_982 (by decide) ?_
                                                                      refine qx_iadd X d_law_983 ?_
                                                                      refine qx_sld X hX hbl hbA g476 d_law_984 ?_
                                                                      refine qx_aloadA (x := bs) X d_law_985 rfl 0 rfl ?_
                                                                      refine qx_iload_n (x := x3) X d_law_986 rfl 3 rfl ?_
                                                                      refine qx_iconst (v := (3 : Int32)) X d_law_987 (by decide) ?_
                                                                      refine qx_iadd X d_law_988 ?_
                                                                      refine qx_sld X hX hbl hbA g477 d_law_989 ?_
                                                                      obtain ⟨g483, hw⟩ := hw
                                                                      obtain ⟨g486, g487, hw⟩ := hw
                                                                      refine qx_callVI (st := [.int r479]) (As := [.int (xs ((x3 + (1 : Int32))).toNatClampNeg), .int (xs ((x3 + (2 : Int32))).toNatClampNeg), .int (xs ((x3 + (3 : Int32))).toNatClampNeg)]) X (t_M_then (adK := adK) (adV := adV) l D cy b N x2 (xs ((x3 + (1 : Int32))).toNatClampNeg) (xs ((x3 + (2 : Int32))).toNatClampNeg) (xs ((x3 + (3 : Int32))).toNatClampNeg) h480 _ hw) qm_M_then wm_law_148 wi_M_then wl_M_then qcls12 g483 rfl rfl rfl ⟨Nat.le_of_ble_eq_true rfl, Nat.le_of_ble_eq_true rfl⟩ ⟨g486, g487⟩ (Nat.le_of_ble_eq_true rfl) rfl d_law_990 (fun r484 h485 hw => ?_)
                                                                      refine qx_icmp_eq X 1271 d_law_993 (by decide) (fun q488 => ?_) (fun q488 => ?_)
                                                                      · have hw := hw.1 q488
                                                                        refine qx_iinc (v := (x3 + (6 : Int32))) (L' := [(3, .inl (x3 + (6 : Int32))), (0, .inr (.inr (.inr bs))), (1, .inr (.inr (.inl x1))), (2, .inr (.inr (.inl x2)))]) X d_law_1271 3 rfl rfl (by decide) rfl ?_
                                                                        refine qx_goto X 18 d_law_1274 (by decide) ?_
                                                                        refine qx_sub [1, 2, 3, 0] rfl ?_
                                                                        exact ih x0 x1 x2 (x3 + (6 : Int32)) C S h485 hw
                                                                      · have hw := hw.2 q488
                                                                        refine qx_iconst (v := (0 : Int32)) X d_law_996 (by decide) ?_
                                                                        obtain ⟨g489, g490, hw⟩ := hw
                                                                        exact qx_lawret X hsz g489 g490 hw rfl d_law_997
                                                                    · have hw := hw.2 q474
                                                                      by_cases q491 : y5 = (32 : Int32)
                                                                      · have hw := hw.1 q491
                                                                        refine qx_tableIn (off := (965)) X 998 d_law_33 (by rw [q491]; decide) (by rw [q491]; decide) (by rw [q491]; rfl) (by decide) ?_
                                                                        refine qx_aload_n (x := x1) X d_law_998 rfl 1 rfl ?_
                                                                        refine qx_aloadA (x := bs) X d_law_999 rfl 0 rfl ?_
                                                                        refine qx_iload_n (x := x3) X d_law_1000 rfl 3 rfl ?_
                                                                        refine qx_iconst (v := (1 : Int32)) X d_law_1001 (by decide) ?_
                                                                        refine qx_iadd X d_law_1002 ?_
                                                                        obtain ⟨g492, hw⟩ := hw
                                                                        refine qx_sld X hX hbl hbA g492 d_law_1003 ?_
                                                                        refine qx_aloadA (x := bs) X d_law_1004 rfl 0 rfl ?_
                                                                        refine qx_iload_n (x := x3) X d_law_1005 rfl 3 rfl ?_
                                                                        refine qx_iconst (v := (2 : Int32)) X d_law_1006 (by decide) ?_
                                                                        refine qx_iadd X d_law_1007 ?_
                                                                        obtain ⟨g493, hw⟩ := hw
                                                                        refine qx_sld X hX hbl hbA g493 d_law_1008 ?_
                                                                        obtain ⟨g494, hw⟩ := hw
                                                                        obtain ⟨g497, g498, hw⟩ := hw
                                                                        refine qx_callVI (st := []) (As := [.int (xs ((x3 + (1 : Int32))).toNatClampNeg), .int (xs ((x3 + (2 : Int32))).toNatClampNeg)]) X (t_X_bentIn (adK := adK) (adV := adV) l D cy b N x1 (xs ((x3 + (1 : Int32))).toNatClampNeg) (xs ((x3 + (2 : Int32))).toNatClampNeg) h _ hw) qm_X_bentIn wm_law_149 wi_X_bentIn wl_X_bentIn qcls11 g494 rfl rfl rfl ⟨Nat.le_of_ble_eq_true rfl, Nat.le_of_ble_eq_true rfl⟩ ⟨g497, g498⟩ (Nat.le_of_ble_eq_true rfl) rfl d_law_1009 (fun r495 h496 hw => ?_)
                                                                        refine qx_aload_n (x := x2) X d_law_1012 rfl 2 rfl ?_
                                                                        refine qx_aloadA (x := bs) X d_law_1013 rfl 0 rfl ?_
                                                                        refine qx_iload_n (x := x3) X d_law_1014 rfl 3 rfl ?_
                                                                        refine qx_iconst (v := (1 : Int32)) X d_law_1015 (by decide) ?_
                                                                        refine qx_iadd X d_law_1016 ?_
                                                                        refine qx_sld X hX hbl hbA g492 d_law_1017 ?_
                                                                        refine qx_aloadA (x := bs) X d_law_1018 rfl 0 rfl ?_
                                                                        refine qx_iload_n (x := x3) X d_law_1019 rfl 3 rfl ?_
                                                                        refine qx_iconst (v := (2 : Int32)) X d_law_1020 (by decide) ?_
                                                                        refine qx_iadd X d_law_1021 ?_
                                                                        refine qx_sld X hX hbl hbA g493 d_law_1022 ?_
                                                                        obtain ⟨g499, hw⟩ := hw
                                                                        obtain ⟨g502, g503, hw⟩ := hw
                                                                        refine qx_callVI (st := [.int r495]) (As := [.int (xs ((x3 + (1 : Int32))).toNatClampNeg), .int (xs ((x3 + (2 : Int32))).toNatClampNeg)]) X (t_M_bentIn (adK := adK) (adV := adV) l D cy b N x2 (xs ((x3 + (1 : Int32))).toNatClampNeg) (xs ((x3 + (2 : Int32))).toNatClampNeg) h496 _ hw) qm_M_bentIn wm_law_152 wi_M_bentIn wl_M_bentIn qcls12 g499 rfl rfl rfl ⟨Nat.le_of_ble_eq_true rfl, Nat.le_of_ble_eq_true rfl⟩ ⟨g502, g503⟩ (Nat.le_of_ble_eq_true rfl) rfl d_law_1023 (fun r500 h501 hw => ?_)
                                                                        refine qx_icmp_eq X 1271 d_law_1026 (by decide) (fun q504 => ?_) (fun q504 => ?_)
                                                                        · have hw := hw.1 q504
                                                                          refine qx_iinc (v := (x3 + (6 : Int32))) (L' := [(3, .inl (x3 + (6 : Int32))), (0, .inr (.inr (.inr bs))), (1, .inr (.inr (.inl x1))), (2, .inr (.inr (.inl x2)))]) X d_law_1271 3 rfl rfl (by decide) rfl ?_
                                                                          refine qx_goto X 18 d_law_1274 (by decide) ?_
                                                                          refine qx_sub [1, 2, 3, 0] rfl ?_
                                                                          exact ih x0 x1 x2 (x3 + (6 : Int32)) C S h501 hw
                                                                        · have hw := hw.2 q504
                                                                          refine qx_iconst (v := (0 : Int32)) X d_law_1029 (by decide) ?_
                                                                          obtain ⟨g505, g506, hw⟩ := hw
                                                                          exact qx_lawret X hsz g505 g506 hw rfl d_law_1030
                                                                      · have hw := hw.2 q491
                                                                        by_cases q507 : y5 = (33 : Int32)
                                                                        · have hw := hw.1 q507
                                                                          refine qx_tableIn (off := (998)) X 1031 d_law_33 (by rw [q507]; decide) (by rw [q507]; decide) (by rw [q507]; rfl) (by decide) ?_
                                                                          refine qx_aload_n (x := x1) X d_law_1031 rfl 1 rfl ?_
                                                                          refine qx_aloadA (x := bs) X d_law_1032 rfl 0 rfl ?_
                                                                          refine qx_iload_n (x := x3) X d_law_1033 rfl 3 rfl ?_
                                                                          refine qx_iconst (v := (1 : Int32)) X d_law_1034 (by decide) ?_
                                                                          refine qx_iadd X d_law_1035 ?_
                                                                          obtain ⟨g508, hw⟩ := hw
                                                                          refine qx_sld X hX hbl hbA g508 d_law_1036 ?_
                                                                          refine qx_aloadA (x := bs) X d_law_1037 rfl 0 rfl ?_
                                                                          refine qx_iload_n (x := x3) X d_law_1038 rfl 3 rfl ?_
                                                                          refine qx_iconst (v := (2 : Int32)) X d_law_1039 (by decide) ?_
                                                                          refine qx_iadd X d_law_1040 ?_
                                                                          obtain ⟨g509, hw⟩ := hw
                                                                          refine qx_sld X hX hbl hbA g509 d_law_1041 ?_
                                                                          refine qx_aloadA (x := bs) X d_law_1042 rfl 0 rfl ?_
                                                                          refine qx_iload_n (x := x3) X d_law_1043 rfl 3 rfl ?_
                                                                          refine qx_iconst (v := (3 : Int32)) X d_law_1044 (by decide) ?_
                                                                          refine qx_iadd X d_law_1045 ?_
                                                                          obtain ⟨g510, hw⟩ := hw
                                                                          refine qx_sld X hX hbl hbA g510 d_law_1046 ?_
                                                                          obtain ⟨g511, hw⟩ := hw
                                                                          obtain ⟨g514, g515, hw⟩ := hw
                                                                          refine qx_callVI (st := []) (As := [.int (xs ((x3 + (1 : Int32))).toNatClampNeg), .int (xs ((x3 + (2 : Int32))).toNatClampNeg), .int (xs ((x3 + (3 : Int32))).toNatClampNeg)]) X (t_X_year (adK := adK) (adV := adV) l D cy b N x1 (xs ((x3 + (1 : Int32))).toNatClampNeg) (xs ((x3 + (2 : Int32))).toNatClampNeg) (xs ((x3 + (3 : Int32))).toNatClampNeg) h _ hw) qm_X_year wm_law_153 wi_X_year wl_X_year qcls11 g511 rfl rfl rfl ⟨Nat.le_of_ble_eq_true rfl, Nat.le_of_ble_eq_true rfl⟩ ⟨g514, g515⟩ (Nat.le_of_ble_eq_true rfl) rfl d_law_1047 (fun r512 h513 hw => ?_)
                                                                          refine qx_aload_n (x := x2) X d_law_1050 rfl 2 rfl ?_
                                                                          refine qx_aloadA (x := bs) X d_law_1051 rfl 0 rfl ?_
                                                                          refine qx_iload_n (x := x3) X d_law_1052 rfl 3 rfl ?_
                                                                          refine qx_iconst (v := (1 : Int32)) X d_law_1053 (by decide) ?_
                                                                          refine qx_iadd X d_law_1054 ?_
                                                                          refine qx_sld X hX hbl hbA g508 d_law_1055 ?_
                                                                          refine qx_aloadA (x := bs) X d_law_1056 rfl 0 rfl ?_
                                                                          refine qx_iload_n (x := x3) X d_law_1057 rfl 3 rfl ?_
                                                                          refine qx_iconst (v := (2 : Int32)) X d_law_1058 (by decide) ?_
                                                                          refine qx_iadd X d_law_1059 ?_
                                                                          refine qx_sld X hX hbl hbA g509 d_law_1060 ?_
                                                                          refine qx_aloadA (x := bs) X d_law_1061 rfl 0 rfl ?_
                                                                          refine qx_iload_n (x := x3) X d_law_1062 rfl 3 rfl ?_
                                                                          refine qx_iconst (v := (3 : Int32)) X d_law_1063 (by decide) ?_
                                                                          refine qx_iadd X d_law_1064 ?_
                                                                          refine qx_sld X hX hbl hbA g510 d_law_1065 ?_
                                                                          obtain ⟨g516, hw⟩ := hw
                                                                          obtain ⟨g519, g520, hw⟩ := hw
                                                                          refine qx_callVI (st := [.int r512]) (As := [.int (xs ((x3 + (1 : Int32))).toNatClampNeg), .int (xs ((x3 + (2 : Int32))).toNatClampNeg), .int (xs ((x3 + (3 : Int32))).toNatClampNeg)]) X (t_M_year (adK := adK) (adV := adV) l D cy b N x2 (xs ((x3 + (1 : Int32))).toNatClampNeg) (xs ((x3 + (2 : Int32))).toNatClampNeg) (xs ((x3 + (3 : Int32))).toNatClampNeg) h513 _ hw) qm_M_year wm_law_156 wi_M_year wl_M_year qcls12 g516 rfl rfl rfl ⟨Nat.le_of_ble_eq_true rfl, Nat.le_of_ble_eq_true rfl⟩ ⟨g519, g520⟩ (Nat.le_of_ble_eq_true rfl) rfl d_law_1066 (fun r517 h518 hw => ?_)
                                                                          refine qx_icmp_eq X 1271 d_law_1069 (by decide) (fun q521 => ?_) (fun q521 => ?_)
                                                                          · have hw := hw.1 q521
                                                                            refine qx_iinc (v := (x3 + (6 : Int32))) (L' := [(3, .inl (x3 + (6 : Int32))), (0, .inr (.inr (.inr bs))), (1, .inr (.inr (.inl x1))), (2, .inr (.inr (.inl x2)))]) X d_law_1271 3 rfl rfl (by decide) rfl ?_
                                                                            refine qx_goto X 18 d_law_1274 (by decide) ?_
                                                                            refine qx_sub [1, 2, 3, 0] rfl ?_
                                                                            exact ih x0 x1 x2 (x3 + (6 : Int32)) C S h518 hw
                                                                          · have hw := hw.2 q521
                                                                            refine qx_iconst (v := (0 : Int32)) X d_law_1072 (by decide) ?_
                                                                            obtain ⟨g522, g523, hw⟩ := hw
                                                                            exact qx_lawret X hsz g522 g523 hw rfl d_law_1073
                                                                        · have hw := hw.2 q507
                                                                          by_cases q524 : y5 = (34 : Int32)
                                                                          · have hw := hw.1 q524
                                                                            refine qx_tableIn (off := (1041)) X 1074 d_law_33 (by rw [q524]; decide) (by rw [q524]; decide) (by rw [q524]; rfl) (by decide) ?_
                                                                            refine qx_aload_n (x := x1) X d_law_1074 rfl 1 rfl ?_
                                                                            refine qx_aloadA (x := bs) X d_law_1075 rfl 0 rfl ?_
                                                                            refine qx_iload_n (x := x3) X d_law_1076 rfl 3 rfl ?_
                                                                            refine qx_iconst (v := (1 : Int32)) X d_law_1077 (by decide) ?_
                                                                            refine qx_iadd X d_law_1078 ?_
                                                                            obtain ⟨g525, hw⟩ := hw
                                                                            refine qx_sld X hX hbl hbA g525 d_law_1079 ?_
                                                                            refine qx_aloadA (x := bs) X d_law_1080 rfl 0 rfl ?_
                                                                            refine qx_iload_n (x := x3) X d_law_1081 rfl 3 rfl ?_
                                                                            refine qx_iconst (v := (2 : Int32)) X d_law_1082 (by decide) ?_
                                                                            refine qx_iadd X d_law_1083 ?_
                                                                            obtain ⟨g526, hw⟩ := hw
                                                                            refine qx_sld X hX hbl hbA g526 d_law_1084 ?_
                                                                            refine qx_aloadA (x := bs) X d_law_1085 rfl 0 rfl ?_
                                                                            refine qx_iload_n (x := x3) X d_law_1086 rfl 3 rfl ?_
                                                                            refine qx_iconst (v := (3 : Int32)) X d_law_1087 (by decide) ?_
                                                                            refine qx_iadd X d_law_1088 ?_
                                                                            obtain ⟨g527, hw⟩ := hw
                                                                            refine qx_sld X hX hbl hbA g527 d_law_1089 ?_
                                                                            refine qx_if_eq X 1097 d_law_1090 (by decide) (fun q528 => ?_) (fun q528 => ?_)
                                                                            · have hw := hw.1 q528
                                                                              refine qx_iconst (v := (0 : Int32)) X d_law_1097 (by decide) ?_
                                                                              exact t_law_1098 X hX hbl hbA hsz N x0 x1 x2 x3 (0 : Int32) (xs ((x3 + (2 : Int32))).toNatClampNeg) (xs ((x3 + (1 : Int32))).toNatClampNeg) x1 C S h Q _ hw ih
                                                                            · have hw := hw.2 q528
                                                                              refine qx_iconst (v := (1 : Int32)) X d_law_1093 (by decide) ?_
                                                                              refine qx_goto X 1098 d_law_1094 (by decide) ?_
                                                                              exact t_law_1098 X hX hbl hbA hsz N x0 x1 x2 x3 (1 : Int32) (xs ((x3 + (2 : Int32))).toNatClampNeg) (xs ((x3 + (1 : Int32))).toNatClampNeg) x1 C S h Q _ hw ih
                                                                          · have hw := hw.2 q524
                                                                            by_cases q529 : y5 = (35 : Int32)
                                                                            · have hw := hw.1 q529
                                                                              refine qx_tableIn (off := (1100)) X 1133 d_law_33 (by rw [q529]; decide) (by rw [q529]; decide) (by rw [q529]; rfl) (by decide) ?_
                                                                              refine qx_aload_n (x := x1) X d_law_1133 rfl 1 rfl ?_
                                                                              obtain ⟨g530, hw⟩ := hw
                                                                              obtain ⟨g533, g534, hw⟩ := hw
                                                                              refine qx_callVI (st := []) (As := []) X (t_X_forget (adK := adK) (adV := adV) l D cy b N x1 h _ hw) qm_X_forget wm_law_162 wi_X_forget wl_X_forget qcls11 g530 rfl rfl rfl ⟨Nat.le_of_ble_eq_true rfl, Nat.le_of_ble_eq_true rfl⟩ ⟨g533, g534⟩ (Nat.le_of_ble_eq_true rfl) rfl d_law_1134 (fun r531 h532 hw => ?_)
                                                                              refine qx_aload_n (x := x2) X d_law_1137 rfl 2 rfl ?_
                                                                              obtain ⟨g535, hw⟩ := hw
                                                                              obtain ⟨g538, g539, hw⟩ := hw
                                                                              refine qx_callVI (st := [.int r531]) (As := []) X (t_M_forget (adK := adK) (adV := adV) l D cy b N x2 h532 _ hw) qm_M_forget wm_law_165 wi_M_forget wl_M_forget qcls12 g535 rfl rfl rfl ⟨Nat.le_of_ble_eq_true rfl, Nat.le_of_ble_eq_true rfl⟩ ⟨g538, g539⟩ (Nat.le_of_ble_eq_true rfl) rfl d_law_1138 (fun r536 h537 hw => ?_)
                                                                              refine qx_icmp_eq X 1271 d_law_1141 (by decide) (fun q540 => ?_) (fun q540 => ?_)
                                                                              · have hw := hw.1 q540
                                                                                refine qx_iinc (v := (x3 + (6 : Int32))) (L' := [(3, .inl (x3 + (6 : Int32))), (0, .inr (.inr (.inr bs))), (1, .inr (.inr (.inl x1))), (2, .inr (.inr (.inl x2)))]) X d_law_1271 3 rfl rfl (by decide) rfl ?_
                                                                                refine qx_goto X 18 d_law_1274 (by decide) ?_
                                                                                refine qx_sub [1, 2, 3, 0] rfl ?_
                                                                                exact ih x0 x1 x2 (x3 + (6 : Int32)) C S h537 hw
                                                                              · have hw := hw.2 q540
                                                                                refine qx_iconst (v := (0 : Int32)) X d_law_1144 (by decide) ?_
                                                                                obtain ⟨g541, g542, hw⟩ := hw
                                                                                exact qx_lawret X hsz g541 g542 hw rfl d_law_1145
                                                                            · have hw := hw.2 q529
                                                                              by_cases q543 : y5 = (36 : Int32)
                                                                              · have hw := hw.1 q543
                                                                                refine qx_tableIn (off := (1113)) X 1146 d_law_33 (by rw [q543]; decide) (by rw [q543]; decide) (by rw [q543]; rfl) (by decide) ?_
                                                                                refine qx_aload_n (x := x1) X d_law_1146 rfl 1 rfl ?_
                                                                                refine qx_aloadA (x := bs) X d_law_1147 rfl 0 rfl ?_
                                                                                refine qx_iload_n (x := x3) X d_law_1148 rfl 3 rfl ?_
                                                                                refine qx_iconst (v := (1 : Int32)) X d_law_1149 (by decide) ?_
                                                                                refine qx_iadd X d_law_1150 ?_
                                                                                obtain ⟨g544, hw⟩ := hw
                                                                                refine qx_sld X hX hbl hbA g544 d_law_1151 ?_
                                                                                refine qx_aloadA (x := bs) X d_law_1152 rfl 0 rfl ?_
                                                                                refine qx_iload_n (x := x3) X d_law_1153 rfl 3 rfl ?_
                                                                                refine qx_iconst (v := (2 : Int32)) X d_law_1154 (by decide) ?_
                                                                                refine qx_iadd X d_law_1155 ?_
                                                                                obtain ⟨g545, hw⟩ := hw
                                                                                refine qx_sld X hX hbl hbA g545 d_law_1156 ?_
                                                                                obtain ⟨g546, hw⟩ := hw
                                                                                obtain ⟨g549, g550, hw⟩ := hw
                                                                                refine qx_callVI (st := []) (As := [.int (xs ((x3 + (1 : Int32))).toNatClampNeg), .int (xs ((x3 + (2 : Int32))).toNatClampNeg)]) X (t_X_two (adK := adK) (adV := adV) l D cy b N x1 (xs ((x3 + (1 : Int32))).toNatClampNeg) (xs ((x3 + (2 : Int32))).toNatClampNeg) h _ hw) qm_X_two wm_law_166 wi_X_two wl_X_two qcls11 g546 rfl rfl rfl ⟨Nat.le_of_ble_eq_true rfl, Nat.le_of_ble_eq_true rfl⟩ ⟨g549, g550⟩ (Nat.le_of_ble_eq_true rfl) rfl d_law_1157 (fun r547 h548 hw => ?_)
                                                                                refine qx_aload_n (x := x2) X d_law_1160 rfl 2 rfl ?_
                                                                                refine qx_aloadA (x := bs) X d_law_1161 rfl 0 rfl ?_
                                                                                refine qx_iload_n (x := x3) X d_law_1162 rfl 3 rfl ?_
                                                                                refine qx_iconst (v := (1 : Int32)) X d_law_1163 (by decide) ?_
                                                                                refine qx_iadd X d_law_1164 ?_
                                                                                refine qx_sld X hX hbl hbA g544 d_law_1165 ?_
                                                                                refine qx_aloadA (x := bs) X d_law_1166 rfl 0 rfl ?_
                                                                                refine qx_iload_n (x := x3) X d_law_1167 rfl 3 rfl ?_
                                                                                refine qx_iconst (v := (2 : Int32)) X d_law_1168 (by decide) ?_
                                                                                refine qx_iadd X d_law_1169 ?_
                                                                                refine qx_sld X hX hbl hbA g545 d_law_1170 ?_
                                                                                obtain ⟨g551, hw⟩ := hw
                                                                                obtain ⟨g554, g555, hw⟩ := hw
                                                                                refine qx_callVI (st := [.int r547]) (As := [.int (xs ((x3 + (1 : Int32))).toNatClampNeg), .int (xs ((x3 + (2 : Int32))).toNatClampNeg)]) X (t_M_two (adK := adK) (adV := adV) l D cy b N x2 (xs ((x3 + (1 : Int32))).toNatClampNeg) (xs ((x3 + (2 : Int32))).toNatClampNeg) h548 _ hw) qm_M_two wm_law_169 wi_M_two wl_M_two qcls12 g551 rfl rfl rfl ⟨Nat.le_of_ble_eq_true rfl, Nat.le_of_ble_eq_true rfl⟩ ⟨g554, g555⟩ (Nat.le_of_ble_eq_true rfl) rfl d_law_1171 (fun r552 h553 hw => ?_)
                                                                                refine qx_icmp_eq X 1271 d_law_1174 (by decide) (fun q556 => ?_) (fun q556 => ?_)
                                                                                · have hw := hw.1 q556
                                                                                  refine qx_iinc (v := (x3 + (6 : Int32))) (L' := [(3, .inl (x3 + (6 : Int32))), (0, .inr (.inr (.inr bs))), (1, .inr (.inr (.inl x1))), (2, .inr (.inr (.inl x2)))]) X d_law_1271 3 rfl rfl (by decide) rfl ?_
                                                                                  refine qx_goto X 18 d_law_1274 (by decide) ?_
                                                                                  refine qx_sub [1, 2, 3, 0] rfl ?_
                                                                                  exact ih x0 x1 x2 (x3 + (6 : Int32)) C S h553 hw
                                                                                · have hw := hw.2 q556
                                                                                  refine qx_iconst (v := (0 : Int32)) X d_law_1177 (by decide) ?_
                                                                                  obtain ⟨g557, g558, hw⟩ := hw
                                                                                  exact qx_lawret X hsz g557 g558 hw rfl d_law_1178
                                                                              · have hw := hw.2 q543
                                                                                by_cases q559 : y5 = (37 : Int32)
                                                                                · have hw := hw.1 q559
                                                                                  refine qx_tableIn (off := (1146)) X 1179 d_law_33 (by rw [q559]; decide) (by rw [q559]; decide) (by rw [q559]; rfl) (by decide) ?_
                                                                                  refine qx_aload_n (x := x1) X d_law_1179 rfl 1 rfl ?_
                                                                                  refine qx_aloadA (x := bs) X d_law_1180 rfl 0 rfl ?_
                                                                                  refine qx_iload_n (x := x3) X d_law_1181 rfl 3 rfl ?_
                                                                                  refine qx_iconst (v := (1 : Int32)) X d_law_1182 (by decide) ?_
                                                                                  refine qx_iadd X d_law_1183 ?_
                                                                                  obtain ⟨g560, hw⟩ := hw
                                                                                  refine qx_sld X hX hbl hbA g560 d_law_1184 ?_
                                                                                  obtain ⟨g561, hw⟩ := hw
                                                                                  obtain ⟨g564, g565, hw⟩ := hw
                                                                                  refine qx_callVI (st := []) (As := [.int (xs ((x3 + (1 : Int32))).toNatClampNeg)]) X (t_X_ask (adK := adK) (adV := adV) l D cy b N x1 (xs ((x3 + (1 : Int32))).toNatClampNeg) h _ hw) qm_X_ask wm_law_170 wi_X_ask wl_X_ask qcls11 g561 rfl rfl rfl ⟨Nat.le_of_ble_eq_true rfl, Nat.le_of_ble_eq_true rfl⟩ ⟨g564, g565⟩ (Nat.le_of_ble_eq_true rfl) rfl d_law_1185 (fun r562 h563 hw => ?_)
                                                                                  refine qx_aload_n (x := x2) X d_law_1188 rfl 2 rfl ?_
                                                                                  refine qx_aloadA (x := bs) X d_law_1189 rfl 0 rfl ?_
                                                                                  refine qx_iload_n (x := x3) X d_law_1190 rfl 3 rfl ?_
                                                                                  refine qx_iconst (v := (1 : Int32)) X d_law_1191 (by decide) ?_
                                                                                  refine qx_iadd X d_law_1192 ?_
                                                                                  refine qx_sld X hX hbl hbA g560 d_law_1193 ?_
                                                                                  obtain ⟨g566, hw⟩ := hw
                                                                                  obtain ⟨g569, g570, hw⟩ := hw
                                                                                  refine qx_callVI (st := [.int r562]) (As := [.int (xs ((x3 + (1 : Int32))).toNatClampNeg)]) X (t_M_ask (adK := adK) (adV := adV) l D cy b N x2 (xs ((x3 + (1 : Int32))).toNatClampNeg) h563 _ hw) qm_M_ask wm_law_173 wi_M_ask wl_M_ask qcls12 g566 rfl rfl rfl ⟨Nat.le_of_ble_eq_true rfl, Nat.le_of_ble_eq_true rfl⟩ ⟨g569, g570⟩ (Nat.le_of_ble_eq_true rfl) rfl d_law_1194 (fun r567 h568 hw => ?_)
                                                                                  refine qx_icmp_eq X 1271 d_law_1197 (by decide) (fun q571 => ?_) (fun q571 => ?_)
                                                                                  · have hw := hw.1 q571
                                                                                    refine qx_iinc (v := (x3 + (6 : Int32))) (L' := [(3, .inl (x3 + (6 : Int32))), (0, .inr (.inr (.inr bs))), (1, .inr (.inr (.inl x1))), (2, .inr (.inr (.inl x2)))]) X d_law_1271 3 rfl rfl (by decide) rfl ?_
                                                                                    refine qx_goto X 18 d_law_1274 (by decide) ?_
                                                                                    refine qx_sub [1, 2, 3, 0] rfl ?_
                                                                                    exact ih x0 x1 x2 (x3 + (6 : Int32)) C S h568 hw
                                                                                  · have hw := hw.2 q571
                                                                                    refine qx_iconst (v := (0 : Int32)) X d_law_1200 (by decide) ?_
                                                                                    obtain ⟨g572, g573, hw⟩ := hw
                                                                                    exact qx_lawret X hsz g572 g573 hw rfl d_law_1201
                                                                                · have hw := hw.2 q559
                                                                                  by_cases q574 : y5 = (38 : Int32)
                                                                                  · have hw := hw.1 q574
                                                                                    refine qx_tableIn (off := (1169)) X 1202 d_law_33 (by rw [q574]; decide) (by rw [q574]; decide) (by rw [q574]; rfl) (by decide) ?_
                                                                                    refine qx_aload_n (x := x1) X d_law_1202 rfl 1 rfl ?_
                                                                                    refine qx_aloadA (x := bs) X d_law_1203 rfl 0 rfl ?_
                                                                                    refine qx_iload_n (x := x3) X d_law_1204 rfl 3 rfl ?_
                                                                                    refine qx_iconst (v := (1 : Int32)) X d_law_1205 (by decide) ?_
                                                                                    refine qx_iadd X d_law_1206 ?_
                                                                                    obtain ⟨g575, hw⟩ := hw
                                                                                    refine qx_sld X hX hbl hbA g575 d_law_1207 ?_
                                                                                    obtain ⟨g576, hw⟩ := hw
                                                                                    obtain ⟨g579, g580, hw⟩ := hw
                                                                                    refine qx_callVI (st := []) (As := [.int (xs ((x3 + (1 : Int32))).toNatClampNeg)]) X (t_X_hold (adK := adK) (adV := adV) l D cy b N x1 (xs ((x3 + (1 : Int32))).toNatClampNeg) h _ hw) qm_X_hold wm_law_174 wi_X_hold wl_X_hold qcls11 g576 rfl rfl rfl ⟨Nat.le_of_ble_eq_true rfl, Nat.le_of_ble_eq_true rfl⟩ ⟨g579, g580⟩ (Nat.le_of_ble_eq_true rfl) rfl d_law_1208 (fun r577 h578 hw => ?_)
                                                                                    refine qx_aload_n (x := x2) X d_law_1211 rfl 2 rfl ?_
                                                                                    refine qx_aloadA (x := bs) X d_law_1212 rfl 0 rfl ?_
                                                                                    refine qx_iload_n (x := x3) X d_law_1213 rfl 3 rfl ?_
                                                                                    refine qx_iconst (v := (1 : Int32)) X d_law_1214 (by decide) ?_
                                                                                    refine qx_iadd X d_law_1215 ?_
                                                                                    refine qx_sld X hX hbl hbA g575 d_law_1216 ?_
                                                                                    obtain ⟨g581, hw⟩ := hw
                                                                                    obtain ⟨g584, g585, hw⟩ := hw
                                                                                    refine qx_callVI (st := [.int r577]) (As := [.int (xs ((x3 + (1 : Int32))).toNatClampNeg)]) X (t_M_hold (adK := adK) (adV := adV) l D cy b N x2 (xs ((x3 + (1 : Int32))).toNatClampNeg) h578 _ hw) qm_M_hold wm_law_177 wi_M_hold wl_M_hold qcls12 g581 rfl rfl rfl ⟨Nat.le_of_ble_eq_true rfl, Nat.le_of_ble_eq_true rfl⟩ ⟨g584, g585⟩ (Nat.le_of_ble_eq_true rfl) rfl d_law_1217 (fun r582 h583 hw => ?_)
                                                                                    refine qx_icmp_eq X 1271 d_law_1220 (by decide) (fun q586 => ?_) (fun q586 => ?_)
                                                                                    · have hw := hw.1 q586
                                                                                      refine qx_iinc (v := (x3 + (6 : Int32))) (L' := [(3, .inl (x3 + (6 : Int32))), (0, .inr (.inr (.inr bs))), (1, .inr (.inr (.inl x1))), (2, .inr (.inr (.inl x2)))]) X d_law_1271 3 rfl rfl (by decide) rfl ?_
                                                                                      refine qx_goto X 18 d_law_1274 (by decide) ?_
                                                                                      refine qx_sub [1, 2, 3, 0] rfl ?_
                                                                                      exact ih x0 x1 x2 (x3 + (6 : Int32)) C S h583 hw
                                                                                    · have hw := hw.2 q586
                                                                                      refine qx_iconst (v := (0 : Int32)) X d_law_1223 (by decide) ?_
                                                                                      obtain ⟨g587, g588, hw⟩ := hw
                                                                                      exact qx_lawret X hsz g587 g588 hw rfl d_law_1224
                                                                                  · have hw := hw.2 q574
                                                                                    by_cases q589 : y5 = (39 : Int32)
                                                                                    · have hw := hw.1 q589
                                                                                      refine qx_tableIn (off := (1192)) X 1225 d_law_33 (by rw [q589]; decide) (by rw [q589]; decide) (by rw [q589]; rfl) (by decide) ?_
                                                                                      refine qx_aload_n (x := x1) X d_law_1225 rfl 1 rfl ?_
                                                                                      refine qx_aloadA (x := bs) X d_law_1226 rfl 0 rfl ?_
                                                                                      refine qx_iload_n (x := x3) X d_law_1227 rfl 3 rfl ?_
                                                                                      refine qx_iconst (v := (1 : Int32)) X d_law_1228 (by decide) ?_
                                                                                      refine qx_iadd X d_law_1229 ?_
                                                                                      obtain ⟨g590, hw⟩ := hw
                                                                                      refine qx_sld X hX hbl hbA g590 d_law_1230 ?_
                                                                                      obtain ⟨g591, hw⟩ := hw
                                                                                      obtain ⟨g594, g595, hw⟩ := hw
                                                                                      refine qx_callVI (st := []) (As := [.int (xs ((x3 + (1 : Int32))).toNatClampNeg)]) X (t_X_restore (adK := adK) (adV := adV) l D cy b N x1 (xs ((x3 + (1 : Int32))).toNatClampNeg) h _ hw) qm_X_restore wm_law_178 wi_X_restore wl_X_restore qcls11 g591 rfl rfl rfl ⟨Nat.le_of_ble_eq_true rfl, Nat.le_of_ble_eq_true rfl⟩ ⟨g594, g595⟩ (Nat.le_of_ble_eq_true rfl) rfl d_law_1231 (fun r592 h593 hw => ?_)
                                                                                      refine qx_aload_n (x := x2) X d_law_1234 rfl 2 rfl ?_
                                                                                      refine qx_aloadA (x := bs) X d_law_1235 rfl 0 rfl ?_
                                                                                      refine qx_iload_n (x := x3) X d_law_1236 rfl 3 rfl ?_
                                                                                      refine qx_iconst (v := (1 : Int32)) X d_law_1237 (by decide) ?_
                                                                                      refine qx_iadd X d_law_1238 ?_
                                                                                      refine qx_sld X hX hbl hbA g590 d_law_1239 ?_
                                                                                      obtain ⟨g596, hw⟩ := hw
                                                                                      obtain ⟨g599, g600, hw⟩ := hw
                                                                                      refine qx_callVI (st := [.int r592]) (As := [.int (xs ((x3 + (1 : Int32))).toNatClampNeg)]) X (t_M_restore (adK := adK) (adV := adV) l D cy b N x2 (xs ((x3 + (1 : Int32))).toNatClampNeg) h593 _ hw) qm_M_restore wm_law_181 wi_M_restore wl_M_restore qcls12 g596 rfl rfl rfl ⟨Nat.le_of_ble_eq_true rfl, Nat.le_of_ble_eq_true rfl⟩ ⟨g599, g600⟩ (Nat.le_of_ble_eq_true rfl) rfl d_law_1240 (fun r597 h598 hw => ?_)
                                                                                      refine qx_icmp_eq X 1271 d_law_1243 (by decide) (fun q601 => ?_) (fun q601 => ?_)
                                                                                      · have hw := hw.1 q601
                                                                                        refine qx_iinc (v := (x3 + (6 : Int32))) (L' := [(3, .inl (x3 + (6 : Int32))), (0, .inr (.inr (.inr bs))), (1, .inr (.inr (.inl x1))), (2, .inr (.inr (.inl x2)))]) X d_law_1271 3 rfl rfl (by decide) rfl ?_
                                                                                        refine qx_goto X 18 d_law_1274 (by decide) ?_
                                                                                        refine qx_sub [1, 2, 3, 0] rfl ?_
                                                                                        exact ih x0 x1 x2 (x3 + (6 : Int32)) C S h598 hw
                                                                                      · have hw := hw.2 q601
                                                                                        refine qx_iconst (v := (0 : Int32)) X d_law_1246 (by decide) ?_
                                                                                        obtain ⟨g602, g603, hw⟩ := hw
                                                                                        exact qx_lawret X hsz g602 g603 hw rfl d_law_1247
                                                                                    · have hw := hw.2 q589
                                                                                      by_cases q604 : y5 = (40 : Int32)
                                                                                      · have hw := hw.1 q604
                                                                                        refine qx_tableIn (off := (1215)) X 1248 d_law_33 (by rw [q604]; decide) (by rw [q604]; decide) (by rw [q604]; rfl) (by decide) ?_
                                                                                        refine qx_aload_n (x := x1) X d_law_1248 rfl 1 rfl ?_
                                                                                        refine qx_aloadA (x := bs) X d_law_1249 rfl 0 rfl ?_
                                                                                        refine qx_iload_n (x := x3) X d_law_1250 rfl 3 rfl ?_
                                                                                        refine qx_iconst (v := (1 : Int32)) X d_law_1251 (by decide) ?_
                                                                                        refine qx_iadd X d_law_1252 ?_
                                                                                        obtain ⟨g605, hw⟩ := hw
                                                                                        refine qx_sld X hX hbl hbA g605 d_law_1253 ?_
                                                                                        obtain ⟨g606, hw⟩ := hw
                                                                                        obtain ⟨g609, g610, hw⟩ := hw
                                                                                        refine qx_callVI (st := []) (As := [.int (xs ((x3 + (1 : Int32))).toNatClampNeg)]) X (t_X_count (adK := adK) (adV := adV) l D cy b N x1 (xs ((x3 + (1 : Int32))).toNatClampNeg) h _ hw) qm_X_count wm_law_182 wi_X_count wl_X_count qcls11 g606 rfl rfl rfl ⟨Nat.le_of_ble_eq_true rfl, Nat.le_of_ble_eq_true rfl⟩ ⟨g609, g610⟩ (Nat.le_of_ble_eq_true rfl) rfl d_law_1254 (fun r607 h608 hw => ?_)
                                                                                        refine qx_aload_n (x := x2) X d_law_1257 rfl 2 rfl ?_
                                                                                        refine qx_aloadA (x := bs) X d_law_1258 rfl 0 rfl ?_
                                                                                        refine qx_iload_n (x := x3) X d_law_1259 rfl 3 rfl ?_
                                                                                        refine qx_iconst (v := (1 : Int32)) X d_law_1260 (by decide) ?_
                                                                                        refine qx_iadd X d_law_1261 ?_
                                                                                        refine qx_sld X hX hbl hbA g605 d_law_1262 ?_
                                                                                        obtain ⟨g611, hw⟩ := hw
                                                                                        obtain ⟨g614, g615, hw⟩ := hw
                                                                                        refine qx_callVI (st := [.int r607]) (As := [.int (xs ((x3 + (1 : Int32))).toNatClampNeg)]) X (t_M_count (adK := adK) (adV := adV) l D cy b N x2 (xs ((x3 + (1 : Int32))).toNatClampNeg) h608 _ hw) qm_M_count wm_law_185 wi_M_count wl_M_count qcls12 g611 rfl rfl rfl ⟨Nat.le_of_ble_eq_true rfl, Nat.le_of_ble_eq_true rfl⟩ ⟨g614, g615⟩ (Nat.le_of_ble_eq_true rfl) rfl d_law_1263 (fun r612 h613 hw => ?_)
                                                                                        refine qx_icmp_eq X 1271 d_law_1266 (by decide) (fun q616 => ?_) (fun q616 => ?_)
                                                                                        · have hw := hw.1 q616
                                                                                          refine qx_iinc (v := (x3 + (6 : Int32))) (L' := [(3, .inl (x3 + (6 : Int32))), (0, .inr (.inr (.inr bs))), (1, .inr (.inr (.inl x1))), (2, .inr (.inr (.inl x2)))]) X d_law_1271 3 rfl rfl (by decide) rfl ?_
                                                                                          refine qx_goto X 18 d_law_1274 (by decide) ?_
                                                                                          refine qx_sub [1, 2, 3, 0] rfl ?_
                                                                                          exact ih x0 x1 x2 (x3 + (6 : Int32)) C S h613 hw
                                                                                        · have hw := hw.2 q616
                                                                                          refine qx_iconst (v := (0 : Int32)) X d_law_1269 (by decide) ?_
                                                                                          obtain ⟨g617, g618, hw⟩ := hw
                                                                                          exact qx_lawret X hsz g617 g618 hw rfl d_law_1270
                                                                                      · have hw := hw.2 q604
                                                                                        have gx : y5.toInt < 0 ∨ 40 < y5.toInt := by
                                                                                          have nq6 : y5.toInt ≠ 0 := fun z => q6 (Int32.toInt_inj.mp z)
                                                                                          have nq25 : y5.toInt ≠ 1 := fun z => q25 (Int32.toInt_inj.mp z)
                                                                                          have nq40 : y5.toInt ≠ 2 := fun z => q40 (Int32.toInt_inj.mp z)
                                                                                          have nq54 : y5.toInt ≠ 3 := fun z => q54 (Int32.toInt_inj.mp z)
                                                                                          have nq68 : y5.toInt ≠ 4 := fun z => q68 (Int32.toInt_inj.mp z)
                                                                                          have nq84 : y5.toInt ≠ 5 := fun z => q84 (Int32.toInt_inj.mp z)
                                                                                          have nq100 : y5.toInt ≠ 6 := fun z => q100 (Int32.toInt_inj.mp z)
                                                                                          have nq116 : y5.toInt ≠ 7 := fun z => q116 (Int32.toInt_inj.mp z)
                                                                                          have nq132 : y5.toInt ≠ 8 := fun z => q132 (Int32.toInt_inj.mp z)
                                                                                          have nq147 : y5.toInt ≠ 9 := fun z => q147 (Int32.toInt_inj.mp z)
                                                                                          have nq163 : y5.toInt ≠ 10 := fun z => q163 (Int32.toInt_inj.mp z)
                                                                                          have nq178 : y5.toInt ≠ 11 := fun z => q178 (Int32.toInt_inj.mp z)
                                                                                          have nq193 : y5.toInt ≠ 12 := fun z => q193 (Int32.toInt_inj.mp z)
                                                                                          have nq207 : y5.toInt ≠ 13 := fun z => q207 (Int32.toInt_inj.mp z)
                                                                                          have nq222 : y5.toInt ≠ 14 := fun z => q222 (Int32.toInt_inj.mp z)
                                                                                          have nq237 : y5.toInt ≠ 15 := fun z => q237 (Int32.toInt_inj.mp z)
                                                                                          have nq252 : y5.toInt ≠ 16 := fun z => q252 (Int32.toInt_inj.mp z)
                                                                                          have nq266 : y5.toInt ≠ 17 := fun z => q266 (Int32.toInt_inj.mp z)
                                                                                          have nq280 : y5.toInt ≠ 18 := fun z => q280 (Int32.toInt_inj.mp z)
                                                                                          have nq294 : y5.toInt ≠ 19 := fun z => q294 (Int32.toInt_inj.mp z)
                                                                                          have nq309 : y5.toInt ≠ 20 := fun z => q309 (Int32.toInt_inj.mp z)
                                                                                          have nq325 : y5.toInt ≠ 21 := fun z => q325 (Int32.toInt_inj.mp z)
                                                                                          have nq340 : y5.toInt ≠ 22 := fun z => q340 (Int32.toInt_inj.mp z)
                                                                                          have nq355 : y5.toInt ≠ 23 := fun z => q355 (Int32.toInt_inj.mp z)
                                                                                          have nq369 : y5.toInt ≠ 24 := fun z => q369 (Int32.toInt_inj.mp z)
                                                                                          have nq384 : y5.toInt ≠ 25 := fun z => q384 (Int32.toInt_inj.mp z)
                                                                                          have nq399 : y5.toInt ≠ 26 := fun z => q399 (Int32.toInt_inj.mp z)
                                                                                          have nq413 : y5.toInt ≠ 27 := fun z => q413 (Int32.toInt_inj.mp z)
                                                                                          have nq429 : y5.toInt ≠ 28 := fun z => q429 (Int32.toInt_inj.mp z)
                                                                                          have nq444 : y5.toInt ≠ 29 := fun z => q444 (Int32.toInt_inj.mp z)
                                                                                          have nq459 : y5.toInt ≠ 30 := fun z => q459 (Int32.toInt_inj.mp z)
                                                                                          have nq474 : y5.toInt ≠ 31 := fun z => q474 (Int32.toInt_inj.mp z)
                                                                                          have nq491 : y5.toInt ≠ 32 := fun z => q491 (Int32.toInt_inj.mp z)
                                                                                          have nq507 : y5.toInt ≠ 33 := fun z => q507 (Int32.toInt_inj.mp z)
                                                                                          have nq524 : y5.toInt ≠ 34 := fun z => q524 (Int32.toInt_inj.mp z)
                                                                                          have nq529 : y5.toInt ≠ 35 := fun z => q529 (Int32.toInt_inj.mp z)
                                                                                          have nq543 : y5.toInt ≠ 36 := fun z => q543 (Int32.toInt_inj.mp z)
                                                                                          have nq559 : y5.toInt ≠ 37 := fun z => q559 (Int32.toInt_inj.mp z)
                                                                                          have nq574 : y5.toInt ≠ 38 := fun z => q574 (Int32.toInt_inj.mp z)
                                                                                          have nq589 : y5.toInt ≠ 39 := fun z => q589 (Int32.toInt_inj.mp z)
                                                                                          have nq604 : y5.toInt ≠ 40 := fun z => q604 (Int32.toInt_inj.mp z)
                                                                                          omega
                                                                                        refine qx_tableOut X 1271 d_law_33 gx (by decide) ?_
                                                                                        refine qx_iinc (v := (x3 + (6 : Int32))) (L' := [(3, .inl (x3 + (6 : Int32))), (0, .inr (.inr (.inr bs))), (1, .inr (.inr (.inl x1))), (2, .inr (.inr (.inl x2)))]) X d_law_1271 3 rfl rfl (by decide) rfl ?_
                                                                                        refine qx_goto X 18 d_law_1274 (by decide) ?_
                                                                                        refine qx_sub [1, 2, 3, 0] rfl ?_
                                                                                        exact ih x0 x1 x2 (x3 + (6 : Int32)) C S h hw
set_option maxRecDepth 20000 in
set_option maxHeartbeats 4000000 in
theorem t_law {bs Ls : Nat} {xs : Nat → Int32} (X : qX p s m #[Value.ref bs] meth c D cy b adK adV code "CoatHangersLaw" 4 ret nm) (hX : va_X bs Ls xs s s.heap) (hbl : bs < s.heap.size) (hbA : ¬ qA b bs) (hsz : s.heap.size = b + 1) (N : Nat) (h : qH) (Q : Int32 → qH → Prop) (hw : w_law N bs xs Ls h Q) : qW p l e room_1 s m #[Value.ref bs] below meth c D cy b 4 0 0 (lw_Z below #[Value.ref bs] s) 0 [(0, .inr (.inr (.inr bs)))] [] h := by
  unfold w_law at hw
  obtain ⟨g1, g2, hw⟩ := hw
  refine qx_new X qcls11 qdef11 wc_law_7 wn_X wz_X g1 g2 d_law_0 ?_
  refine qx_topr (fun y4 ey4 => ?_)
  have hw := hw y4 ey4
  refine qx_toph (fun h3 eh3 => ?_)
  have hw := hw h3 eh3
  refine qx_dup X (qr_cat _ _) d_law_3 ?_
  obtain ⟨g5, hw⟩ := hw
  obtain ⟨g7, g8, hw⟩ := hw
  refine qx_callIV (st := [qr b y4]) (As := []) X (t_X_init (adK := adK) (adV := adV) l D cy b N y4 h3 _ hw) qm_X_init wm_law_9 wi_X_init rfl g5 rfl rfl rfl ⟨Nat.le_of_ble_eq_true rfl, Nat.le_of_ble_eq_true rfl⟩ ⟨g7, g8⟩ (Nat.le_of_ble_eq_true rfl) rfl d_law_4 (fun h6 hw => ?_)
  refine qx_astore_n (L' := [(1, .inr (.inr (.inl y4))), (0, .inr (.inr (.inr bs)))]) X d_law_7 rfl (by decide) rfl ?_
  obtain ⟨g9, g10, hw⟩ := hw
  refine qx_new X qcls12 qdef12 wc_law_10 wn_M wz_M g9 g10 d_law_8 ?_
  refine qx_topr (fun y12 ey12 => ?_)
  have hw := hw y12 ey12
  refine qx_toph (fun h11 eh11 => ?_)
  have hw := hw h11 eh11
  refine qx_dup X (qr_cat _ _) d_law_11 ?_
  obtain ⟨g13, hw⟩ := hw
  obtain ⟨g15, g16, hw⟩ := hw
  refine qx_callIV (st := [qr b y12]) (As := []) X (t_M_init (adK := adK) (adV := adV) l D cy b N y12 h11 _ hw) qm_M_init wm_law_12 wi_M_init rfl g13 rfl rfl rfl ⟨Nat.le_of_ble_eq_true rfl, Nat.le_of_ble_eq_true rfl⟩ ⟨g15, g16⟩ (Nat.le_of_ble_eq_true rfl) rfl d_law_12 (fun h14 hw => ?_)
  refine qx_astore_n (L' := [(2, .inr (.inr (.inl y12))), (1, .inr (.inr (.inl y4))), (0, .inr (.inr (.inr bs)))]) X d_law_15 rfl (by decide) rfl ?_
  refine qx_iconst (v := (0 : Int32)) X d_law_16 (by decide) ?_
  refine qx_istore_n (L' := [(3, .inl (0 : Int32)), (2, .inr (.inr (.inl y12))), (1, .inr (.inr (.inl y4))), (0, .inr (.inr (.inr bs)))]) X d_law_17 rfl (by decide) rfl ?_
  refine qx_sub [3, 2, 1, 0] rfl ?_
  exact t_law_18 X hX hbl hbA hsz N N bs y4 y12 (0 : Int32) 409 24956 h14 Q  hw 
end QG
