/-! the constructor of the reference -/
def y_M_init : MethodName := ⟨"CoatHangersModel", "<init>", "()V"⟩
theorem qm_M_init : qMt y_M_init prog_14_method_2_code 1 (none) 0 := ⟨qT_6 (i := 24) rfl rfl, qT_1 (i := 17) (by decide +kernel) rfl, by decide, by decide, by decide +kernel⟩
theorem wi_M_init : Cond.instanceMethod y_M_init ∈ qT := qT_6 (i := 23) (by decide +kernel) rfl
theorem wm_M_7 : Cond.methodLink "CoatHangersModel" 7 objectInit ∈ qT := qT_6 (i := 25) (by decide +kernel) rfl
theorem wm_M_168 : Cond.methodLink "CoatHangersModel" 168 y_M_word ∈ qT := qT_6 (i := 30) (by decide +kernel) rfl
set_option maxRecDepth 20000 in
def w_M_init_823 (N : Nat) (x0 : Nat) (C S : Nat) (h : qH) (Q : qH → Prop)  : Prop := (qS h x0 = .inl 12 ∧ (C + 0 ≤ 48 ∧ S + 0 ≤ 12143 ∧ w_M_word N (119 : Int32) (104 : Int32) (105 : Int32) (99 : Int32) (104 : Int32) (0 : Int32) (0 : Int32) h (fun r2 h3 => (qok h3 (qR h x0 9) 3 (19 : Int32) ∧ ∀ h7 : qH, h7 = qsJ h3 (qR h x0 9) ((19 : Int32)).toNatClampNeg r2 → (qS h7 x0 = .inl 12 ∧ (C + 0 ≤ 48 ∧ S + 0 ≤ 12143 ∧ w_M_word N (110 : Int32) (97 : Int32) (105 : Int32) (108 : Int32) (0 : Int32) (0 : Int32) (0 : Int32) h7 (fun r9 h10 => (qok h10 (qR h7 x0 9) 3 (20 : Int32) ∧ ∀ h14 : qH, h14 = qsJ h10 (qR h7 x0 9) ((20 : Int32)).toNatClampNeg r9 → (qS h14 x0 = .inl 12 ∧ C + 0 ≤ 48 ∧ S + 0 ≤ 12143 ∧ w_M_begins N x0 h14 (fun h16 => (qS h16 x0 = .inl 12 ∧ C + 0 ≤ 48 ∧ S + 0 ≤ 12143 ∧ w_M_keepsRow N x0 h16 (fun h20 => (C ≤ 48 ∧ S ≤ 12143 ∧ Q h20)))))))))))))
set_option maxRecDepth 20000 in
def w_M_init_733 (N : Nat) (x0 : Nat) (C S : Nat) (h : qH) (Q : qH → Prop)  : Prop := (qS h x0 = .inl 12 ∧ (C + 0 ≤ 48 ∧ S + 0 ≤ 12143 ∧ w_M_word N (114 : Int32) (97 : Int32) (110 : Int32) (107 : Int32) (0 : Int32) (0 : Int32) (0 : Int32) h (fun r2 h3 => (qok h3 (qR h x0 9) 3 (15 : Int32) ∧ ∀ h7 : qH, h7 = qsJ h3 (qR h x0 9) ((15 : Int32)).toNatClampNeg r2 → (qS h7 x0 = .inl 12 ∧ (C + 0 ≤ 48 ∧ S + 0 ≤ 12143 ∧ w_M_word N (110 : Int32) (105 : Int32) (103 : Int32) (104 : Int32) (116 : Int32) (0 : Int32) (0 : Int32) h7 (fun r9 h10 => (qok h10 (qR h7 x0 9) 3 (16 : Int32) ∧ ∀ h14 : qH, h14 = qsJ h10 (qR h7 x0 9) ((16 : Int32)).toNatClampNeg r9 → (qS h14 x0 = .inl 12 ∧ (C + 0 ≤ 48 ∧ S + 0 ≤ 12143 ∧ w_M_word N (99 : Int32) (114 : Int32) (111 : Int32) (111 : Int32) (107 : Int32) (101 : Int32) (100 : Int32) h14 (fun r16 h17 => (qok h17 (qR h14 x0 9) 3 (17 : Int32) ∧ ∀ h21 : qH, h21 = qsJ h17 (qR h14 x0 9) ((17 : Int32)).toNatClampNeg r16 → (qS h21 x0 = .inl 12 ∧ (C + 0 ≤ 48 ∧ S + 0 ≤ 12143 ∧ w_M_word N (98 : Int32) (101 : Int32) (115 : Int32) (105 : Int32) (100 : Int32) (101 : Int32) (0 : Int32) h21 (fun r23 h24 => (qok h24 (qR h21 x0 9) 3 (18 : Int32) ∧ ∀ h28 : qH, h28 = qsJ h24 (qR h21 x0 9) ((18 : Int32)).toNatClampNeg r23 → (w_M_init_823 N x0 C S h28 Q )))))))))))))))))
set_option maxRecDepth 20000 in
def w_M_init_648 (N : Nat) (x0 : Nat) (C S : Nat) (h : qH) (Q : qH → Prop)  : Prop := (qS h x0 = .inl 12 ∧ (C + 0 ≤ 48 ∧ S + 0 ≤ 12143 ∧ w_M_word N (101 : Int32) (108 : Int32) (115 : Int32) (101 : Int32) (0 : Int32) (0 : Int32) (0 : Int32) h (fun r2 h3 => (qok h3 (qR h x0 9) 3 (11 : Int32) ∧ ∀ h7 : qH, h7 = qsJ h3 (qR h x0 9) ((11 : Int32)).toNatClampNeg r2 → (qS h7 x0 = .inl 12 ∧ (C + 0 ≤ 48 ∧ S + 0 ≤ 12143 ∧ w_M_word N (97 : Int32) (112 : Int32) (97 : Int32) (114 : Int32) (116 : Int32) (0 : Int32) (0 : Int32) h7 (fun r9 h10 => (qok h10 (qR h7 x0 9) 3 (12 : Int32) ∧ ∀ h14 : qH, h14 = qsJ h10 (qR h7 x0 9) ((12 : Int32)).toNatClampNeg r9 → (qS h14 x0 = .inl 12 ∧ (C + 0 ≤ 48 ∧ S + 0 ≤ 12143 ∧ w_M_word N (98 : Int32) (101 : Int32) (110 : Int32) (116 : Int32) (0 : Int32) (0 : Int32) (0 : Int32) h14 (fun r16 h17 => (qok h17 (qR h14 x0 9) 3 (13 : Int32) ∧ ∀ h21 : qH, h21 = qsJ h17 (qR h14 x0 9) ((13 : Int32)).toNatClampNeg r16 → (qS h21 x0 = .inl 12 ∧ (C + 0 ≤ 48 ∧ S + 0 ≤ 12143 ∧ w_M_word N (119 : Int32) (105 : Int32) (100 : Int32) (101 : Int32) (0 : Int32) (0 : Int32) (0 : Int32) h21 (fun r23 h24 => (qok h24 (qR h21 x0 9) 3 (14 : Int32) ∧ ∀ h28 : qH, h28 = qsJ h24 (qR h21 x0 9) ((14 : Int32)).toNatClampNeg r23 → (w_M_init_733 N x0 C S h28 Q )))))))))))))))))
set_option maxRecDepth 20000 in
def w_M_init_566 (N : Nat) (x0 : Nat) (C S : Nat) (h : qH) (Q : qH → Prop)  : Prop := (qS h x0 = .inl 12 ∧ (C + 0 ≤ 48 ∧ S + 0 ≤ 12143 ∧ w_M_word N (109 : Int32) (111 : Int32) (116 : Int32) (104 : Int32) (0 : Int32) (0 : Int32) (0 : Int32) h (fun r2 h3 => (qok h3 (qR h x0 9) 3 (7 : Int32) ∧ ∀ h7 : qH, h7 = qsJ h3 (qR h x0 9) ((7 : Int32)).toNatClampNeg r2 → (qS h7 x0 = .inl 12 ∧ (C + 0 ≤ 48 ∧ S + 0 ≤ 12143 ∧ w_M_word N (115 : Int32) (101 : Int32) (101 : Int32) (100 : Int32) (0 : Int32) (0 : Int32) (0 : Int32) h7 (fun r9 h10 => (qok h10 (qR h7 x0 9) 3 (8 : Int32) ∧ ∀ h14 : qH, h14 = qsJ h10 (qR h7 x0 9) ((8 : Int32)).toNatClampNeg r9 → (qS h14 x0 = .inl 12 ∧ (C + 0 ≤ 48 ∧ S + 0 ≤ 12143 ∧ w_M_word N (105 : Int32) (102 : Int32) (0 : Int32) (0 : Int32) (0 : Int32) (0 : Int32) (0 : Int32) h14 (fun r16 h17 => (qok h17 (qR h14 x0 9) 3 (9 : Int32) ∧ ∀ h21 : qH, h21 = qsJ h17 (qR h14 x0 9) ((9 : Int32)).toNatClampNeg r16 → (qS h21 x0 = .inl 12 ∧ (C + 0 ≤ 48 ∧ S + 0 ≤ 12143 ∧ w_M_word N (116 : Int32) (104 : Int32) (101 : Int32) (110 : Int32) (0 : Int32) (0 : Int32) (0 : Int32) h21 (fun r23 h24 => (qok h24 (qR h21 x0 9) 3 (10 : Int32) ∧ ∀ h28 : qH, h28 = qsJ h24 (qR h21 x0 9) ((10 : Int32)).toNatClampNeg r23 → (w_M_init_648 N x0 C S h28 Q )))))))))))))))))
set_option maxRecDepth 20000 in
def w_M_init_480 (N : Nat) (x0 : Nat) (C S : Nat) (h : qH) (Q : qH → Prop)  : Prop := (qS h x0 = .inl 12 ∧ (C + 0 ≤ 48 ∧ S + 0 ≤ 12143 ∧ w_M_word N (99 : Int32) (114 : Int32) (111 : Int32) (111 : Int32) (107 : Int32) (115 : Int32) (0 : Int32) h (fun r2 h3 => (qok h3 (qR h x0 9) 3 (3 : Int32) ∧ ∀ h7 : qH, h7 = qsJ h3 (qR h x0 9) ((3 : Int32)).toNatClampNeg r2 → (qS h7 x0 = .inl 12 ∧ (C + 0 ≤ 48 ∧ S + 0 ≤ 12143 ∧ w_M_word N (98 : Int32) (101 : Int32) (110 : Int32) (100 : Int32) (115 : Int32) (0 : Int32) (0 : Int32) h7 (fun r9 h10 => (qok h10 (qR h7 x0 9) 3 (4 : Int32) ∧ ∀ h14 : qH, h14 = qsJ h10 (qR h7 x0 9) ((4 : Int32)).toNatClampNeg r9 → (qS h14 x0 = .inl 12 ∧ (C + 0 ≤ 48 ∧ S + 0 ≤ 12143 ∧ w_M_word N (115 : Int32) (108 : Int32) (105 : Int32) (112 : Int32) (115 : Int32) (0 : Int32) (0 : Int32) h14 (fun r16 h17 => (qok h17 (qR h14 x0 9) 3 (5 : Int32) ∧ ∀ h21 : qH, h21 = qsJ h17 (qR h14 x0 9) ((5 : Int32)).toNatClampNeg r16 → (qS h21 x0 = .inl 12 ∧ (C + 0 ≤ 48 ∧ S + 0 ≤ 12143 ∧ w_M_word N (99 : Int32) (111 : Int32) (115 : Int32) (116 : Int32) (115 : Int32) (0 : Int32) (0 : Int32) h21 (fun r23 h24 => (qok h24 (qR h21 x0 9) 3 (6 : Int32) ∧ ∀ h28 : qH, h28 = qsJ h24 (qR h21 x0 9) ((6 : Int32)).toNatClampNeg r23 → (w_M_init_566 N x0 C S h28 Q )))))))))))))))))
set_option maxRecDepth 20000 in
def w_M_init_390 (N : Nat) (x0 : Nat) (C S : Nat) (h : qH) (Q : qH → Prop)  : Prop := (C + 1 ≤ 48 ∧ S + 3 ≤ 12143 ∧ ∀ y4 : Nat, y4 = qN h + 1 → ∀ h3 : qH, h3 = qnew h (.inr (2, 3)) → (qS h3 x0 = .inl 12 ∧ ∀ h6 : qH, h6 = qsR h3 x0 69 y4 → ((C + 1) + 1 ≤ 48 ∧ (S + 3) + 96 ≤ 12143 ∧ ∀ y10 : Nat, y10 = qN h6 + 1 → ∀ h9 : qH, h9 = qnew h6 (.inr (0, 96)) → (qS h9 x0 = .inl 12 ∧ ∀ h12 : qH, h12 = qsR h9 x0 70 y10 → (qS h12 x0 = .inl 12 ∧ ((C + 1) + 1) + 0 ≤ 48 ∧ ((S + 3) + 96) + 0 ≤ 12143 ∧ w_M_plain N x0 (0 : Int32) h12 (fun h14 => (qS h14 x0 = .inl 12 ∧ ((C + 1) + 1) + 0 ≤ 48 ∧ ((S + 3) + 96) + 0 ≤ 12143 ∧ w_M_plain N x0 (1 : Int32) h14 (fun h18 => (qS h18 x0 = .inl 12 ∧ (((C + 1) + 1) + 0 ≤ 48 ∧ ((S + 3) + 96) + 0 ≤ 12143 ∧ w_M_word N (104 : Int32) (97 : Int32) (110 : Int32) (103 : Int32) (101 : Int32) (114 : Int32) (0 : Int32) h18 (fun r22 h23 => (qok h23 (qR h18 x0 9) 3 (0 : Int32) ∧ ∀ h27 : qH, h27 = qsJ h23 (qR h18 x0 9) ((0 : Int32)).toNatClampNeg r22 → (qS h27 x0 = .inl 12 ∧ (((C + 1) + 1) + 0 ≤ 48 ∧ ((S + 3) + 96) + 0 ≤ 12143 ∧ w_M_word N (112 : Int32) (101 : Int32) (114 : Int32) (115 : Int32) (111 : Int32) (110 : Int32) (0 : Int32) h27 (fun r29 h30 => (qok h30 (qR h27 x0 9) 3 (1 : Int32) ∧ ∀ h34 : qH, h34 = qsJ h30 (qR h27 x0 9) ((1 : Int32)).toNatClampNeg r29 → (qS h34 x0 = .inl 12 ∧ (((C + 1) + 1) + 0 ≤ 48 ∧ ((S + 3) + 96) + 0 ≤ 12143 ∧ w_M_word N (104 : Int32) (97 : Int32) (110 : Int32) (103 : Int32) (115 : Int32) (0 : Int32) (0 : Int32) h34 (fun r36 h37 => (qok h37 (qR h34 x0 9) 3 (2 : Int32) ∧ ∀ h41 : qH, h41 = qsJ h37 (qR h34 x0 9) ((2 : Int32)).toNatClampNeg r36 → (w_M_init_480 N x0 ((C + 1) + 1) ((S + 3) + 96) h41 Q )))))))))))))))))))))
set_option maxRecDepth 20000 in
def w_M_init_290 (N : Nat) (x0 : Nat) (C S : Nat) (h : qH) (Q : qH → Prop)  : Prop := (C + 1 ≤ 48 ∧ S + 6 ≤ 12143 ∧ ∀ y4 : Nat, y4 = qN h + 1 → ∀ h3 : qH, h3 = qnew h (.inr (0, 6)) → (qS h3 x0 = .inl 12 ∧ ∀ h6 : qH, h6 = qsR h3 x0 54 y4 → ((C + 1) + 1 ≤ 48 ∧ (S + 6) + 6 ≤ 12143 ∧ ∀ y10 : Nat, y10 = qN h6 + 1 → ∀ h9 : qH, h9 = qnew h6 (.inr (2, 6)) → (qS h9 x0 = .inl 12 ∧ ∀ h12 : qH, h12 = qsR h9 x0 55 y10 → (((C + 1) + 1) + 1 ≤ 48 ∧ ((S + 6) + 6) + 6 ≤ 12143 ∧ ∀ y16 : Nat, y16 = qN h12 + 1 → ∀ h15 : qH, h15 = qnew h12 (.inr (0, 6)) → (qS h15 x0 = .inl 12 ∧ ∀ h18 : qH, h18 = qsR h15 x0 56 y16 → ((((C + 1) + 1) + 1) + 1 ≤ 48 ∧ (((S + 6) + 6) + 6) + 1280 ≤ 12143 ∧ ∀ y22 : Nat, y22 = qN h18 + 1 → ∀ h21 : qH, h21 = qnew h18 (.inr (0, 1280)) → (qS h21 x0 = .inl 12 ∧ ∀ h24 : qH, h24 = qsR h21 x0 58 y22 → (((((C + 1) + 1) + 1) + 1) + 1 ≤ 48 ∧ ((((S + 6) + 6) + 6) + 1280) + 896 ≤ 12143 ∧ ∀ y28 : Nat, y28 = qN h24 + 1 → ∀ h27 : qH, h27 = qnew h24 (.inr (0, 896)) → (qS h27 x0 = .inl 12 ∧ ∀ h30 : qH, h30 = qsR h27 x0 59 y28 → ((((((C + 1) + 1) + 1) + 1) + 1) + 1 ≤ 48 ∧ (((((S + 6) + 6) + 6) + 1280) + 896) + 42 ≤ 12143 ∧ ∀ y34 : Nat, y34 = qN h30 + 1 → ∀ h33 : qH, h33 = qnew h30 (.inr (0, 42)) → (qS h33 x0 = .inl 12 ∧ ∀ h36 : qH, h36 = qsR h33 x0 60 y34 → (((((((C + 1) + 1) + 1) + 1) + 1) + 1) + 1 ≤ 48 ∧ ((((((S + 6) + 6) + 6) + 1280) + 896) + 42) + 224 ≤ 12143 ∧ ∀ y40 : Nat, y40 = qN h36 + 1 → ∀ h39 : qH, h39 = qnew h36 (.inr (0, 224)) → (qS h39 x0 = .inl 12 ∧ ∀ h42 : qH, h42 = qsR h39 x0 62 y40 → ((((((((C + 1) + 1) + 1) + 1) + 1) + 1) + 1) + 1 ≤ 48 ∧ (((((((S + 6) + 6) + 6) + 1280) + 896) + 42) + 224) + 20 ≤ 12143 ∧ ∀ y46 : Nat, y46 = qN h42 + 1 → ∀ h45 : qH, h45 = qnew h42 (.inr (0, 20)) → (qS h45 x0 = .inl 12 ∧ ∀ h48 : qH, h48 = qsR h45 x0 64 y46 → (((((((((C + 1) + 1) + 1) + 1) + 1) + 1) + 1) + 1) + 1 ≤ 48 ∧ ((((((((S + 6) + 6) + 6) + 1280) + 896) + 42) + 224) + 20) + 20 ≤ 12143 ∧ ∀ y52 : Nat, y52 = qN h48 + 1 → ∀ h51 : qH, h51 = qnew h48 (.inr (0, 20)) → (qS h51 x0 = .inl 12 ∧ ∀ h54 : qH, h54 = qsR h51 x0 65 y52 → ((((((((((C + 1) + 1) + 1) + 1) + 1) + 1) + 1) + 1) + 1) + 1 ≤ 48 ∧ (((((((((S + 6) + 6) + 6) + 1280) + 896) + 42) + 224) + 20) + 20) + 20 ≤ 12143 ∧ ∀ y58 : Nat, y58 = qN h54 + 1 → ∀ h57 : qH, h57 = qnew h54 (.inr (2, 20)) → (qS h57 x0 = .inl 12 ∧ ∀ h60 : qH, h60 = qsR h57 x0 66 y58 → (((((((((((C + 1) + 1) + 1) + 1) + 1) + 1) + 1) + 1) + 1) + 1) + 1 ≤ 48 ∧ ((((((((((S + 6) + 6) + 6) + 1280) + 896) + 42) + 224) + 20) + 20) + 20) + 36 ≤ 12143 ∧ ∀ y64 : Nat, y64 = qN h60 + 1 → ∀ h63 : qH, h63 = qnew h60 (.inr (2, 36)) → (qS h63 x0 = .inl 12 ∧ ∀ h66 : qH, h66 = qsR h63 x0 67 y64 → ((((((((((((C + 1) + 1) + 1) + 1) + 1) + 1) + 1) + 1) + 1) + 1) + 1) + 1 ≤ 48 ∧ (((((((((((S + 6) + 6) + 6) + 1280) + 896) + 42) + 224) + 20) + 20) + 20) + 36) + 216 ≤ 12143 ∧ ∀ y70 : Nat, y70 = qN h66 + 1 → ∀ h69 : qH, h69 = qnew h66 (.inr (0, 216)) → (qS h69 x0 = .inl 12 ∧ ∀ h72 : qH, h72 = qsR h69 x0 68 y70 → (w_M_init_390 N x0 ((((((((((((C + 1) + 1) + 1) + 1) + 1) + 1) + 1) + 1) + 1) + 1) + 1) + 1) ((((((((((((S + 6) + 6) + 6) + 1280) + 896) + 42) + 224) + 20) + 20) + 20) + 36) + 216) h72 Q )))))))))))))))))))))))))
set_option maxRecDepth 20000 in
def w_M_init_187 (N : Nat) (x0 : Nat) (C S : Nat) (h : qH) (Q : qH → Prop)  : Prop := (C + 1 ≤ 48 ∧ S + 260 ≤ 12143 ∧ ∀ y4 : Nat, y4 = qN h + 1 → ∀ h3 : qH, h3 = qnew h (.inr (0, 260)) → (qS h3 x0 = .inl 12 ∧ ∀ h6 : qH, h6 = qsR h3 x0 37 y4 → ((C + 1) + 1 ≤ 48 ∧ (S + 260) + 260 ≤ 12143 ∧ ∀ y10 : Nat, y10 = qN h6 + 1 → ∀ h9 : qH, h9 = qnew h6 (.inr (0, 260)) → (qS h9 x0 = .inl 12 ∧ ∀ h12 : qH, h12 = qsR h9 x0 38 y10 → (((C + 1) + 1) + 1 ≤ 48 ∧ ((S + 260) + 260) + 260 ≤ 12143 ∧ ∀ y16 : Nat, y16 = qN h12 + 1 → ∀ h15 : qH, h15 = qnew h12 (.inr (0, 260)) → (qS h15 x0 = .inl 12 ∧ ∀ h18 : qH, h18 = qsR h15 x0 39 y16 → ((((C + 1) + 1) + 1) + 1 ≤ 48 ∧ (((S + 260) + 260) + 260) + 260 ≤ 12143 ∧ ∀ y22 : Nat, y22 = qN h18 + 1 → ∀ h21 : qH, h21 = qnew h18 (.inr (0, 260)) → (qS h21 x0 = .inl 12 ∧ ∀ h24 : qH, h24 = qsR h21 x0 40 y22 → (((((C + 1) + 1) + 1) + 1) + 1 ≤ 48 ∧ ((((S + 260) + 260) + 260) + 260) + 840 ≤ 12143 ∧ ∀ y28 : Nat, y28 = qN h24 + 1 → ∀ h27 : qH, h27 = qnew h24 (.inr (0, 840)) → (qS h27 x0 = .inl 12 ∧ ∀ h30 : qH, h30 = qsR h27 x0 42 y28 → ((((((C + 1) + 1) + 1) + 1) + 1) + 1 ≤ 48 ∧ (((((S + 260) + 260) + 260) + 260) + 840) + 840 ≤ 12143 ∧ ∀ y34 : Nat, y34 = qN h30 + 1 → ∀ h33 : qH, h33 = qnew h30 (.inr (0, 840)) → (qS h33 x0 = .inl 12 ∧ ∀ h36 : qH, h36 = qsR h33 x0 43 y34 → (((((((C + 1) + 1) + 1) + 1) + 1) + 1) + 1 ≤ 48 ∧ ((((((S + 260) + 260) + 260) + 260) + 840) + 840) + 64 ≤ 12143 ∧ ∀ y40 : Nat, y40 = qN h36 + 1 → ∀ h39 : qH, h39 = qnew h36 (.inr (0, 64)) → (qS h39 x0 = .inl 12 ∧ ∀ h42 : qH, h42 = qsR h39 x0 44 y40 → ((((((((C + 1) + 1) + 1) + 1) + 1) + 1) + 1) + 1 ≤ 48 ∧ (((((((S + 260) + 260) + 260) + 260) + 840) + 840) + 64) + 9 ≤ 12143 ∧ ∀ y46 : Nat, y46 = qN h42 + 1 → ∀ h45 : qH, h45 = qnew h42 (.inr (0, 9)) → (qS h45 x0 = .inl 12 ∧ ∀ h48 : qH, h48 = qsR h45 x0 46 y46 → (((((((((C + 1) + 1) + 1) + 1) + 1) + 1) + 1) + 1) + 1 ≤ 48 ∧ ((((((((S + 260) + 260) + 260) + 260) + 840) + 840) + 64) + 9) + 400 ≤ 12143 ∧ ∀ y52 : Nat, y52 = qN h48 + 1 → ∀ h51 : qH, h51 = qnew h48 (.inr (0, 400)) → (qS h51 x0 = .inl 12 ∧ ∀ h54 : qH, h54 = qsR h51 x0 47 y52 → ((((((((((C + 1) + 1) + 1) + 1) + 1) + 1) + 1) + 1) + 1) + 1 ≤ 48 ∧ (((((((((S + 260) + 260) + 260) + 260) + 840) + 840) + 64) + 9) + 400) + 32 ≤ 12143 ∧ ∀ y58 : Nat, y58 = qN h54 + 1 → ∀ h57 : qH, h57 = qnew h54 (.inr (0, 32)) → (qS h57 x0 = .inl 12 ∧ ∀ h60 : qH, h60 = qsR h57 x0 49 y58 → (((((((((((C + 1) + 1) + 1) + 1) + 1) + 1) + 1) + 1) + 1) + 1) + 1 ≤ 48 ∧ ((((((((((S + 260) + 260) + 260) + 260) + 840) + 840) + 64) + 9) + 400) + 32) + 32 ≤ 12143 ∧ ∀ y64 : Nat, y64 = qN h60 + 1 → ∀ h63 : qH, h63 = qnew h60 (.inr (0, 32)) → (qS h63 x0 = .inl 12 ∧ ∀ h66 : qH, h66 = qsR h63 x0 50 y64 → ((((((((((((C + 1) + 1) + 1) + 1) + 1) + 1) + 1) + 1) + 1) + 1) + 1) + 1 ≤ 48 ∧ (((((((((((S + 260) + 260) + 260) + 260) + 840) + 840) + 64) + 9) + 400) + 32) + 32) + 6 ≤ 12143 ∧ ∀ y70 : Nat, y70 = qN h66 + 1 → ∀ h69 : qH, h69 = qnew h66 (.inr (0, 6)) → (qS h69 x0 = .inl 12 ∧ ∀ h72 : qH, h72 = qsR h69 x0 53 y70 → (w_M_init_290 N x0 ((((((((((((C + 1) + 1) + 1) + 1) + 1) + 1) + 1) + 1) + 1) + 1) + 1) + 1) ((((((((((((S + 260) + 260) + 260) + 260) + 840) + 840) + 64) + 9) + 400) + 32) + 32) + 6) h72 Q )))))))))))))))))))))))))
set_option maxRecDepth 20000 in
def w_M_init_94 (N : Nat) (x0 : Nat) (C S : Nat) (h : qH) (Q : qH → Prop)  : Prop := (C + 1 ≤ 48 ∧ S + 14 ≤ 12143 ∧ ∀ y4 : Nat, y4 = qN h + 1 → ∀ h3 : qH, h3 = qnew h (.inr (0, 14)) → (qS h3 x0 = .inl 12 ∧ ∀ h6 : qH, h6 = qsR h3 x0 24 y4 → ((C + 1) + 1 ≤ 48 ∧ (S + 14) + 14 ≤ 12143 ∧ ∀ y10 : Nat, y10 = qN h6 + 1 → ∀ h9 : qH, h9 = qnew h6 (.inr (0, 14)) → (qS h9 x0 = .inl 12 ∧ ∀ h12 : qH, h12 = qsR h9 x0 25 y10 → (((C + 1) + 1) + 1 ≤ 48 ∧ ((S + 14) + 14) + 2 ≤ 12143 ∧ ∀ y16 : Nat, y16 = qN h12 + 1 → ∀ h15 : qH, h15 = qnew h12 (.inr (0, 2)) → (qS h15 x0 = .inl 12 ∧ ∀ h18 : qH, h18 = qsR h15 x0 26 y16 → ((((C + 1) + 1) + 1) + 1 ≤ 48 ∧ (((S + 14) + 14) + 2) + 12 ≤ 12143 ∧ ∀ y22 : Nat, y22 = qN h18 + 1 → ∀ h21 : qH, h21 = qnew h18 (.inr (0, 12)) → (qS h21 x0 = .inl 12 ∧ ∀ h24 : qH, h24 = qsR h21 x0 27 y22 → (((((C + 1) + 1) + 1) + 1) + 1 ≤ 48 ∧ ((((S + 14) + 14) + 2) + 12) + 12 ≤ 12143 ∧ ∀ y28 : Nat, y28 = qN h24 + 1 → ∀ h27 : qH, h27 = qnew h24 (.inr (0, 12)) → (qS h27 x0 = .inl 12 ∧ ∀ h30 : qH, h30 = qsR h27 x0 28 y28 → ((((((C + 1) + 1) + 1) + 1) + 1) + 1 ≤ 48 ∧ (((((S + 14) + 14) + 2) + 12) + 12) + 12 ≤ 12143 ∧ ∀ y34 : Nat, y34 = qN h30 + 1 → ∀ h33 : qH, h33 = qnew h30 (.inr (0, 12)) → (qS h33 x0 = .inl 12 ∧ ∀ h36 : qH, h36 = qsR h33 x0 29 y34 → (((((((C + 1) + 1) + 1) + 1) + 1) + 1) + 1 ≤ 48 ∧ ((((((S + 14) + 14) + 2) + 12) + 12) + 12) + 2 ≤ 12143 ∧ ∀ y40 : Nat, y40 = qN h36 + 1 → ∀ h39 : qH, h39 = qnew h36 (.inr (0, 2)) → (qS h39 x0 = .inl 12 ∧ ∀ h42 : qH, h42 = qsR h39 x0 30 y40 → ((((((((C + 1) + 1) + 1) + 1) + 1) + 1) + 1) + 1 ≤ 48 ∧ (((((((S + 14) + 14) + 2) + 12) + 12) + 12) + 2) + 2 ≤ 12143 ∧ ∀ y46 : Nat, y46 = qN h42 + 1 → ∀ h45 : qH, h45 = qnew h42 (.inr (0, 2)) → (qS h45 x0 = .inl 12 ∧ ∀ h48 : qH, h48 = qsR h45 x0 31 y46 → (((((((((C + 1) + 1) + 1) + 1) + 1) + 1) + 1) + 1) + 1 ≤ 48 ∧ ((((((((S + 14) + 14) + 2) + 12) + 12) + 12) + 2) + 2) + 2 ≤ 12143 ∧ ∀ y52 : Nat, y52 = qN h48 + 1 → ∀ h51 : qH, h51 = qnew h48 (.inr (0, 2)) → (qS h51 x0 = .inl 12 ∧ ∀ h54 : qH, h54 = qsR h51 x0 32 y52 → ((((((((((C + 1) + 1) + 1) + 1) + 1) + 1) + 1) + 1) + 1) + 1 ≤ 48 ∧ (((((((((S + 14) + 14) + 2) + 12) + 12) + 12) + 2) + 2) + 2) + 8 ≤ 12143 ∧ ∀ y58 : Nat, y58 = qN h54 + 1 → ∀ h57 : qH, h57 = qnew h54 (.inr (0, 8)) → (qS h57 x0 = .inl 12 ∧ ∀ h60 : qH, h60 = qsR h57 x0 33 y58 → (((((((((((C + 1) + 1) + 1) + 1) + 1) + 1) + 1) + 1) + 1) + 1) + 1 ≤ 48 ∧ ((((((((((S + 14) + 14) + 2) + 12) + 12) + 12) + 2) + 2) + 2) + 8) + 8 ≤ 12143 ∧ ∀ y64 : Nat, y64 = qN h60 + 1 → ∀ h63 : qH, h63 = qnew h60 (.inr (0, 8)) → (qS h63 x0 = .inl 12 ∧ ∀ h66 : qH, h66 = qsR h63 x0 34 y64 → ((((((((((((C + 1) + 1) + 1) + 1) + 1) + 1) + 1) + 1) + 1) + 1) + 1) + 1 ≤ 48 ∧ (((((((((((S + 14) + 14) + 2) + 12) + 12) + 12) + 2) + 2) + 2) + 8) + 8) + 260 ≤ 12143 ∧ ∀ y70 : Nat, y70 = qN h66 + 1 → ∀ h69 : qH, h69 = qnew h66 (.inr (2, 260)) → (qS h69 x0 = .inl 12 ∧ ∀ h72 : qH, h72 = qsR h69 x0 36 y70 → (w_M_init_187 N x0 ((((((((((((C + 1) + 1) + 1) + 1) + 1) + 1) + 1) + 1) + 1) + 1) + 1) + 1) ((((((((((((S + 14) + 14) + 2) + 12) + 12) + 12) + 2) + 2) + 2) + 8) + 8) + 260) h72 Q )))))))))))))))))))))))))
set_option maxRecDepth 20000 in
def w_M_init (N : Nat) (x0 : Nat) (h : qH) (Q : qH → Prop) : Prop := (0 < x0 ∧ (0 + 1 ≤ 48 ∧ 0 + 2000 ≤ 12143 ∧ ∀ y5 : Nat, y5 = qN h + 1 → ∀ h4 : qH, h4 = qnew h (.inr (1, 2000)) → (qS h4 x0 = .inl 12 ∧ ∀ h7 : qH, h7 = qsR h4 x0 1 y5 → (1 + 1 ≤ 48 ∧ 2000 + 2000 ≤ 12143 ∧ ∀ y11 : Nat, y11 = qN h7 + 1 → ∀ h10 : qH, h10 = qnew h7 (.inr (1, 2000)) → (qS h10 x0 = .inl 12 ∧ ∀ h13 : qH, h13 = qsR h10 x0 3 y11 → (2 + 1 ≤ 48 ∧ 4000 + 403 ≤ 12143 ∧ ∀ y17 : Nat, y17 = qN h13 + 1 → ∀ h16 : qH, h16 = qnew h13 (.inr (0, 403)) → (qS h16 x0 = .inl 12 ∧ ∀ h19 : qH, h19 = qsR h16 x0 5 y17 → (3 + 1 ≤ 48 ∧ 4403 + 403 ≤ 12143 ∧ ∀ y23 : Nat, y23 = qN h19 + 1 → ∀ h22 : qH, h22 = qnew h19 (.inr (0, 403)) → (qS h22 x0 = .inl 12 ∧ ∀ h25 : qH, h25 = qsR h22 x0 6 y23 → (4 + 1 ≤ 48 ∧ 4806 + 403 ≤ 12143 ∧ ∀ y29 : Nat, y29 = qN h25 + 1 → ∀ h28 : qH, h28 = qnew h25 (.inr (0, 403)) → (qS h28 x0 = .inl 12 ∧ ∀ h31 : qH, h31 = qsR h28 x0 7 y29 → (5 + 1 ≤ 48 ∧ 5209 + 403 ≤ 12143 ∧ ∀ y35 : Nat, y35 = qN h31 + 1 → ∀ h34 : qH, h34 = qnew h31 (.inr (3, 403)) → (qS h34 x0 = .inl 12 ∧ ∀ h37 : qH, h37 = qsR h34 x0 8 y35 → (6 + 1 ≤ 48 ∧ 5612 + 21 ≤ 12143 ∧ ∀ y41 : Nat, y41 = qN h37 + 1 → ∀ h40 : qH, h40 = qnew h37 (.inr (3, 21)) → (qS h40 x0 = .inl 12 ∧ ∀ h43 : qH, h43 = qsR h40 x0 9 y41 → (qS h43 x0 = .inl 12 ∧ ∀ h45 : qH, h45 = qsI h43 x0 17 (-1 : Int32) → (7 + 1 ≤ 48 ∧ 5633 + 13 ≤ 12143 ∧ ∀ y49 : Nat, y49 = qN h45 + 1 → ∀ h48 : qH, h48 = qnew h45 (.inr (3, 13)) → (qS h48 x0 = .inl 12 ∧ ∀ h51 : qH, h51 = qsR h48 x0 21 y49 → (8 + 1 ≤ 48 ∧ 5646 + 13 ≤ 12143 ∧ ∀ y55 : Nat, y55 = qN h51 + 1 → ∀ h54 : qH, h54 = qnew h51 (.inr (0, 13)) → (qS h54 x0 = .inl 12 ∧ ∀ h57 : qH, h57 = qsR h54 x0 22 y55 → (9 + 1 ≤ 48 ∧ 5659 + 2 ≤ 12143 ∧ ∀ y61 : Nat, y61 = qN h57 + 1 → ∀ h60 : qH, h60 = qnew h57 (.inr (0, 2)) → (qS h60 x0 = .inl 12 ∧ ∀ h63 : qH, h63 = qsR h60 x0 23 y61 → (w_M_init_94 N x0 10 5661 h63 Q )))))))))))))))))))))))
section QG
variable {p : Program} {l : Launch} {e : Env} {s : State} {m : MethodId} {args : Array Value} {below : List Frame} {meth : Method} {c : Code} {D : va_G} {cy : Nat → ClassId} {b : Nat} {adK adV : Nat → Nat}

set_option maxRecDepth 20000 in
theorem t_M_init_823 (X : qX p s m args meth c D cy b adK adV prog_14_method_2_code "CoatHangersModel" 1 (none) "<init>") (N : Nat) (x0 : Nat) (C S : Nat) (h : qH) (Q : qH → Prop)  (hw : w_M_init_823 N x0 C S h Q ) : qW p l e (qrm 2 48 12143 48) s m args below meth c D cy b 1 C S (MQ below (qQc D cy b qrV (fun (_ : Unit) h => Q h)) args s 48 12143 (qA b)) 823 [(0, .inr (.inr (.inl x0)))] [] h := by
  unfold w_M_init_823 at hw
  refine qx_aload_n (x := x0) X d_M_init_823 rfl 0 rfl ?_
  obtain ⟨g1, hw⟩ := hw
  refine qx_getR X qcls12 g1 9 (by decide) rfl wf_M_34 d_M_init_824 ?_
  refine qx_bipush (v := (19 : Int32)) X d_M_init_827 (by decide) ?_
  refine qx_bipush (v := (119 : Int32)) X d_M_init_829 (by decide) ?_
  refine qx_bipush (v := (104 : Int32)) X d_M_init_831 (by decide) ?_
  refine qx_bipush (v := (105 : Int32)) X d_M_init_833 (by decide) ?_
  refine qx_bipush (v := (99 : Int32)) X d_M_init_835 (by decide) ?_
  refine qx_bipush (v := (104 : Int32)) X d_M_init_837 (by decide) ?_
  refine qx_iconst (v := (0 : Int32)) X d_M_init_839 (by decide) ?_
  refine qx_iconst (v := (0 : Int32)) X d_M_init_840 (by decide) ?_
  obtain ⟨g4, g5, hw⟩ := hw
  refine qx_callSJ (st := [.int (19 : Int32), qr b (qR h x0 9)]) (As := [.int (119 : Int32), .int (104 : Int32), .int (105 : Int32), .int (99 : Int32), .int (104 : Int32), .int (0 : Int32), .int (0 : Int32)]) X (t_M_word (adK := adK) (adV := adV) l D cy b N (119 : Int32) (104 : Int32) (105 : Int32) (99 : Int32) (104 : Int32) (0 : Int32) (0 : Int32) h _ hw) qm_M_word wm_M_168 wi_M_word rfl rfl rfl ⟨Nat.le_of_ble_eq_true rfl, Nat.le_of_ble_eq_true rfl⟩ ⟨g4, g5⟩ (Nat.le_of_ble_eq_true rfl) rfl d_M_init_841 (fun r2 h3 hw => ?_)
  obtain ⟨g6, hw⟩ := hw
  refine qx_lst X g6 d_M_init_844 ?_
  refine qx_toph (fun h7 eh7 => ?_)
  have hw := hw h7 eh7
  refine qx_aload_n (x := x0) X d_M_init_845 rfl 0 rfl ?_
  obtain ⟨g8, hw⟩ := hw
  refine qx_getR X qcls12 g8 9 (by decide) rfl wf_M_34 d_M_init_846 ?_
  refine qx_bipush (v := (20 : Int32)) X d_M_init_849 (by decide) ?_
  refine qx_bipush (v := (110 : Int32)) X d_M_init_851 (by decide) ?_
  refine qx_bipush (v := (97 : Int32)) X d_M_init_853 (by decide) ?_
  refine qx_bipush (v := (105 : Int32)) X d_M_init_855 (by decide) ?_
  refine qx_bipush (v := (108 : Int32)) X d_M_init_857 (by decide) ?_
  refine qx_iconst (v := (0 : Int32)) X d_M_init_859 (by decide) ?_
  refine qx_iconst (v := (0 : Int32)) X d_M_init_860 (by decide) ?_
  refine qx_iconst (v := (0 : Int32)) X d_M_init_861 (by decide) ?_
  obtain ⟨g11, g12, hw⟩ := hw
  refine qx_callSJ (st := [.int (20 : Int32), qr b (qR h7 x0 9)]) (As := [.int (110 : Int32), .int (97 : Int32), .int (105 : Int32), .int (108 : Int32), .int (0 : Int32), .int (0 : Int32), .int (0 : Int32)]) X (t_M_word (adK := adK) (adV := adV) l D cy b N (110 : Int32) (97 : Int32) (105 : Int32) (108 : Int32) (0 : Int32) (0 : Int32) (0 : Int32) h7 _ hw) qm_M_word wm_M_168 wi_M_word rfl rfl rfl ⟨Nat.le_of_ble_eq_true rfl, Nat.le_of_ble_eq_true rfl⟩ ⟨g11, g12⟩ (Nat.le_of_ble_eq_true rfl) rfl d_M_init_862 (fun r9 h10 hw => ?_)
  obtain ⟨g13, hw⟩ := hw
  refine qx_lst X g13 d_M_init_865 ?_
  refine qx_toph (fun h14 eh14 => ?_)
  have hw := hw h14 eh14
  refine qx_aload_n (x := x0) X d_M_init_866 rfl 0 rfl ?_
  obtain ⟨g15, hw⟩ := hw
  obtain ⟨g17, g18, hw⟩ := hw
  refine qx_callVV (st := []) (As := []) X (t_M_begins (adK := adK) (adV := adV) l D cy b N x0 h14 _ hw) qm_M_begins wm_M_172 wi_M_begins wl_M_begins qcls12 g15 rfl rfl rfl ⟨Nat.le_of_ble_eq_true rfl, Nat.le_of_ble_eq_true rfl⟩ ⟨g17, g18⟩ (Nat.le_of_ble_eq_true rfl) rfl d_M_init_867 (fun h16 hw => ?_)
  refine qx_aload_n (x := x0) X d_M_init_870 rfl 0 rfl ?_
  obtain ⟨g19, hw⟩ := hw
  obtain ⟨g21, g22, hw⟩ := hw
  refine qx_callVV (st := []) (As := []) X (t_M_keepsRow (adK := adK) (adV := adV) l D cy b N x0 h16 _ hw) qm_M_keepsRow wm_M_175 wi_M_keepsRow wl_M_keepsRow qcls12 g19 rfl rfl rfl ⟨Nat.le_of_ble_eq_true rfl, Nat.le_of_ble_eq_true rfl⟩ ⟨g21, g22⟩ (Nat.le_of_ble_eq_true rfl) rfl d_M_init_871 (fun h20 hw => ?_)
  obtain ⟨g23, g24, hw⟩ := hw
  exact qx_vret X hw g23 g24 rfl d_M_init_874
set_option maxRecDepth 20000 in
theorem t_M_init_733 (X : qX p s m args meth c D cy b adK adV prog_14_method_2_code "CoatHangersModel" 1 (none) "<init>") (N : Nat) (x0 : Nat) (C S : Nat) (h : qH) (Q : qH → Prop)  (hw : w_M_init_733 N x0 C S h Q ) : qW p l e (qrm 2 48 12143 48) s m args below meth c D cy b 1 C S (MQ below (qQc D cy b qrV (fun (_ : Unit) h => Q h)) args s 48 12143 (qA b)) 733 [(0, .inr (.inr (.inl x0)))] [] h := by
  unfold w_M_init_733 at hw
  refine qx_aload_n (x := x0) X d_M_init_733 rfl 0 rfl ?_
  obtain ⟨g1, hw⟩ := hw
  refine qx_getR X qcls12 g1 9 (by decide) rfl wf_M_34 d_M_init_734 ?_
  refine qx_bipush (v := (15 : Int32)) X d_M_init_737 (by decide) ?_
  refine qx_bipush (v := (114 : Int32)) X d_M_init_739 (by decide) ?_
  refine qx_bipush (v := (97 : Int32)) X d_M_init_741 (by decide) ?_
  refine qx_bipush (v := (110 : Int32)) X d_M_init_743 (by decide) ?_
  refine qx_bipush (v := (107 : Int32)) X d_M_init_745 (by decide) ?_
  refine qx_iconst (v := (0 : Int32)) X d_M_init_747 (by decide) ?_
  refine qx_iconst (v := (0 : Int32)) X d_M_init_748 (by decide) ?_
  refine qx_iconst (v := (0 : Int32)) X d_M_init_749 (by decide) ?_
  obtain ⟨g4, g5, hw⟩ := hw
  refine qx_callSJ (st := [.int (15 : Int32), qr b (qR h x0 9)]) (As := [.int (114 : Int32), .int (97 : Int32), .int (110 : Int32), .int (107 : Int32), .int (0 : Int32), .int (0 : Int32), .int (0 : Int32)]) X (t_M_word (adK := adK) (adV := adV) l D cy b N (114 : Int32) (97 : Int32) (110 : Int32) (107 : Int32) (0 : Int32) (0 : Int32) (0 : Int32) h _ hw) qm_M_word wm_M_168 wi_M_word rfl rfl rfl ⟨Nat.le_of_ble_eq_true rfl, Nat.le_of_ble_eq_true rfl⟩ ⟨g4, g5⟩ (Nat.le_of_ble_eq_true rfl) rfl d_M_init_750 (fun r2 h3 hw => ?_)
  obtain ⟨g6, hw⟩ := hw
  refine qx_lst X g6 d_M_init_753 ?_
  refine qx_toph (fun h7 eh7 => ?_)
  have hw := hw h7 eh7
  refine qx_aload_n (x := x0) X d_M_init_754 rfl 0 rfl ?_
  obtain ⟨g8, hw⟩ := hw
  refine qx_getR X qcls12 g8 9 (by decide) rfl wf_M_34 d_M_init_755 ?_
  refine qx_bipush (v := (16 : Int32)) X d_M_init_758 (by decide) ?_
  refine qx_bipush (v := (110 : Int32)) X d_M_init_760 (by decide) ?_
  refine qx_bipush (v := (105 : Int32)) X d_M_init_762 (by decide) ?_
  refine qx_bipush (v := (103 : Int32)) X d_M_init_764 (by decide) ?_
  refine qx_bipush (v := (104 : Int32)) X d_M_init_766 (by decide) ?_
  refine qx_bipush (v := (116 : Int32)) X d_M_init_768 (by decide) ?_
  refine qx_iconst (v := (0 : Int32)) X d_M_init_770 (by decide) ?_
  refine qx_iconst (v := (0 : Int32)) X d_M_init_771 (by decide) ?_
  obtain ⟨g11, g12, hw⟩ := hw
  refine qx_callSJ (st := [.int (16 : Int32), qr b (qR h7 x0 9)]) (As := [.int (110 : Int32), .int (105 : Int32), .int (103 : Int32), .int (104 : Int32), .int (116 : Int32), .int (0 : Int32), .int (0 : Int32)]) X (t_M_word (adK := adK) (adV := adV) l D cy b N (110 : Int32) (105 : Int32) (103 : Int32) (104 : Int32) (116 : Int32) (0 : Int32) (0 : Int32) h7 _ hw) qm_M_word wm_M_168 wi_M_word rfl rfl rfl ⟨Nat.le_of_ble_eq_true rfl, Nat.le_of_ble_eq_true rfl⟩ ⟨g11, g12⟩ (Nat.le_of_ble_eq_true rfl) rfl d_M_init_772 (fun r9 h10 hw => ?_)
  obtain ⟨g13, hw⟩ := hw
  refine qx_lst X g13 d_M_init_775 ?_
  refine qx_toph (fun h14 eh14 => ?_)
  have hw := hw h14 eh14
  refine qx_aload_n (x := x0) X d_M_init_776 rfl 0 rfl ?_
  obtain ⟨g15, hw⟩ := hw
  refine qx_getR X qcls12 g15 9 (by decide) rfl wf_M_34 d_M_init_777 ?_
  refine qx_bipush (v := (17 : Int32)) X d_M_init_780 (by decide) ?_
  refine qx_bipush (v := (99 : Int32)) X d_M_init_782 (by decide) ?_
  refine qx_bipush (v := (114 : Int32)) X d_M_init_784 (by decide) ?_
  refine qx_bipush (v := (111 : Int32)) X d_M_init_786 (by decide) ?_
  refine qx_bipush (v := (111 : Int32)) X d_M_init_788 (by decide) ?_
  refine qx_bipush (v := (107 : Int32)) X d_M_init_790 (by decide) ?_
  refine qx_bipush (v := (101 : Int32)) X d_M_init_792 (by decide) ?_
  refine qx_bipush (v := (100 : Int32)) X d_M_init_794 (by decide) ?_
  obtain ⟨g18, g19, hw⟩ := hw
  refine qx_callSJ (st := [.int (17 : Int32), qr b (qR h14 x0 9)]) (As := [.int (99 : Int32), .int (114 : Int32), .int (111 : Int32), .int (111 : Int32), .int (107 : Int32), .int (101 : Int32), .int (100 : Int32)]) X (t_M_word (adK := adK) (adV := adV) l D cy b N (99 : Int32) (114 : Int32) (111 : Int32) (111 : Int32) (107 : Int32) (101 : Int32) (100 : Int32) h14 _ hw) qm_M_word wm_M_168 wi_M_word rfl rfl rfl ⟨Nat.le_of_ble_eq_true rfl, Nat.le_of_ble_eq_true rfl⟩ ⟨g18, g19⟩ (Nat.le_of_ble_eq_true rfl) rfl d_M_init_796 (fun r16 h17 hw => ?_)
  obtain ⟨g20, hw⟩ := hw
  refine qx_lst X g20 d_M_init_799 ?_
  refine qx_toph (fun h21 eh21 => ?_)
  have hw := hw h21 eh21
  refine qx_aload_n (x := x0) X d_M_init_800 rfl 0 rfl ?_
  obtain ⟨g22, hw⟩ := hw
  refine qx_getR X qcls12 g22 9 (by decide) rfl wf_M_34 d_M_init_801 ?_
  refine qx_bipush (v := (18 : Int32)) X d_M_init_804 (by decide) ?_
  refine qx_bipush (v := (98 : Int32)) X d_M_init_806 (by decide) ?_
  refine qx_bipush (v := (101 : Int32)) X d_M_init_808 (by decide) ?_
  refine qx_bipush (v := (115 : Int32)) X d_M_init_810 (by decide) ?_
  refine qx_bipush (v := (105 : Int32)) X d_M_init_812 (by decide) ?_
  refine qx_bipush (v := (100 : Int32)) X d_M_init_814 (by decide) ?_
  refine qx_bipush (v := (101 : Int32)) X d_M_init_816 (by decide) ?_
  refine qx_iconst (v := (0 : Int32)) X d_M_init_818 (by decide) ?_
  obtain ⟨g25, g26, hw⟩ := hw
  refine qx_callSJ (st := [.int (18 : Int32), qr b (qR h21 x0 9)]) (As := [.int (98 : Int32), .int (101 : Int32), .int (115 : Int32), .int (105 : Int32), .int (100 : Int32), .int (101 : Int32), .int (0 : Int32)]) X (t_M_word (adK := adK) (adV := adV) l D cy b N (98 : Int32) (101 : Int32) (115 : Int32) (105 : Int32) (100 : Int32) (101 : Int32) (0 : Int32) h21 _ hw) qm_M_word wm_M_168 wi_M_word rfl rfl rfl ⟨Nat.le_of_ble_eq_true rfl, Nat.le_of_ble_eq_true rfl⟩ ⟨g25, g26⟩ (Nat.le_of_ble_eq_true rfl) rfl d_M_init_819 (fun r23 h24 hw => ?_)
  obtain ⟨g27, hw⟩ := hw
  refine qx_lst X g27 d_M_init_822 ?_
  refine qx_toph (fun h28 eh28 => ?_)
  have hw := hw h28 eh28
  exact t_M_init_823 X N x0 C S h28 Q  hw 
set_option maxRecDepth 20000 in
theorem t_M_init_648 (X : qX p s m args meth c D cy b adK adV prog_14_method_2_code "CoatHangersModel" 1 (none) "<init>") (N : Nat) (x0 : Nat) (C S : Nat) (h : qH) (Q : qH → Prop)  (hw : w_M_init_648 N x0 C S h Q ) : qW p l e (qrm 2 48 12143 48) s m args below meth c D cy b 1 C S (MQ below (qQc D cy b qrV (fun (_ : Unit) h => Q h)) args s 48 12143 (qA b)) 648 [(0, .inr (.inr (.inl x0)))] [] h := by
  unfold w_M_init_648 at hw
  refine qx_aload_n (x := x0) X d_M_init_648 rfl 0 rfl ?_
  obtain ⟨g1, hw⟩ := hw
  refine qx_getR X qcls12 g1 9 (by decide) rfl wf_M_34 d_M_init_649 ?_
  refine qx_bipush (v := (11 : Int32)) X d_M_init_652 (by decide) ?_
  refine qx_bipush (v := (101 : Int32)) X d_M_init_654 (by decide) ?_
  refine qx_bipush (v := (108 : Int32)) X d_M_init_656 (by decide) ?_
  refine qx_bipush (v := (115 : Int32)) X d_M_init_658 (by decide) ?_
  refine qx_bipush (v := (101 : Int32)) X d_M_init_660 (by decide) ?_
  refine qx_iconst (v := (0 : Int32)) X d_M_init_662 (by decide) ?_
  refine qx_iconst (v := (0 : Int32)) X d_M_init_663 (by decide) ?_
  refine qx_iconst (v := (0 : Int32)) X d_M_init_664 (by decide) ?_
  obtain ⟨g4, g5, hw⟩ := hw
  refine qx_callSJ (st := [.int (11 : Int32), qr b (qR h x0 9)]) (As := [.int (101 : Int32), .int (108 : Int32), .int (115 : Int32), .int (101 : Int32), .int (0 : Int32), .int (0 : Int32), .int (0 : Int32)]) X (t_M_word (adK := adK) (adV := adV) l D cy b N (101 : Int32) (108 : Int32) (115 : Int32) (101 : Int32) (0 : Int32) (0 : Int32) (0 : Int32) h _ hw) qm_M_word wm_M_168 wi_M_word rfl rfl rfl ⟨Nat.le_of_ble_eq_true rfl, Nat.le_of_ble_eq_true rfl⟩ ⟨g4, g5⟩ (Nat.le_of_ble_eq_true rfl) rfl d_M_init_665 (fun r2 h3 hw => ?_)
  obtain ⟨g6, hw⟩ := hw
  refine qx_lst X g6 d_M_init_668 ?_
  refine qx_toph (fun h7 eh7 => ?_)
  have hw := hw h7 eh7
  refine qx_aload_n (x := x0) X d_M_init_669 rfl 0 rfl ?_
  obtain ⟨g8, hw⟩ := hw
  refine qx_getR X qcls12 g8 9 (by decide) rfl wf_M_34 d_M_init_670 ?_
  refine qx_bipush (v := (12 : Int32)) X d_M_init_673 (by decide) ?_
  refine qx_bipush (v := (97 : Int32)) X d_M_init_675 (by decide) ?_
  refine qx_bipush (v := (112 : Int32)) X d_M_init_677 (by decide) ?_
  refine qx_bipush (v := (97 : Int32)) X d_M_init_679 (by decide) ?_
  refine qx_bipush (v := (114 : Int32)) X d_M_init_681 (by decide) ?_
  refine qx_bipush (v := (116 : Int32)) X d_M_init_683 (by decide) ?_
  refine qx_iconst (v := (0 : Int32)) X d_M_init_685 (by decide) ?_
  refine qx_iconst (v := (0 : Int32)) X d_M_init_686 (by decide) ?_
  obtain ⟨g11, g12, hw⟩ := hw
  refine qx_callSJ (st := [.int (12 : Int32), qr b (qR h7 x0 9)]) (As := [.int (97 : Int32), .int (112 : Int32), .int (97 : Int32), .int (114 : Int32), .int (116 : Int32), .int (0 : Int32), .int (0 : Int32)]) X (t_M_word (adK := adK) (adV := adV) l D cy b N (97 : Int32) (112 : Int32) (97 : Int32) (114 : Int32) (116 : Int32) (0 : Int32) (0 : Int32) h7 _ hw) qm_M_word wm_M_168 wi_M_word rfl rfl rfl ⟨Nat.le_of_ble_eq_true rfl, Nat.le_of_ble_eq_true rfl⟩ ⟨g11, g12⟩ (Nat.le_of_ble_eq_true rfl) rfl d_M_init_687 (fun r9 h10 hw => ?_)
  obtain ⟨g13, hw⟩ := hw
  refine qx_lst X g13 d_M_init_690 ?_
  refine qx_toph (fun h14 eh14 => ?_)
  have hw := hw h14 eh14
  refine qx_aload_n (x := x0) X d_M_init_691 rfl 0 rfl ?_
  obtain ⟨g15, hw⟩ := hw
  refine qx_getR X qcls12 g15 9 (by decide) rfl wf_M_34 d_M_init_692 ?_
  refine qx_bipush (v := (13 : Int32)) X d_M_init_695 (by decide) ?_
  refine qx_bipush (v := (98 : Int32)) X d_M_init_697 (by decide) ?_
  refine qx_bipush (v := (101 : Int32)) X d_M_init_699 (by decide) ?_
  refine qx_bipush (v := (110 : Int32)) X d_M_init_701 (by decide) ?_
  refine qx_bipush (v := (116 : Int32)) X d_M_init_703 (by decide) ?_
  refine qx_iconst (v := (0 : Int32)) X d_M_init_705 (by decide) ?_
  refine qx_iconst (v := (0 : Int32)) X d_M_init_706 (by decide) ?_
  refine qx_iconst (v := (0 : Int32)) X d_M_init_707 (by decide) ?_
  obtain ⟨g18, g19, hw⟩ := hw
  refine qx_callSJ (st := [.int (13 : Int32), qr b (qR h14 x0 9)]) (As := [.int (98 : Int32), .int (101 : Int32), .int (110 : Int32), .int (116 : Int32), .int (0 : Int32), .int (0 : Int32), .int (0 : Int32)]) X (t_M_word (adK := adK) (adV := adV) l D cy b N (98 : Int32) (101 : Int32) (110 : Int32) (116 : Int32) (0 : Int32) (0 : Int32) (0 : Int32) h14 _ hw) qm_M_word wm_M_168 wi_M_word rfl rfl rfl ⟨Nat.le_of_ble_eq_true rfl, Nat.le_of_ble_eq_true rfl⟩ ⟨g18, g19⟩ (Nat.le_of_ble_eq_true rfl) rfl d_M_init_708 (fun r16 h17 hw => ?_)
  obtain ⟨g20, hw⟩ := hw
  refine qx_lst X g20 d_M_init_711 ?_
  refine qx_toph (fun h21 eh21 => ?_)
  have hw := hw h21 eh21
  refine qx_aload_n (x := x0) X d_M_init_712 rfl 0 rfl ?_
  obtain ⟨g22, hw⟩ := hw
  refine qx_getR X qcls12 g22 9 (by decide) rfl wf_M_34 d_M_init_713 ?_
  refine qx_bipush (v := (14 : Int32)) X d_M_init_716 (by decide) ?_
  refine qx_bipush (v := (119 : Int32)) X d_M_init_718 (by decide) ?_
  refine qx_bipush (v := (105 : Int32)) X d_M_init_720 (by decide) ?_
  refine qx_bipush (v := (100 : Int32)) X d_M_init_722 (by decide) ?_
  refine qx_bipush (v := (101 : Int32)) X d_M_init_724 (by decide) ?_
  refine qx_iconst (v := (0 : Int32)) X d_M_init_726 (by decide) ?_
  refine qx_iconst (v := (0 : Int32)) X d_M_init_727 (by decide) ?_
  refine qx_iconst (v := (0 : Int32)) X d_M_init_728 (by decide) ?_
  obtain ⟨g25, g26, hw⟩ := hw
  refine qx_callSJ (st := [.int (14 : Int32), qr b (qR h21 x0 9)]) (As := [.int (119 : Int32), .int (105 : Int32), .int (100 : Int32), .int (101 : Int32), .int (0 : Int32), .int (0 : Int32), .int (0 : Int32)]) X (t_M_word (adK := adK) (adV := adV) l D cy b N (119 : Int32) (105 : Int32) (100 : Int32) (101 : Int32) (0 : Int32) (0 : Int32) (0 : Int32) h21 _ hw) qm_M_word wm_M_168 wi_M_word rfl rfl rfl ⟨Nat.le_of_ble_eq_true rfl, Nat.le_of_ble_eq_true rfl⟩ ⟨g25, g26⟩ (Nat.le_of_ble_eq_true rfl) rfl d_M_init_729 (fun r23 h24 hw => ?_)
  obtain ⟨g27, hw⟩ := hw
  refine qx_lst X g27 d_M_init_732 ?_
  refine qx_toph (fun h28 eh28 => ?_)
  have hw := hw h28 eh28
  exact t_M_init_733 X N x0 C S h28 Q  hw 
set_option maxRecDepth 20000 in
theorem t_M_init_566 (X : qX p s m args meth c D cy b adK adV prog_14_method_2_code "CoatHangersModel" 1 (none) "<init>") (N : Nat) (x0 : Nat) (C S : Nat) (h : qH) (Q : qH → Prop)  (hw : w_M_init_566 N x0 C S h Q ) : qW p l e (qrm 2 48 12143 48) s m args below meth c D cy b 1 C S (MQ below (qQc D cy b qrV (fun (_ : Unit) h => Q h)) args s 48 12143 (qA b)) 566 [(0, .inr (.inr (.inl x0)))] [] h := by
  unfold w_M_init_566 at hw
  refine qx_aload_n (x := x0) X d_M_init_566 rfl 0 rfl ?_
  obtain ⟨g1, hw⟩ := hw
  refine qx_getR X qcls12 g1 9 (by decide) rfl wf_M_34 d_M_init_567 ?_
  refine qx_bipush (v := (7 : Int32)) X d_M_init_570 (by decide) ?_
  refine qx_bipush (v := (109 : Int32)) X d_M_init_572 (by decide) ?_
  refine qx_bipush (v := (111 : Int32)) X d_M_init_574 (by decide) ?_
  refine qx_bipush (v := (116 : Int32)) X d_M_init_576 (by decide) ?_
  refine qx_bipush (v := (104 : Int32)) X d_M_init_578 (by decide) ?_
  refine qx_iconst (v := (0 : Int32)) X d_M_init_580 (by decide) ?_
  refine qx_iconst (v := (0 : Int32)) X d_M_init_581 (by decide) ?_
  refine qx_iconst (v := (0 : Int32)) X d_M_init_582 (by decide) ?_
  obtain ⟨g4, g5, hw⟩ := hw
  refine qx_callSJ (st := [.int (7 : Int32), qr b (qR h x0 9)]) (As := [.int (109 : Int32), .int (111 : Int32), .int (116 : Int32), .int (104 : Int32), .int (0 : Int32), .int (0 : Int32), .int (0 : Int32)]) X (t_M_word (adK := adK) (adV := adV) l D cy b N (109 : Int32) (111 : Int32) (116 : Int32) (104 : Int32) (0 : Int32) (0 : Int32) (0 : Int32) h _ hw) qm_M_word wm_M_168 wi_M_word rfl rfl rfl ⟨Nat.le_of_ble_eq_true rfl, Nat.le_of_ble_eq_true rfl⟩ ⟨g4, g5⟩ (Nat.le_of_ble_eq_true rfl) rfl d_M_init_583 (fun r2 h3 hw => ?_)
  obtain ⟨g6, hw⟩ := hw
  refine qx_lst X g6 d_M_init_586 ?_
  refine qx_toph (fun h7 eh7 => ?_)
  have hw := hw h7 eh7
  refine qx_aload_n (x := x0) X d_M_init_587 rfl 0 rfl ?_
  obtain ⟨g8, hw⟩ := hw
  refine qx_getR X qcls12 g8 9 (by decide) rfl wf_M_34 d_M_init_588 ?_
  refine qx_bipush (v := (8 : Int32)) X d_M_init_591 (by decide) ?_
  refine qx_bipush (v := (115 : Int32)) X d_M_init_593 (by decide) ?_
  refine qx_bipush (v := (101 : Int32)) X d_M_init_595 (by decide) ?_
  refine qx_bipush (v := (101 : Int32)) X d_M_init_597 (by decide) ?_
  refine qx_bipush (v := (100 : Int32)) X d_M_init_599 (by decide) ?_
  refine qx_iconst (v := (0 : Int32)) X d_M_init_601 (by decide) ?_
  refine qx_iconst (v := (0 : Int32)) X d_M_init_602 (by decide) ?_
  refine qx_iconst (v := (0 : Int32)) X d_M_init_603 (by decide) ?_
  obtain ⟨g11, g12, hw⟩ := hw
  refine qx_callSJ (st := [.int (8 : Int32), qr b (qR h7 x0 9)]) (As := [.int (115 : Int32), .int (101 : Int32), .int (101 : Int32), .int (100 : Int32), .int (0 : Int32), .int (0 : Int32), .int (0 : Int32)]) X (t_M_word (adK := adK) (adV := adV) l D cy b N (115 : Int32) (101 : Int32) (101 : Int32) (100 : Int32) (0 : Int32) (0 : Int32) (0 : Int32) h7 _ hw) qm_M_word wm_M_168 wi_M_word rfl rfl rfl ⟨Nat.le_of_ble_eq_true rfl, Nat.le_of_ble_eq_true rfl⟩ ⟨g11, g12⟩ (Nat.le_of_ble_eq_true rfl) rfl d_M_init_604 (fun r9 h10 hw => ?_)
  obtain ⟨g13, hw⟩ := hw
  refine qx_lst X g13 d_M_init_607 ?_
  refine qx_toph (fun h14 eh14 => ?_)
  have hw := hw h14 eh14
  refine qx_aload_n (x := x0) X d_M_init_608 rfl 0 rfl ?_
  obtain ⟨g15, hw⟩ := hw
  refine qx_getR X qcls12 g15 9 (by decide) rfl wf_M_34 d_M_init_609 ?_
  refine qx_bipush (v := (9 : Int32)) X d_M_init_612 (by decide) ?_
  refine qx_bipush (v := (105 : Int32)) X d_M_init_614 (by decide) ?_
  refine qx_bipush (v := (102 : Int32)) X d_M_init_616 (by decide) ?_
  refine qx_iconst (v := (0 : Int32)) X d_M_init_618 (by decide) ?_
  refine qx_iconst (v := (0 : Int32)) X d_M_init_619 (by decide) ?_
  refine qx_iconst (v := (0 : Int32)) X d_M_init_620 (by decide) ?_
  refine qx_iconst (v := (0 : Int32)) X d_M_init_621 (by decide) ?_
  refine qx_iconst (v := (0 : Int32)) X d_M_init_622 (by decide) ?_
  obtain ⟨g18, g19, hw⟩ := hw
  refine qx_callSJ (st := [.int (9 : Int32), qr b (qR h14 x0 9)]) (As := [.int (105 : Int32), .int (102 : Int32), .int (0 : Int32), .int (0 : Int32), .int (0 : Int32), .int (0 : Int32), .int (0 : Int32)]) X (t_M_word (adK := adK) (adV := adV) l D cy b N (105 : Int32) (102 : Int32) (0 : Int32) (0 : Int32) (0 : Int32) (0 : Int32) (0 : Int32) h14 _ hw) qm_M_word wm_M_168 wi_M_word rfl rfl rfl ⟨Nat.le_of_ble_eq_true rfl, Nat.le_of_ble_eq_true rfl⟩ ⟨g18, g19⟩ (Nat.le_of_ble_eq_true rfl) rfl d_M_init_623 (fun r16 h17 hw => ?_)
  obtain ⟨g20, hw⟩ := hw
  refine qx_lst X g20 d_M_init_626 ?_
  refine qx_toph (fun h21 eh21 => ?_)
  have hw := hw h21 eh21
  refine qx_aload_n (x := x0) X d_M_init_627 rfl 0 rfl ?_
  obtain ⟨g22, hw⟩ := hw
  refine qx_getR X qcls12 g22 9 (by decide) rfl wf_M_34 d_M_init_628 ?_
  refine qx_bipush (v := (10 : Int32)) X d_M_init_631 (by decide) ?_
  refine qx_bipush (v := (116 : Int32)) X d_M_init_633 (by decide) ?_
  refine qx_bipush (v := (104 : Int32)) X d_M_init_635 (by decide) ?_
  refine qx_bipush (v := (101 : Int32)) X d_M_init_637 (by decide) ?_
  refine qx_bipush (v := (110 : Int32)) X d_M_init_639 (by decide) ?_
  refine qx_iconst (v := (0 : Int32)) X d_M_init_641 (by decide) ?_
  refine qx_iconst (v := (0 : Int32)) X d_M_init_642 (by decide) ?_
  refine qx_iconst (v := (0 : Int32)) X d_M_init_643 (by decide) ?_
  obtain ⟨g25, g26, hw⟩ := hw
  refine qx_callSJ (st := [.int (10 : Int32), qr b (qR h21 x0 9)]) (As := [.int (116 : Int32), .int (104 : Int32), .int (101 : Int32), .int (110 : Int32), .int (0 : Int32), .int (0 : Int32), .int (0 : Int32)]) X (t_M_word (adK := adK) (adV := adV) l D cy b N (116 : Int32) (104 : Int32) (101 : Int32) (110 : Int32) (0 : Int32) (0 : Int32) (0 : Int32) h21 _ hw) qm_M_word wm_M_168 wi_M_word rfl rfl rfl ⟨Nat.le_of_ble_eq_true rfl, Nat.le_of_ble_eq_true rfl⟩ ⟨g25, g26⟩ (Nat.le_of_ble_eq_true rfl) rfl d_M_init_644 (fun r23 h24 hw => ?_)
  obtain ⟨g27, hw⟩ := hw
  refine qx_lst X g27 d_M_init_647 ?_
  refine qx_toph (fun h28 eh28 => ?_)
  have hw := hw h28 eh28
  exact t_M_init_648 X N x0 C S h28 Q  hw 
set_option maxRecDepth 20000 in
theorem t_M_init_480 (X : qX p s m args meth c D cy b adK adV prog_14_method_2_code "CoatHangersModel" 1 (none) "<init>") (N : Nat) (x0 : Nat) (C S : Nat) (h : qH) (Q : qH → Prop)  (hw : w_M_init_480 N x0 C S h Q ) : qW p l e (qrm 2 48 12143 48) s m args below meth c D cy b 1 C S (MQ below (qQc D cy b qrV (fun (_ : Unit) h => Q h)) args s 48 12143 (qA b)) 480 [(0, .inr (.inr (.inl x0)))] [] h := by
  unfold w_M_init_480 at hw
  refine qx_aload_n (x := x0) X d_M_init_480 rfl 0 rfl ?_
  obtain ⟨g1, hw⟩ := hw
  refine qx_getR X qcls12 g1 9 (by decide) rfl wf_M_34 d_M_init_481 ?_
  refine qx_iconst (v := (3 : Int32)) X d_M_init_484 (by decide) ?_
  refine qx_bipush (v := (99 : Int32)) X d_M_init_485 (by decide) ?_
  refine qx_bipush (v := (114 : Int32)) X d_M_init_487 (by decide) ?_
  refine qx_bipush (v := (111 : Int32)) X d_M_init_489 (by decide) ?_
  refine qx_bipush (v := (111 : Int32)) X d_M_init_491 (by decide) ?_
  refine qx_bipush (v := (107 : Int32)) X d_M_init_493 (by decide) ?_
  refine qx_bipush (v := (115 : Int32)) X d_M_init_495 (by decide) ?_
  refine qx_iconst (v := (0 : Int32)) X d_M_init_497 (by decide) ?_
  obtain ⟨g4, g5, hw⟩ := hw
  refine qx_callSJ (st := [.int (3 : Int32), qr b (qR h x0 9)]) (As := [.int (99 : Int32), .int (114 : Int32), .int (111 : Int32), .int (111 : Int32), .int (107 : Int32), .int (115 : Int32), .int (0 : Int32)]) X (t_M_word (adK := adK) (adV := adV) l D cy b N (99 : Int32) (114 : Int32) (111 : Int32) (111 : Int32) (107 : Int32) (115 : Int32) (0 : Int32) h _ hw) qm_M_word wm_M_168 wi_M_word rfl rfl rfl ⟨Nat.le_of_ble_eq_true rfl, Nat.le_of_ble_eq_true rfl⟩ ⟨g4, g5⟩ (Nat.le_of_ble_eq_true rfl) rfl d_M_init_498 (fun r2 h3 hw => ?_)
  obtain ⟨g6, hw⟩ := hw
  refine qx_lst X g6 d_M_init_501 ?_
  refine qx_toph (fun h7 eh7 => ?_)
  have hw := hw h7 eh7
  refine qx_aload_n (x := x0) X d_M_init_502 rfl 0 rfl ?_
  obtain ⟨g8, hw⟩ := hw
  refine qx_getR X qcls12 g8 9 (by decide) rfl wf_M_34 d_M_init_503 ?_
  refine qx_iconst (v := (4 : Int32)) X d_M_init_506 (by decide) ?_
  refine qx_bipush (v := (98 : Int32)) X d_M_init_507 (by decide) ?_
  refine qx_bipush (v := (101 : Int32)) X d_M_init_509 (by decide) ?_
  refine qx_bipush (v := (110 : Int32)) X d_M_init_511 (by decide) ?_
  refine qx_bipush (v := (100 : Int32)) X d_M_init_513 (by decide) ?_
  refine qx_bipush (v := (115 : Int32)) X d_M_init_515 (by decide) ?_
  refine qx_iconst (v := (0 : Int32)) X d_M_init_517 (by decide) ?_
  refine qx_iconst (v := (0 : Int32)) X d_M_init_518 (by decide) ?_
  obtain ⟨g11, g12, hw⟩ := hw
  refine qx_callSJ (st := [.int (4 : Int32), qr b (qR h7 x0 9)]) (As := [.int (98 : Int32), .int (101 : Int32), .int (110 : Int32), .int (100 : Int32), .int (115 : Int32), .int (0 : Int32), .int (0 : Int32)]) X (t_M_word (adK := adK) (adV := adV) l D cy b N (98 : Int32) (101 : Int32) (110 : Int32) (100 : Int32) (115 : Int32) (0 : Int32) (0 : Int32) h7 _ hw) qm_M_word wm_M_168 wi_M_word rfl rfl rfl ⟨Nat.le_of_ble_eq_true rfl, Nat.le_of_ble_eq_true rfl⟩ ⟨g11, g12⟩ (Nat.le_of_ble_eq_true rfl) rfl d_M_init_519 (fun r9 h10 hw => ?_)
  obtain ⟨g13, hw⟩ := hw
  refine qx_lst X g13 d_M_init_522 ?_
  refine qx_toph (fun h14 eh14 => ?_)
  have hw := hw h14 eh14
  refine qx_aload_n (x := x0) X d_M_init_523 rfl 0 rfl ?_
  obtain ⟨g15, hw⟩ := hw
  refine qx_getR X qcls12 g15 9 (by decide) rfl wf_M_34 d_M_init_524 ?_
  refine qx_iconst (v := (5 : Int32)) X d_M_init_527 (by decide) ?_
  refine qx_bipush (v := (115 : Int32)) X d_M_init_528 (by decide) ?_
  refine qx_bipush (v := (108 : Int32)) X d_M_init_530 (by decide) ?_
  refine qx_bipush (v := (105 : Int32)) X d_M_init_532 (by decide) ?_
  refine qx_bipush (v := (112 : Int32)) X d_M_init_534 (by decide) ?_
  refine qx_bipush (v := (115 : Int32)) X d_M_init_536 (by decide) ?_
  refine qx_iconst (v := (0 : Int32)) X d_M_init_538 (by decide) ?_
  refine qx_iconst (v := (0 : Int32)) X d_M_init_539 (by decide) ?_
  obtain ⟨g18, g19, hw⟩ := hw
  refine qx_callSJ (st := [.int (5 : Int32), qr b (qR h14 x0 9)]) (As := [.int (115 : Int32), .int (108 : Int32), .int (105 : Int32), .int (112 : Int32), .int (115 : Int32), .int (0 : Int32), .int (0 : Int32)]) X (t_M_word (adK := adK) (adV := adV) l D cy b N (115 : Int32) (108 : Int32) (105 : Int32) (112 : Int32) (115 : Int32) (0 : Int32) (0 : Int32) h14 _ hw) qm_M_word wm_M_168 wi_M_word rfl rfl rfl ⟨Nat.le_of_ble_eq_true rfl, Nat.le_of_ble_eq_true rfl⟩ ⟨g18, g19⟩ (Nat.le_of_ble_eq_true rfl) rfl d_M_init_540 (fun r16 h17 hw => ?_)
  obtain ⟨g20, hw⟩ := hw
  refine qx_lst X g20 d_M_init_543 ?_
  refine qx_toph (fun h21 eh21 => ?_)
  have hw := hw h21 eh21
  refine qx_aload_n (x := x0) X d_M_init_544 rfl 0 rfl ?_
  obtain ⟨g22, hw⟩ := hw
  refine qx_getR X qcls12 g22 9 (by decide) rfl wf_M_34 d_M_init_545 ?_
  refine qx_bipush (v := (6 : Int32)) X d_M_init_548 (by decide) ?_
  refine qx_bipush (v := (99 : Int32)) X d_M_init_550 (by decide) ?_
  refine qx_bipush (v := (111 : Int32)) X d_M_init_552 (by decide) ?_
  refine qx_bipush (v := (115 : Int32)) X d_M_init_554 (by decide) ?_
  refine qx_bipush (v := (116 : Int32)) X d_M_init_556 (by decide) ?_
  refine qx_bipush (v := (115 : Int32)) X d_M_init_558 (by decide) ?_
  refine qx_iconst (v := (0 : Int32)) X d_M_init_560 (by decide) ?_
  refine qx_iconst (v := (0 : Int32)) X d_M_init_561 (by decide) ?_
  obtain ⟨g25, g26, hw⟩ := hw
  refine qx_callSJ (st := [.int (6 : Int32), qr b (qR h21 x0 9)]) (As := [.int (99 : Int32), .int (111 : Int32), .int (115 : Int32), .int (116 : Int32), .int (115 : Int32), .int (0 : Int32), .int (0 : Int32)]) X (t_M_word (adK := adK) (adV := adV) l D cy b N (99 : Int32) (111 : Int32) (115 : Int32) (116 : Int32) (115 : Int32) (0 : Int32) (0 : Int32) h21 _ hw) qm_M_word wm_M_168 wi_M_word rfl rfl rfl ⟨Nat.le_of_ble_eq_true rfl, Nat.le_of_ble_eq_true rfl⟩ ⟨g25, g26⟩ (Nat.le_of_ble_eq_true rfl) rfl d_M_init_562 (fun r23 h24 hw => ?_)
  obtain ⟨g27, hw⟩ := hw
  refine qx_lst X g27 d_M_init_565 ?_
  refine qx_toph (fun h28 eh28 => ?_)
  have hw := hw h28 eh28
  exact t_M_init_566 X N x0 C S h28 Q  hw 
set_option maxRecDepth 20000 in
theorem t_M_init_390 (X : qX p s m args meth c D cy b adK adV prog_14_method_2_code "CoatHangersModel" 1 (none) "<init>") (N : Nat) (x0 : Nat) (C S : Nat) (h : qH) (Q : qH → Prop)  (hw : w_M_init_390 N x0 C S h Q ) : qW p l e (qrm 2 48 12143 48) s m args below meth c D cy b 1 C S (MQ below (qQc D cy b qrV (fun (_ : Unit) h => Q h)) args s 48 12143 (qA b)) 390 [(0, .inr (.inr (.inl x0)))] [] h := by
  unfold w_M_init_390 at hw
  refine qx_aload_n (x := x0) X d_M_init_390 rfl 0 rfl ?_
  refine qx_iconst (v := (3 : Int32)) X d_M_init_391 (by decide) ?_
  obtain ⟨g1, g2, hw⟩ := hw
  refine qx_newaZ X wa_Z (by decide) (N := 3) (by decide) (by decide) g1 g2 d_M_init_392 ?_
  refine qx_topr (fun y4 ey4 => ?_)
  have hw := hw y4 ey4
  refine qx_toph (fun h3 eh3 => ?_)
  have hw := hw h3 eh3
  obtain ⟨g5, hw⟩ := hw
  refine qx_putRF X qcls12 g5 69 (by decide) rfl wf_M_158 rfl rfl rfl (Or.inr ⟨_, rfl⟩) d_M_init_394 ?_
  refine qx_toph (fun h6 eh6 => ?_)
  have hw := hw h6 eh6
  refine qx_aload_n (x := x0) X d_M_init_397 rfl 0 rfl ?_
  refine qx_bipush (v := (96 : Int32)) X d_M_init_398 (by decide) ?_
  obtain ⟨g7, g8, hw⟩ := hw
  refine qx_newaI X wa_I (by decide) (N := 96) (by decide) (by decide) g7 g8 d_M_init_400 ?_
  refine qx_topr (fun y10 ey10 => ?_)
  have hw := hw y10 ey10
  refine qx_toph (fun h9 eh9 => ?_)
  have hw := hw h9 eh9
  obtain ⟨g11, hw⟩ := hw
  refine qx_putRF X qcls12 g11 70 (by decide) rfl wf_M_161 rfl rfl rfl (Or.inr ⟨_, rfl⟩) d_M_init_402 ?_
  refine qx_toph (fun h12 eh12 => ?_)
  have hw := hw h12 eh12
  refine qx_aload_n (x := x0) X d_M_init_405 rfl 0 rfl ?_
  refine qx_iconst (v := (0 : Int32)) X d_M_init_406 (by decide) ?_
  obtain ⟨g13, hw⟩ := hw
  obtain ⟨g15, g16, hw⟩ := hw
  refine qx_callVV (st := []) (As := [.int (0 : Int32)]) X (t_M_plain (adK := adK) (adV := adV) l D cy b N x0 (0 : Int32) h12 _ hw) qm_M_plain wm_M_164 wi_M_plain wl_M_plain qcls12 g13 rfl rfl rfl ⟨Nat.le_of_ble_eq_true rfl, Nat.le_of_ble_eq_true rfl⟩ ⟨g15, g16⟩ (Nat.le_of_ble_eq_true rfl) rfl d_M_init_407 (fun h14 hw => ?_)
  refine qx_aload_n (x := x0) X d_M_init_410 rfl 0 rfl ?_
  refine qx_iconst (v := (1 : Int32)) X d_M_init_411 (by decide) ?_
  obtain ⟨g17, hw⟩ := hw
  obtain ⟨g19, g20, hw⟩ := hw
  refine qx_callVV (st := []) (As := [.int (1 : Int32)]) X (t_M_plain (adK := adK) (adV := adV) l D cy b N x0 (1 : Int32) h14 _ hw) qm_M_plain wm_M_164 wi_M_plain wl_M_plain qcls12 g17 rfl rfl rfl ⟨Nat.le_of_ble_eq_true rfl, Nat.le_of_ble_eq_true rfl⟩ ⟨g19, g20⟩ (Nat.le_of_ble_eq_true rfl) rfl d_M_init_412 (fun h18 hw => ?_)
  refine qx_aload_n (x := x0) X d_M_init_415 rfl 0 rfl ?_
  obtain ⟨g21, hw⟩ := hw
  refine qx_getR X qcls12 g21 9 (by decide) rfl wf_M_34 d_M_init_416 ?_
  refine qx_iconst (v := (0 : Int32)) X d_M_init_419 (by decide) ?_
  refine qx_bipush (v := (104 : Int32)) X d_M_init_420 (by decide) ?_
  refine qx_bipush (v := (97 : Int32)) X d_M_init_422 (by decide) ?_
  refine qx_bipush (v := (110 : Int32)) X d_M_init_424 (by decide) ?_
  refine qx_bipush (v := (103 : Int32)) X d_M_init_426 (by decide) ?_
  refine qx_bipush (v := (101 : Int32)) X d_M_init_428 (by decide) ?_
  refine qx_bipush (v := (114 : Int32)) X d_M_init_430 (by decide) ?_
  refine qx_iconst (v := (0 : Int32)) X d_M_init_432 (by decide) ?_
  obtain ⟨g24, g25, hw⟩ := hw
  refine qx_callSJ (st := [.int (0 : Int32), qr b (qR h18 x0 9)]) (As := [.int (104 : Int32), .int (97 : Int32), .int (110 : Int32), .int (103 : Int32), .int (101 : Int32), .int (114 : Int32), .int (0 : Int32)]) X (t_M_word (adK := adK) (adV := adV) l D cy b N (104 : Int32) (97 : Int32) (110 : Int32) (103 : Int32) (101 : Int32) (114 : Int32) (0 : Int32) h18 _ hw) qm_M_word wm_M_168 wi_M_word rfl rfl rfl ⟨Nat.le_of_ble_eq_true rfl, Nat.le_of_ble_eq_true rfl⟩ ⟨g24, g25⟩ (Nat.le_of_ble_eq_true rfl) rfl d_M_init_433 (fun r22 h23 hw => ?_)
  obtain ⟨g26, hw⟩ := hw
  refine qx_lst X g26 d_M_init_436 ?_
  refine qx_toph (fun h27 eh27 => ?_)
  have hw := hw h27 eh27
  refine qx_aload_n (x := x0) X d_M_init_437 rfl 0 rfl ?_
  obtain ⟨g28, hw⟩ := hw
  refine qx_getR X qcls12 g28 9 (by decide) rfl wf_M_34 d_M_init_438 ?_
  refine qx_iconst (v := (1 : Int32)) X d_M_init_441 (by decide) ?_
  refine qx_bipush (v := (112 : Int32)) X d_M_init_442 (by decide) ?_
  refine qx_bipush (v := (101 : Int32)) X d_M_init_444 (by decide) ?_
  refine qx_bipush (v := (114 : Int32)) X d_M_init_446 (by decide) ?_
  refine qx_bipush (v := (115 : Int32)) X d_M_init_448 (by decide) ?_
  refine qx_bipush (v := (111 : Int32)) X d_M_init_450 (by decide) ?_
  refine qx_bipush (v := (110 : Int32)) X d_M_init_452 (by decide) ?_
  refine qx_iconst (v := (0 : Int32)) X d_M_init_454 (by decide) ?_
  obtain ⟨g31, g32, hw⟩ := hw
  refine qx_callSJ (st := [.int (1 : Int32), qr b (qR h27 x0 9)]) (As := [.int (112 : Int32), .int (101 : Int32), .int (114 : Int32), .int (115 : Int32), .int (111 : Int32), .int (110 : Int32), .int (0 : Int32)]) X (t_M_word (adK := adK) (adV := adV) l D cy b N (112 : Int32) (101 : Int32) (114 : Int32) (115 : Int32) (111 : Int32) (110 : Int32) (0 : Int32) h27 _ hw) qm_M_word wm_M_168 wi_M_word rfl rfl rfl ⟨Nat.le_of_ble_eq_true rfl, Nat.le_of_ble_eq_true rfl⟩ ⟨g31, g32⟩ (Nat.le_of_ble_eq_true rfl) rfl d_M_init_455 (fun r29 h30 hw => ?_)
  obtain ⟨g33, hw⟩ := hw
  refine qx_lst X g33 d_M_init_458 ?_
  refine qx_toph (fun h34 eh34 => ?_)
  have hw := hw h34 eh34
  refine qx_aload_n (x := x0) X d_M_init_459 rfl 0 rfl ?_
  obtain ⟨g35, hw⟩ := hw
  refine qx_getR X qcls12 g35 9 (by decide) rfl wf_M_34 d_M_init_460 ?_
  refine qx_iconst (v := (2 : Int32)) X d_M_init_463 (by decide) ?_
  refine qx_bipush (v := (104 : Int32)) X d_M_init_464 (by decide) ?_
  refine qx_bipush (v := (97 : Int32)) X d_M_init_466 (by decide) ?_
  refine qx_bipush (v := (110 : Int32)) X d_M_init_468 (by decide) ?_
  refine qx_bipush (v := (103 : Int32)) X d_M_init_470 (by decide) ?_
  refine qx_bipush (v := (115 : Int32)) X d_M_init_472 (by decide) ?_
  refine qx_iconst (v := (0 : Int32)) X d_M_init_474 (by decide) ?_
  refine qx_iconst (v := (0 : Int32)) X d_M_init_475 (by decide) ?_
  obtain ⟨g38, g39, hw⟩ := hw
  refine qx_callSJ (st := [.int (2 : Int32), qr b (qR h34 x0 9)]) (As := [.int (104 : Int32), .int (97 : Int32), .int (110 : Int32), .int (103 : Int32), .int (115 : Int32), .int (0 : Int32), .int (0 : Int32)]) X (t_M_word (adK := adK) (adV := adV) l D cy b N (104 : Int32) (97 : Int32) (110 : Int32) (103 : Int32) (115 : Int32) (0 : Int32) (0 : Int32) h34 _ hw) qm_M_word wm_M_168 wi_M_word rfl rfl rfl ⟨Nat.le_of_ble_eq_true rfl, Nat.le_of_ble_eq_true rfl⟩ ⟨g38, g39⟩ (Nat.le_of_ble_eq_true rfl) rfl d_M_init_476 (fun r36 h37 hw => ?_)
  obtain ⟨g40, hw⟩ := hw
  refine qx_lst X g40 d_M_init_479 ?_
  refine qx_toph (fun h41 eh41 => ?_)
  have hw := hw h41 eh41
  exact t_M_init_480 X N x0 ((C + 1) + 1) ((S + 3) + 96) h41 Q  hw 
set_option maxRecDepth 20000 in
theorem t_M_init_290 (X : qX p s m args meth c D cy b adK adV prog_14_method_2_code "CoatHangersModel" 1 (none) "<init>") (N : Nat) (x0 : Nat) (C S : Nat) (h : qH) (Q : qH → Prop)  (hw : w_M_init_290 N x0 C S h Q ) : qW p l e (qrm 2 48 12143 48) s m args below meth c D cy b 1 C S (MQ below (qQc D cy b qrV (fun (_ : Unit) h => Q h)) args s 48 12143 (qA b)) 290 [(0, .inr (.inr (.inl x0)))] [] h := by
  unfold w_M_init_290 at hw
  refine qx_aload_n (x := x0) X d_M_init_290 rfl 0 rfl ?_
  refine qx_bipush (v := (6 : Int32)) X d_M_init_291 (by decide) ?_
  obtain ⟨g1, g2, hw⟩ := hw
  refine qx_newaI X wa_I (by decide) (N := 6) (by decide) (by decide) g1 g2 d_M_init_293 ?_
  refine qx_topr (fun y4 ey4 => ?_)
  have hw := hw y4 ey4
  refine qx_toph (fun h3 eh3 => ?_)
  have hw := hw h3 eh3
  obtain ⟨g5, hw⟩ := hw
  refine qx_putRF X qcls12 g5 54 (by decide) rfl wf_M_122 rfl rfl rfl (Or.inr ⟨_, rfl⟩) d_M_init_295 ?_
  refine qx_toph (fun h6 eh6 => ?_)
  have hw := hw h6 eh6
  refine qx_aload_n (x := x0) X d_M_init_298 rfl 0 rfl ?_
  refine qx_bipush (v := (6 : Int32)) X d_M_init_299 (by decide) ?_
  obtain ⟨g7, g8, hw⟩ := hw
  refine qx_newaZ X wa_Z (by decide) (N := 6) (by decide) (by decide) g7 g8 d_M_init_301 ?_
  refine qx_topr (fun y10 ey10 => ?_)
  have hw := hw y10 ey10
  refine qx_toph (fun h9 eh9 => ?_)
  have hw := hw h9 eh9
  obtain ⟨g11, hw⟩ := hw
  refine qx_putRF X qcls12 g11 55 (by decide) rfl wf_M_125 rfl rfl rfl (Or.inr ⟨_, rfl⟩) d_M_init_303 ?_
  refine qx_toph (fun h12 eh12 => ?_)
  have hw := hw h12 eh12
  refine qx_aload_n (x := x0) X d_M_init_306 rfl 0 rfl ?_
  refine qx_bipush (v := (6 : Int32)) X d_M_init_307 (by decide) ?_
  obtain ⟨g13, g14, hw⟩ := hw
  refine qx_newaI X wa_I (by decide) (N := 6) (by decide) (by decide) g13 g14 d_M_init_309 ?_
  refine qx_topr (fun y16 ey16 => ?_)
  have hw := hw y16 ey16
  refine qx_toph (fun h15 eh15 => ?_)
  have hw := hw h15 eh15
  obtain ⟨g17, hw⟩ := hw
  refine qx_putRF X qcls12 g17 56 (by decide) rfl wf_M_128 rfl rfl rfl (Or.inr ⟨_, rfl⟩) d_M_init_311 ?_
  refine qx_toph (fun h18 eh18 => ?_)
  have hw := hw h18 eh18
  refine qx_aload_n (x := x0) X d_M_init_314 rfl 0 rfl ?_
  refine qx_sipush (v := (1280 : Int32)) X d_M_init_315 (by decide) ?_
  obtain ⟨g19, g20, hw⟩ := hw
  refine qx_newaI X wa_I (by decide) (N := 1280) (by decide) (by decide) g19 g20 d_M_init_318 ?_
  refine qx_topr (fun y22 ey22 => ?_)
  have hw := hw y22 ey22
  refine qx_toph (fun h21 eh21 => ?_)
  have hw := hw h21 eh21
  obtain ⟨g23, hw⟩ := hw
  refine qx_putRF X qcls12 g23 58 (by decide) rfl wf_M_131 rfl rfl rfl (Or.inr ⟨_, rfl⟩) d_M_init_320 ?_
  refine qx_toph (fun h24 eh24 => ?_)
  have hw := hw h24 eh24
  refine qx_aload_n (x := x0) X d_M_init_323 rfl 0 rfl ?_
  refine qx_sipush (v := (896 : Int32)) X d_M_init_324 (by decide) ?_
  obtain ⟨g25, g26, hw⟩ := hw
  refine qx_newaI X wa_I (by decide) (N := 896) (by decide) (by decide) g25 g26 d_M_init_327 ?_
  refine qx_topr (fun y28 ey28 => ?_)
  have hw := hw y28 ey28
  refine qx_toph (fun h27 eh27 => ?_)
  have hw := hw h27 eh27
  obtain ⟨g29, hw⟩ := hw
  refine qx_putRF X qcls12 g29 59 (by decide) rfl wf_M_134 rfl rfl rfl (Or.inr ⟨_, rfl⟩) d_M_init_329 ?_
  refine qx_toph (fun h30 eh30 => ?_)
  have hw := hw h30 eh30
  refine qx_aload_n (x := x0) X d_M_init_332 rfl 0 rfl ?_
  refine qx_bipush (v := (42 : Int32)) X d_M_init_333 (by decide) ?_
  obtain ⟨g31, g32, hw⟩ := hw
  refine qx_newaI X wa_I (by decide) (N := 42) (by decide) (by decide) g31 g32 d_M_init_335 ?_
  refine qx_topr (fun y34 ey34 => ?_)
  have hw := hw y34 ey34
  refine qx_toph (fun h33 eh33 => ?_)
  have hw := hw h33 eh33
  obtain ⟨g35, hw⟩ := hw
  refine qx_putRF X qcls12 g35 60 (by decide) rfl wf_M_137 rfl rfl rfl (Or.inr ⟨_, rfl⟩) d_M_init_337 ?_
  refine qx_toph (fun h36 eh36 => ?_)
  have hw := hw h36 eh36
  refine qx_aload_n (x := x0) X d_M_init_340 rfl 0 rfl ?_
  refine qx_sipush (v := (224 : Int32)) X d_M_init_341 (by decide) ?_
  obtain ⟨g37, g38, hw⟩ := hw
  refine qx_newaI X wa_I (by decide) (N := 224) (by decide) (by decide) g37 g38 d_M_init_344 ?_
  refine qx_topr (fun y40 ey40 => ?_)
  have hw := hw y40 ey40
  refine qx_toph (fun h39 eh39 => ?_)
  have hw := hw h39 eh39
  obtain ⟨g41, hw⟩ := hw
  refine qx_putRF X qcls12 g41 62 (by decide) rfl wf_M_140 rfl rfl rfl (Or.inr ⟨_, rfl⟩) d_M_init_346 ?_
  refine qx_toph (fun h42 eh42 => ?_)
  have hw := hw h42 eh42
  refine qx_aload_n (x := x0) X d_M_init_349 rfl 0 rfl ?_
  refine qx_bipush (v := (20 : Int32)) X d_M_init_350 (by decide) ?_
  obtain ⟨g43, g44, hw⟩ := hw
  refine qx_newaI X wa_I (by decide) (N := 20) (by decide) (by decide) g43 g44 d_M_init_352 ?_
  refine qx_topr (fun y46 ey46 => ?_)
  have hw := hw y46 ey46
  refine qx_toph (fun h45 eh45 => ?_)
  have hw := hw h45 eh45
  obtain ⟨g47, hw⟩ := hw
  refine qx_putRF X qcls12 g47 64 (by decide) rfl wf_M_143 rfl rfl rfl (Or.inr ⟨_, rfl⟩) d_M_init_354 ?_
  refine qx_toph (fun h48 eh48 => ?_)
  have hw := hw h48 eh48
  refine qx_aload_n (x := x0) X d_M_init_357 rfl 0 rfl ?_
  refine qx_bipush (v := (20 : Int32)) X d_M_init_358 (by decide) ?_
  obtain ⟨g49, g50, hw⟩ := hw
  refine qx_newaI X wa_I (by decide) (N := 20) (by decide) (by decide) g49 g50 d_M_init_360 ?_
  refine qx_topr (fun y52 ey52 => ?_)
  have hw := hw y52 ey52
  refine qx_toph (fun h51 eh51 => ?_)
  have hw := hw h51 eh51
  obtain ⟨g53, hw⟩ := hw
  refine qx_putRF X qcls12 g53 65 (by decide) rfl wf_M_146 rfl rfl rfl (Or.inr ⟨_, rfl⟩) d_M_init_362 ?_
  refine qx_toph (fun h54 eh54 => ?_)
  have hw := hw h54 eh54
  refine qx_aload_n (x := x0) X d_M_init_365 rfl 0 rfl ?_
  refine qx_bipush (v := (20 : Int32)) X d_M_init_366 (by decide) ?_
  obtain ⟨g55, g56, hw⟩ := hw
  refine qx_newaZ X wa_Z (by decide) (N := 20) (by decide) (by decide) g55 g56 d_M_init_368 ?_
  refine qx_topr (fun y58 ey58 => ?_)
  have hw := hw y58 ey58
  refine qx_toph (fun h57 eh57 => ?_)
  have hw := hw h57 eh57
  obtain ⟨g59, hw⟩ := hw
  refine qx_putRF X qcls12 g59 66 (by decide) rfl wf_M_149 rfl rfl rfl (Or.inr ⟨_, rfl⟩) d_M_init_370 ?_
  refine qx_toph (fun h60 eh60 => ?_)
  have hw := hw h60 eh60
  refine qx_aload_n (x := x0) X d_M_init_373 rfl 0 rfl ?_
  refine qx_bipush (v := (36 : Int32)) X d_M_init_374 (by decide) ?_
  obtain ⟨g61, g62, hw⟩ := hw
  refine qx_newaZ X wa_Z (by decide) (N := 36) (by decide) (by decide) g61 g62 d_M_init_376 ?_
  refine qx_topr (fun y64 ey64 => ?_)
  have hw := hw y64 ey64
  refine qx_toph (fun h63 eh63 => ?_)
  have hw := hw h63 eh63
  obtain ⟨g65, hw⟩ := hw
  refine qx_putRF X qcls12 g65 67 (by decide) rfl wf_M_152 rfl rfl rfl (Or.inr ⟨_, rfl⟩) d_M_init_378 ?_
  refine qx_toph (fun h66 eh66 => ?_)
  have hw := hw h66 eh66
  refine qx_aload_n (x := x0) X d_M_init_381 rfl 0 rfl ?_
  refine qx_sipush (v := (216 : Int32)) X d_M_init_382 (by decide) ?_
  obtain ⟨g67, g68, hw⟩ := hw
  refine qx_newaI X wa_I (by decide) (N := 216) (by decide) (by decide) g67 g68 d_M_init_385 ?_
  refine qx_topr (fun y70 ey70 => ?_)
  have hw := hw y70 ey70
  refine qx_toph (fun h69 eh69 => ?_)
  have hw := hw h69 eh69
  obtain ⟨g71, hw⟩ := hw
  refine qx_putRF X qcls12 g71 68 (by decide) rfl wf_M_155 rfl rfl rfl (Or.inr ⟨_, rfl⟩) d_M_init_387 ?_
  refine qx_toph (fun h72 eh72 => ?_)
  have hw := hw h72 eh72
  exact t_M_init_390 X N x0 ((((((((((((C + 1) + 1) + 1) + 1) + 1) + 1) + 1) + 1) + 1) + 1) + 1) + 1) ((((((((((((S + 6) + 6) + 6) + 1280) + 896) + 42) + 224) + 20) + 20) + 20) + 36) + 216) h72 Q  hw 
set_option maxRecDepth 20000 in
theorem t_M_init_187 (X : qX p s m args meth c D cy b adK adV prog_14_method_2_code "CoatHangersModel" 1 (none) "<init>") (N : Nat) (x0 : Nat) (C S : Nat) (h : qH) (Q : qH → Prop)  (hw : w_M_init_187 N x0 C S h Q ) : qW p l e (qrm 2 48 12143 48) s m args below meth c D cy b 1 C S (MQ below (qQc D cy b qrV (fun (_ : Unit) h => Q h)) args s 48 12143 (qA b)) 187 [(0, .inr (.inr (.inl x0)))] [] h := by
  unfold w_M_init_187 at hw
  refine qx_aload_n (x := x0) X d_M_init_187 rfl 0 rfl ?_
  refine qx_sipush (v := (260 : Int32)) X d_M_init_188 (by decide) ?_
  obtain ⟨g1, g2, hw⟩ := hw
  refine qx_newaI X wa_I (by decide) (N := 260) (by decide) (by decide) g1 g2 d_M_init_191 ?_
  refine qx_topr (fun y4 ey4 => ?_)
  have hw := hw y4 ey4
  refine qx_toph (fun h3 eh3 => ?_)
  have hw := hw h3 eh3
  obtain ⟨g5, hw⟩ := hw
  refine qx_putRF X qcls12 g5 37 (by decide) rfl wf_M_86 rfl rfl rfl (Or.inr ⟨_, rfl⟩) d_M_init_193 ?_
  refine qx_toph (fun h6 eh6 => ?_)
  have hw := hw h6 eh6
  refine qx_aload_n (x := x0) X d_M_init_196 rfl 0 rfl ?_
  refine qx_sipush (v := (260 : Int32)) X d_M_init_197 (by decide) ?_
  obtain ⟨g7, g8, hw⟩ := hw
  refine qx_newaI X wa_I (by decide) (N := 260) (by decide) (by decide) g7 g8 d_M_init_200 ?_
  refine qx_topr (fun y10 ey10 => ?_)
  have hw := hw y10 ey10
  refine qx_toph (fun h9 eh9 => ?_)
  have hw := hw h9 eh9
  obtain ⟨g11, hw⟩ := hw
  refine qx_putRF X qcls12 g11 38 (by decide) rfl wf_M_89 rfl rfl rfl (Or.inr ⟨_, rfl⟩) d_M_init_202 ?_
  refine qx_toph (fun h12 eh12 => ?_)
  have hw := hw h12 eh12
  refine qx_aload_n (x := x0) X d_M_init_205 rfl 0 rfl ?_
  refine qx_sipush (v := (260 : Int32)) X d_M_init_206 (by decide) ?_
  obtain ⟨g13, g14, hw⟩ := hw
  refine qx_newaI X wa_I (by decide) (N := 260) (by decide) (by decide) g13 g14 d_M_init_209 ?_
  refine qx_topr (fun y16 ey16 => ?_)
  have hw := hw y16 ey16
  refine qx_toph (fun h15 eh15 => ?_)
  have hw := hw h15 eh15
  obtain ⟨g17, hw⟩ := hw
  refine qx_putRF X qcls12 g17 39 (by decide) rfl wf_M_92 rfl rfl rfl (Or.inr ⟨_, rfl⟩) d_M_init_211 ?_
  refine qx_toph (fun h18 eh18 => ?_)
  have hw := hw h18 eh18
  refine qx_aload_n (x := x0) X d_M_init_214 rfl 0 rfl ?_
  refine qx_sipush (v := (260 : Int32)) X d_M_init_215 (by decide) ?_
  obtain ⟨g19, g20, hw⟩ := hw
  refine qx_newaI X wa_I (by decide) (N := 260) (by decide) (by decide) g19 g20 d_M_init_218 ?_
  refine qx_topr (fun y22 ey22 => ?_)
  have hw := hw y22 ey22
  refine qx_toph (fun h21 eh21 => ?_)
  have hw := hw h21 eh21
  obtain ⟨g23, hw⟩ := hw
  refine qx_putRF X qcls12 g23 40 (by decide) rfl wf_M_95 rfl rfl rfl (Or.inr ⟨_, rfl⟩) d_M_init_220 ?_
  refine qx_toph (fun h24 eh24 => ?_)
  have hw := hw h24 eh24
  refine qx_aload_n (x := x0) X d_M_init_223 rfl 0 rfl ?_
  refine qx_sipush (v := (840 : Int32)) X d_M_init_224 (by decide) ?_
  obtain ⟨g25, g26, hw⟩ := hw
  refine qx_newaI X wa_I (by decide) (N := 840) (by decide) (by decide) g25 g26 d_M_init_227 ?_
  refine qx_topr (fun y28 ey28 => ?_)
  have hw := hw y28 ey28
  refine qx_toph (fun h27 eh27 => ?_)
  have hw := hw h27 eh27
  obtain ⟨g29, hw⟩ := hw
  refine qx_putRF X qcls12 g29 42 (by decide) rfl wf_M_98 rfl rfl rfl (Or.inr ⟨_, rfl⟩) d_M_init_229 ?_
  refine qx_toph (fun h30 eh30 => ?_)
  have hw := hw h30 eh30
  refine qx_aload_n (x := x0) X d_M_init_232 rfl 0 rfl ?_
  refine qx_sipush (v := (840 : Int32)) X d_M_init_233 (by decide) ?_
  obtain ⟨g31, g32, hw⟩ := hw
  refine qx_newaI X wa_I (by decide) (N := 840) (by decide) (by decide) g31 g32 d_M_init_236 ?_
  refine qx_topr (fun y34 ey34 => ?_)
  have hw := hw y34 ey34
  refine qx_toph (fun h33 eh33 => ?_)
  have hw := hw h33 eh33
  obtain ⟨g35, hw⟩ := hw
  refine qx_putRF X qcls12 g35 43 (by decide) rfl wf_M_101 rfl rfl rfl (Or.inr ⟨_, rfl⟩) d_M_init_238 ?_
  refine qx_toph (fun h36 eh36 => ?_)
  have hw := hw h36 eh36
  refine qx_aload_n (x := x0) X d_M_init_241 rfl 0 rfl ?_
  refine qx_bipush (v := (64 : Int32)) X d_M_init_242 (by decide) ?_
  obtain ⟨g37, g38, hw⟩ := hw
  refine qx_newaI X wa_I (by decide) (N := 64) (by decide) (by decide) g37 g38 d_M_init_244 ?_
  refine qx_topr (fun y40 ey40 => ?_)
  have hw := hw y40 ey40
  refine qx_toph (fun h39 eh39 => ?_)
  have hw := hw h39 eh39
  obtain ⟨g41, hw⟩ := hw
  refine qx_putRF X qcls12 g41 44 (by decide) rfl wf_M_104 rfl rfl rfl (Or.inr ⟨_, rfl⟩) d_M_init_246 ?_
  refine qx_toph (fun h42 eh42 => ?_)
  have hw := hw h42 eh42
  refine qx_aload_n (x := x0) X d_M_init_249 rfl 0 rfl ?_
  refine qx_bipush (v := (9 : Int32)) X d_M_init_250 (by decide) ?_
  obtain ⟨g43, g44, hw⟩ := hw
  refine qx_newaI X wa_I (by decide) (N := 9) (by decide) (by decide) g43 g44 d_M_init_252 ?_
  refine qx_topr (fun y46 ey46 => ?_)
  have hw := hw y46 ey46
  refine qx_toph (fun h45 eh45 => ?_)
  have hw := hw h45 eh45
  obtain ⟨g47, hw⟩ := hw
  refine qx_putRF X qcls12 g47 46 (by decide) rfl wf_M_107 rfl rfl rfl (Or.inr ⟨_, rfl⟩) d_M_init_254 ?_
  refine qx_toph (fun h48 eh48 => ?_)
  have hw := hw h48 eh48
  refine qx_aload_n (x := x0) X d_M_init_257 rfl 0 rfl ?_
  refine qx_sipush (v := (400 : Int32)) X d_M_init_258 (by decide) ?_
  obtain ⟨g49, g50, hw⟩ := hw
  refine qx_newaI X wa_I (by decide) (N := 400) (by decide) (by decide) g49 g50 d_M_init_261 ?_
  refine qx_topr (fun y52 ey52 => ?_)
  have hw := hw y52 ey52
  refine qx_toph (fun h51 eh51 => ?_)
  have hw := hw h51 eh51
  obtain ⟨g53, hw⟩ := hw
  refine qx_putRF X qcls12 g53 47 (by decide) rfl wf_M_110 rfl rfl rfl (Or.inr ⟨_, rfl⟩) d_M_init_263 ?_
  refine qx_toph (fun h54 eh54 => ?_)
  have hw := hw h54 eh54
  refine qx_aload_n (x := x0) X d_M_init_266 rfl 0 rfl ?_
  refine qx_bipush (v := (32 : Int32)) X d_M_init_267 (by decide) ?_
  obtain ⟨g55, g56, hw⟩ := hw
  refine qx_newaI X wa_I (by decide) (N := 32) (by decide) (by decide) g55 g56 d_M_init_269 ?_
  refine qx_topr (fun y58 ey58 => ?_)
  have hw := hw y58 ey58
  refine qx_toph (fun h57 eh57 => ?_)
  have hw := hw h57 eh57
  obtain ⟨g59, hw⟩ := hw
  refine qx_putRF X qcls12 g59 49 (by decide) rfl wf_M_113 rfl rfl rfl (Or.inr ⟨_, rfl⟩) d_M_init_271 ?_
  refine qx_toph (fun h60 eh60 => ?_)
  have hw := hw h60 eh60
  refine qx_aload_n (x := x0) X d_M_init_274 rfl 0 rfl ?_
  refine qx_bipush (v := (32 : Int32)) X d_M_init_275 (by decide) ?_
  obtain ⟨g61, g62, hw⟩ := hw
  refine qx_newaI X wa_I (by decide) (N := 32) (by decide) (by decide) g61 g62 d_M_init_277 ?_
  refine qx_topr (fun y64 ey64 => ?_)
  have hw := hw y64 ey64
  refine qx_toph (fun h63 eh63 => ?_)
  have hw := hw h63 eh63
  obtain ⟨g65, hw⟩ := hw
  refine qx_putRF X qcls12 g65 50 (by decide) rfl wf_M_116 rfl rfl rfl (Or.inr ⟨_, rfl⟩) d_M_init_279 ?_
  refine qx_toph (fun h66 eh66 => ?_)
  have hw := hw h66 eh66
  refine qx_aload_n (x := x0) X d_M_init_282 rfl 0 rfl ?_
  refine qx_bipush (v := (6 : Int32)) X d_M_init_283 (by decide) ?_
  obtain ⟨g67, g68, hw⟩ := hw
  refine qx_newaI X wa_I (by decide) (N := 6) (by decide) (by decide) g67 g68 d_M_init_285 ?_
  refine qx_topr (fun y70 ey70 => ?_)
  have hw := hw y70 ey70
  refine qx_toph (fun h69 eh69 => ?_)
  have hw := hw h69 eh69
  obtain ⟨g71, hw⟩ := hw
  refine qx_putRF X qcls12 g71 53 (by decide) rfl wf_M_119 rfl rfl rfl (Or.inr ⟨_, rfl⟩) d_M_init_287 ?_
  refine qx_toph (fun h72 eh72 => ?_)
  have hw := hw h72 eh72
  exact t_M_init_290 X N x0 ((((((((((((C + 1) + 1) + 1) + 1) + 1) + 1) + 1) + 1) + 1) + 1) + 1) + 1) ((((((((((((S + 260) + 260) + 260) + 260) + 840) + 840) + 64) + 9) + 400) + 32) + 32) + 6) h72 Q  hw 
set_option maxRecDepth 20000 in
theorem t_M_init_94 (X : qX p s m args meth c D cy b adK adV prog_14_method_2_code "CoatHangersModel" 1 (none) "<init>") (N : Nat) (x0 : Nat) (C S : Nat) (h : qH) (Q : qH → Prop)  (hw : w_M_init_94 N x0 C S h Q ) : qW p l e (qrm 2 48 12143 48) s m args below meth c D cy b 1 C S (MQ below (qQc D cy b qrV (fun (_ : Unit) h => Q h)) args s 48 12143 (qA b)) 94 [(0, .inr (.inr (.inl x0)))] [] h := by
  unfold w_M_init_94 at hw
  refine qx_aload_n (x := x0) X d_M_init_94 rfl 0 rfl ?_
  refine qx_bipush (v := (14 : Int32)) X d_M_init_95 (by decide) ?_
  obtain ⟨g1, g2, hw⟩ := hw
  refine qx_newaI X wa_I (by decide) (N := 14) (by decide) (by decide) g1 g2 d_M_init_97 ?_
  refine qx_topr (fun y4 ey4 => ?_)
  have hw := hw y4 ey4
  refine qx_toph (fun h3 eh3 => ?_)
  have hw := hw h3 eh3
  obtain ⟨g5, hw⟩ := hw
  refine qx_putRF X qcls12 g5 24 (by decide) rfl wf_M_49 rfl rfl rfl (Or.inr ⟨_, rfl⟩) d_M_init_99 ?_
  refine qx_toph (fun h6 eh6 => ?_)
  have hw := hw h6 eh6
  refine qx_aload_n (x := x0) X d_M_init_102 rfl 0 rfl ?_
  refine qx_bipush (v := (14 : Int32)) X d_M_init_103 (by decide) ?_
  obtain ⟨g7, g8, hw⟩ := hw
  refine qx_newaI X wa_I (by decide) (N := 14) (by decide) (by decide) g7 g8 d_M_init_105 ?_
  refine qx_topr (fun y10 ey10 => ?_)
  have hw := hw y10 ey10
  refine qx_toph (fun h9 eh9 => ?_)
  have hw := hw h9 eh9
  obtain ⟨g11, hw⟩ := hw
  refine qx_putRF X qcls12 g11 25 (by decide) rfl wf_M_52 rfl rfl rfl (Or.inr ⟨_, rfl⟩) d_M_init_107 ?_
  refine qx_toph (fun h12 eh12 => ?_)
  have hw := hw h12 eh12
  refine qx_aload_n (x := x0) X d_M_init_110 rfl 0 rfl ?_
  refine qx_iconst (v := (2 : Int32)) X d_M_init_111 (by decide) ?_
  obtain ⟨g13, g14, hw⟩ := hw
  refine qx_newaI X wa_I (by decide) (N := 2) (by decide) (by decide) g13 g14 d_M_init_112 ?_
  refine qx_topr (fun y16 ey16 => ?_)
  have hw := hw y16 ey16
  refine qx_toph (fun h15 eh15 => ?_)
  have hw := hw h15 eh15
  obtain ⟨g17, hw⟩ := hw
  refine qx_putRF X qcls12 g17 26 (by decide) rfl wf_M_55 rfl rfl rfl (Or.inr ⟨_, rfl⟩) d_M_init_114 ?_
  refine qx_toph (fun h18 eh18 => ?_)
  have hw := hw h18 eh18
  refine qx_aload_n (x := x0) X d_M_init_117 rfl 0 rfl ?_
  refine qx_bipush (v := (12 : Int32)) X d_M_init_118 (by decide) ?_
  obtain ⟨g19, g20, hw⟩ := hw
  refine qx_newaI X wa_I (by decide) (N := 12) (by decide) (by decide) g19 g20 d_M_init_120 ?_
  refine qx_topr (fun y22 ey22 => ?_)
  have hw := hw y22 ey22
  refine qx_toph (fun h21 eh21 => ?_)
  have hw := hw h21 eh21
  obtain ⟨g23, hw⟩ := hw
  refine qx_putRF X qcls12 g23 27 (by decide) rfl wf_M_58 rfl rfl rfl (Or.inr ⟨_, rfl⟩) d_M_init_122 ?_
  refine qx_toph (fun h24 eh24 => ?_)
  have hw := hw h24 eh24
  refine qx_aload_n (x := x0) X d_M_init_125 rfl 0 rfl ?_
  refine qx_bipush (v := (12 : Int32)) X d_M_init_126 (by decide) ?_
  obtain ⟨g25, g26, hw⟩ := hw
  refine qx_newaI X wa_I (by decide) (N := 12) (by decide) (by decide) g25 g26 d_M_init_128 ?_
  refine qx_topr (fun y28 ey28 => ?_)
  have hw := hw y28 ey28
  refine qx_toph (fun h27 eh27 => ?_)
  have hw := hw h27 eh27
  obtain ⟨g29, hw⟩ := hw
  refine qx_putRF X qcls12 g29 28 (by decide) rfl wf_M_61 rfl rfl rfl (Or.inr ⟨_, rfl⟩) d_M_init_130 ?_
  refine qx_toph (fun h30 eh30 => ?_)
  have hw := hw h30 eh30
  refine qx_aload_n (x := x0) X d_M_init_133 rfl 0 rfl ?_
  refine qx_bipush (v := (12 : Int32)) X d_M_init_134 (by decide) ?_
  obtain ⟨g31, g32, hw⟩ := hw
  refine qx_newaI X wa_I (by decide) (N := 12) (by decide) (by decide) g31 g32 d_M_init_136 ?_
  refine qx_topr (fun y34 ey34 => ?_)
  have hw := hw y34 ey34
  refine qx_toph (fun h33 eh33 => ?_)
  have hw := hw h33 eh33
  obtain ⟨g35, hw⟩ := hw
  refine qx_putRF X qcls12 g35 29 (by decide) rfl wf_M_64 rfl rfl rfl (Or.inr ⟨_, rfl⟩) d_M_init_138 ?_
  refine qx_toph (fun h36 eh36 => ?_)
  have hw := hw h36 eh36
  refine qx_aload_n (x := x0) X d_M_init_141 rfl 0 rfl ?_
  refine qx_iconst (v := (2 : Int32)) X d_M_init_142 (by decide) ?_
  obtain ⟨g37, g38, hw⟩ := hw
  refine qx_newaI X wa_I (by decide) (N := 2) (by decide) (by decide) g37 g38 d_M_init_143 ?_
  refine qx_topr (fun y40 ey40 => ?_)
  have hw := hw y40 ey40
  refine qx_toph (fun h39 eh39 => ?_)
  have hw := hw h39 eh39
  obtain ⟨g41, hw⟩ := hw
  refine qx_putRF X qcls12 g41 30 (by decide) rfl wf_M_67 rfl rfl rfl (Or.inr ⟨_, rfl⟩) d_M_init_145 ?_
  refine qx_toph (fun h42 eh42 => ?_)
  have hw := hw h42 eh42
  refine qx_aload_n (x := x0) X d_M_init_148 rfl 0 rfl ?_
  refine qx_iconst (v := (2 : Int32)) X d_M_init_149 (by decide) ?_
  obtain ⟨g43, g44, hw⟩ := hw
  refine qx_newaI X wa_I (by decide) (N := 2) (by decide) (by decide) g43 g44 d_M_init_150 ?_
  refine qx_topr (fun y46 ey46 => ?_)
  have hw := hw y46 ey46
  refine qx_toph (fun h45 eh45 => ?_)
  have hw := hw h45 eh45
  obtain ⟨g47, hw⟩ := hw
  refine qx_putRF X qcls12 g47 31 (by decide) rfl wf_M_70 rfl rfl rfl (Or.inr ⟨_, rfl⟩) d_M_init_152 ?_
  refine qx_toph (fun h48 eh48 => ?_)
  have hw := hw h48 eh48
  refine qx_aload_n (x := x0) X d_M_init_155 rfl 0 rfl ?_
  refine qx_iconst (v := (2 : Int32)) X d_M_init_156 (by decide) ?_
  obtain ⟨g49, g50, hw⟩ := hw
  refine qx_newaI X wa_I (by decide) (N := 2) (by decide) (by decide) g49 g50 d_M_init_157 ?_
  refine qx_topr (fun y52 ey52 => ?_)
  have hw := hw y52 ey52
  refine qx_toph (fun h51 eh51 => ?_)
  have hw := hw h51 eh51
  obtain ⟨g53, hw⟩ := hw
  refine qx_putRF X qcls12 g53 32 (by decide) rfl wf_M_73 rfl rfl rfl (Or.inr ⟨_, rfl⟩) d_M_init_159 ?_
  refine qx_toph (fun h54 eh54 => ?_)
  have hw := hw h54 eh54
  refine qx_aload_n (x := x0) X d_M_init_162 rfl 0 rfl ?_
  refine qx_bipush (v := (8 : Int32)) X d_M_init_163 (by decide) ?_
  obtain ⟨g55, g56, hw⟩ := hw
  refine qx_newaI X wa_I (by decide) (N := 8) (by decide) (by decide) g55 g56 d_M_init_165 ?_
  refine qx_topr (fun y58 ey58 => ?_)
  have hw := hw y58 ey58
  refine qx_toph (fun h57 eh57 => ?_)
  have hw := hw h57 eh57
  obtain ⟨g59, hw⟩ := hw
  refine qx_putRF X qcls12 g59 33 (by decide) rfl wf_M_76 rfl rfl rfl (Or.inr ⟨_, rfl⟩) d_M_init_167 ?_
  refine qx_toph (fun h60 eh60 => ?_)
  have hw := hw h60 eh60
  refine qx_aload_n (x := x0) X d_M_init_170 rfl 0 rfl ?_
  refine qx_bipush (v := (8 : Int32)) X d_M_init_171 (by decide) ?_
  obtain ⟨g61, g62, hw⟩ := hw
  refine qx_newaI X wa_I (by decide) (N := 8) (by decide) (by decide) g61 g62 d_M_init_173 ?_
  refine qx_topr (fun y64 ey64 => ?_)
  have hw := hw y64 ey64
  refine qx_toph (fun h63 eh63 => ?_)
  have hw := hw h63 eh63
  obtain ⟨g65, hw⟩ := hw
  refine qx_putRF X qcls12 g65 34 (by decide) rfl wf_M_79 rfl rfl rfl (Or.inr ⟨_, rfl⟩) d_M_init_175 ?_
  refine qx_toph (fun h66 eh66 => ?_)
  have hw := hw h66 eh66
  refine qx_aload_n (x := x0) X d_M_init_178 rfl 0 rfl ?_
  refine qx_sipush (v := (260 : Int32)) X d_M_init_179 (by decide) ?_
  obtain ⟨g67, g68, hw⟩ := hw
  refine qx_newaZ X wa_Z (by decide) (N := 260) (by decide) (by decide) g67 g68 d_M_init_182 ?_
  refine qx_topr (fun y70 ey70 => ?_)
  have hw := hw y70 ey70
  refine qx_toph (fun h69 eh69 => ?_)
  have hw := hw h69 eh69
  obtain ⟨g71, hw⟩ := hw
  refine qx_putRF X qcls12 g71 36 (by decide) rfl wf_M_82 rfl rfl rfl (Or.inr ⟨_, rfl⟩) d_M_init_184 ?_
  refine qx_toph (fun h72 eh72 => ?_)
  have hw := hw h72 eh72
  exact t_M_init_187 X N x0 ((((((((((((C + 1) + 1) + 1) + 1) + 1) + 1) + 1) + 1) + 1) + 1) + 1) + 1) ((((((((((((S + 14) + 14) + 2) + 12) + 12) + 12) + 2) + 2) + 2) + 8) + 8) + 260) h72 Q  hw 
set_option maxRecDepth 20000 in
theorem t_M_init {adK adV : Nat → Nat} (l : Launch) (D : va_G) (cy : Nat → ClassId) (b : Nat) (N : Nat) (x0 : Nat) (h : qH) (Q : qH → Prop) (hw : w_M_init N x0 h Q) : Met l y_M_init (Cond.code y_M_init prog_14_method_2_code 1 (none) :: qT) (qrm 2 48 12143 48) (qPc D cy b adK adV h [qr b x0]) (qQc D cy b qrV (fun (_ : Unit) h => Q h)) 48 12143 (qA b) := by
  refine qmet (L0 := [(0, .inr (.inr (.inl x0)))]) qm_M_init (plainFor_of_name (by decide)) [.inr (.inr (.inl x0))] rfl (Nat.le_of_ble_eq_true rfl) rfl (fun p e s m args below meth c X => ?_)
  unfold w_M_init at hw
  refine qx_aload_n (x := x0) X d_M_init_0 rfl 0 rfl ?_
  obtain ⟨g1, hw⟩ := hw
  refine qx_oinit X g1 wm_M_7 wi_oinit wk_oinit (Nat.le_of_ble_eq_true rfl) (Nat.le_of_ble_eq_true rfl) d_M_init_1 ?_
  refine qx_aload_n (x := x0) X d_M_init_4 rfl 0 rfl ?_
  refine qx_sipush (v := (2000 : Int32)) X d_M_init_5 (by decide) ?_
  obtain ⟨g2, g3, hw⟩ := hw
  refine qx_newaB X wa_B (by decide) (N := 2000) (by decide) (by decide) g2 g3 d_M_init_8 ?_
  refine qx_topr (fun y5 ey5 => ?_)
  have hw := hw y5 ey5
  refine qx_toph (fun h4 eh4 => ?_)
  have hw := hw h4 eh4
  obtain ⟨g6, hw⟩ := hw
  refine qx_putRF X qcls12 g6 1 (by decide) rfl wf_M_13 rfl rfl rfl (Or.inr ⟨_, rfl⟩) d_M_init_10 ?_
  refine qx_toph (fun h7 eh7 => ?_)
  have hw := hw h7 eh7
  refine qx_aload_n (x := x0) X d_M_init_13 rfl 0 rfl ?_
  refine qx_sipush (v := (2000 : Int32)) X d_M_init_14 (by decide) ?_
  obtain ⟨g8, g9, hw⟩ := hw
  refine qx_newaB X wa_B (by decide) (N := 2000) (by decide) (by decide) g8 g9 d_M_init_17 ?_
  refine qx_topr (fun y11 ey11 => ?_)
  have hw := hw y11 ey11
  refine qx_toph (fun h10 eh10 => ?_)
  have hw := hw h10 eh10
  obtain ⟨g12, hw⟩ := hw
  refine qx_putRF X qcls12 g12 3 (by decide) rfl wf_M_17 rfl rfl rfl (Or.inr ⟨_, rfl⟩) d_M_init_19 ?_
  refine qx_toph (fun h13 eh13 => ?_)
  have hw := hw h13 eh13
  refine qx_aload_n (x := x0) X d_M_init_22 rfl 0 rfl ?_
  refine qx_sipush (v := (403 : Int32)) X d_M_init_23 (by decide) ?_
  obtain ⟨g14, g15, hw⟩ := hw
  refine qx_newaI X wa_I (by decide) (N := 403) (by decide) (by decide) g14 g15 d_M_init_26 ?_
  refine qx_topr (fun y17 ey17 => ?_)
  have hw := hw y17 ey17
  refine qx_toph (fun h16 eh16 => ?_)
  have hw := hw h16 eh16
  obtain ⟨g18, hw⟩ := hw
  refine qx_putRF X qcls12 g18 5 (by decide) rfl wf_M_20 rfl rfl rfl (Or.inr ⟨_, rfl⟩) d_M_init_28 ?_
  refine qx_toph (fun h19 eh19 => ?_)
  have hw := hw h19 eh19
  refine qx_aload_n (x := x0) X d_M_init_31 rfl 0 rfl ?_
  refine qx_sipush (v := (403 : Int32)) X d_M_init_32 (by decide) ?_
  obtain ⟨g20, g21, hw⟩ := hw
  refine qx_newaI X wa_I (by decide) (N := 403) (by decide) (by decide) g20 g21 d_M_init_35 ?_
  refine qx_topr (fun y23 ey23 => ?_)
  have hw := hw y23 ey23
  refine qx_toph (fun h22 eh22 => ?_)
  have hw := hw h22 eh22
  obtain ⟨g24, hw⟩ := hw
  refine qx_putRF X qcls12 g24 6 (by decide) rfl wf_M_24 rfl rfl rfl (Or.inr ⟨_, rfl⟩) d_M_init_37 ?_
  refine qx_toph (fun h25 eh25 => ?_)
  have hw := hw h25 eh25
  refine qx_aload_n (x := x0) X d_M_init_40 rfl 0 rfl ?_
  refine qx_sipush (v := (403 : Int32)) X d_M_init_41 (by decide) ?_
  obtain ⟨g26, g27, hw⟩ := hw
  refine qx_newaI X wa_I (by decide) (N := 403) (by decide) (by decide) g26 g27 d_M_init_44 ?_
  refine qx_topr (fun y29 ey29 => ?_)
  have hw := hw y29 ey29
  refine qx_toph (fun h28 eh28 => ?_)
  have hw := hw h28 eh28
  obtain ⟨g30, hw⟩ := hw
  refine qx_putRF X qcls12 g30 7 (by decide) rfl wf_M_27 rfl rfl rfl (Or.inr ⟨_, rfl⟩) d_M_init_46 ?_
  refine qx_toph (fun h31 eh31 => ?_)
  have hw := hw h31 eh31
  refine qx_aload_n (x := x0) X d_M_init_49 rfl 0 rfl ?_
  refine qx_sipush (v := (403 : Int32)) X d_M_init_50 (by decide) ?_
  obtain ⟨g32, g33, hw⟩ := hw
  refine qx_newaJ X wa_J (by decide) (N := 403) (by decide) (by decide) g32 g33 d_M_init_53 ?_
  refine qx_topr (fun y35 ey35 => ?_)
  have hw := hw y35 ey35
  refine qx_toph (fun h34 eh34 => ?_)
  have hw := hw h34 eh34
  obtain ⟨g36, hw⟩ := hw
  refine qx_putRF X qcls12 g36 8 (by decide) rfl wf_M_30 rfl rfl rfl (Or.inr ⟨_, rfl⟩) d_M_init_55 ?_
  refine qx_toph (fun h37 eh37 => ?_)
  have hw := hw h37 eh37
  refine qx_aload_n (x := x0) X d_M_init_58 rfl 0 rfl ?_
  refine qx_bipush (v := (21 : Int32)) X d_M_init_59 (by decide) ?_
  obtain ⟨g38, g39, hw⟩ := hw
  refine qx_newaJ X wa_J (by decide) (N := 21) (by decide) (by decide) g38 g39 d_M_init_61 ?_
  refine qx_topr (fun y41 ey41 => ?_)
  have hw := hw y41 ey41
  refine qx_toph (fun h40 eh40 => ?_)
  have hw := hw h40 eh40
  obtain ⟨g42, hw⟩ := hw
  refine qx_putRF X qcls12 g42 9 (by decide) rfl wf_M_34 rfl rfl rfl (Or.inr ⟨_, rfl⟩) d_M_init_63 ?_
  refine qx_toph (fun h43 eh43 => ?_)
  have hw := hw h43 eh43
  refine qx_aload_n (x := x0) X d_M_init_66 rfl 0 rfl ?_
  refine qx_iconst (v := (-1 : Int32)) X d_M_init_67 (by decide) ?_
  obtain ⟨g44, hw⟩ := hw
  refine qx_putI X qcls12 g44 17 (by decide) rfl wf_M_37 rfl rfl rfl d_M_init_68 ?_
  refine qx_toph (fun h45 eh45 => ?_)
  have hw := hw h45 eh45
  refine qx_aload_n (x := x0) X d_M_init_71 rfl 0 rfl ?_
  refine qx_bipush (v := (13 : Int32)) X d_M_init_72 (by decide) ?_
  obtain ⟨g46, g47, hw⟩ := hw
  refine qx_newaJ X wa_J (by decide) (N := 13) (by decide) (by decide) g46 g47 d_M_init_74 ?_
  refine qx_topr (fun y49 ey49 => ?_)
  have hw := hw y49 ey49
  refine qx_toph (fun h48 eh48 => ?_)
  have hw := hw h48 eh48
  obtain ⟨g50, hw⟩ := hw
  refine qx_putRF X qcls12 g50 21 (by decide) rfl wf_M_40 rfl rfl rfl (Or.inr ⟨_, rfl⟩) d_M_init_76 ?_
  refine qx_toph (fun h51 eh51 => ?_)
  have hw := hw h51 eh51
  refine qx_aload_n (x := x0) X d_M_init_79 rfl 0 rfl ?_
  refine qx_bipush (v := (13 : Int32)) X d_M_init_80 (by decide) ?_
  obtain ⟨g52, g53, hw⟩ := hw
  refine qx_newaI X wa_I (by decide) (N := 13) (by decide) (by decide) g52 g53 d_M_init_82 ?_
  refine qx_topr (fun y55 ey55 => ?_)
  have hw := hw y55 ey55
  refine qx_toph (fun h54 eh54 => ?_)
  have hw := hw h54 eh54
  obtain ⟨g56, hw⟩ := hw
  refine qx_putRF X qcls12 g56 22 (by decide) rfl wf_M_43 rfl rfl rfl (Or.inr ⟨_, rfl⟩) d_M_init_84 ?_
  refine qx_toph (fun h57 eh57 => ?_)
  have hw := hw h57 eh57
  refine qx_aload_n (x := x0) X d_M_init_87 rfl 0 rfl ?_
  refine qx_iconst (v := (2 : Int32)) X d_M_init_88 (by decide) ?_
  obtain ⟨g58, g59, hw⟩ := hw
  refine qx_newaI X wa_I (by decide) (N := 2) (by decide) (by decide) g58 g59 d_M_init_89 ?_
  refine qx_topr (fun y61 ey61 => ?_)
  have hw := hw y61 ey61
  refine qx_toph (fun h60 eh60 => ?_)
  have hw := hw h60 eh60
  obtain ⟨g62, hw⟩ := hw
  refine qx_putRF X qcls12 g62 23 (by decide) rfl wf_M_46 rfl rfl rfl (Or.inr ⟨_, rfl⟩) d_M_init_91 ?_
  refine qx_toph (fun h63 eh63 => ?_)
  have hw := hw h63 eh63
  exact t_M_init_94 X N x0 10 5661 h63 Q  hw 
end QG
