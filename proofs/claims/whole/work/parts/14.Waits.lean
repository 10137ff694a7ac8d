/-! Waiters: written by wip/whole/emit.py out of the bytecode -/
def y_Waits_close : MethodName := ⟨"CoatHangers$Waiters", "close", "()V"⟩
theorem qm_Waits_close : qMt y_Waits_close prog_12_method_4_code 1 (none) 0 := ⟨qT_3 (i := 205) (by decide +kernel) rfl, qT_1 (i := 10) (by decide +kernel) rfl, by decide, by decide, by decide +kernel⟩
theorem wi_Waits_close : Cond.instanceMethod y_Waits_close ∈ qT := qT_3 (i := 203) (by decide +kernel) rfl
theorem wl_Waits_close : Cond.selects y_Waits_close.cls y_Waits_close y_Waits_close ∈ qT := qT_3 (i := 204) (by decide +kernel) rfl
def y_Waits_strengthOf : MethodName := ⟨"CoatHangers$Waiters", "strengthOf", "(I)I"⟩
theorem qm_Waits_strengthOf : qMt y_Waits_strengthOf prog_12_method_8_code 1 (some .int) 1 := ⟨qT_3 (i := 200) (by decide +kernel) rfl, qT_1 (i := 10) (by decide +kernel) rfl, by decide, by decide, by decide +kernel⟩
theorem wi_Waits_strengthOf : Cond.static y_Waits_strengthOf ∈ qT := qT_3 (i := 199) (by decide +kernel) rfl
def y_Waits_letGo : MethodName := ⟨"CoatHangers$Waiters", "letGo", "(LCoatHangers$Law;I)V"⟩
theorem qm_Waits_letGo : qMt y_Waits_letGo prog_12_method_6_code 3 (none) 2 := ⟨qT_3 (i := 197) (by decide +kernel) rfl, qT_1 (i := 10) (by decide +kernel) rfl, by decide, by decide, by decide +kernel⟩
theorem wi_Waits_letGo : Cond.instanceMethod y_Waits_letGo ∈ qT := qT_3 (i := 195) (by decide +kernel) rfl
theorem wl_Waits_letGo : Cond.selects y_Waits_letGo.cls y_Waits_letGo y_Waits_letGo ∈ qT := qT_3 (i := 196) (by decide +kernel) rfl
def y_Waits_put : MethodName := ⟨"CoatHangers$Waiters", "put", "(I)V"⟩
theorem qm_Waits_put : qMt y_Waits_put prog_12_method_7_code 2 (none) 1 := ⟨qT_3 (i := 184) (by decide +kernel) rfl, qT_1 (i := 10) (by decide +kernel) rfl, by decide, by decide, by decide +kernel⟩
theorem wi_Waits_put : Cond.instanceMethod y_Waits_put ∈ qT := qT_3 (i := 183) (by decide +kernel) rfl
theorem wl_Waits_put : Cond.selects y_Waits_put.cls y_Waits_put y_Waits_put ∈ qT := qT_s (i := 14) (by decide +kernel) rfl
def y_Waits_open : MethodName := ⟨"CoatHangers$Waiters", "open", "()V"⟩
theorem qm_Waits_open : qMt y_Waits_open prog_12_method_3_code 1 (none) 0 := ⟨qT_3 (i := 180) (by decide +kernel) rfl, qT_1 (i := 10) (by decide +kernel) rfl, by decide, by decide, by decide +kernel⟩
theorem wi_Waits_open : Cond.instanceMethod y_Waits_open ∈ qT := qT_3 (i := 178) (by decide +kernel) rfl
theorem wl_Waits_open : Cond.selects y_Waits_open.cls y_Waits_open y_Waits_open ∈ qT := qT_3 (i := 179) (by decide +kernel) rfl
def y_Waits_add : MethodName := ⟨"CoatHangers$Waiters", "add", "(LCoatHangers$Law;I)V"⟩
theorem qm_Waits_add : qMt y_Waits_add prog_12_method_5_code 3 (none) 2 := ⟨qT_3 (i := 211) (by decide +kernel) rfl, qT_1 (i := 10) (by decide +kernel) rfl, by decide, by decide, by decide +kernel⟩
theorem wi_Waits_add : Cond.instanceMethod y_Waits_add ∈ qT := qT_3 (i := 209) (by decide +kernel) rfl
theorem wl_Waits_add : Cond.selects y_Waits_add.cls y_Waits_add y_Waits_add ∈ qT := qT_3 (i := 210) (by decide +kernel) rfl
def y_Waits_begin : MethodName := ⟨"CoatHangers$Waiters", "begin", "()V"⟩
theorem qm_Waits_begin : qMt y_Waits_begin prog_12_method_2_code 1 (none) 0 := ⟨qT_3 (i := 172) (by decide +kernel) rfl, qT_1 (i := 10) (by decide +kernel) rfl, by decide, by decide, by decide +kernel⟩
theorem wi_Waits_begin : Cond.instanceMethod y_Waits_begin ∈ qT := qT_3 (i := 170) (by decide +kernel) rfl
theorem wl_Waits_begin : Cond.selects y_Waits_begin.cls y_Waits_begin y_Waits_begin ∈ qT := qT_3 (i := 171) (by decide +kernel) rfl
theorem wf_Waits_13 : Cond.fieldLink "CoatHangers$Waiters" 13 "CoatHangers$Waiters" "size" "I" ∈ qT := qT_2 (i := 0) (by decide +kernel) rfl
theorem wm_Waits_24 : Cond.methodLink "CoatHangers$Waiters" 24 Lib.Math.max.name ∈ qT := qT_3 (i := 206) (by decide +kernel) rfl
theorem wf_Waits_17 : Cond.fieldLink "CoatHangers$Waiters" 17 "CoatHangers$Waiters" "deep" "I" ∈ qT := qT_2 (i := 1) (by decide +kernel) rfl
theorem wf_Waits_9 : Cond.fieldLink "CoatHangers$Waiters" 9 "CoatHangers$Waiters" "signs" "[I" ∈ qT := qT_1 (i := 239) (by decide +kernel) rfl
theorem wm_Waits_30 : Cond.methodLink "CoatHangers$Waiters" 30 y_Waits_strengthOf ∈ qT := qT_3 (i := 198) (by decide +kernel) rfl
theorem wm_Waits_38 : Cond.methodLink "CoatHangers$Waiters" 38 y_Law_add ∈ qT := qT_3 (i := 201) (by decide +kernel) rfl
theorem wm_Waits_20 : Cond.methodLink "CoatHangers$Waiters" 20 y_Waits_put ∈ qT := qT_3 (i := 181) (by decide +kernel) rfl
theorem wm_Waits_34 : Cond.methodLink "CoatHangers$Waiters" 34 y_Waits_letGo ∈ qT := qT_3 (i := 212) (by decide +kernel) rfl
theorem d_Waits_close_0 : decode prog_12_method_4_code 0 = .ok (.aload_n 0, 1) := by decide +kernel
theorem d_Waits_close_1 : decode prog_12_method_4_code 1 = .ok (.iconst 0, 1) := by decide +kernel
theorem d_Waits_close_2 : decode prog_12_method_4_code 2 = .ok (.aload_n 0, 1) := by decide +kernel
theorem d_Waits_close_3 : decode prog_12_method_4_code 3 = .ok (.getfield 13, 3) := by decide +kernel
theorem d_Waits_close_6 : decode prog_12_method_4_code 6 = .ok (.iconst 1, 1) := by decide +kernel
theorem d_Waits_close_7 : decode prog_12_method_4_code 7 = .ok (.isub, 1) := by decide +kernel
theorem d_Waits_close_8 : decode prog_12_method_4_code 8 = .ok (.invokestatic 24, 3) := by decide +kernel
theorem d_Waits_close_11 : decode prog_12_method_4_code 11 = .ok (.putfield 13, 3) := by decide +kernel
theorem d_Waits_close_14 : decode prog_12_method_4_code 14 = .ok (.aload_n 0, 1) := by decide +kernel
theorem d_Waits_close_15 : decode prog_12_method_4_code 15 = .ok (.dup, 1) := by decide +kernel
theorem d_Waits_close_16 : decode prog_12_method_4_code 16 = .ok (.getfield 17, 3) := by decide +kernel
theorem d_Waits_close_19 : decode prog_12_method_4_code 19 = .ok (.iconst 1, 1) := by decide +kernel
theorem d_Waits_close_20 : decode prog_12_method_4_code 20 = .ok (.isub, 1) := by decide +kernel
theorem d_Waits_close_21 : decode prog_12_method_4_code 21 = .ok (.putfield 17, 3) := by decide +kernel
theorem d_Waits_close_24 : decode prog_12_method_4_code 24 = .ok (.return_, 1) := by decide +kernel
theorem d_Waits_strengthOf_0 : decode prog_12_method_8_code 0 = .ok (.iload_n 0, 1) := by decide +kernel
theorem d_Waits_strengthOf_1 : decode prog_12_method_8_code 1 = .ok (.tableswitch 43 42 47 #[39, 41, 43, 41, 43, 39], 39) := by decide +kernel
theorem d_Waits_strengthOf_40 : decode prog_12_method_8_code 40 = .ok (.iconst 2, 1) := by decide +kernel
theorem d_Waits_strengthOf_41 : decode prog_12_method_8_code 41 = .ok (.ireturn, 1) := by decide +kernel
theorem d_Waits_strengthOf_42 : decode prog_12_method_8_code 42 = .ok (.iconst 1, 1) := by decide +kernel
theorem d_Waits_strengthOf_43 : decode prog_12_method_8_code 43 = .ok (.ireturn, 1) := by decide +kernel
theorem d_Waits_strengthOf_44 : decode prog_12_method_8_code 44 = .ok (.iconst 0, 1) := by decide +kernel
theorem d_Waits_strengthOf_45 : decode prog_12_method_8_code 45 = .ok (.ireturn, 1) := by decide +kernel
theorem d_Waits_letGo_0 : decode prog_12_method_6_code 0 = .ok (.aload_n 0, 1) := by decide +kernel
theorem d_Waits_letGo_1 : decode prog_12_method_6_code 1 = .ok (.getfield 13, 3) := by decide +kernel
theorem d_Waits_letGo_4 : decode prog_12_method_6_code 4 = .ok (.ifCond .le 48, 3) := by decide +kernel
theorem d_Waits_letGo_7 : decode prog_12_method_6_code 7 = .ok (.aload_n 0, 1) := by decide +kernel
theorem d_Waits_letGo_8 : decode prog_12_method_6_code 8 = .ok (.getfield 9, 3) := by decide +kernel
theorem d_Waits_letGo_11 : decode prog_12_method_6_code 11 = .ok (.aload_n 0, 1) := by decide +kernel
theorem d_Waits_letGo_12 : decode prog_12_method_6_code 12 = .ok (.getfield 13, 3) := by decide +kernel
theorem d_Waits_letGo_15 : decode prog_12_method_6_code 15 = .ok (.iconst 1, 1) := by decide +kernel
theorem d_Waits_letGo_16 : decode prog_12_method_6_code 16 = .ok (.isub, 1) := by decide +kernel
theorem d_Waits_letGo_17 : decode prog_12_method_6_code 17 = .ok (.iaload, 1) := by decide +kernel
theorem d_Waits_letGo_18 : decode prog_12_method_6_code 18 = .ok (.invokestatic 30, 3) := by decide +kernel
theorem d_Waits_letGo_21 : decode prog_12_method_6_code 21 = .ok (.iload_n 2, 1) := by decide +kernel
theorem d_Waits_letGo_22 : decode prog_12_method_6_code 22 = .ok (.if_icmp .lt 30, 3) := by decide +kernel
theorem d_Waits_letGo_25 : decode prog_12_method_6_code 25 = .ok (.aload_n 0, 1) := by decide +kernel
theorem d_Waits_letGo_26 : decode prog_12_method_6_code 26 = .ok (.dup, 1) := by decide +kernel
theorem d_Waits_letGo_27 : decode prog_12_method_6_code 27 = .ok (.getfield 13, 3) := by decide +kernel
theorem d_Waits_letGo_30 : decode prog_12_method_6_code 30 = .ok (.iconst 1, 1) := by decide +kernel
theorem d_Waits_letGo_31 : decode prog_12_method_6_code 31 = .ok (.isub, 1) := by decide +kernel
theorem d_Waits_letGo_32 : decode prog_12_method_6_code 32 = .ok (.putfield 13, 3) := by decide +kernel
theorem d_Waits_letGo_35 : decode prog_12_method_6_code 35 = .ok (.aload_n 1, 1) := by decide +kernel
theorem d_Waits_letGo_36 : decode prog_12_method_6_code 36 = .ok (.aload_n 0, 1) := by decide +kernel
theorem d_Waits_letGo_37 : decode prog_12_method_6_code 37 = .ok (.getfield 9, 3) := by decide +kernel
theorem d_Waits_letGo_40 : decode prog_12_method_6_code 40 = .ok (.aload_n 0, 1) := by decide +kernel
theorem d_Waits_letGo_41 : decode prog_12_method_6_code 41 = .ok (.getfield 13, 3) := by decide +kernel
theorem d_Waits_letGo_44 : decode prog_12_method_6_code 44 = .ok (.iaload, 1) := by decide +kernel
theorem d_Waits_letGo_45 : decode prog_12_method_6_code 45 = .ok (.iconst 0, 1) := by decide +kernel
theorem d_Waits_letGo_46 : decode prog_12_method_6_code 46 = .ok (.invokevirtual 38, 3) := by decide +kernel
theorem d_Waits_letGo_49 : decode prog_12_method_6_code 49 = .ok (.goto (-49), 3) := by decide +kernel
theorem d_Waits_letGo_52 : decode prog_12_method_6_code 52 = .ok (.return_, 1) := by decide +kernel
theorem d_Waits_put_0 : decode prog_12_method_7_code 0 = .ok (.aload_n 0, 1) := by decide +kernel
theorem d_Waits_put_1 : decode prog_12_method_7_code 1 = .ok (.getfield 13, 3) := by decide +kernel
theorem d_Waits_put_4 : decode prog_12_method_7_code 4 = .ok (.bipush 32, 2) := by decide +kernel
theorem d_Waits_put_6 : decode prog_12_method_7_code 6 = .ok (.if_icmp .ge 23, 3) := by decide +kernel
theorem d_Waits_put_9 : decode prog_12_method_7_code 9 = .ok (.aload_n 0, 1) := by decide +kernel
theorem d_Waits_put_10 : decode prog_12_method_7_code 10 = .ok (.getfield 9, 3) := by decide +kernel
theorem d_Waits_put_13 : decode prog_12_method_7_code 13 = .ok (.aload_n 0, 1) := by decide +kernel
theorem d_Waits_put_14 : decode prog_12_method_7_code 14 = .ok (.getfield 13, 3) := by decide +kernel
theorem d_Waits_put_17 : decode prog_12_method_7_code 17 = .ok (.iload_n 1, 1) := by decide +kernel
theorem d_Waits_put_18 : decode prog_12_method_7_code 18 = .ok (.iastore, 1) := by decide +kernel
theorem d_Waits_put_19 : decode prog_12_method_7_code 19 = .ok (.aload_n 0, 1) := by decide +kernel
theorem d_Waits_put_20 : decode prog_12_method_7_code 20 = .ok (.dup, 1) := by decide +kernel
theorem d_Waits_put_21 : decode prog_12_method_7_code 21 = .ok (.getfield 13, 3) := by decide +kernel
theorem d_Waits_put_24 : decode prog_12_method_7_code 24 = .ok (.iconst 1, 1) := by decide +kernel
theorem d_Waits_put_25 : decode prog_12_method_7_code 25 = .ok (.iadd, 1) := by decide +kernel
theorem d_Waits_put_26 : decode prog_12_method_7_code 26 = .ok (.putfield 13, 3) := by decide +kernel
theorem d_Waits_put_29 : decode prog_12_method_7_code 29 = .ok (.return_, 1) := by decide +kernel
theorem d_Waits_open_0 : decode prog_12_method_3_code 0 = .ok (.aload_n 0, 1) := by decide +kernel
theorem d_Waits_open_1 : decode prog_12_method_3_code 1 = .ok (.bipush 40, 2) := by decide +kernel
theorem d_Waits_open_3 : decode prog_12_method_3_code 3 = .ok (.invokevirtual 20, 3) := by decide +kernel
theorem d_Waits_open_6 : decode prog_12_method_3_code 6 = .ok (.aload_n 0, 1) := by decide +kernel
theorem d_Waits_open_7 : decode prog_12_method_3_code 7 = .ok (.dup, 1) := by decide +kernel
theorem d_Waits_open_8 : decode prog_12_method_3_code 8 = .ok (.getfield 17, 3) := by decide +kernel
theorem d_Waits_open_11 : decode prog_12_method_3_code 11 = .ok (.iconst 1, 1) := by decide +kernel
theorem d_Waits_open_12 : decode prog_12_method_3_code 12 = .ok (.iadd, 1) := by decide +kernel
theorem d_Waits_open_13 : decode prog_12_method_3_code 13 = .ok (.putfield 17, 3) := by decide +kernel
theorem d_Waits_open_16 : decode prog_12_method_3_code 16 = .ok (.return_, 1) := by decide +kernel
theorem d_Waits_add_0 : decode prog_12_method_5_code 0 = .ok (.aload_n 0, 1) := by decide +kernel
theorem d_Waits_add_1 : decode prog_12_method_5_code 1 = .ok (.aload_n 1, 1) := by decide +kernel
theorem d_Waits_add_2 : decode prog_12_method_5_code 2 = .ok (.iload_n 2, 1) := by decide +kernel
theorem d_Waits_add_3 : decode prog_12_method_5_code 3 = .ok (.invokestatic 30, 3) := by decide +kernel
theorem d_Waits_add_6 : decode prog_12_method_5_code 6 = .ok (.invokevirtual 34, 3) := by decide +kernel
theorem d_Waits_add_9 : decode prog_12_method_5_code 9 = .ok (.aload_n 0, 1) := by decide +kernel
theorem d_Waits_add_10 : decode prog_12_method_5_code 10 = .ok (.iload_n 2, 1) := by decide +kernel
theorem d_Waits_add_11 : decode prog_12_method_5_code 11 = .ok (.invokevirtual 20, 3) := by decide +kernel
theorem d_Waits_add_14 : decode prog_12_method_5_code 14 = .ok (.return_, 1) := by decide +kernel
theorem d_Waits_begin_0 : decode prog_12_method_2_code 0 = .ok (.aload_n 0, 1) := by decide +kernel
theorem d_Waits_begin_1 : decode prog_12_method_2_code 1 = .ok (.iconst 0, 1) := by decide +kernel
theorem d_Waits_begin_2 : decode prog_12_method_2_code 2 = .ok (.putfield 13, 3) := by decide +kernel
theorem d_Waits_begin_5 : decode prog_12_method_2_code 5 = .ok (.aload_n 0, 1) := by decide +kernel
theorem d_Waits_begin_6 : decode prog_12_method_2_code 6 = .ok (.iconst 0, 1) := by decide +kernel
theorem d_Waits_begin_7 : decode prog_12_method_2_code 7 = .ok (.putfield 17, 3) := by decide +kernel
theorem d_Waits_begin_10 : decode prog_12_method_2_code 10 = .ok (.return_, 1) := by decide +kernel
def w_Waits_close (N : Nat) (x0 : Nat) (h : qH) (Q : qH → Prop) : Prop := (qS h x0 = .inl 10 ∧ (∀ h2 : qH, h2 = qsI h x0 1 (if (0 : Int32) < ((qI h x0 1) - (1 : Int32)) then ((qI h x0 1) - (1 : Int32)) else (0 : Int32)) → (qS h2 x0 = .inl 10 ∧ (∀ h4 : qH, h4 = qsI h2 x0 2 ((qI h2 x0 2) - (1 : Int32)) → Q h4))))
def w_Waits_strengthOf (N : Nat) (x0 : Int32) (h : qH) (Q : Int32 → qH → Prop) : Prop := ((x0 = (42 : Int32) → Q (2 : Int32) h) ∧ (¬ x0 = (42 : Int32) → ((x0 = (43 : Int32) → Q (1 : Int32) h) ∧ (¬ x0 = (43 : Int32) → ((x0 = (44 : Int32) → Q (0 : Int32) h) ∧ (¬ x0 = (44 : Int32) → ((x0 = (45 : Int32) → Q (1 : Int32) h) ∧ (¬ x0 = (45 : Int32) → ((x0 = (46 : Int32) → Q (0 : Int32) h) ∧ (¬ x0 = (46 : Int32) → ((x0 = (47 : Int32) → Q (2 : Int32) h) ∧ (¬ x0 = (47 : Int32) → Q (0 : Int32) h))))))))))))
def w_Waits_letGo_0 (N : Nat) : Nat → Nat → Nat → Int32 → qH → (qH → Prop) → Prop
  | 0 => fun _ _ _ _ _ => False
  | k + 1 => fun x0 x1 x2 h Q => (qS h x0 = .inl 10 ∧ (((qI h x0 1) ≤ 0 → Q h) ∧ (¬ (qI h x0 1) ≤ 0 → (qok h (qR h x0 0) 0 ((qI h x0 1) - (1 : Int32)) ∧ (w_Waits_strengthOf N (qI h (qR h x0 0) (((qI h x0 1) - (1 : Int32))).toNatClampNeg) h (fun r4 h5 => ((r4 < x2 → Q h5) ∧ (¬ r4 < x2 → (qS h5 x0 = .inl 10 ∧ (∀ h8 : qH, h8 = qsI h5 x0 1 ((qI h5 x0 1) - (1 : Int32)) → (qS h8 x0 = .inl 10 ∧ (qok h8 (qR h8 x0 0) 0 (qI h8 x0 1) ∧ (qS h8 x1 = .inl 0 ∧ w_Law_add N x1 (qI h8 (qR h8 x0 0) ((qI h8 x0 1)).toNatClampNeg) (0 : Int32) h8 (fun h12 => (w_Waits_letGo_0 N k x0 x1 x2 h12 Q)))))))))))))))
def w_Waits_letGo (N : Nat) (x0 : Nat) (x1 : Nat) (x2 : Int32) (h : qH) (Q : qH → Prop) : Prop := (w_Waits_letGo_0 N N x0 x1 x2 h Q )
def w_Waits_put (N : Nat) (x0 : Nat) (x1 : Int32) (h : qH) (Q : qH → Prop) : Prop := (qS h x0 = .inl 10 ∧ (((32 : Int32) ≤ (qI h x0 1) → Q h) ∧ (¬ (32 : Int32) ≤ (qI h x0 1) → (qok h (qR h x0 0) 0 (qI h x0 1) ∧ ∀ h4 : qH, h4 = qsI h (qR h x0 0) ((qI h x0 1)).toNatClampNeg x1 → (qS h4 x0 = .inl 10 ∧ (∀ h6 : qH, h6 = qsI h4 x0 1 ((qI h4 x0 1) + (1 : Int32)) → Q h6))))))
def w_Waits_open (N : Nat) (x0 : Nat) (h : qH) (Q : qH → Prop) : Prop := (qS h x0 = .inl 10 ∧ w_Waits_put N x0 (40 : Int32) h (fun h2 => (qS h2 x0 = .inl 10 ∧ (∀ h4 : qH, h4 = qsI h2 x0 2 ((qI h2 x0 2) + (1 : Int32)) → Q h4))))
def w_Waits_add (N : Nat) (x0 : Nat) (x1 : Nat) (x2 : Int32) (h : qH) (Q : qH → Prop) : Prop := (w_Waits_strengthOf N x2 h (fun r1 h2 => (qS h2 x0 = .inl 10 ∧ w_Waits_letGo N x0 x1 r1 h2 (fun h4 => (qS h4 x0 = .inl 10 ∧ w_Waits_put N x0 x2 h4 (fun h6 => Q h6))))))
def w_Waits_begin (N : Nat) (x0 : Nat) (h : qH) (Q : qH → Prop) : Prop := (qS h x0 = .inl 10 ∧ ∀ h2 : qH, h2 = qsI h x0 1 (0 : Int32) → (qS h2 x0 = .inl 10 ∧ ∀ h4 : qH, h4 = qsI h2 x0 2 (0 : Int32) → Q h4))
section QG
variable {p : Program} {l : Launch} {e : Env} {s : State} {m : MethodId} {args : Array Value} {below : List Frame} {meth : Method} {c : Code} {D : va_G} {cy : Nat → ClassId} {b : Nat} {adK adV : Nat → Nat}

set_option maxRecDepth 4000 in
theorem t_Waits_close {adK adV : Nat → Nat} (l : Launch) (D : va_G) (cy : Nat → ClassId) (b : Nat) (N : Nat) (x0 : Nat) (h : qH) (Q : qH → Prop) (hw : w_Waits_close N x0 h Q) : Met l y_Waits_close (Cond.code y_Waits_close prog_12_method_4_code 1 (none) :: qT) (qrm 1 0 0 15) (qPc D cy b adK adV h [qr b x0]) (qQc D cy b qrV (fun (_ : Unit) h => Q h)) 0 0 (qA b) := by
  refine qmet (L0 := [(0, .inr (.inr (.inl x0)))]) qm_Waits_close (plainFor_of_name (by decide)) [.inr (.inr (.inl x0))] rfl (Nat.le_of_ble_eq_true rfl) rfl (fun p e s m args below meth c X => ?_)
  unfold w_Waits_close at hw
  refine qx_aload_n (x := x0) X d_Waits_close_0 rfl 0 rfl ?_
  refine qx_iconst (v := (0 : Int32)) X d_Waits_close_1 (by decide) ?_
  refine qx_aload_n (x := x0) X d_Waits_close_2 rfl 0 rfl ?_
  obtain ⟨g1, hw⟩ := hw
  refine qx_getI X qcls10 g1 1 (by decide) rfl wf_Waits_13 d_Waits_close_3 ?_
  refine qx_iconst (v := (1 : Int32)) X d_Waits_close_6 (by decide) ?_
  refine qx_isub X d_Waits_close_7 ?_
  refine qx_mmax X wm_Waits_24 ws_mmax wz_Math wk_mmax (Nat.le_of_ble_eq_true rfl) (Nat.le_of_ble_eq_true rfl) (Nat.le_of_ble_eq_true rfl) (Nat.le_of_ble_eq_true rfl) d_Waits_close_8 ?_
  refine qx_putI X qcls10 g1 1 (by decide) rfl wf_Waits_13 rfl rfl rfl d_Waits_close_11 ?_
  refine qx_toph (fun h2 eh2 => ?_)
  have hw := hw h2 eh2
  refine qx_aload_n (x := x0) X d_Waits_close_14 rfl 0 rfl ?_
  refine qx_dup X (qr_cat _ _) d_Waits_close_15 ?_
  obtain ⟨g3, hw⟩ := hw
  refine qx_getI X qcls10 g3 2 (by decide) rfl wf_Waits_17 d_Waits_close_16 ?_
  refine qx_iconst (v := (1 : Int32)) X d_Waits_close_19 (by decide) ?_
  refine qx_isub X d_Waits_close_20 ?_
  refine qx_putI X qcls10 g3 2 (by decide) rfl wf_Waits_17 rfl rfl rfl d_Waits_close_21 ?_
  refine qx_toph (fun h4 eh4 => ?_)
  have hw := hw h4 eh4
  exact qx_vret X hw (Nat.le_refl 0) (Nat.le_refl 0) rfl d_Waits_close_24
set_option maxRecDepth 4000 in
theorem t_Waits_strengthOf {adK adV : Nat → Nat} (l : Launch) (D : va_G) (cy : Nat → ClassId) (b : Nat) (N : Nat) (x0 : Int32) (h : qH) (Q : Int32 → qH → Prop) (hw : w_Waits_strengthOf N x0 h Q) : Met l y_Waits_strengthOf (Cond.code y_Waits_strengthOf prog_12_method_8_code 1 (some .int) :: qT) (qrm 0 0 0 0) (qPc D cy b adK adV h [.int x0]) (qQc D cy b qrI Q) 0 0 (qA b) := by
  refine qmet (L0 := [(0, .inl x0)]) qm_Waits_strengthOf (plainFor_of_name (by decide)) [.inl x0] rfl (Nat.le_of_ble_eq_true rfl) rfl (fun p e s m args below meth c X => ?_)
  unfold w_Waits_strengthOf at hw
  refine qx_iload_n (x := x0) X d_Waits_strengthOf_0 rfl 0 rfl ?_
  by_cases q1 : x0 = (42 : Int32)
  · have hw := hw.1 q1
    refine qx_tableIn (off := (39)) X 40 d_Waits_strengthOf_1 (by rw [q1]; decide) (by rw [q1]; decide) (by rw [q1]; rfl) (by decide) ?_
    refine qx_iconst (v := (2 : Int32)) X d_Waits_strengthOf_40 (by decide) ?_
    exact qx_iret X hw (Nat.le_refl 0) (Nat.le_refl 0) rfl d_Waits_strengthOf_41
  · have hw := hw.2 q1
    by_cases q2 : x0 = (43 : Int32)
    · have hw := hw.1 q2
      refine qx_tableIn (off := (41)) X 42 d_Waits_strengthOf_1 (by rw [q2]; decide) (by rw [q2]; decide) (by rw [q2]; rfl) (by decide) ?_
      refine qx_iconst (v := (1 : Int32)) X d_Waits_strengthOf_42 (by decide) ?_
      exact qx_iret X hw (Nat.le_refl 0) (Nat.le_refl 0) rfl d_Waits_strengthOf_43
    · have hw := hw.2 q2
      by_cases q3 : x0 = (44 : Int32)
      · have hw := hw.1 q3
        refine qx_tableIn (off := (43)) X 44 d_Waits_strengthOf_1 (by rw [q3]; decide) (by rw [q3]; decide) (by rw [q3]; rfl) (by decide) ?_
        refine qx_iconst (v := (0 : Int32)) X d_Waits_strengthOf_44 (by decide) ?_
        exact qx_iret X hw (Nat.le_refl 0) (Nat.le_refl 0) rfl d_Waits_strengthOf_45
      · have hw := hw.2 q3
        by_cases q4 : x0 = (45 : Int32)
        · have hw := hw.1 q4
          refine qx_tableIn (off := (41)) X 42 d_Waits_strengthOf_1 (by rw [q4]; decide) (by rw [q4]; decide) (by rw [q4]; rfl) (by decide) ?_
          refine qx_iconst (v := (1 : Int32)) X d_Waits_strengthOf_42 (by decide) ?_
          exact qx_iret X hw (Nat.le_refl 0) (Nat.le_refl 0) rfl d_Waits_strengthOf_43
        · have hw := hw.2 q4
          by_cases q5 : x0 = (46 : Int32)
          · have hw := hw.1 q5
            refine qx_tableIn (off := (43)) X 44 d_Waits_strengthOf_1 (by rw [q5]; decide) (by rw [q5]; decide) (by rw [q5]; rfl) (by decide) ?_
            refine qx_iconst (v := (0 : Int32)) X d_Waits_strengthOf_44 (by decide) ?_
            exact qx_iret X hw (Nat.le_refl 0) (Nat.le_refl 0) rfl d_Waits_strengthOf_45
          · have hw := hw.2 q5
            by_cases q6 : x0 = (47 : Int32)
            · have hw := hw.1 q6
              refine qx_tableIn (off := (39)) X 40 d_Waits_strengthOf_1 (by rw [q6]; decide) (by rw [q6]; decide) (by rw [q6]; rfl) (by decide) ?_
              refine qx_iconst (v := (2 : Int32)) X d_Waits_strengthOf_40 (by decide) ?_
              exact qx_iret X hw (Nat.le_refl 0) (Nat.le_refl 0) rfl d_Waits_strengthOf_41
            · have hw := hw.2 q6
              have gx : x0.toInt < 42 ∨ 47 < x0.toInt := by
                have nq1 : x0.toInt ≠ 42 := fun z => q1 (Int32.toInt_inj.mp z)
                have nq2 : x0.toInt ≠ 43 := fun z => q2 (Int32.toInt_inj.mp z)
                have nq3 : x0.toInt ≠ 44 := fun z => q3 (Int32.toInt_inj.mp z)
                have nq4 : x0.toInt ≠ 45 := fun z => q4 (Int32.toInt_inj.mp z)
                have nq5 : x0.toInt ≠ 46 := fun z => q5 (Int32.toInt_inj.mp z)
                have nq6 : x0.toInt ≠ 47 := fun z => q6 (Int32.toInt_inj.mp z)
                omega
              refine qx_tableOut X 44 d_Waits_strengthOf_1 gx (by decide) ?_
              refine qx_iconst (v := (0 : Int32)) X d_Waits_strengthOf_44 (by decide) ?_
              exact qx_iret X hw (Nat.le_refl 0) (Nat.le_refl 0) rfl d_Waits_strengthOf_45
set_option maxRecDepth 4000 in
theorem t_Waits_letGo_0 (X : qX p s m args meth c D cy b adK adV prog_12_method_6_code "CoatHangers$Waiters" 3 (none) "letGo") (N k : Nat) (x0 : Nat) (x1 : Nat) (x2 : Int32) (h : qH) (Q : qH → Prop)  (hw : w_Waits_letGo_0 N k x0 x1 x2 h Q ) : qW p l e (qrm 1 0 0 22) s m args below meth c D cy b 3 0 0 (MQ below (qQc D cy b qrV (fun (_ : Unit) h => Q h)) args s 0 0 (qA b)) 0 [(0, .inr (.inr (.inl x0))), (1, .inr (.inr (.inl x1))), (2, .inl x2)] [] h := by
  induction k generalizing x0 x1 x2 h with
  | zero => exact hw.elim
  | succ k ih =>
    refine qx_aload_n (x := x0) X d_Waits_letGo_0 rfl 0 rfl ?_
    obtain ⟨g1, hw⟩ := hw
    refine qx_getI X qcls10 g1 1 (by decide) rfl wf_Waits_13 d_Waits_letGo_1 ?_
    refine qx_if_le X 52 d_Waits_letGo_4 (by decide) (fun q2 => ?_) (fun q2 => ?_)
    · have hw := hw.1 q2
      exact qx_vret X hw (Nat.le_refl 0) (Nat.le_refl 0) rfl d_Waits_letGo_52
    · have hw := hw.2 q2
      refine qx_aload_n (x := x0) X d_Waits_letGo_7 rfl 0 rfl ?_
      refine qx_getR X qcls10 g1 0 (by decide) rfl wf_Waits_9 d_Waits_letGo_8 ?_
      refine qx_aload_n (x := x0) X d_Waits_letGo_11 rfl 0 rfl ?_
      refine qx_getI X qcls10 g1 1 (by decide) rfl wf_Waits_13 d_Waits_letGo_12 ?_
      refine qx_iconst (v := (1 : Int32)) X d_Waits_letGo_15 (by decide) ?_
      refine qx_isub X d_Waits_letGo_16 ?_
      obtain ⟨g3, hw⟩ := hw
      refine qx_ild X g3 d_Waits_letGo_17 ?_
      refine qx_callSI (st := []) (As := [.int (qI h (qR h x0 0) (((qI h x0 1) - (1 : Int32))).toNatClampNeg)]) X (t_Waits_strengthOf (adK := adK) (adV := adV) l D cy b N (qI h (qR h x0 0) (((qI h x0 1) - (1 : Int32))).toNatClampNeg) h _ hw) qm_Waits_strengthOf wm_Waits_30 wi_Waits_strengthOf rfl rfl rfl ⟨Nat.le_of_ble_eq_true rfl, Nat.le_of_ble_eq_true rfl⟩ ⟨Nat.le_refl 0, Nat.le_refl 0⟩ (Nat.le_of_ble_eq_true rfl) rfl d_Waits_letGo_18 (fun r4 h5 hw => ?_)
      refine qx_iload_n (x := x2) X d_Waits_letGo_21 rfl 2 rfl ?_
      refine qx_icmp_lt X 52 d_Waits_letGo_22 (by decide) (fun q6 => ?_) (fun q6 => ?_)
      · have hw := hw.1 q6
        exact qx_vret X hw (Nat.le_refl 0) (Nat.le_refl 0) rfl d_Waits_letGo_52
      · have hw := hw.2 q6
        refine qx_aload_n (x := x0) X d_Waits_letGo_25 rfl 0 rfl ?_
        refine qx_dup X (qr_cat _ _) d_Waits_letGo_26 ?_
        obtain ⟨g7, hw⟩ := hw
        refine qx_getI X qcls10 g7 1 (by decide) rfl wf_Waits_13 d_Waits_letGo_27 ?_
        refine qx_iconst (v := (1 : Int32)) X d_Waits_letGo_30 (by decide) ?_
        refine qx_isub X d_Waits_letGo_31 ?_
        refine qx_putI X qcls10 g7 1 (by decide) rfl wf_Waits_13 rfl rfl rfl d_Waits_letGo_32 ?_
        refine qx_toph (fun h8 eh8 => ?_)
        have hw := hw h8 eh8
        refine qx_aload_n (x := x1) X d_Waits_letGo_35 rfl 1 rfl ?_
        refine qx_aload_n (x := x0) X d_Waits_letGo_36 rfl 0 rfl ?_
        obtain ⟨g9, hw⟩ := hw
        refine qx_getR X qcls10 g9 0 (by decide) rfl wf_Waits_9 d_Waits_letGo_37 ?_
        refine qx_aload_n (x := x0) X d_Waits_letGo_40 rfl 0 rfl ?_
        refine qx_getI X qcls10 g9 1 (by decide) rfl wf_Waits_13 d_Waits_letGo_41 ?_
        obtain ⟨g10, hw⟩ := hw
        refine qx_ild X g10 d_Waits_letGo_44 ?_
        refine qx_iconst (v := (0 : Int32)) X d_Waits_letGo_45 (by decide) ?_
        obtain ⟨g11, hw⟩ := hw
        refine qx_callVV (st := []) (As := [.int (qI h8 (qR h8 x0 0) ((qI h8 x0 1)).toNatClampNeg), .int (0 : Int32)]) X (t_Law_add (adK := adK) (adV := adV) l D cy b N x1 (qI h8 (qR h8 x0 0) ((qI h8 x0 1)).toNatClampNeg) (0 : Int32) h8 _ hw) qm_Law_add wm_Waits_38 wi_Law_add wl_Law_add qcls0 g11 rfl rfl rfl ⟨Nat.le_of_ble_eq_true rfl, Nat.le_of_ble_eq_true rfl⟩ ⟨Nat.le_refl 0, Nat.le_refl 0⟩ (Nat.le_of_ble_eq_true rfl) rfl d_Waits_letGo_46 (fun h12 hw => ?_)
        refine qx_goto X 0 d_Waits_letGo_49 (by decide) ?_
        exact ih x0 x1 x2 h12 hw
set_option maxRecDepth 4000 in
theorem t_Waits_letGo {adK adV : Nat → Nat} (l : Launch) (D : va_G) (cy : Nat → ClassId) (b : Nat) (N : Nat) (x0 : Nat) (x1 : Nat) (x2 : Int32) (h : qH) (Q : qH → Prop) (hw : w_Waits_letGo N x0 x1 x2 h Q) : Met l y_Waits_letGo (Cond.code y_Waits_letGo prog_12_method_6_code 3 (none) :: qT) (qrm 1 0 0 22) (qPc D cy b adK adV h [qr b x0, qr b x1, .int x2]) (qQc D cy b qrV (fun (_ : Unit) h => Q h)) 0 0 (qA b) := by
  refine qmet (L0 := [(0, .inr (.inr (.inl x0))), (1, .inr (.inr (.inl x1))), (2, .inl x2)]) qm_Waits_letGo (plainFor_of_name (by decide)) [.inr (.inr (.inl x0)), .inr (.inr (.inl x1)), .inl x2] rfl (Nat.le_of_ble_eq_true rfl) rfl (fun p e s m args below meth c X => ?_)
  unfold w_Waits_letGo at hw
  exact t_Waits_letGo_0 X N N x0 x1 x2 h Q  hw 
set_option maxRecDepth 4000 in
theorem t_Waits_put {adK adV : Nat → Nat} (l : Launch) (D : va_G) (cy : Nat → ClassId) (b : Nat) (N : Nat) (x0 : Nat) (x1 : Int32) (h : qH) (Q : qH → Prop) (hw : w_Waits_put N x0 x1 h Q) : Met l y_Waits_put (Cond.code y_Waits_put prog_12_method_7_code 2 (none) :: qT) (qrm 0 0 0 0) (qPc D cy b adK adV h [qr b x0, .int x1]) (qQc D cy b qrV (fun (_ : Unit) h => Q h)) 0 0 (qA b) := by
  refine qmet (L0 := [(0, .inr (.inr (.inl x0))), (1, .inl x1)]) qm_Waits_put (plainFor_of_name (by decide)) [.inr (.inr (.inl x0)), .inl x1] rfl (Nat.le_of_ble_eq_true rfl) rfl (fun p e s m args below meth c X => ?_)
  unfold w_Waits_put at hw
  refine qx_aload_n (x := x0) X d_Waits_put_0 rfl 0 rfl ?_
  obtain ⟨g1, hw⟩ := hw
  refine qx_getI X qcls10 g1 1 (by decide) rfl wf_Waits_13 d_Waits_put_1 ?_
  refine qx_bipush (v := (32 : Int32)) X d_Waits_put_4 (by decide) ?_
  refine qx_icmp_ge X 29 d_Waits_put_6 (by decide) (fun q2 => ?_) (fun q2 => ?_)
  · have hw := hw.1 q2
    exact qx_vret X hw (Nat.le_refl 0) (Nat.le_refl 0) rfl d_Waits_put_29
  · have hw := hw.2 q2
    refine qx_aload_n (x := x0) X d_Waits_put_9 rfl 0 rfl ?_
    refine qx_getR X qcls10 g1 0 (by decide) rfl wf_Waits_9 d_Waits_put_10 ?_
    refine qx_aload_n (x := x0) X d_Waits_put_13 rfl 0 rfl ?_
    refine qx_getI X qcls10 g1 1 (by decide) rfl wf_Waits_13 d_Waits_put_14 ?_
    refine qx_iload_n (x := x1) X d_Waits_put_17 rfl 1 rfl ?_
    obtain ⟨g3, hw⟩ := hw
    refine qx_ist X g3 d_Waits_put_18 ?_
    refine qx_toph (fun h4 eh4 => ?_)
    have hw := hw h4 eh4
    refine qx_aload_n (x := x0) X d_Waits_put_19 rfl 0 rfl ?_
    refine qx_dup X (qr_cat _ _) d_Waits_put_20 ?_
    obtain ⟨g5, hw⟩ := hw
    refine qx_getI X qcls10 g5 1 (by decide) rfl wf_Waits_13 d_Waits_put_21 ?_
    refine qx_iconst (v := (1 : Int32)) X d_Waits_put_24 (by decide) ?_
    refine qx_iadd X d_Waits_put_25 ?_
    refine qx_putI X qcls10 g5 1 (by decide) rfl wf_Waits_13 rfl rfl rfl d_Waits_put_26 ?_
    refine qx_toph (fun h6 eh6 => ?_)
    have hw := hw h6 eh6
    exact qx_vret X hw (Nat.le_refl 0) (Nat.le_refl 0) rfl d_Waits_put_29
set_option maxRecDepth 4000 in
theorem t_Waits_open {adK adV : Nat → Nat} (l : Launch) (D : va_G) (cy : Nat → ClassId) (b : Nat) (N : Nat) (x0 : Nat) (h : qH) (Q : qH → Prop) (hw : w_Waits_open N x0 h Q) : Met l y_Waits_open (Cond.code y_Waits_open prog_12_method_3_code 1 (none) :: qT) (qrm 1 0 0 21) (qPc D cy b adK adV h [qr b x0]) (qQc D cy b qrV (fun (_ : Unit) h => Q h)) 0 0 (qA b) := by
  refine qmet (L0 := [(0, .inr (.inr (.inl x0)))]) qm_Waits_open (plainFor_of_name (by decide)) [.inr (.inr (.inl x0))] rfl (Nat.le_of_ble_eq_true rfl) rfl (fun p e s m args below meth c X => ?_)
  unfold w_Waits_open at hw
  refine qx_aload_n (x := x0) X d_Waits_open_0 rfl 0 rfl ?_
  refine qx_bipush (v := (40 : Int32)) X d_Waits_open_1 (by decide) ?_
  obtain ⟨g1, hw⟩ := hw
  refine qx_callVV (st := []) (As := [.int (40 : Int32)]) X (t_Waits_put (adK := adK) (adV := adV) l D cy b N x0 (40 : Int32) h _ hw) qm_Waits_put wm_Waits_20 wi_Waits_put wl_Waits_put qcls10 g1 rfl rfl rfl ⟨Nat.le_of_ble_eq_true rfl, Nat.le_of_ble_eq_true rfl⟩ ⟨Nat.le_refl 0, Nat.le_refl 0⟩ (Nat.le_of_ble_eq_true rfl) rfl d_Waits_open_3 (fun h2 hw => ?_)
  refine qx_aload_n (x := x0) X d_Waits_open_6 rfl 0 rfl ?_
  refine qx_dup X (qr_cat _ _) d_Waits_open_7 ?_
  obtain ⟨g3, hw⟩ := hw
  refine qx_getI X qcls10 g3 2 (by decide) rfl wf_Waits_17 d_Waits_open_8 ?_
  refine qx_iconst (v := (1 : Int32)) X d_Waits_open_11 (by decide) ?_
  refine qx_iadd X d_Waits_open_12 ?_
  refine qx_putI X qcls10 g3 2 (by decide) rfl wf_Waits_17 rfl rfl rfl d_Waits_open_13 ?_
  refine qx_toph (fun h4 eh4 => ?_)
  have hw := hw h4 eh4
  exact qx_vret X hw (Nat.le_refl 0) (Nat.le_refl 0) rfl d_Waits_open_16
set_option maxRecDepth 4000 in
theorem t_Waits_add {adK adV : Nat → Nat} (l : Launch) (D : va_G) (cy : Nat → ClassId) (b : Nat) (N : Nat) (x0 : Nat) (x1 : Nat) (x2 : Int32) (h : qH) (Q : qH → Prop) (hw : w_Waits_add N x0 x1 x2 h Q) : Met l y_Waits_add (Cond.code y_Waits_add prog_12_method_5_code 3 (none) :: qT) (qrm 2 0 0 44) (qPc D cy b adK adV h [qr b x0, qr b x1, .int x2]) (qQc D cy b qrV (fun (_ : Unit) h => Q h)) 0 0 (qA b) := by
  refine qmet (L0 := [(0, .inr (.inr (.inl x0))), (1, .inr (.inr (.inl x1))), (2, .inl x2)]) qm_Waits_add (plainFor_of_name (by decide)) [.inr (.inr (.inl x0)), .inr (.inr (.inl x1)), .inl x2] rfl (Nat.le_of_ble_eq_true rfl) rfl (fun p e s m args below meth c X => ?_)
  unfold w_Waits_add at hw
  refine qx_aload_n (x := x0) X d_Waits_add_0 rfl 0 rfl ?_
  refine qx_aload_n (x := x1) X d_Waits_add_1 rfl 1 rfl ?_
  refine qx_iload_n (x := x2) X d_Waits_add_2 rfl 2 rfl ?_
  refine qx_callSI (st := [qr b x1, qr b x0]) (As := [.int x2]) X (t_Waits_strengthOf (adK := adK) (adV := adV) l D cy b N x2 h _ hw) qm_Waits_strengthOf wm_Waits_30 wi_Waits_strengthOf rfl rfl rfl ⟨Nat.le_of_ble_eq_true rfl, Nat.le_of_ble_eq_true rfl⟩ ⟨Nat.le_refl 0, Nat.le_refl 0⟩ (Nat.le_of_ble_eq_true rfl) rfl d_Waits_add_3 (fun r1 h2 hw => ?_)
  obtain ⟨g3, hw⟩ := hw
  refine qx_callVV (st := []) (As := [qr b x1, .int r1]) X (t_Waits_letGo (adK := adK) (adV := adV) l D cy b N x0 x1 r1 h2 _ hw) qm_Waits_letGo wm_Waits_34 wi_Waits_letGo wl_Waits_letGo qcls10 g3 rfl rfl rfl ⟨Nat.le_of_ble_eq_true rfl, Nat.le_of_ble_eq_true rfl⟩ ⟨Nat.le_refl 0, Nat.le_refl 0⟩ (Nat.le_of_ble_eq_true rfl) rfl d_Waits_add_6 (fun h4 hw => ?_)
  refine qx_aload_n (x := x0) X d_Waits_add_9 rfl 0 rfl ?_
  refine qx_iload_n (x := x2) X d_Waits_add_10 rfl 2 rfl ?_
  obtain ⟨g5, hw⟩ := hw
  refine qx_callVV (st := []) (As := [.int x2]) X (t_Waits_put (adK := adK) (adV := adV) l D cy b N x0 x2 h4 _ hw) qm_Waits_put wm_Waits_20 wi_Waits_put wl_Waits_put qcls10 g5 rfl rfl rfl ⟨Nat.le_of_ble_eq_true rfl, Nat.le_of_ble_eq_true rfl⟩ ⟨Nat.le_refl 0, Nat.le_refl 0⟩ (Nat.le_of_ble_eq_true rfl) rfl d_Waits_add_11 (fun h6 hw => ?_)
  exact qx_vret X hw (Nat.le_refl 0) (Nat.le_refl 0) rfl d_Waits_add_14
set_option maxRecDepth 4000 in
theorem t_Waits_begin {adK adV : Nat → Nat} (l : Launch) (D : va_G) (cy : Nat → ClassId) (b : Nat) (N : Nat) (x0 : Nat) (h : qH) (Q : qH → Prop) (hw : w_Waits_begin N x0 h Q) : Met l y_Waits_begin (Cond.code y_Waits_begin prog_12_method_2_code 1 (none) :: qT) (qrm 0 0 0 0) (qPc D cy b adK adV h [qr b x0]) (qQc D cy b qrV (fun (_ : Unit) h => Q h)) 0 0 (qA b) := by
  refine qmet (L0 := [(0, .inr (.inr (.inl x0)))]) qm_Waits_begin (plainFor_of_name (by decide)) [.inr (.inr (.inl x0))] rfl (Nat.le_of_ble_eq_true rfl) rfl (fun p e s m args below meth c X => ?_)
  unfold w_Waits_begin at hw
  refine qx_aload_n (x := x0) X d_Waits_begin_0 rfl 0 rfl ?_
  refine qx_iconst (v := (0 : Int32)) X d_Waits_begin_1 (by decide) ?_
  obtain ⟨g1, hw⟩ := hw
  refine qx_putI X qcls10 g1 1 (by decide) rfl wf_Waits_13 rfl rfl rfl d_Waits_begin_2 ?_
  refine qx_toph (fun h2 eh2 => ?_)
  have hw := hw h2 eh2
  refine qx_aload_n (x := x0) X d_Waits_begin_5 rfl 0 rfl ?_
  refine qx_iconst (v := (0 : Int32)) X d_Waits_begin_6 (by decide) ?_
  obtain ⟨g3, hw⟩ := hw
  refine qx_putI X qcls10 g3 2 (by decide) rfl wf_Waits_17 rfl rfl rfl d_Waits_begin_7 ?_
  refine qx_toph (fun h4 eh4 => ?_)
  have hw := hw h4 eh4
  exact qx_vret X hw (Nat.le_refl 0) (Nat.le_refl 0) rfl d_Waits_begin_10
end QG
