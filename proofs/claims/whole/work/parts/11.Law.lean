/-! Law: written by wip/whole/emit.py out of the bytecode -/
def y_Law_add : MethodName := ⟨"CoatHangers$Law", "add", "(II)V"⟩
theorem qm_Law_add : qMt y_Law_add prog_2_method_2_code 3 (none) 2 := ⟨qT_1 (i := 155) (by decide +kernel) rfl, qT_1 (i := 8) (by decide +kernel) rfl, by decide, by decide, by decide +kernel⟩
theorem wi_Law_add : Cond.instanceMethod y_Law_add ∈ qT := qT_1 (i := 153) (by decide +kernel) rfl
theorem wl_Law_add : Cond.selects y_Law_add.cls y_Law_add y_Law_add ∈ qT := qT_1 (i := 154) (by decide +kernel) rfl
def y_Law_aimAtEnd : MethodName := ⟨"CoatHangers$Law", "aimAtEnd", "(I)V"⟩
theorem qm_Law_aimAtEnd : qMt y_Law_aimAtEnd prog_2_method_3_code 2 (none) 1 := ⟨qT_3 (i := 216) (by decide +kernel) rfl, qT_1 (i := 8) (by decide +kernel) rfl, by decide, by decide, by decide +kernel⟩
theorem wi_Law_aimAtEnd : Cond.instanceMethod y_Law_aimAtEnd ∈ qT := qT_3 (i := 214) (by decide +kernel) rfl
theorem wl_Law_aimAtEnd : Cond.selects y_Law_aimAtEnd.cls y_Law_aimAtEnd y_Law_aimAtEnd ∈ qT := qT_3 (i := 215) (by decide +kernel) rfl
def y_Law_becomeOneStep : MethodName := ⟨"CoatHangers$Law", "becomeOneStep", "(II)V"⟩
theorem qm_Law_becomeOneStep : qMt y_Law_becomeOneStep prog_2_method_4_code 3 (none) 2 := ⟨qT_1 (i := 151) (by decide +kernel) rfl, qT_1 (i := 8) (by decide +kernel) rfl, by decide, by decide, by decide +kernel⟩
theorem wi_Law_becomeOneStep : Cond.instanceMethod y_Law_becomeOneStep ∈ qT := qT_1 (i := 149) (by decide +kernel) rfl
theorem wl_Law_becomeOneStep : Cond.selects y_Law_becomeOneStep.cls y_Law_becomeOneStep y_Law_becomeOneStep ∈ qT := qT_1 (i := 150) (by decide +kernel) rfl
def y_Law_become : MethodName := ⟨"CoatHangers$Law", "become", "(LCoatHangers$Law;)V"⟩
theorem qm_Law_become : qMt y_Law_become prog_2_method_5_code 2 (none) 1 := ⟨qT_4 (i := 43) (by decide +kernel) rfl, qT_1 (i := 8) (by decide +kernel) rfl, by decide, by decide, by decide +kernel⟩
theorem wi_Law_become : Cond.instanceMethod y_Law_become ∈ qT := qT_4 (i := 41) (by decide +kernel) rfl
theorem wl_Law_become : Cond.selects y_Law_become.cls y_Law_become y_Law_become ∈ qT := qT_4 (i := 42) (by decide +kernel) rfl
theorem wf_Law_18 : Cond.fieldLink "CoatHangers$Law" 18 "CoatHangers$Law" "size" "I" ∈ qT := qT_1 (i := 134) (by decide +kernel) rfl
theorem wf_Law_11 : Cond.fieldLink "CoatHangers$Law" 11 "CoatHangers$Law" "kinds" "[I" ∈ qT := qT_1 (i := 130) (by decide +kernel) rfl
theorem wf_Law_15 : Cond.fieldLink "CoatHangers$Law" 15 "CoatHangers$Law" "values" "[I" ∈ qT := qT_1 (i := 132) (by decide +kernel) rfl
theorem wm_Law_22 : Cond.methodLink "CoatHangers$Law" 22 y_Law_add ∈ qT := qT_1 (i := 152) (by decide +kernel) rfl
theorem wm_Law_26 : Cond.methodLink "CoatHangers$Law" 26 arraycopyName ∈ qT := qT_4 (i := 44) (by decide +kernel) rfl
theorem d_Law_add_0 : decode prog_2_method_2_code 0 = .ok (.aload_n 0, 1) := by decide +kernel
theorem d_Law_add_1 : decode prog_2_method_2_code 1 = .ok (.getfield 18, 3) := by decide +kernel
theorem d_Law_add_4 : decode prog_2_method_2_code 4 = .ok (.sipush 400, 3) := by decide +kernel
theorem d_Law_add_7 : decode prog_2_method_2_code 7 = .ok (.if_icmp .ge 33, 3) := by decide +kernel
theorem d_Law_add_10 : decode prog_2_method_2_code 10 = .ok (.aload_n 0, 1) := by decide +kernel
theorem d_Law_add_11 : decode prog_2_method_2_code 11 = .ok (.getfield 11, 3) := by decide +kernel
theorem d_Law_add_14 : decode prog_2_method_2_code 14 = .ok (.aload_n 0, 1) := by decide +kernel
theorem d_Law_add_15 : decode prog_2_method_2_code 15 = .ok (.getfield 18, 3) := by decide +kernel
theorem d_Law_add_18 : decode prog_2_method_2_code 18 = .ok (.iload_n 1, 1) := by decide +kernel
theorem d_Law_add_19 : decode prog_2_method_2_code 19 = .ok (.iastore, 1) := by decide +kernel
theorem d_Law_add_20 : decode prog_2_method_2_code 20 = .ok (.aload_n 0, 1) := by decide +kernel
theorem d_Law_add_21 : decode prog_2_method_2_code 21 = .ok (.getfield 15, 3) := by decide +kernel
theorem d_Law_add_24 : decode prog_2_method_2_code 24 = .ok (.aload_n 0, 1) := by decide +kernel
theorem d_Law_add_25 : decode prog_2_method_2_code 25 = .ok (.getfield 18, 3) := by decide +kernel
theorem d_Law_add_28 : decode prog_2_method_2_code 28 = .ok (.iload_n 2, 1) := by decide +kernel
theorem d_Law_add_29 : decode prog_2_method_2_code 29 = .ok (.iastore, 1) := by decide +kernel
theorem d_Law_add_30 : decode prog_2_method_2_code 30 = .ok (.aload_n 0, 1) := by decide +kernel
theorem d_Law_add_31 : decode prog_2_method_2_code 31 = .ok (.dup, 1) := by decide +kernel
theorem d_Law_add_32 : decode prog_2_method_2_code 32 = .ok (.getfield 18, 3) := by decide +kernel
theorem d_Law_add_35 : decode prog_2_method_2_code 35 = .ok (.iconst 1, 1) := by decide +kernel
theorem d_Law_add_36 : decode prog_2_method_2_code 36 = .ok (.iadd, 1) := by decide +kernel
theorem d_Law_add_37 : decode prog_2_method_2_code 37 = .ok (.putfield 18, 3) := by decide +kernel
theorem d_Law_add_40 : decode prog_2_method_2_code 40 = .ok (.return_, 1) := by decide +kernel
theorem d_Law_aimAtEnd_0 : decode prog_2_method_3_code 0 = .ok (.iload_n 1, 1) := by decide +kernel
theorem d_Law_aimAtEnd_1 : decode prog_2_method_3_code 1 = .ok (.ifCond .lt 21, 3) := by decide +kernel
theorem d_Law_aimAtEnd_4 : decode prog_2_method_3_code 4 = .ok (.iload_n 1, 1) := by decide +kernel
theorem d_Law_aimAtEnd_5 : decode prog_2_method_3_code 5 = .ok (.aload_n 0, 1) := by decide +kernel
theorem d_Law_aimAtEnd_6 : decode prog_2_method_3_code 6 = .ok (.getfield 18, 3) := by decide +kernel
theorem d_Law_aimAtEnd_9 : decode prog_2_method_3_code 9 = .ok (.if_icmp .ge 13, 3) := by decide +kernel
theorem d_Law_aimAtEnd_12 : decode prog_2_method_3_code 12 = .ok (.aload_n 0, 1) := by decide +kernel
theorem d_Law_aimAtEnd_13 : decode prog_2_method_3_code 13 = .ok (.getfield 15, 3) := by decide +kernel
theorem d_Law_aimAtEnd_16 : decode prog_2_method_3_code 16 = .ok (.iload_n 1, 1) := by decide +kernel
theorem d_Law_aimAtEnd_17 : decode prog_2_method_3_code 17 = .ok (.aload_n 0, 1) := by decide +kernel
theorem d_Law_aimAtEnd_18 : decode prog_2_method_3_code 18 = .ok (.getfield 18, 3) := by decide +kernel
theorem d_Law_aimAtEnd_21 : decode prog_2_method_3_code 21 = .ok (.iastore, 1) := by decide +kernel
theorem d_Law_aimAtEnd_22 : decode prog_2_method_3_code 22 = .ok (.return_, 1) := by decide +kernel
theorem d_Law_becomeOneStep_0 : decode prog_2_method_4_code 0 = .ok (.aload_n 0, 1) := by decide +kernel
theorem d_Law_becomeOneStep_1 : decode prog_2_method_4_code 1 = .ok (.iconst 0, 1) := by decide +kernel
theorem d_Law_becomeOneStep_2 : decode prog_2_method_4_code 2 = .ok (.putfield 18, 3) := by decide +kernel
theorem d_Law_becomeOneStep_5 : decode prog_2_method_4_code 5 = .ok (.aload_n 0, 1) := by decide +kernel
theorem d_Law_becomeOneStep_6 : decode prog_2_method_4_code 6 = .ok (.iload_n 1, 1) := by decide +kernel
theorem d_Law_becomeOneStep_7 : decode prog_2_method_4_code 7 = .ok (.iload_n 2, 1) := by decide +kernel
theorem d_Law_becomeOneStep_8 : decode prog_2_method_4_code 8 = .ok (.invokevirtual 22, 3) := by decide +kernel
theorem d_Law_becomeOneStep_11 : decode prog_2_method_4_code 11 = .ok (.aload_n 0, 1) := by decide +kernel
theorem d_Law_becomeOneStep_12 : decode prog_2_method_4_code 12 = .ok (.iconst 4, 1) := by decide +kernel
theorem d_Law_becomeOneStep_13 : decode prog_2_method_4_code 13 = .ok (.iconst 0, 1) := by decide +kernel
theorem d_Law_becomeOneStep_14 : decode prog_2_method_4_code 14 = .ok (.invokevirtual 22, 3) := by decide +kernel
theorem d_Law_becomeOneStep_17 : decode prog_2_method_4_code 17 = .ok (.return_, 1) := by decide +kernel
theorem d_Law_become_0 : decode prog_2_method_5_code 0 = .ok (.aload_n 1, 1) := by decide +kernel
theorem d_Law_become_1 : decode prog_2_method_5_code 1 = .ok (.getfield 11, 3) := by decide +kernel
theorem d_Law_become_4 : decode prog_2_method_5_code 4 = .ok (.iconst 0, 1) := by decide +kernel
theorem d_Law_become_5 : decode prog_2_method_5_code 5 = .ok (.aload_n 0, 1) := by decide +kernel
theorem d_Law_become_6 : decode prog_2_method_5_code 6 = .ok (.getfield 11, 3) := by decide +kernel
theorem d_Law_become_9 : decode prog_2_method_5_code 9 = .ok (.iconst 0, 1) := by decide +kernel
theorem d_Law_become_10 : decode prog_2_method_5_code 10 = .ok (.aload_n 1, 1) := by decide +kernel
theorem d_Law_become_11 : decode prog_2_method_5_code 11 = .ok (.getfield 18, 3) := by decide +kernel
theorem d_Law_become_14 : decode prog_2_method_5_code 14 = .ok (.invokestatic 26, 3) := by decide +kernel
theorem d_Law_become_17 : decode prog_2_method_5_code 17 = .ok (.aload_n 1, 1) := by decide +kernel
theorem d_Law_become_18 : decode prog_2_method_5_code 18 = .ok (.getfield 15, 3) := by decide +kernel
theorem d_Law_become_21 : decode prog_2_method_5_code 21 = .ok (.iconst 0, 1) := by decide +kernel
theorem d_Law_become_22 : decode prog_2_method_5_code 22 = .ok (.aload_n 0, 1) := by decide +kernel
theorem d_Law_become_23 : decode prog_2_method_5_code 23 = .ok (.getfield 15, 3) := by decide +kernel
theorem d_Law_become_26 : decode prog_2_method_5_code 26 = .ok (.iconst 0, 1) := by decide +kernel
theorem d_Law_become_27 : decode prog_2_method_5_code 27 = .ok (.aload_n 1, 1) := by decide +kernel
theorem d_Law_become_28 : decode prog_2_method_5_code 28 = .ok (.getfield 18, 3) := by decide +kernel
theorem d_Law_become_31 : decode prog_2_method_5_code 31 = .ok (.invokestatic 26, 3) := by decide +kernel
theorem d_Law_become_34 : decode prog_2_method_5_code 34 = .ok (.aload_n 0, 1) := by decide +kernel
theorem d_Law_become_35 : decode prog_2_method_5_code 35 = .ok (.aload_n 1, 1) := by decide +kernel
theorem d_Law_become_36 : decode prog_2_method_5_code 36 = .ok (.getfield 18, 3) := by decide +kernel
theorem d_Law_become_39 : decode prog_2_method_5_code 39 = .ok (.putfield 18, 3) := by decide +kernel
theorem d_Law_become_42 : decode prog_2_method_5_code 42 = .ok (.return_, 1) := by decide +kernel
def w_Law_add (N : Nat) (x0 : Nat) (x1 : Int32) (x2 : Int32) (h : qH) (Q : qH → Prop) : Prop := (qS h x0 = .inl 0 ∧ (((400 : Int32) ≤ (qI h x0 2) → Q h) ∧ (¬ (400 : Int32) ≤ (qI h x0 2) → (qok h (qR h x0 0) 0 (qI h x0 2) ∧ ∀ h4 : qH, h4 = qsI h (qR h x0 0) ((qI h x0 2)).toNatClampNeg x1 → (qS h4 x0 = .inl 0 ∧ (qok h4 (qR h4 x0 1) 0 (qI h4 x0 2) ∧ ∀ h7 : qH, h7 = qsI h4 (qR h4 x0 1) ((qI h4 x0 2)).toNatClampNeg x2 → (qS h7 x0 = .inl 0 ∧ (∀ h9 : qH, h9 = qsI h7 x0 2 ((qI h7 x0 2) + (1 : Int32)) → Q h9))))))))
def w_Law_aimAtEnd (N : Nat) (x0 : Nat) (x1 : Int32) (h : qH) (Q : qH → Prop) : Prop := ((x1 < 0 → Q h) ∧ (¬ x1 < 0 → (qS h x0 = .inl 0 ∧ (((qI h x0 2) ≤ x1 → Q h) ∧ (¬ (qI h x0 2) ≤ x1 → (qok h (qR h x0 1) 0 x1 ∧ ∀ h5 : qH, h5 = qsI h (qR h x0 1) (x1).toNatClampNeg (qI h x0 2) → Q h5))))))
def w_Law_becomeOneStep (N : Nat) (x0 : Nat) (x1 : Int32) (x2 : Int32) (h : qH) (Q : qH → Prop) : Prop := (qS h x0 = .inl 0 ∧ ∀ h2 : qH, h2 = qsI h x0 2 (0 : Int32) → (qS h2 x0 = .inl 0 ∧ w_Law_add N x0 x1 x2 h2 (fun h4 => (qS h4 x0 = .inl 0 ∧ w_Law_add N x0 (4 : Int32) (0 : Int32) h4 (fun h6 => Q h6)))))
def w_Law_become (N : Nat) (x0 : Nat) (x1 : Nat) (h : qH) (Q : qH → Prop) : Prop := (qS h x1 = .inl 0 ∧ (qS h x0 = .inl 0 ∧ (qcpok h (qR h x1 0) (qR h x0 0) (0 : Int32) (0 : Int32) (qI h x1 2) ∧ ∀ h4 : qH, h4 = qcp h (qR h x0 0) (va_cpy (qI h (qR h x1 0)) (qI h (qR h x0 0)) ((0 : Int32)).toNatClampNeg ((0 : Int32)).toNatClampNeg ((qI h x1 2)).toNatClampNeg) → (qS h4 x1 = .inl 0 ∧ (qS h4 x0 = .inl 0 ∧ (qcpok h4 (qR h4 x1 1) (qR h4 x0 1) (0 : Int32) (0 : Int32) (qI h4 x1 2) ∧ ∀ h8 : qH, h8 = qcp h4 (qR h4 x0 1) (va_cpy (qI h4 (qR h4 x1 1)) (qI h4 (qR h4 x0 1)) ((0 : Int32)).toNatClampNeg ((0 : Int32)).toNatClampNeg ((qI h4 x1 2)).toNatClampNeg) → (qS h8 x1 = .inl 0 ∧ (qS h8 x0 = .inl 0 ∧ ∀ h11 : qH, h11 = qsI h8 x0 2 (qI h8 x1 2) → Q h11))))))))
section QG
variable {p : Program} {l : Launch} {e : Env} {s : State} {m : MethodId} {args : Array Value} {below : List Frame} {meth : Method} {c : Code} {D : va_G} {cy : Nat → ClassId} {b : Nat} {adK adV : Nat → Nat}

set_option maxRecDepth 4000 in
theorem t_Law_add {adK adV : Nat → Nat} (l : Launch) (D : va_G) (cy : Nat → ClassId) (b : Nat) (N : Nat) (x0 : Nat) (x1 : Int32) (x2 : Int32) (h : qH) (Q : qH → Prop) (hw : w_Law_add N x0 x1 x2 h Q) : Met l y_Law_add (Cond.code y_Law_add prog_2_method_2_code 3 (none) :: qT) (qrm 0 0 0 0) (qPc D cy b adK adV h [qr b x0, .int x1, .int x2]) (qQc D cy b qrV (fun (_ : Unit) h => Q h)) 0 0 (qA b) := by
  refine qmet (L0 := [(0, .inr (.inr (.inl x0))), (1, .inl x1), (2, .inl x2)]) qm_Law_add (plainFor_of_name (by decide)) [.inr (.inr (.inl x0)), .inl x1, .inl x2] rfl (Nat.le_of_ble_eq_true rfl) rfl (fun p e s m args below meth c X => ?_)
  unfold w_Law_add at hw
  refine qx_aload_n (x := x0) X d_Law_add_0 rfl 0 rfl ?_
  obtain ⟨g1, hw⟩ := hw
  refine qx_getI X qcls0 g1 2 (by decide) rfl wf_Law_18 d_Law_add_1 ?_
  refine qx_sipush (v := (400 : Int32)) X d_Law_add_4 (by decide) ?_
  refine qx_icmp_ge X 40 d_Law_add_7 (by decide) (fun q2 => ?_) (fun q2 => ?_)
  · have hw := hw.1 q2
    exact qx_vret X hw (Nat.le_refl 0) (Nat.le_refl 0) rfl d_Law_add_40
  · have hw := hw.2 q2
    refine qx_aload_n (x := x0) X d_Law_add_10 rfl 0 rfl ?_
    refine qx_getR X qcls0 g1 0 (by decide) rfl wf_Law_11 d_Law_add_11 ?_
    refine qx_aload_n (x := x0) X d_Law_add_14 rfl 0 rfl ?_
    refine qx_getI X qcls0 g1 2 (by decide) rfl wf_Law_18 d_Law_add_15 ?_
    refine qx_iload_n (x := x1) X d_Law_add_18 rfl 1 rfl ?_
    obtain ⟨g3, hw⟩ := hw
    refine qx_ist X g3 d_Law_add_19 ?_
    refine qx_toph (fun h4 eh4 => ?_)
    have hw := hw h4 eh4
    refine qx_aload_n (x := x0) X d_Law_add_20 rfl 0 rfl ?_
    obtain ⟨g5, hw⟩ := hw
    refine qx_getR X qcls0 g5 1 (by decide) rfl wf_Law_15 d_Law_add_21 ?_
    refine qx_aload_n (x := x0) X d_Law_add_24 rfl 0 rfl ?_
    refine qx_getI X qcls0 g5 2 (by decide) rfl wf_Law_18 d_Law_add_25 ?_
    refine qx_iload_n (x := x2) X d_Law_add_28 rfl 2 rfl ?_
    obtain ⟨g6, hw⟩ := hw
    refine qx_ist X g6 d_Law_add_29 ?_
    refine qx_toph (fun h7 eh7 => ?_)
    have hw := hw h7 eh7
    refine qx_aload_n (x := x0) X d_Law_add_30 rfl 0 rfl ?_
    refine qx_dup X (qr_cat _ _) d_Law_add_31 ?_
    obtain ⟨g8, hw⟩ := hw
    refine qx_getI X qcls0 g8 2 (by decide) rfl wf_Law_18 d_Law_add_32 ?_
    refine qx_iconst (v := (1 : Int32)) X d_Law_add_35 (by decide) ?_
    refine qx_iadd X d_Law_add_36 ?_
    refine qx_putI X qcls0 g8 2 (by decide) rfl wf_Law_18 rfl rfl rfl d_Law_add_37 ?_
    refine qx_toph (fun h9 eh9 => ?_)
    have hw := hw h9 eh9
    exact qx_vret X hw (Nat.le_refl 0) (Nat.le_refl 0) rfl d_Law_add_40
set_option maxRecDepth 4000 in
theorem t_Law_aimAtEnd {adK adV : Nat → Nat} (l : Launch) (D : va_G) (cy : Nat → ClassId) (b : Nat) (N : Nat) (x0 : Nat) (x1 : Int32) (h : qH) (Q : qH → Prop) (hw : w_Law_aimAtEnd N x0 x1 h Q) : Met l y_Law_aimAtEnd (Cond.code y_Law_aimAtEnd prog_2_method_3_code 2 (none) :: qT) (qrm 0 0 0 0) (qPc D cy b adK adV h [qr b x0, .int x1]) (qQc D cy b qrV (fun (_ : Unit) h => Q h)) 0 0 (qA b) := by
  refine qmet (L0 := [(0, .inr (.inr (.inl x0))), (1, .inl x1)]) qm_Law_aimAtEnd (plainFor_of_name (by decide)) [.inr (.inr (.inl x0)), .inl x1] rfl (Nat.le_of_ble_eq_true rfl) rfl (fun p e s m args below meth c X => ?_)
  unfold w_Law_aimAtEnd at hw
  refine qx_iload_n (x := x1) X d_Law_aimAtEnd_0 rfl 1 rfl ?_
  refine qx_if_lt X 22 d_Law_aimAtEnd_1 (by decide) (fun q1 => ?_) (fun q1 => ?_)
  · have hw := hw.1 q1
    exact qx_vret X hw (Nat.le_refl 0) (Nat.le_refl 0) rfl d_Law_aimAtEnd_22
  · have hw := hw.2 q1
    refine qx_iload_n (x := x1) X d_Law_aimAtEnd_4 rfl 1 rfl ?_
    refine qx_aload_n (x := x0) X d_Law_aimAtEnd_5 rfl 0 rfl ?_
    obtain ⟨g2, hw⟩ := hw
    refine qx_getI X qcls0 g2 2 (by decide) rfl wf_Law_18 d_Law_aimAtEnd_6 ?_
    refine qx_icmp_ge X 22 d_Law_aimAtEnd_9 (by decide) (fun q3 => ?_) (fun q3 => ?_)
    · have hw := hw.1 q3
      exact qx_vret X hw (Nat.le_refl 0) (Nat.le_refl 0) rfl d_Law_aimAtEnd_22
    · have hw := hw.2 q3
      refine qx_aload_n (x := x0) X d_Law_aimAtEnd_12 rfl 0 rfl ?_
      refine qx_getR X qcls0 g2 1 (by decide) rfl wf_Law_15 d_Law_aimAtEnd_13 ?_
      refine qx_iload_n (x := x1) X d_Law_aimAtEnd_16 rfl 1 rfl ?_
      refine qx_aload_n (x := x0) X d_Law_aimAtEnd_17 rfl 0 rfl ?_
      refine qx_getI X qcls0 g2 2 (by decide) rfl wf_Law_18 d_Law_aimAtEnd_18 ?_
      obtain ⟨g4, hw⟩ := hw
      refine qx_ist X g4 d_Law_aimAtEnd_21 ?_
      refine qx_toph (fun h5 eh5 => ?_)
      have hw := hw h5 eh5
      exact qx_vret X hw (Nat.le_refl 0) (Nat.le_refl 0) rfl d_Law_aimAtEnd_22
set_option maxRecDepth 4000 in
theorem t_Law_becomeOneStep {adK adV : Nat → Nat} (l : Launch) (D : va_G) (cy : Nat → ClassId) (b : Nat) (N : Nat) (x0 : Nat) (x1 : Int32) (x2 : Int32) (h : qH) (Q : qH → Prop) (hw : w_Law_becomeOneStep N x0 x1 x2 h Q) : Met l y_Law_becomeOneStep (Cond.code y_Law_becomeOneStep prog_2_method_4_code 3 (none) :: qT) (qrm 1 0 0 22) (qPc D cy b adK adV h [qr b x0, .int x1, .int x2]) (qQc D cy b qrV (fun (_ : Unit) h => Q h)) 0 0 (qA b) := by
  refine qmet (L0 := [(0, .inr (.inr (.inl x0))), (1, .inl x1), (2, .inl x2)]) qm_Law_becomeOneStep (plainFor_of_name (by decide)) [.inr (.inr (.inl x0)), .inl x1, .inl x2] rfl (Nat.le_of_ble_eq_true rfl) rfl (fun p e s m args below meth c X => ?_)
  unfold w_Law_becomeOneStep at hw
  refine qx_aload_n (x := x0) X d_Law_becomeOneStep_0 rfl 0 rfl ?_
  refine qx_iconst (v := (0 : Int32)) X d_Law_becomeOneStep_1 (by decide) ?_
  obtain ⟨g1, hw⟩ := hw
  refine qx_putI X qcls0 g1 2 (by decide) rfl wf_Law_18 rfl rfl rfl d_Law_becomeOneStep_2 ?_
  refine qx_toph (fun h2 eh2 => ?_)
  have hw := hw h2 eh2
  refine qx_aload_n (x := x0) X d_Law_becomeOneStep_5 rfl 0 rfl ?_
  refine qx_iload_n (x := x1) X d_Law_becomeOneStep_6 rfl 1 rfl ?_
  refine qx_iload_n (x := x2) X d_Law_becomeOneStep_7 rfl 2 rfl ?_
  obtain ⟨g3, hw⟩ := hw
  refine qx_callVV (st := []) (As := [.int x1, .int x2]) X (t_Law_add (adK := adK) (adV := adV) l D cy b N x0 x1 x2 h2 _ hw) qm_Law_add wm_Law_22 wi_Law_add wl_Law_add qcls0 g3 rfl rfl rfl ⟨Nat.le_of_ble_eq_true rfl, Nat.le_of_ble_eq_true rfl⟩ ⟨Nat.le_refl 0, Nat.le_refl 0⟩ (Nat.le_of_ble_eq_true rfl) rfl d_Law_becomeOneStep_8 (fun h4 hw => ?_)
  refine qx_aload_n (x := x0) X d_Law_becomeOneStep_11 rfl 0 rfl ?_
  refine qx_iconst (v := (4 : Int32)) X d_Law_becomeOneStep_12 (by decide) ?_
  refine qx_iconst (v := (0 : Int32)) X d_Law_becomeOneStep_13 (by decide) ?_
  obtain ⟨g5, hw⟩ := hw
  refine qx_callVV (st := []) (As := [.int (4 : Int32), .int (0 : Int32)]) X (t_Law_add (adK := adK) (adV := adV) l D cy b N x0 (4 : Int32) (0 : Int32) h4 _ hw) qm_Law_add wm_Law_22 wi_Law_add wl_Law_add qcls0 g5 rfl rfl rfl ⟨Nat.le_of_ble_eq_true rfl, Nat.le_of_ble_eq_true rfl⟩ ⟨Nat.le_refl 0, Nat.le_refl 0⟩ (Nat.le_of_ble_eq_true rfl) rfl d_Law_becomeOneStep_14 (fun h6 hw => ?_)
  exact qx_vret X hw (Nat.le_refl 0) (Nat.le_refl 0) rfl d_Law_becomeOneStep_17
set_option maxRecDepth 4000 in
theorem t_Law_become {adK adV : Nat → Nat} (l : Launch) (D : va_G) (cy : Nat → ClassId) (b : Nat) (N : Nat) (x0 : Nat) (x1 : Nat) (h : qH) (Q : qH → Prop) (hw : w_Law_become N x0 x1 h Q) : Met l y_Law_become (Cond.code y_Law_become prog_2_method_5_code 2 (none) :: qT) (qrm 1 0 0 18) (qPc D cy b adK adV h [qr b x0, qr b x1]) (qQc D cy b qrV (fun (_ : Unit) h => Q h)) 0 0 (qA b) := by
  refine qmet (L0 := [(0, .inr (.inr (.inl x0))), (1, .inr (.inr (.inl x1)))]) qm_Law_become (plainFor_of_name (by decide)) [.inr (.inr (.inl x0)), .inr (.inr (.inl x1))] rfl (Nat.le_of_ble_eq_true rfl) rfl (fun p e s m args below meth c X => ?_)
  unfold w_Law_become at hw
  refine qx_aload_n (x := x1) X d_Law_become_0 rfl 1 rfl ?_
  obtain ⟨g1, hw⟩ := hw
  refine qx_getR X qcls0 g1 0 (by decide) rfl wf_Law_11 d_Law_become_1 ?_
  refine qx_iconst (v := (0 : Int32)) X d_Law_become_4 (by decide) ?_
  refine qx_aload_n (x := x0) X d_Law_become_5 rfl 0 rfl ?_
  obtain ⟨g2, hw⟩ := hw
  refine qx_getR X qcls0 g2 0 (by decide) rfl wf_Law_11 d_Law_become_6 ?_
  refine qx_iconst (v := (0 : Int32)) X d_Law_become_9 (by decide) ?_
  refine qx_aload_n (x := x1) X d_Law_become_10 rfl 1 rfl ?_
  refine qx_getI X qcls0 g1 2 (by decide) rfl wf_Law_18 d_Law_become_11 ?_
  obtain ⟨g3, hw⟩ := hw
  refine qx_copyi X g3 wm_Law_26 (Nat.le_of_ble_eq_true rfl) (Nat.le_of_ble_eq_true rfl) d_Law_become_14 ?_
  refine qx_toph (fun h4 eh4 => ?_)
  have hw := hw h4 eh4
  refine qx_aload_n (x := x1) X d_Law_become_17 rfl 1 rfl ?_
  obtain ⟨g5, hw⟩ := hw
  refine qx_getR X qcls0 g5 1 (by decide) rfl wf_Law_15 d_Law_become_18 ?_
  refine qx_iconst (v := (0 : Int32)) X d_Law_become_21 (by decide) ?_
  refine qx_aload_n (x := x0) X d_Law_become_22 rfl 0 rfl ?_
  obtain ⟨g6, hw⟩ := hw
  refine qx_getR X qcls0 g6 1 (by decide) rfl wf_Law_15 d_Law_become_23 ?_
  refine qx_iconst (v := (0 : Int32)) X d_Law_become_26 (by decide) ?_
  refine qx_aload_n (x := x1) X d_Law_become_27 rfl 1 rfl ?_
  refine qx_getI X qcls0 g5 2 (by decide) rfl wf_Law_18 d_Law_become_28 ?_
  obtain ⟨g7, hw⟩ := hw
  refine qx_copyi X g7 wm_Law_26 (Nat.le_of_ble_eq_true rfl) (Nat.le_of_ble_eq_true rfl) d_Law_become_31 ?_
  refine qx_toph (fun h8 eh8 => ?_)
  have hw := hw h8 eh8
  refine qx_aload_n (x := x0) X d_Law_become_34 rfl 0 rfl ?_
  refine qx_aload_n (x := x1) X d_Law_become_35 rfl 1 rfl ?_
  obtain ⟨g9, hw⟩ := hw
  refine qx_getI X qcls0 g9 2 (by decide) rfl wf_Law_18 d_Law_become_36 ?_
  obtain ⟨g10, hw⟩ := hw
  refine qx_putI X qcls0 g10 2 (by decide) rfl wf_Law_18 rfl rfl rfl d_Law_become_39 ?_
  refine qx_toph (fun h11 eh11 => ?_)
  have hw := hw h11 eh11
  exact qx_vret X hw (Nat.le_refl 0) (Nat.le_refl 0) rfl d_Law_become_42
end QG
