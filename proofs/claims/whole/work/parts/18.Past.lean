/-! Past: written by wip/whole/emit.py out of the bytecode -/
def y_Past_drop : MethodName := ⟨"CoatHangers$Past", "drop", "()V"⟩
theorem qm_Past_drop : qMt y_Past_drop prog_4_method_2_code 1 (none) 0 := ⟨qT_4 (i := 49) (by decide +kernel) rfl, qT_1 (i := 16) (by decide +kernel) rfl, by decide, by decide, by decide +kernel⟩
theorem wi_Past_drop : Cond.instanceMethod y_Past_drop ∈ qT := qT_4 (i := 47) (by decide +kernel) rfl
theorem wl_Past_drop : Cond.selects y_Past_drop.cls y_Past_drop y_Past_drop ∈ qT := qT_4 (i := 48) (by decide +kernel) rfl
def y_Past_keep : MethodName := ⟨"CoatHangers$Past", "keep", "(LCoatHangers$State;)V"⟩
theorem qm_Past_keep : qMt y_Past_keep prog_4_method_3_code 2 (none) 1 := ⟨qT_4 (i := 138) (by decide +kernel) rfl, qT_1 (i := 16) (by decide +kernel) rfl, by decide, by decide, by decide +kernel⟩
theorem wi_Past_keep : Cond.instanceMethod y_Past_keep ∈ qT := qT_4 (i := 136) (by decide +kernel) rfl
theorem wl_Past_keep : Cond.selects y_Past_keep.cls y_Past_keep y_Past_keep ∈ qT := qT_4 (i := 137) (by decide +kernel) rfl
def y_Past_giveBack : MethodName := ⟨"CoatHangers$Past", "giveBack", "(LCoatHangers$State;)Z"⟩
theorem qm_Past_giveBack : qMt y_Past_giveBack prog_4_method_4_code 2 (some .boolean) 1 := ⟨qT_4 (i := 221) (by decide +kernel) rfl, qT_1 (i := 16) (by decide +kernel) rfl, by decide, by decide, by decide +kernel⟩
theorem wi_Past_giveBack : Cond.instanceMethod y_Past_giveBack ∈ qT := qT_4 (i := 219) (by decide +kernel) rfl
theorem wl_Past_giveBack : Cond.selects y_Past_giveBack.cls y_Past_giveBack y_Past_giveBack ∈ qT := qT_4 (i := 220) (by decide +kernel) rfl
theorem wf_Past_19 : Cond.fieldLink "CoatHangers$Past" 19 "CoatHangers$Past" "size" "I" ∈ qT := qT_2 (i := 208) (by decide +kernel) rfl
theorem wf_Past_11 : Cond.fieldLink "CoatHangers$Past" 11 "CoatHangers$Past" "states" "[LCoatHangers$State;" ∈ qT := qT_2 (i := 206) (by decide +kernel) rfl
theorem wf_Past_15 : Cond.fieldLink "CoatHangers$Past" 15 "CoatHangers$Past" "next" "I" ∈ qT := qT_2 (i := 207) (by decide +kernel) rfl
theorem wm_Past_25 : Cond.methodLink "CoatHangers$Past" 25 y_State_become ∈ qT := qT_4 (i := 139) (by decide +kernel) rfl
theorem wm_Past_29 : Cond.methodLink "CoatHangers$Past" 29 Lib.Math.min.name ∈ qT := qT_4 (i := 144) (by decide +kernel) rfl
theorem d_Past_drop_0 : decode prog_4_method_2_code 0 = .ok (.aload_n 0, 1) := by decide +kernel
theorem d_Past_drop_1 : decode prog_4_method_2_code 1 = .ok (.iconst 0, 1) := by decide +kernel
theorem d_Past_drop_2 : decode prog_4_method_2_code 2 = .ok (.putfield 19, 3) := by decide +kernel
theorem d_Past_drop_5 : decode prog_4_method_2_code 5 = .ok (.return_, 1) := by decide +kernel
theorem d_Past_keep_0 : decode prog_4_method_3_code 0 = .ok (.aload_n 0, 1) := by decide +kernel
theorem d_Past_keep_1 : decode prog_4_method_3_code 1 = .ok (.getfield 11, 3) := by decide +kernel
theorem d_Past_keep_4 : decode prog_4_method_3_code 4 = .ok (.aload_n 0, 1) := by decide +kernel
theorem d_Past_keep_5 : decode prog_4_method_3_code 5 = .ok (.getfield 15, 3) := by decide +kernel
theorem d_Past_keep_8 : decode prog_4_method_3_code 8 = .ok (.aaload, 1) := by decide +kernel
theorem d_Past_keep_9 : decode prog_4_method_3_code 9 = .ok (.aload_n 1, 1) := by decide +kernel
theorem d_Past_keep_10 : decode prog_4_method_3_code 10 = .ok (.invokevirtual 25, 3) := by decide +kernel
theorem d_Past_keep_13 : decode prog_4_method_3_code 13 = .ok (.aload_n 0, 1) := by decide +kernel
theorem d_Past_keep_14 : decode prog_4_method_3_code 14 = .ok (.aload_n 0, 1) := by decide +kernel
theorem d_Past_keep_15 : decode prog_4_method_3_code 15 = .ok (.getfield 15, 3) := by decide +kernel
theorem d_Past_keep_18 : decode prog_4_method_3_code 18 = .ok (.iconst 1, 1) := by decide +kernel
theorem d_Past_keep_19 : decode prog_4_method_3_code 19 = .ok (.iadd, 1) := by decide +kernel
theorem d_Past_keep_20 : decode prog_4_method_3_code 20 = .ok (.bipush 40, 2) := by decide +kernel
theorem d_Past_keep_22 : decode prog_4_method_3_code 22 = .ok (.irem, 1) := by decide +kernel
theorem d_Past_keep_23 : decode prog_4_method_3_code 23 = .ok (.putfield 15, 3) := by decide +kernel
theorem d_Past_keep_26 : decode prog_4_method_3_code 26 = .ok (.aload_n 0, 1) := by decide +kernel
theorem d_Past_keep_27 : decode prog_4_method_3_code 27 = .ok (.bipush 40, 2) := by decide +kernel
theorem d_Past_keep_29 : decode prog_4_method_3_code 29 = .ok (.aload_n 0, 1) := by decide +kernel
theorem d_Past_keep_30 : decode prog_4_method_3_code 30 = .ok (.getfield 19, 3) := by decide +kernel
theorem d_Past_keep_33 : decode prog_4_method_3_code 33 = .ok (.iconst 1, 1) := by decide +kernel
theorem d_Past_keep_34 : decode prog_4_method_3_code 34 = .ok (.iadd, 1) := by decide +kernel
theorem d_Past_keep_35 : decode prog_4_method_3_code 35 = .ok (.invokestatic 29, 3) := by decide +kernel
theorem d_Past_keep_38 : decode prog_4_method_3_code 38 = .ok (.putfield 19, 3) := by decide +kernel
theorem d_Past_keep_41 : decode prog_4_method_3_code 41 = .ok (.return_, 1) := by decide +kernel
theorem d_Past_giveBack_0 : decode prog_4_method_4_code 0 = .ok (.aload_n 0, 1) := by decide +kernel
theorem d_Past_giveBack_1 : decode prog_4_method_4_code 1 = .ok (.getfield 19, 3) := by decide +kernel
theorem d_Past_giveBack_4 : decode prog_4_method_4_code 4 = .ok (.ifCond .ne 5, 3) := by decide +kernel
theorem d_Past_giveBack_7 : decode prog_4_method_4_code 7 = .ok (.iconst 0, 1) := by decide +kernel
theorem d_Past_giveBack_8 : decode prog_4_method_4_code 8 = .ok (.ireturn, 1) := by decide +kernel
theorem d_Past_giveBack_9 : decode prog_4_method_4_code 9 = .ok (.aload_n 0, 1) := by decide +kernel
theorem d_Past_giveBack_10 : decode prog_4_method_4_code 10 = .ok (.aload_n 0, 1) := by decide +kernel
theorem d_Past_giveBack_11 : decode prog_4_method_4_code 11 = .ok (.getfield 15, 3) := by decide +kernel
theorem d_Past_giveBack_14 : decode prog_4_method_4_code 14 = .ok (.bipush 40, 2) := by decide +kernel
theorem d_Past_giveBack_16 : decode prog_4_method_4_code 16 = .ok (.iadd, 1) := by decide +kernel
theorem d_Past_giveBack_17 : decode prog_4_method_4_code 17 = .ok (.iconst 1, 1) := by decide +kernel
theorem d_Past_giveBack_18 : decode prog_4_method_4_code 18 = .ok (.isub, 1) := by decide +kernel
theorem d_Past_giveBack_19 : decode prog_4_method_4_code 19 = .ok (.bipush 40, 2) := by decide +kernel
theorem d_Past_giveBack_21 : decode prog_4_method_4_code 21 = .ok (.irem, 1) := by decide +kernel
theorem d_Past_giveBack_22 : decode prog_4_method_4_code 22 = .ok (.putfield 15, 3) := by decide +kernel
theorem d_Past_giveBack_25 : decode prog_4_method_4_code 25 = .ok (.aload_n 0, 1) := by decide +kernel
theorem d_Past_giveBack_26 : decode prog_4_method_4_code 26 = .ok (.dup, 1) := by decide +kernel
theorem d_Past_giveBack_27 : decode prog_4_method_4_code 27 = .ok (.getfield 19, 3) := by decide +kernel
theorem d_Past_giveBack_30 : decode prog_4_method_4_code 30 = .ok (.iconst 1, 1) := by decide +kernel
theorem d_Past_giveBack_31 : decode prog_4_method_4_code 31 = .ok (.isub, 1) := by decide +kernel
theorem d_Past_giveBack_32 : decode prog_4_method_4_code 32 = .ok (.putfield 19, 3) := by decide +kernel
theorem d_Past_giveBack_35 : decode prog_4_method_4_code 35 = .ok (.aload_n 1, 1) := by decide +kernel
theorem d_Past_giveBack_36 : decode prog_4_method_4_code 36 = .ok (.aload_n 0, 1) := by decide +kernel
theorem d_Past_giveBack_37 : decode prog_4_method_4_code 37 = .ok (.getfield 11, 3) := by decide +kernel
theorem d_Past_giveBack_40 : decode prog_4_method_4_code 40 = .ok (.aload_n 0, 1) := by decide +kernel
theorem d_Past_giveBack_41 : decode prog_4_method_4_code 41 = .ok (.getfield 15, 3) := by decide +kernel
theorem d_Past_giveBack_44 : decode prog_4_method_4_code 44 = .ok (.aaload, 1) := by decide +kernel
theorem d_Past_giveBack_45 : decode prog_4_method_4_code 45 = .ok (.invokevirtual 25, 3) := by decide +kernel
theorem d_Past_giveBack_48 : decode prog_4_method_4_code 48 = .ok (.iconst 1, 1) := by decide +kernel
theorem d_Past_giveBack_49 : decode prog_4_method_4_code 49 = .ok (.ireturn, 1) := by decide +kernel
def w_Past_drop (N : Nat) (x0 : Nat) (h : qH) (Q : qH → Prop) : Prop := (qS h x0 = .inl 2 ∧ ∀ h2 : qH, h2 = qsI h x0 2 (0 : Int32) → Q h2)
def w_Past_keep (N : Nat) (x0 : Nat) (x1 : Nat) (h : qH) (Q : qH → Prop) : Prop := (qS h x0 = .inl 2 ∧ (qok h (qR h x0 0) 4 (qI h x0 1) ∧ (qS h (qR h (qR h x0 0) ((qI h x0 1)).toNatClampNeg) = .inl 6 ∧ w_State_become N (qR h (qR h x0 0) ((qI h x0 1)).toNatClampNeg) x1 h (fun h4 => (qS h4 x0 = .inl 2 ∧ (¬ (40 : Int32) = 0 ∧ (∀ h7 : qH, h7 = qsI h4 x0 1 (((qI h4 x0 1) + (1 : Int32)) - ((qI h4 x0 1) + (1 : Int32)) / (40 : Int32) * (40 : Int32)) → (qS h7 x0 = .inl 2 ∧ (∀ h9 : qH, h9 = qsI h7 x0 2 (if ((qI h7 x0 2) + (1 : Int32)) < (40 : Int32) then ((qI h7 x0 2) + (1 : Int32)) else (40 : Int32)) → Q h9)))))))))
def w_Past_giveBack (N : Nat) (x0 : Nat) (x1 : Nat) (h : qH) (Q : Int32 → qH → Prop) : Prop := (qS h x0 = .inl 2 ∧ ((¬ (qI h x0 2) = 0 → (¬ (40 : Int32) = 0 ∧ (∀ h4 : qH, h4 = qsI h x0 1 ((((qI h x0 1) + (40 : Int32)) - (1 : Int32)) - (((qI h x0 1) + (40 : Int32)) - (1 : Int32)) / (40 : Int32) * (40 : Int32)) → (qS h4 x0 = .inl 2 ∧ (∀ h6 : qH, h6 = qsI h4 x0 2 ((qI h4 x0 2) - (1 : Int32)) → (qS h6 x0 = .inl 2 ∧ (qok h6 (qR h6 x0 0) 4 (qI h6 x0 1) ∧ (qS h6 x1 = .inl 6 ∧ w_State_become N x1 (qR h6 (qR h6 x0 0) ((qI h6 x0 1)).toNatClampNeg) h6 (fun h10 => (qzb (1 : Int32) ∧ Q (1 : Int32) h10)))))))))) ∧ ((qI h x0 2) = 0 → (qzb (0 : Int32) ∧ Q (0 : Int32) h))))
section QG
variable {p : Program} {l : Launch} {e : Env} {s : State} {m : MethodId} {args : Array Value} {below : List Frame} {meth : Method} {c : Code} {D : va_G} {cy : Nat → ClassId} {b : Nat} {adK adV : Nat → Nat}

set_option maxRecDepth 4000 in
theorem t_Past_drop {adK adV : Nat → Nat} (l : Launch) (D : va_G) (cy : Nat → ClassId) (b : Nat) (N : Nat) (x0 : Nat) (h : qH) (Q : qH → Prop) (hw : w_Past_drop N x0 h Q) : Met l y_Past_drop (Cond.code y_Past_drop prog_4_method_2_code 1 (none) :: qT) (qrm 0 0 0 0) (qPc D cy b adK adV h [qr b x0]) (qQc D cy b qrV (fun (_ : Unit) h => Q h)) 0 0 (qA b) := by
  refine qmet (L0 := [(0, .inr (.inr (.inl x0)))]) qm_Past_drop (plainFor_of_name (by decide)) [.inr (.inr (.inl x0))] rfl (Nat.le_of_ble_eq_true rfl) rfl (fun p e s m args below meth c X => ?_)
  unfold w_Past_drop at hw
  refine qx_aload_n (x := x0) X d_Past_drop_0 rfl 0 rfl ?_
  refine qx_iconst (v := (0 : Int32)) X d_Past_drop_1 (by decide) ?_
  obtain ⟨g1, hw⟩ := hw
  refine qx_putI X qcls2 g1 2 (by decide) rfl wf_Past_19 rfl rfl rfl d_Past_drop_2 ?_
  refine qx_toph (fun h2 eh2 => ?_)
  have hw := hw h2 eh2
  exact qx_vret X hw (Nat.le_refl 0) (Nat.le_refl 0) rfl d_Past_drop_5
set_option maxRecDepth 4000 in
theorem t_Past_keep {adK adV : Nat → Nat} (l : Launch) (D : va_G) (cy : Nat → ClassId) (b : Nat) (N : Nat) (x0 : Nat) (x1 : Nat) (h : qH) (Q : qH → Prop) (hw : w_Past_keep N x0 x1 h Q) : Met l y_Past_keep (Cond.code y_Past_keep prog_4_method_3_code 2 (none) :: qT) (qrm 2 0 0 39) (qPc D cy b adK adV h [qr b x0, qr b x1]) (qQc D cy b qrV (fun (_ : Unit) h => Q h)) 0 0 (qA b) := by
  refine qmet (L0 := [(0, .inr (.inr (.inl x0))), (1, .inr (.inr (.inl x1)))]) qm_Past_keep (plainFor_of_name (by decide)) [.inr (.inr (.inl x0)), .inr (.inr (.inl x1))] rfl (Nat.le_of_ble_eq_true rfl) rfl (fun p e s m args below meth c X => ?_)
  unfold w_Past_keep at hw
  refine qx_aload_n (x := x0) X d_Past_keep_0 rfl 0 rfl ?_
  obtain ⟨g1, hw⟩ := hw
  refine qx_getR X qcls2 g1 0 (by decide) rfl wf_Past_11 d_Past_keep_1 ?_
  refine qx_aload_n (x := x0) X d_Past_keep_4 rfl 0 rfl ?_
  refine qx_getI X qcls2 g1 1 (by decide) rfl wf_Past_15 d_Past_keep_5 ?_
  obtain ⟨g2, hw⟩ := hw
  refine qx_ald X g2 d_Past_keep_8 ?_
  refine qx_aload_n (x := x1) X d_Past_keep_9 rfl 1 rfl ?_
  obtain ⟨g3, hw⟩ := hw
  refine qx_callVV (st := []) (As := [qr b x1]) X (t_State_become (adK := adK) (adV := adV) l D cy b N (qR h (qR h x0 0) ((qI h x0 1)).toNatClampNeg) x1 h _ hw) qm_State_become wm_Past_25 wi_State_become wl_State_become qcls6 g3 rfl rfl rfl ⟨Nat.le_of_ble_eq_true rfl, Nat.le_of_ble_eq_true rfl⟩ ⟨Nat.le_refl 0, Nat.le_refl 0⟩ (Nat.le_of_ble_eq_true rfl) rfl d_Past_keep_10 (fun h4 hw => ?_)
  refine qx_aload_n (x := x0) X d_Past_keep_13 rfl 0 rfl ?_
  refine qx_aload_n (x := x0) X d_Past_keep_14 rfl 0 rfl ?_
  obtain ⟨g5, hw⟩ := hw
  refine qx_getI X qcls2 g5 1 (by decide) rfl wf_Past_15 d_Past_keep_15 ?_
  refine qx_iconst (v := (1 : Int32)) X d_Past_keep_18 (by decide) ?_
  refine qx_iadd X d_Past_keep_19 ?_
  refine qx_bipush (v := (40 : Int32)) X d_Past_keep_20 (by decide) ?_
  obtain ⟨g6, hw⟩ := hw
  refine qx_irem X g6 d_Past_keep_22 ?_
  refine qx_putI X qcls2 g5 1 (by decide) rfl wf_Past_15 rfl rfl rfl d_Past_keep_23 ?_
  refine qx_toph (fun h7 eh7 => ?_)
  have hw := hw h7 eh7
  refine qx_aload_n (x := x0) X d_Past_keep_26 rfl 0 rfl ?_
  refine qx_bipush (v := (40 : Int32)) X d_Past_keep_27 (by decide) ?_
  refine qx_aload_n (x := x0) X d_Past_keep_29 rfl 0 rfl ?_
  obtain ⟨g8, hw⟩ := hw
  refine qx_getI X qcls2 g8 2 (by decide) rfl wf_Past_19 d_Past_keep_30 ?_
  refine qx_iconst (v := (1 : Int32)) X d_Past_keep_33 (by decide) ?_
  refine qx_iadd X d_Past_keep_34 ?_
  refine qx_mmin X wm_Past_29 ws_mmin wz_Math wk_mmin (Nat.le_of_ble_eq_true rfl) (Nat.le_of_ble_eq_true rfl) (Nat.le_of_ble_eq_true rfl) (Nat.le_of_ble_eq_true rfl) d_Past_keep_35 ?_
  refine qx_putI X qcls2 g8 2 (by decide) rfl wf_Past_19 rfl rfl rfl d_Past_keep_38 ?_
  refine qx_toph (fun h9 eh9 => ?_)
  have hw := hw h9 eh9
  exact qx_vret X hw (Nat.le_refl 0) (Nat.le_refl 0) rfl d_Past_keep_41
set_option maxRecDepth 4000 in
theorem t_Past_giveBack {adK adV : Nat → Nat} (l : Launch) (D : va_G) (cy : Nat → ClassId) (b : Nat) (N : Nat) (x0 : Nat) (x1 : Nat) (h : qH) (Q : Int32 → qH → Prop) (hw : w_Past_giveBack N x0 x1 h Q) : Met l y_Past_giveBack (Cond.code y_Past_giveBack prog_4_method_4_code 2 (some .boolean) :: qT) (qrm 2 0 0 39) (qPc D cy b adK adV h [qr b x0, qr b x1]) (qQc D cy b qrI Q) 0 0 (qA b) := by
  refine qmet (L0 := [(0, .inr (.inr (.inl x0))), (1, .inr (.inr (.inl x1)))]) qm_Past_giveBack (plainFor_of_name (by decide)) [.inr (.inr (.inl x0)), .inr (.inr (.inl x1))] rfl (Nat.le_of_ble_eq_true rfl) rfl (fun p e s m args below meth c X => ?_)
  unfold w_Past_giveBack at hw
  refine qx_aload_n (x := x0) X d_Past_giveBack_0 rfl 0 rfl ?_
  obtain ⟨g1, hw⟩ := hw
  refine qx_getI X qcls2 g1 2 (by decide) rfl wf_Past_19 d_Past_giveBack_1 ?_
  refine qx_if_ne X 9 d_Past_giveBack_4 (by decide) (fun q2 => ?_) (fun q2 => ?_)
  · have hw := hw.1 q2
    refine qx_aload_n (x := x0) X d_Past_giveBack_9 rfl 0 rfl ?_
    refine qx_aload_n (x := x0) X d_Past_giveBack_10 rfl 0 rfl ?_
    refine qx_getI X qcls2 g1 1 (by decide) rfl wf_Past_15 d_Past_giveBack_11 ?_
    refine qx_bipush (v := (40 : Int32)) X d_Past_giveBack_14 (by decide) ?_
    refine qx_iadd X d_Past_giveBack_16 ?_
    refine qx_iconst (v := (1 : Int32)) X d_Past_giveBack_17 (by decide) ?_
    refine qx_isub X d_Past_giveBack_18 ?_
    refine qx_bipush (v := (40 : Int32)) X d_Past_giveBack_19 (by decide) ?_
    obtain ⟨g3, hw⟩ := hw
    refine qx_irem X g3 d_Past_giveBack_21 ?_
    refine qx_putI X qcls2 g1 1 (by decide) rfl wf_Past_15 rfl rfl rfl d_Past_giveBack_22 ?_
    refine qx_toph (fun h4 eh4 => ?_)
    have hw := hw h4 eh4
    refine qx_aload_n (x := x0) X d_Past_giveBack_25 rfl 0 rfl ?_
    refine qx_dup X (qr_cat _ _) d_Past_giveBack_26 ?_
    obtain ⟨g5, hw⟩ := hw
    refine qx_getI X qcls2 g5 2 (by decide) rfl wf_Past_19 d_Past_giveBack_27 ?_
    refine qx_iconst (v := (1 : Int32)) X d_Past_giveBack_30 (by decide) ?_
    refine qx_isub X d_Past_giveBack_31 ?_
    refine qx_putI X qcls2 g5 2 (by decide) rfl wf_Past_19 rfl rfl rfl d_Past_giveBack_32 ?_
    refine qx_toph (fun h6 eh6 => ?_)
    have hw := hw h6 eh6
    refine qx_aload_n (x := x1) X d_Past_giveBack_35 rfl 1 rfl ?_
    refine qx_aload_n (x := x0) X d_Past_giveBack_36 rfl 0 rfl ?_
    obtain ⟨g7, hw⟩ := hw
    refine qx_getR X qcls2 g7 0 (by decide) rfl wf_Past_11 d_Past_giveBack_37 ?_
    refine qx_aload_n (x := x0) X d_Past_giveBack_40 rfl 0 rfl ?_
    refine qx_getI X qcls2 g7 1 (by decide) rfl wf_Past_15 d_Past_giveBack_41 ?_
    obtain ⟨g8, hw⟩ := hw
    refine qx_ald X g8 d_Past_giveBack_44 ?_
    obtain ⟨g9, hw⟩ := hw
    refine qx_callVV (st := []) (As := [qr b (qR h6 (qR h6 x0 0) ((qI h6 x0 1)).toNatClampNeg)]) X (t_State_become (adK := adK) (adV := adV) l D cy b N x1 (qR h6 (qR h6 x0 0) ((qI h6 x0 1)).toNatClampNeg) h6 _ hw) qm_State_become wm_Past_25 wi_State_become wl_State_become qcls6 g9 rfl rfl rfl ⟨Nat.le_of_ble_eq_true rfl, Nat.le_of_ble_eq_true rfl⟩ ⟨Nat.le_refl 0, Nat.le_refl 0⟩ (Nat.le_of_ble_eq_true rfl) rfl d_Past_giveBack_45 (fun h10 hw => ?_)
    refine qx_iconst (v := (1 : Int32)) X d_Past_giveBack_48 (by decide) ?_
    exact qx_zret X hw (Nat.le_refl 0) (Nat.le_refl 0) rfl d_Past_giveBack_49
  · have hw := hw.2 q2
    refine qx_iconst (v := (0 : Int32)) X d_Past_giveBack_7 (by decide) ?_
    exact qx_zret X hw (Nat.le_refl 0) (Nat.le_refl 0) rfl d_Past_giveBack_8
end QG
