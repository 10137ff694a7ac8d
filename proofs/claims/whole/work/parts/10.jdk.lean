/-! bitCount, floorMod: written by wip/whole/emit.py out of the bytecode -/
def y_Integer_bitCount : MethodName := ⟨"java/lang/Integer", "bitCount", "(I)I"⟩
theorem qm_Integer_bitCount : qMt y_Integer_bitCount prog_16_method_49_code 1 (some .int) 1 := ⟨qT_5 (i := 13) (by decide +kernel) rfl, qT_1 (i := 21) (by decide +kernel) rfl, by decide, by decide, by decide +kernel⟩
theorem wi_Integer_bitCount : Cond.static y_Integer_bitCount ∈ qT := qT_5 (i := 12) (by decide +kernel) rfl
def y_Math_floorMod : MethodName := ⟨"java/lang/Math", "floorMod", "(II)I"⟩
theorem qm_Math_floorMod : qMt y_Math_floorMod prog_17_method_50_code 3 (some .int) 2 := ⟨qT_5 (i := 32) (by decide +kernel) rfl, qT_1 (i := 18) (by decide +kernel) rfl, by decide, by decide, by decide +kernel⟩
theorem wi_Math_floorMod : Cond.static y_Math_floorMod ∈ qT := qT_5 (i := 31) (by decide +kernel) rfl
theorem wk_Integer_265 : Cond.constant "java/lang/Integer" 265 (1431655765 : Int32) ∈ qT := qT_5 (i := 14) (by decide +kernel) rfl
theorem wk_Integer_266 : Cond.constant "java/lang/Integer" 266 (858993459 : Int32) ∈ qT := qT_5 (i := 15) (by decide +kernel) rfl
theorem wk_Integer_267 : Cond.constant "java/lang/Integer" 267 (252645135 : Int32) ∈ qT := qT_5 (i := 16) (by decide +kernel) rfl
theorem d_Integer_bitCount_0 : decode prog_16_method_49_code 0 = .ok (.iload_n 0, 1) := by decide +kernel
theorem d_Integer_bitCount_1 : decode prog_16_method_49_code 1 = .ok (.iload_n 0, 1) := by decide +kernel
theorem d_Integer_bitCount_2 : decode prog_16_method_49_code 2 = .ok (.iconst 1, 1) := by decide +kernel
theorem d_Integer_bitCount_3 : decode prog_16_method_49_code 3 = .ok (.iushr, 1) := by decide +kernel
theorem d_Integer_bitCount_4 : decode prog_16_method_49_code 4 = .ok (.ldc_w 265, 3) := by decide +kernel
theorem d_Integer_bitCount_7 : decode prog_16_method_49_code 7 = .ok (.iand, 1) := by decide +kernel
theorem d_Integer_bitCount_8 : decode prog_16_method_49_code 8 = .ok (.isub, 1) := by decide +kernel
theorem d_Integer_bitCount_9 : decode prog_16_method_49_code 9 = .ok (.istore_n 0, 1) := by decide +kernel
theorem d_Integer_bitCount_10 : decode prog_16_method_49_code 10 = .ok (.iload_n 0, 1) := by decide +kernel
theorem d_Integer_bitCount_11 : decode prog_16_method_49_code 11 = .ok (.ldc_w 266, 3) := by decide +kernel
theorem d_Integer_bitCount_14 : decode prog_16_method_49_code 14 = .ok (.iand, 1) := by decide +kernel
theorem d_Integer_bitCount_15 : decode prog_16_method_49_code 15 = .ok (.iload_n 0, 1) := by decide +kernel
theorem d_Integer_bitCount_16 : decode prog_16_method_49_code 16 = .ok (.iconst 2, 1) := by decide +kernel
theorem d_Integer_bitCount_17 : decode prog_16_method_49_code 17 = .ok (.iushr, 1) := by decide +kernel
theorem d_Integer_bitCount_18 : decode prog_16_method_49_code 18 = .ok (.ldc_w 266, 3) := by decide +kernel
theorem d_Integer_bitCount_21 : decode prog_16_method_49_code 21 = .ok (.iand, 1) := by decide +kernel
theorem d_Integer_bitCount_22 : decode prog_16_method_49_code 22 = .ok (.iadd, 1) := by decide +kernel
theorem d_Integer_bitCount_23 : decode prog_16_method_49_code 23 = .ok (.istore_n 0, 1) := by decide +kernel
theorem d_Integer_bitCount_24 : decode prog_16_method_49_code 24 = .ok (.iload_n 0, 1) := by decide +kernel
theorem d_Integer_bitCount_25 : decode prog_16_method_49_code 25 = .ok (.iload_n 0, 1) := by decide +kernel
theorem d_Integer_bitCount_26 : decode prog_16_method_49_code 26 = .ok (.iconst 4, 1) := by decide +kernel
theorem d_Integer_bitCount_27 : decode prog_16_method_49_code 27 = .ok (.iushr, 1) := by decide +kernel
theorem d_Integer_bitCount_28 : decode prog_16_method_49_code 28 = .ok (.iadd, 1) := by decide +kernel
theorem d_Integer_bitCount_29 : decode prog_16_method_49_code 29 = .ok (.ldc_w 267, 3) := by decide +kernel
theorem d_Integer_bitCount_32 : decode prog_16_method_49_code 32 = .ok (.iand, 1) := by decide +kernel
theorem d_Integer_bitCount_33 : decode prog_16_method_49_code 33 = .ok (.istore_n 0, 1) := by decide +kernel
theorem d_Integer_bitCount_34 : decode prog_16_method_49_code 34 = .ok (.iload_n 0, 1) := by decide +kernel
theorem d_Integer_bitCount_35 : decode prog_16_method_49_code 35 = .ok (.iload_n 0, 1) := by decide +kernel
theorem d_Integer_bitCount_36 : decode prog_16_method_49_code 36 = .ok (.bipush 8, 2) := by decide +kernel
theorem d_Integer_bitCount_38 : decode prog_16_method_49_code 38 = .ok (.iushr, 1) := by decide +kernel
theorem d_Integer_bitCount_39 : decode prog_16_method_49_code 39 = .ok (.iadd, 1) := by decide +kernel
theorem d_Integer_bitCount_40 : decode prog_16_method_49_code 40 = .ok (.istore_n 0, 1) := by decide +kernel
theorem d_Integer_bitCount_41 : decode prog_16_method_49_code 41 = .ok (.iload_n 0, 1) := by decide +kernel
theorem d_Integer_bitCount_42 : decode prog_16_method_49_code 42 = .ok (.iload_n 0, 1) := by decide +kernel
theorem d_Integer_bitCount_43 : decode prog_16_method_49_code 43 = .ok (.bipush 16, 2) := by decide +kernel
theorem d_Integer_bitCount_45 : decode prog_16_method_49_code 45 = .ok (.iushr, 1) := by decide +kernel
theorem d_Integer_bitCount_46 : decode prog_16_method_49_code 46 = .ok (.iadd, 1) := by decide +kernel
theorem d_Integer_bitCount_47 : decode prog_16_method_49_code 47 = .ok (.istore_n 0, 1) := by decide +kernel
theorem d_Integer_bitCount_48 : decode prog_16_method_49_code 48 = .ok (.iload_n 0, 1) := by decide +kernel
theorem d_Integer_bitCount_49 : decode prog_16_method_49_code 49 = .ok (.bipush 63, 2) := by decide +kernel
theorem d_Integer_bitCount_51 : decode prog_16_method_49_code 51 = .ok (.iand, 1) := by decide +kernel
theorem d_Integer_bitCount_52 : decode prog_16_method_49_code 52 = .ok (.ireturn, 1) := by decide +kernel
theorem d_Math_floorMod_0 : decode prog_17_method_50_code 0 = .ok (.iload_n 0, 1) := by decide +kernel
theorem d_Math_floorMod_1 : decode prog_17_method_50_code 1 = .ok (.iload_n 1, 1) := by decide +kernel
theorem d_Math_floorMod_2 : decode prog_17_method_50_code 2 = .ok (.irem, 1) := by decide +kernel
theorem d_Math_floorMod_3 : decode prog_17_method_50_code 3 = .ok (.istore_n 2, 1) := by decide +kernel
theorem d_Math_floorMod_4 : decode prog_17_method_50_code 4 = .ok (.iload_n 0, 1) := by decide +kernel
theorem d_Math_floorMod_5 : decode prog_17_method_50_code 5 = .ok (.iload_n 1, 1) := by decide +kernel
theorem d_Math_floorMod_6 : decode prog_17_method_50_code 6 = .ok (.ixor, 1) := by decide +kernel
theorem d_Math_floorMod_7 : decode prog_17_method_50_code 7 = .ok (.ifCond .ge 11, 3) := by decide +kernel
theorem d_Math_floorMod_10 : decode prog_17_method_50_code 10 = .ok (.iload_n 2, 1) := by decide +kernel
theorem d_Math_floorMod_11 : decode prog_17_method_50_code 11 = .ok (.ifCond .eq 7, 3) := by decide +kernel
theorem d_Math_floorMod_14 : decode prog_17_method_50_code 14 = .ok (.iload_n 2, 1) := by decide +kernel
theorem d_Math_floorMod_15 : decode prog_17_method_50_code 15 = .ok (.iload_n 1, 1) := by decide +kernel
theorem d_Math_floorMod_16 : decode prog_17_method_50_code 16 = .ok (.iadd, 1) := by decide +kernel
theorem d_Math_floorMod_17 : decode prog_17_method_50_code 17 = .ok (.ireturn, 1) := by decide +kernel
theorem d_Math_floorMod_18 : decode prog_17_method_50_code 18 = .ok (.iload_n 2, 1) := by decide +kernel
theorem d_Math_floorMod_19 : decode prog_17_method_50_code 19 = .ok (.ireturn, 1) := by decide +kernel
def w_Integer_bitCount (N : Nat) (x0 : Int32) (h : qH) (Q : Int32 → qH → Prop) : Prop := (∀ y1 : Int32, y1 = (x0 - (((x0).toUInt32 >>> (((1 : Int32)).toUInt32 &&& Int32.toUInt32 31)).toInt32 &&& (1431655765 : Int32))) → (∀ y2 : Int32, y2 = ((y1 &&& (858993459 : Int32)) + (((y1).toUInt32 >>> (((2 : Int32)).toUInt32 &&& Int32.toUInt32 31)).toInt32 &&& (858993459 : Int32))) → (∀ y3 : Int32, y3 = ((y2 + ((y2).toUInt32 >>> (((4 : Int32)).toUInt32 &&& Int32.toUInt32 31)).toInt32) &&& (252645135 : Int32)) → (∀ y4 : Int32, y4 = (y3 + ((y3).toUInt32 >>> (((8 : Int32)).toUInt32 &&& Int32.toUInt32 31)).toInt32) → (∀ y5 : Int32, y5 = (y4 + ((y4).toUInt32 >>> (((16 : Int32)).toUInt32 &&& Int32.toUInt32 31)).toInt32) → Q (y5 &&& (63 : Int32)) h)))))
def w_Math_floorMod (N : Nat) (x0 : Int32) (x1 : Int32) (h : qH) (Q : Int32 → qH → Prop) : Prop := (¬ x1 = 0 ∧ (∀ y2 : Int32, y2 = (x0 - x0 / x1 * x1) → ((0 ≤ (x0 ^^^ x1) → Q y2 h) ∧ (¬ 0 ≤ (x0 ^^^ x1) → ((y2 = 0 → Q y2 h) ∧ (¬ y2 = 0 → Q (y2 + x1) h))))))
section QG
variable {p : Program} {l : Launch} {e : Env} {s : State} {m : MethodId} {args : Array Value} {below : List Frame} {meth : Method} {c : Code} {D : va_G} {cy : Nat → ClassId} {b : Nat} {adK adV : Nat → Nat}

set_option maxRecDepth 4000 in
theorem t_Integer_bitCount {adK adV : Nat → Nat} (l : Launch) (D : va_G) (cy : Nat → ClassId) (b : Nat) (N : Nat) (x0 : Int32) (h : qH) (Q : Int32 → qH → Prop) (hw : w_Integer_bitCount N x0 h Q) : Met l y_Integer_bitCount (Cond.code y_Integer_bitCount prog_16_method_49_code 1 (some .int) :: qT) (qrm 0 0 0 0) (qPc D cy b adK adV h [.int x0]) (qQc D cy b qrI Q) 0 0 (qA b) := by
  refine qmet (L0 := [(0, .inl x0)]) qm_Integer_bitCount (by decide +kernel) [.inl x0] rfl (Nat.le_of_ble_eq_true rfl) rfl (fun p e s m args below meth c X => ?_)
  unfold w_Integer_bitCount at hw
  refine qx_iload_n (x := x0) X d_Integer_bitCount_0 rfl 0 rfl ?_
  refine qx_iload_n (x := x0) X d_Integer_bitCount_1 rfl 0 rfl ?_
  refine qx_iconst (v := (1 : Int32)) X d_Integer_bitCount_2 (by decide) ?_
  refine qx_iushr X d_Integer_bitCount_3 ?_
  refine qx_ldcw (v := (1431655765 : Int32)) X wk_Integer_265 d_Integer_bitCount_4 ?_
  refine qx_iand X d_Integer_bitCount_7 ?_
  refine qx_isub X d_Integer_bitCount_8 ?_
  refine qx_topi (fun y1 ey1 => ?_)
  have hw := hw y1 ey1
  refine qx_istore_n (L' := [(0, .inl y1)]) X d_Integer_bitCount_9 rfl (by decide) rfl ?_
  refine qx_iload_n (x := y1) X d_Integer_bitCount_10 rfl 0 rfl ?_
  refine qx_ldcw (v := (858993459 : Int32)) X wk_Integer_266 d_Integer_bitCount_11 ?_
  refine qx_iand X d_Integer_bitCount_14 ?_
  refine qx_iload_n (x := y1) X d_Integer_bitCount_15 rfl 0 rfl ?_
  refine qx_iconst (v := (2 : Int32)) X d_Integer_bitCount_16 (by decide) ?_
  refine qx_iushr X d_Integer_bitCount_17 ?_
  refine qx_ldcw (v := (858993459 : Int32)) X wk_Integer_266 d_Integer_bitCount_18 ?_
  refine qx_iand X d_Integer_bitCount_21 ?_
  refine qx_iadd X d_Integer_bitCount_22 ?_
  refine qx_topi (fun y2 ey2 => ?_)
  have hw := hw y2 ey2
  refine qx_istore_n (L' := [(0, .inl y2)]) X d_Integer_bitCount_23 rfl (by decide) rfl ?_
  refine qx_iload_n (x := y2) X d_Integer_bitCount_24 rfl 0 rfl ?_
  refine qx_iload_n (x := y2) X d_Integer_bitCount_25 rfl 0 rfl ?_
  refine qx_iconst (v := (4 : Int32)) X d_Integer_bitCount_26 (by decide) ?_
  refine qx_iushr X d_Integer_bitCount_27 ?_
  refine qx_iadd X d_Integer_bitCount_28 ?_
  refine qx_ldcw (v := (252645135 : Int32)) X wk_Integer_267 d_Integer_bitCount_29 ?_
  refine qx_iand X d_Integer_bitCount_32 ?_
  refine qx_topi (fun y3 ey3 => ?_)
  have hw := hw y3 ey3
  refine qx_istore_n (L' := [(0, .inl y3)]) X d_Integer_bitCount_33 rfl (by decide) rfl ?_
  refine qx_iload_n (x := y3) X d_Integer_bitCount_34 rfl 0 rfl ?_
  refine qx_iload_n (x := y3) X d_Integer_bitCount_35 rfl 0 rfl ?_
  refine qx_bipush (v := (8 : Int32)) X d_Integer_bitCount_36 (by decide) ?_
  refine qx_iushr X d_Integer_bitCount_38 ?_
  refine qx_iadd X d_Integer_bitCount_39 ?_
  refine qx_topi (fun y4 ey4 => ?_)
  have hw := hw y4 ey4
  refine qx_istore_n (L' := [(0, .inl y4)]) X d_Integer_bitCount_40 rfl (by decide) rfl ?_
  refine qx_iload_n (x := y4) X d_Integer_bitCount_41 rfl 0 rfl ?_
  refine qx_iload_n (x := y4) X d_Integer_bitCount_42 rfl 0 rfl ?_
  refine qx_bipush (v := (16 : Int32)) X d_Integer_bitCount_43 (by decide) ?_
  refine qx_iushr X d_Integer_bitCount_45 ?_
  refine qx_iadd X d_Integer_bitCount_46 ?_
  refine qx_topi (fun y5 ey5 => ?_)
  have hw := hw y5 ey5
  refine qx_istore_n (L' := [(0, .inl y5)]) X d_Integer_bitCount_47 rfl (by decide) rfl ?_
  refine qx_iload_n (x := y5) X d_Integer_bitCount_48 rfl 0 rfl ?_
  refine qx_bipush (v := (63 : Int32)) X d_Integer_bitCount_49 (by decide) ?_
  refine qx_iand X d_Integer_bitCount_51 ?_
  exact qx_iret X hw (Nat.le_refl 0) (Nat.le_refl 0) rfl d_Integer_bitCount_52
set_option maxRecDepth 4000 in
theorem t_Math_floorMod {adK adV : Nat → Nat} (l : Launch) (D : va_G) (cy : Nat → ClassId) (b : Nat) (N : Nat) (x0 : Int32) (x1 : Int32) (h : qH) (Q : Int32 → qH → Prop) (hw : w_Math_floorMod N x0 x1 h Q) : Met l y_Math_floorMod (Cond.code y_Math_floorMod prog_17_method_50_code 3 (some .int) :: qT) (qrm 0 0 0 0) (qPc D cy b adK adV h [.int x0, .int x1]) (qQc D cy b qrI Q) 0 0 (qA b) := by
  refine qmet (L0 := [(0, .inl x0), (1, .inl x1)]) qm_Math_floorMod (by decide +kernel) [.inl x0, .inl x1] rfl (Nat.le_of_ble_eq_true rfl) rfl (fun p e s m args below meth c X => ?_)
  unfold w_Math_floorMod at hw
  refine qx_iload_n (x := x0) X d_Math_floorMod_0 rfl 0 rfl ?_
  refine qx_iload_n (x := x1) X d_Math_floorMod_1 rfl 1 rfl ?_
  obtain ⟨g1, hw⟩ := hw
  refine qx_irem X g1 d_Math_floorMod_2 ?_
  refine qx_topi (fun y2 ey2 => ?_)
  have hw := hw y2 ey2
  refine qx_istore_n (L' := [(2, .inl y2), (0, .inl x0), (1, .inl x1)]) X d_Math_floorMod_3 rfl (by decide) rfl ?_
  refine qx_iload_n (x := x0) X d_Math_floorMod_4 rfl 1 rfl ?_
  refine qx_iload_n (x := x1) X d_Math_floorMod_5 rfl 2 rfl ?_
  refine qx_ixor X d_Math_floorMod_6 ?_
  refine qx_if_ge X 18 d_Math_floorMod_7 (by decide) (fun q3 => ?_) (fun q3 => ?_)
  · have hw := hw.1 q3
    refine qx_iload_n (x := y2) X d_Math_floorMod_18 rfl 0 rfl ?_
    exact qx_iret X hw (Nat.le_refl 0) (Nat.le_refl 0) rfl d_Math_floorMod_19
  · have hw := hw.2 q3
    refine qx_iload_n (x := y2) X d_Math_floorMod_10 rfl 0 rfl ?_
    refine qx_if_eq X 18 d_Math_floorMod_11 (by decide) (fun q4 => ?_) (fun q4 => ?_)
    · have hw := hw.1 q4
      refine qx_iload_n (x := y2) X d_Math_floorMod_18 rfl 0 rfl ?_
      exact qx_iret X hw (Nat.le_refl 0) (Nat.le_refl 0) rfl d_Math_floorMod_19
    · have hw := hw.2 q4
      refine qx_iload_n (x := y2) X d_Math_floorMod_14 rfl 0 rfl ?_
      refine qx_iload_n (x := x1) X d_Math_floorMod_15 rfl 2 rfl ?_
      refine qx_iadd X d_Math_floorMod_16 ?_
      exact qx_iret X hw (Nat.le_refl 0) (Nat.le_refl 0) rfl d_Math_floorMod_17
end QG
