/-! over the layout: written by wip/whole/emitv.py -/
def v_M_two_45 (N : Nat) : Nat → Int32 → Int32 → Int32 → zI → zJ → (Int32 → zI → zJ → Prop) → (Int32 → zI → zJ → Prop) → Prop
  | 0 => fun _ _ _ _ _ _ _ => False
  | k + 1 => fun x2 x4 x5 I J Q K70 => ((x2 ≤ x4 → (K70 x5 I J)) ∧ (¬ x2 ≤ x4 → (vp_in (x5 + (1 : Int32)) 36 ∧ (((I 406 ((x5 + (1 : Int32))).toNatClampNeg) = 0 → (v_M_two_45 N k x2 x4 (x5 + (1 : Int32)) I J Q K70)) ∧ (¬ (I 406 ((x5 + (1 : Int32))).toNatClampNeg) = 0 → (v_M_two_45 N k x2 (x4 + (1 : Int32)) (x5 + (1 : Int32)) I J Q K70))))))
def v_M_two (N : Nat) (x1 : Int32) (x2 : Int32) (I : zI) (J : zJ) (Q : Int32 → zI → zJ → Prop) : Prop := (v_M_in N x1 (0 : Int32) (I 361 63) I J (fun r1 I2 J2 => ((r1 = 0 → Q (-1 : Int32) I2 J2) ∧ (¬ r1 = 0 → (((-1 : Int32) ≤ x2 → (v_M_fillsPairs N x1 I2 J2 (fun r5 I6 J6 => ((¬ x2 = (-1 : Int32) → ((x2 < r5 → (v_M_two_45 N N x2 (-1 : Int32) (-1 : Int32) I6 J6 Q (fun w9 I10 J10 => (¬ (6 : Int32) = 0 ∧ (¬ (6 : Int32) = 0 ∧ Q (((10 : Int32) * (w9 / (6 : Int32))) + (w9 - w9 / (6 : Int32) * (6 : Int32))) I10 J10))))) ∧ (¬ x2 < r5 → Q (-1 : Int32) I6 J6))) ∧ (x2 = (-1 : Int32) → Q r5 I6 J6))))) ∧ (¬ (-1 : Int32) ≤ x2 → Q (-1 : Int32) I2 J2))))))
def v_M_worstOf_16 (N : Nat) : Nat → Int32 → Int32 → Int32 → Int32 → Int32 → zI → zJ → (Int32 → zI → zJ → Prop) → (Int32 → Int32 → Int32 → Int32 → zI → zJ → Prop) → Prop
  | 0 => fun _ _ _ _ _ _ _ _ _ => False
  | k + 1 => fun x1 x2 x3 x4 x5 I J Q K58 => (((36 : Int32) ≤ x5 → (K58 x1 x2 x3 x4 I J)) ∧ (¬ (36 : Int32) ≤ x5 → (vp_in x5 36 ∧ (((I 406 (x5).toNatClampNeg) = 0 → (v_M_worstOf_16 N k x1 x2 x3 x4 (x5 + (1 : Int32)) I J Q K58)) ∧ (¬ (I 406 (x5).toNatClampNeg) = 0 → (vp_in (((6 : Int32) * x5) + x1) 216 ∧ ((¬ (I 407 ((((6 : Int32) * x5) + x1)).toNatClampNeg) = x3 → (v_M_worstOf_16 N k x1 x2 x3 x4 (x5 + (1 : Int32)) I J Q K58)) ∧ ((I 407 ((((6 : Int32) * x5) + x1)).toNatClampNeg) = x3 → (v_M_worstOf_16 N k x1 x2 x3 (x4 + (1 : Int32)) (x5 + (1 : Int32)) I J Q K58)))))))))
def v_M_worstOf_4 (N : Nat) : Nat → Int32 → Int32 → Int32 → zI → zJ → (Int32 → zI → zJ → Prop) → Prop
  | 0 => fun _ _ _ _ _ _ => False
  | k + 1 => fun x1 x2 x3 I J Q  => (((6 : Int32) ≤ x3 → Q x2 I J) ∧ (¬ (6 : Int32) ≤ x3 → (v_M_worstOf_16 N N x1 x2 x3 (0 : Int32) (0 : Int32) I J Q (fun w2 w3 w4 w5 I6 J6 => ((w5 ≤ w3 → (v_M_worstOf_4 N k w2 w3 (w4 + (1 : Int32)) I6 J6 Q)) ∧ (¬ w5 ≤ w3 → (v_M_worstOf_4 N k w2 w5 (w4 + (1 : Int32)) I6 J6 Q)))))))
def v_M_worstOf (N : Nat) (x1 : Int32) (I : zI) (J : zJ) (Q : Int32 → zI → zJ → Prop) : Prop := (v_M_worstOf_4 N N x1 (0 : Int32) (0 : Int32) I J Q )
def v_M_ask_26 (N : Nat) : Nat → Int32 → Int32 → Int32 → zI → zJ → (Int32 → zI → zJ → Prop) → Prop
  | 0 => fun _ _ _ _ _ _ => False
  | k + 1 => fun x2 x3 x4 I J Q  => (vp_in (I 361 18) 2 ∧ (((I 374 ((I 361 18)).toNatClampNeg) ≤ x4 → Q x3 I J) ∧ (¬ (I 374 ((I 361 18)).toNatClampNeg) ≤ x4 → ((x2 ≤ 0 → Q x3 I J) ∧ (¬ x2 ≤ 0 → ((x3 < 0 → (v_M_ask_26 N k x2 x4 (x4 + (1 : Int32)) I J Q)) ∧ (¬ x3 < 0 → (v_M_worstOf N x4 I J (fun r5 I6 J6 => (v_M_worstOf N x3 I6 J6 (fun r7 I8 J8 => ((r7 ≤ r5 → (v_M_ask_26 N k x2 x3 (x4 + (1 : Int32)) I8 J8 Q)) ∧ (¬ r7 ≤ r5 → (v_M_ask_26 N k x2 x4 (x4 + (1 : Int32)) I8 J8 Q))))))))))))))
def v_M_ask (N : Nat) (x1 : Int32) (I : zI) (J : zJ) (Q : Int32 → zI → zJ → Prop) : Prop := (v_M_in N x1 (0 : Int32) (I 361 63) I J (fun r1 I2 J2 => ((¬ r1 = 0 → (v_M_fillsPairs N x1 I2 J2 (fun r4 I5 J5 => (v_M_ask_26 N N r4 (-2 : Int32) (0 : Int32) I5 J5 Q )))) ∧ (r1 = 0 → Q (-1 : Int32) I2 J2))))
def v_M_hold_20 (N : Nat) : Nat → Int32 → Int32 → zI → zJ → (Int32 → zI → zJ → Prop) → Prop
  | 0 => fun _ _ _ _ _ => False
  | k + 1 => fun x1 x2 I J Q  => (((32 : Int32) ≤ x2 → Q (1 : Int32) I J) ∧ (¬ (32 : Int32) ≤ x2 → (vp_in x2 32 ∧ (vp_in (((32 : Int32) * x1) + x2) 96 ∧ ∀ I4 : zI, I4 = qu I 409 ((((32 : Int32) * x1) + x2)).toNatClampNeg (I 393 (x2).toNatClampNeg) → (v_M_hold_20 N k x1 (x2 + (1 : Int32)) I4 J Q)))))
def v_M_hold (N : Nat) (x1 : Int32) (I : zI) (J : zJ) (Q : Int32 → zI → zJ → Prop) : Prop := (v_M_in N x1 (0 : Int32) (2 : Int32) I J (fun r1 I2 J2 => ((¬ r1 = 0 → (vp_in x1 3 ∧ ∀ I5 : zI, I5 = qu I2 408 (x1).toNatClampNeg (vp_nar .boolean (1 : Int32)) → (v_M_hold_20 N N x1 (0 : Int32) I5 J2 Q ))) ∧ (r1 = 0 → Q (0 : Int32) I2 J2))))
def v_M_restore_22 (N : Nat) : Nat → Int32 → Int32 → zI → zJ → (Int32 → zI → zJ → Prop) → Prop
  | 0 => fun _ _ _ _ _ => False
  | k + 1 => fun x1 x2 I J Q  => (((32 : Int32) ≤ x2 → (∀ I2 : zI, I2 = qu I 361 57 (0 : Int32) → Q (1 : Int32) I2 J)) ∧ (¬ (32 : Int32) ≤ x2 → (vp_in (((32 : Int32) * x1) + x2) 96 ∧ (vp_in x2 32 ∧ ∀ I5 : zI, I5 = qu I 393 (x2).toNatClampNeg (I 409 ((((32 : Int32) * x1) + x2)).toNatClampNeg) → (v_M_restore_22 N k x1 (x2 + (1 : Int32)) I5 J Q)))))
def v_M_restore (N : Nat) (x1 : Int32) (I : zI) (J : zJ) (Q : Int32 → zI → zJ → Prop) : Prop := (v_M_in N x1 (0 : Int32) (2 : Int32) I J (fun r1 I2 J2 => ((r1 = 0 → Q (0 : Int32) I2 J2) ∧ (¬ r1 = 0 → (vp_in x1 3 ∧ ((¬ (I2 408 (x1).toNatClampNeg) = 0 → (v_M_restore_22 N N x1 (0 : Int32) I2 J2 Q )) ∧ ((I2 408 (x1).toNatClampNeg) = 0 → Q (0 : Int32) I2 J2)))))))
def v_M_sumNow_5 (N : Nat) : Nat → Int32 → Int32 → Int32 → Int32 → zI → zJ → (Int32 → zI → zJ → Prop) → Prop
  | 0 => fun _ _ _ _ _ _ _ => False
  | k + 1 => fun x1 x2 x3 x4 I J Q  => (((x1 + x2) ≤ x4 → Q x3 I J) ∧ (¬ (x1 + x2) ≤ x4 → (vp_in x4 32 ∧ (∀ y3 : Int32, y3 = (x3 + (I 393 (x4).toNatClampNeg)) → (v_M_sumNow_5 N k x1 x2 y3 (x4 + (1 : Int32)) I J Q)))))
def v_M_sumNow (N : Nat) (x1 : Int32) (x2 : Int32) (I : zI) (J : zJ) (Q : Int32 → zI → zJ → Prop) : Prop := (v_M_sumNow_5 N N x1 x2 (0 : Int32) x1 I J Q )
def v_M_count_110 (N : Nat) : Nat → Int32 → Int32 → zI → zJ → (Int32 → zI → zJ → Prop) → Prop
  | 0 => fun _ _ _ _ _ => False
  | k + 1 => fun x2 x3 I J Q  => (vp_in (I 361 18) 2 ∧ (((I 374 ((I 361 18)).toNatClampNeg) ≤ x3 → Q x2 I J) ∧ (¬ (I 374 ((I 361 18)).toNatClampNeg) ≤ x3 → (v_M_isUp N x3 I J (fun r3 I4 J4 => ((r3 = 0 → (v_M_count_110 N k x2 (x3 + (1 : Int32)) I4 J4 Q)) ∧ (¬ r3 = 0 → (∀ y6 : Int32, y6 = (x2 ||| ((1 : Int32) <<< (x3 &&& 31))) → (v_M_count_110 N k y6 (x3 + (1 : Int32)) I4 J4 Q)))))))))
def v_M_count_147 (N : Nat) : Nat → Int32 → Int32 → zI → zJ → (Int32 → zI → zJ → Prop) → Prop
  | 0 => fun _ _ _ _ _ => False
  | k + 1 => fun x2 x3 I J Q  => (vp_in (I 361 18) 2 ∧ (((I 371 ((I 361 18)).toNatClampNeg) ≤ x3 → Q x2 I J) ∧ (¬ (I 371 ((I 361 18)).toNatClampNeg) ≤ x3 → (v_M_whoIsOn N x3 I J (fun r3 I4 J4 => ((r3 < 0 → (v_M_count_147 N k x2 (x3 + (1 : Int32)) I4 J4 Q)) ∧ (¬ r3 < 0 → (∀ y6 : Int32, y6 = (x2 ||| ((1 : Int32) <<< (x3 &&& 31))) → (v_M_count_147 N k y6 (x3 + (1 : Int32)) I4 J4 Q)))))))))
def v_M_count_248 (N : Nat) (z0 : Int32) (z1 : Int32) (I : zI) (J : zJ) (Q : Int32 → zI → zJ → Prop)  : Prop := (vp_in (2 : Int32) 3 ∧ (((I 408 ((2 : Int32)).toNatClampNeg) = 0 → Q ((z1 + z0) + (0 : Int32)) I J) ∧ (¬ (I 408 ((2 : Int32)).toNatClampNeg) = 0 → Q ((z1 + z0) + (1 : Int32)) I J)))
def v_M_count_234 (N : Nat) (z0 : Int32) (I : zI) (J : zJ) (Q : Int32 → zI → zJ → Prop)  : Prop := (vp_in (1 : Int32) 3 ∧ (((I 408 ((1 : Int32)).toNatClampNeg) = 0 → (v_M_count_248 N (0 : Int32) z0 I J Q )) ∧ (¬ (I 408 ((1 : Int32)).toNatClampNeg) = 0 → (v_M_count_248 N (1 : Int32) z0 I J Q ))))
def v_M_count_285 (N : Nat) : Nat → Int32 → Int32 → zI → zJ → (Int32 → zI → zJ → Prop) → Prop
  | 0 => fun _ _ _ _ _ => False
  | k + 1 => fun x2 x3 I J Q  => (((5 : Int32) ≤ x3 → Q x2 I J) ∧ (¬ (5 : Int32) ≤ x3 → (v_M_manyOn N x3 I J (fun r2 I3 J3 => ((r2 ≤ (1 : Int32) → (v_M_count_285 N k x2 (x3 + (1 : Int32)) I3 J3 Q)) ∧ (¬ r2 ≤ (1 : Int32) → (∀ y5 : Int32, y5 = (x2 ||| ((1 : Int32) <<< (x3 &&& 31))) → (v_M_count_285 N k y5 (x3 + (1 : Int32)) I3 J3 Q))))))))
def v_M_count (N : Nat) (x1 : Int32) (I : zI) (J : zJ) (Q : Int32 → zI → zJ → Prop) : Prop := (v_M_copies N  I J (fun I1 J1 => ((x1 = (0 : Int32) → (vp_in (I1 361 18) 2 ∧ Q (I1 371 ((I1 361 18)).toNatClampNeg) I1 J1)) ∧ (¬ x1 = (0 : Int32) → ((x1 = (1 : Int32) → (vp_in (I1 361 18) 2 ∧ Q (I1 374 ((I1 361 18)).toNatClampNeg) I1 J1)) ∧ (¬ x1 = (1 : Int32) → ((x1 = (2 : Int32) → (vp_in (31 : Int32) 32 ∧ Q (I1 394 ((31 : Int32)).toNatClampNeg) I1 J1)) ∧ (¬ x1 = (2 : Int32) → ((x1 = (3 : Int32) → (v_M_count_110 N N (0 : Int32) (0 : Int32) I1 J1 Q )) ∧ (¬ x1 = (3 : Int32) → ((x1 = (4 : Int32) → (v_M_count_147 N N (0 : Int32) (0 : Int32) I1 J1 Q )) ∧ (¬ x1 = (4 : Int32) → ((x1 = (5 : Int32) → (v_M_ownBits N  I1 J1 (fun r11 I12 J12 => Q r11 I12 J12))) ∧ (¬ x1 = (5 : Int32) → ((x1 = (6 : Int32) → (v_M_sumNow N (18 : Int32) (6 : Int32) I1 J1 (fun r14 I15 J15 => Q r14 I15 J15))) ∧ (¬ x1 = (6 : Int32) → ((x1 = (7 : Int32) → (v_M_sumNow N (24 : Int32) (7 : Int32) I1 J1 (fun r17 I18 J18 => Q r17 I18 J18))) ∧ (¬ x1 = (7 : Int32) → ((x1 = (8 : Int32) → Q (I1 361 2) I1 J1) ∧ (¬ x1 = (8 : Int32) → ((x1 = (9 : Int32) → Q (I1 361 57) I1 J1) ∧ (¬ x1 = (9 : Int32) → ((x1 = (10 : Int32) → Q (I1 361 63) I1 J1) ∧ (¬ x1 = (10 : Int32) → ((x1 = (11 : Int32) → (vp_in (0 : Int32) 3 ∧ (((I1 408 ((0 : Int32)).toNatClampNeg) = 0 → (v_M_count_234 N (0 : Int32) I1 J1 Q )) ∧ (¬ (I1 408 ((0 : Int32)).toNatClampNeg) = 0 → (v_M_count_234 N (1 : Int32) I1 J1 Q ))))) ∧ (¬ x1 = (11 : Int32) → ((x1 = (12 : Int32) → (v_M_isMoth N  I1 J1 (fun r26 I27 J27 => ((r26 = 0 → Q (0 : Int32) I27 J27) ∧ (¬ r26 = 0 → Q (1 : Int32) I27 J27))))) ∧ (¬ x1 = (12 : Int32) → ((x1 = (13 : Int32) → (v_M_costsAll N  I1 J1 (fun r30 I31 J31 => Q r30 I31 J31))) ∧ (¬ x1 = (13 : Int32) → ((x1 = (14 : Int32) → (v_M_count_285 N N (0 : Int32) (0 : Int32) I1 J1 Q )) ∧ (¬ x1 = (14 : Int32) → Q (-1 : Int32) I1 J1))))))))))))))))))))))))))))))))
theorem u_M_two_45 (N k : Nat) (x2 : Int32) (x4 : Int32) (x5 : Int32) (I : zI) (J : zJ) (Q : Int32 → zI → zJ → Prop) (Q' : Int32 → qH → Prop) (hQ : ∀ (r : Int32) (I : zI) (J : zJ), Q r I J → Q' r (zH I J)) (K70 : Int32 → zI → zJ → Prop) (K70' : Int32 → qH → Prop) (hK70 : ∀ (x5 : Int32) (I : zI) (J : zJ), K70 x5 I J → K70' x5 (zH I J)) (hv : v_M_two_45 N k x2 x4 x5 I J Q K70) : w_M_two_45 N k 361 x2 x4 x5 (zH I J) Q' K70' := by
  induction k generalizing x2 x4 x5 I J with
  | zero => exact hv.elim
  | succ k ih =>
    rw [w_M_two_45]
    rw [v_M_two_45] at hv
    refine ⟨fun q1 => ?_, fun q1 => ?_⟩
    · have hv := hv.1 q1
      exact hK70 x5 I J hv
    · have hv := hv.2 q1
      refine ⟨rfl, ?_⟩
      obtain ⟨g2, hv⟩ := hv
      refine ⟨qok_mk rfl g2, ?_⟩
      refine ⟨fun q3 => ?_, fun q3 => ?_⟩
      · have hv := hv.1 q3
        exact ih x2 x4 (x5 + (1 : Int32)) I J hv
      · have hv := hv.2 q3
        exact ih x2 (x4 + (1 : Int32)) (x5 + (1 : Int32)) I J hv
theorem u_M_two (N : Nat) (x1 : Int32) (x2 : Int32) (I : zI) (J : zJ) (Q : Int32 → zI → zJ → Prop) (Q' : Int32 → qH → Prop) (hQ : ∀ (r : Int32) (I : zI) (J : zJ), Q r I J → Q' r (zH I J)) (hv : v_M_two N x1 x2 I J Q) : w_M_two N 361 x1 x2 (zH I J) Q' := by
  unfold w_M_two
  unfold v_M_two at hv
  refine ⟨rfl, ?_⟩
  refine u_M_in N x1 (0 : Int32) (I 361 63) I J _ _ (fun r1 I2 J2 hv => ?_) hv
  refine ⟨fun q3 => ?_, fun q3 => ?_⟩
  · have hv := hv.1 q3
    exact hQ _ _ _ hv
  · have hv := hv.2 q3
    refine ⟨fun q4 => ?_, fun q4 => ?_⟩
    · have hv := hv.1 q4
      refine ⟨rfl, ?_⟩
      refine u_M_fillsPairs N x1 I2 J2 _ _ (fun r5 I6 J6 hv => ?_) hv
      refine ⟨fun q7 => ?_, fun q7 => ?_⟩
      · have hv := hv.1 q7
        refine ⟨fun q8 => ?_, fun q8 => ?_⟩
        · have hv := hv.1 q8
          refine u_M_two_45 N N x2 (-1 : Int32) (-1 : Int32) I6 J6 Q _ hQ _ _ (fun w9 I10 J10 hv => ?_)  hv
          obtain ⟨g11, hv⟩ := hv
          refine ⟨g11, ?_⟩
          obtain ⟨g12, hv⟩ := hv
          refine ⟨g12, ?_⟩
          exact hQ _ _ _ hv
        · have hv := hv.2 q8
          exact hQ _ _ _ hv
      · have hv := hv.2 q7
        exact hQ _ _ _ hv
    · have hv := hv.2 q4
      exact hQ _ _ _ hv
theorem u_M_worstOf_16 (N k : Nat) (x1 : Int32) (x2 : Int32) (x3 : Int32) (x4 : Int32) (x5 : Int32) (I : zI) (J : zJ) (Q : Int32 → zI → zJ → Prop) (Q' : Int32 → qH → Prop) (hQ : ∀ (r : Int32) (I : zI) (J : zJ), Q r I J → Q' r (zH I J)) (K58 : Int32 → Int32 → Int32 → Int32 → zI → zJ → Prop) (K58' : Nat → Int32 → Int32 → Int32 → Int32 → qH → Prop) (hK58 : ∀ (x1 : Int32) (x2 : Int32) (x3 : Int32) (x4 : Int32) (I : zI) (J : zJ), K58 x1 x2 x3 x4 I J → K58' 361 x1 x2 x3 x4 (zH I J)) (hv : v_M_worstOf_16 N k x1 x2 x3 x4 x5 I J Q K58) : w_M_worstOf_16 N k 361 x1 x2 x3 x4 x5 (zH I J) Q' K58' := by
  induction k generalizing x1 x2 x3 x4 x5 I J with
  | zero => exact hv.elim
  | succ k ih =>
    rw [w_M_worstOf_16]
    rw [v_M_worstOf_16] at hv
    refine ⟨fun q1 => ?_, fun q1 => ?_⟩
    · have hv := hv.1 q1
      exact hK58 x1 x2 x3 x4 I J hv
    · have hv := hv.2 q1
      refine ⟨rfl, ?_⟩
      obtain ⟨g2, hv⟩ := hv
      refine ⟨qok_mk rfl g2, ?_⟩
      refine ⟨fun q3 => ?_, fun q3 => ?_⟩
      · have hv := hv.1 q3
        exact ih x1 x2 x3 x4 (x5 + (1 : Int32)) I J hv
      · have hv := hv.2 q3
        obtain ⟨g4, hv⟩ := hv
        refine ⟨qok_mk rfl g4, ?_⟩
        refine ⟨fun q5 => ?_, fun q5 => ?_⟩
        · have hv := hv.1 q5
          exact ih x1 x2 x3 x4 (x5 + (1 : Int32)) I J hv
        · have hv := hv.2 q5
          exact ih x1 x2 x3 (x4 + (1 : Int32)) (x5 + (1 : Int32)) I J hv
theorem u_M_worstOf_4 (N k : Nat) (x1 : Int32) (x2 : Int32) (x3 : Int32) (I : zI) (J : zJ) (Q : Int32 → zI → zJ → Prop) (Q' : Int32 → qH → Prop) (hQ : ∀ (r : Int32) (I : zI) (J : zJ), Q r I J → Q' r (zH I J)) (hv : v_M_worstOf_4 N k x1 x2 x3 I J Q ) : w_M_worstOf_4 N k 361 x1 x2 x3 (zH I J) Q'  := by
  induction k generalizing x1 x2 x3 I J with
  | zero => exact hv.elim
  | succ k ih =>
    rw [w_M_worstOf_4]
    rw [v_M_worstOf_4] at hv
    refine ⟨fun q1 => ?_, fun q1 => ?_⟩
    · have hv := hv.1 q1
      exact hQ _ _ _ hv
    · have hv := hv.2 q1
      refine u_M_worstOf_16 N N x1 x2 x3 (0 : Int32) (0 : Int32) I J Q _ hQ _ _ (fun w2 w3 w4 w5 I6 J6 hv => ?_)  hv
      refine ⟨fun q7 => ?_, fun q7 => ?_⟩
      · have hv := hv.1 q7
        exact ih w2 w3 (w4 + (1 : Int32)) I6 J6 hv
      · have hv := hv.2 q7
        exact ih w2 w5 (w4 + (1 : Int32)) I6 J6 hv
theorem u_M_worstOf (N : Nat) (x1 : Int32) (I : zI) (J : zJ) (Q : Int32 → zI → zJ → Prop) (Q' : Int32 → qH → Prop) (hQ : ∀ (r : Int32) (I : zI) (J : zJ), Q r I J → Q' r (zH I J)) (hv : v_M_worstOf N x1 I J Q) : w_M_worstOf N 361 x1 (zH I J) Q' := by
  unfold w_M_worstOf
  unfold v_M_worstOf at hv
  exact u_M_worstOf_4 N N x1 (0 : Int32) (0 : Int32) I J Q _ hQ   hv
theorem u_M_ask_26 (N k : Nat) (x2 : Int32) (x3 : Int32) (x4 : Int32) (I : zI) (J : zJ) (Q : Int32 → zI → zJ → Prop) (Q' : Int32 → qH → Prop) (hQ : ∀ (r : Int32) (I : zI) (J : zJ), Q r I J → Q' r (zH I J)) (hv : v_M_ask_26 N k x2 x3 x4 I J Q ) : w_M_ask_26 N k 361 x2 x3 x4 (zH I J) Q'  := by
  induction k generalizing x2 x3 x4 I J with
  | zero => exact hv.elim
  | succ k ih =>
    rw [w_M_ask_26]
    rw [v_M_ask_26] at hv
    refine ⟨rfl, ?_⟩
    obtain ⟨g1, hv⟩ := hv
    refine ⟨qok_mk rfl g1, ?_⟩
    refine ⟨fun q2 => ?_, fun q2 => ?_⟩
    · have hv := hv.1 q2
      exact hQ _ _ _ hv
    · have hv := hv.2 q2
      refine ⟨fun q3 => ?_, fun q3 => ?_⟩
      · have hv := hv.1 q3
        exact hQ _ _ _ hv
      · have hv := hv.2 q3
        refine ⟨fun q4 => ?_, fun q4 => ?_⟩
        · have hv := hv.1 q4
          exact ih x2 x4 (x4 + (1 : Int32)) I J hv
        · have hv := hv.2 q4
          refine u_M_worstOf N x4 I J _ _ (fun r5 I6 J6 hv => ?_) hv
          refine ⟨rfl, ?_⟩
          refine u_M_worstOf N x3 I6 J6 _ _ (fun r7 I8 J8 hv => ?_) hv
          refine ⟨fun q9 => ?_, fun q9 => ?_⟩
          · have hv := hv.1 q9
            exact ih x2 x3 (x4 + (1 : Int32)) I8 J8 hv
          · have hv := hv.2 q9
            exact ih x2 x4 (x4 + (1 : Int32)) I8 J8 hv
theorem u_M_ask (N : Nat) (x1 : Int32) (I : zI) (J : zJ) (Q : Int32 → zI → zJ → Prop) (Q' : Int32 → qH → Prop) (hQ : ∀ (r : Int32) (I : zI) (J : zJ), Q r I J → Q' r (zH I J)) (hv : v_M_ask N x1 I J Q) : w_M_ask N 361 x1 (zH I J) Q' := by
  unfold w_M_ask
  unfold v_M_ask at hv
  refine ⟨rfl, ?_⟩
  refine u_M_in N x1 (0 : Int32) (I 361 63) I J _ _ (fun r1 I2 J2 hv => ?_) hv
  refine ⟨fun q3 => ?_, fun q3 => ?_⟩
  · have hv := hv.1 q3
    refine ⟨rfl, ?_⟩
    refine u_M_fillsPairs N x1 I2 J2 _ _ (fun r4 I5 J5 hv => ?_) hv
    exact u_M_ask_26 N N r4 (-2 : Int32) (0 : Int32) I5 J5 Q _ hQ   hv
  · have hv := hv.2 q3
    exact hQ _ _ _ hv
theorem u_M_hold_20 (N k : Nat) (x1 : Int32) (x2 : Int32) (I : zI) (J : zJ) (Q : Int32 → zI → zJ → Prop) (Q' : Int32 → qH → Prop) (hQ : ∀ (r : Int32) (I : zI) (J : zJ), Q r I J → Q' r (zH I J)) (hv : v_M_hold_20 N k x1 x2 I J Q ) : w_M_hold_20 N k 361 x1 x2 (zH I J) Q'  := by
  induction k generalizing x1 x2 I J with
  | zero => exact hv.elim
  | succ k ih =>
    rw [w_M_hold_20]
    rw [v_M_hold_20] at hv
    refine ⟨fun q1 => ?_, fun q1 => ?_⟩
    · have hv := hv.1 q1
      exact ⟨Or.inr rfl, hQ _ _ _ hv⟩
    · have hv := hv.2 q1
      refine ⟨rfl, ?_⟩
      obtain ⟨g2, hv⟩ := hv
      refine ⟨qok_mk rfl g2, ?_⟩
      obtain ⟨g3, hv⟩ := hv
      refine ⟨qok_mk rfl g3, ?_⟩
      obtain ⟨I4, eI4⟩ : ∃ z, z = qu I 409 ((((32 : Int32) * x1) + x2)).toNatClampNeg (I 393 (x2).toNatClampNeg) := ⟨_, rfl⟩
      have hv := hv I4 eI4
      intro h4 eh4
      have eh4 : h4 = zH I4 J := by rw [eh4, eI4]; rfl
      subst eh4
      exact ih x1 (x2 + (1 : Int32)) I4 J hv
theorem u_M_hold (N : Nat) (x1 : Int32) (I : zI) (J : zJ) (Q : Int32 → zI → zJ → Prop) (Q' : Int32 → qH → Prop) (hQ : ∀ (r : Int32) (I : zI) (J : zJ), Q r I J → Q' r (zH I J)) (hv : v_M_hold N x1 I J Q) : w_M_hold N 361 x1 (zH I J) Q' := by
  unfold w_M_hold
  unfold v_M_hold at hv
  refine u_M_in N x1 (0 : Int32) (2 : Int32) I J _ _ (fun r1 I2 J2 hv => ?_) hv
  refine ⟨fun q3 => ?_, fun q3 => ?_⟩
  · have hv := hv.1 q3
    refine ⟨rfl, ?_⟩
    obtain ⟨g4, hv⟩ := hv
    refine ⟨qok_mk rfl g4, ?_⟩
    obtain ⟨I5, eI5⟩ : ∃ z, z = qu I2 408 (x1).toNatClampNeg (vp_nar .boolean (1 : Int32)) := ⟨_, rfl⟩
    have hv := hv I5 eI5
    intro h5 eh5
    have eh5 : h5 = zH I5 J2 := by rw [eh5, eI5]; rfl
    subst eh5
    exact u_M_hold_20 N N x1 (0 : Int32) I5 J2 Q _ hQ   hv
  · have hv := hv.2 q3
    exact ⟨Or.inl rfl, hQ _ _ _ hv⟩
theorem u_M_restore_22 (N k : Nat) (x1 : Int32) (x2 : Int32) (I : zI) (J : zJ) (Q : Int32 → zI → zJ → Prop) (Q' : Int32 → qH → Prop) (hQ : ∀ (r : Int32) (I : zI) (J : zJ), Q r I J → Q' r (zH I J)) (hv : v_M_restore_22 N k x1 x2 I J Q ) : w_M_restore_22 N k 361 x1 x2 (zH I J) Q'  := by
  induction k generalizing x1 x2 I J with
  | zero => exact hv.elim
  | succ k ih =>
    rw [w_M_restore_22]
    rw [v_M_restore_22] at hv
    refine ⟨fun q1 => ?_, fun q1 => ?_⟩
    · have hv := hv.1 q1
      refine ⟨rfl, ?_⟩
      obtain ⟨I2, eI2⟩ : ∃ z, z = qu I 361 57 (0 : Int32) := ⟨_, rfl⟩
      have hv := hv I2 eI2
      intro h2 eh2
      have eh2 : h2 = zH I2 J := by rw [eh2, eI2]; rfl
      subst eh2
      exact ⟨Or.inr rfl, hQ _ _ _ hv⟩
    · have hv := hv.2 q1
      refine ⟨rfl, ?_⟩
      obtain ⟨g3, hv⟩ := hv
      refine ⟨qok_mk rfl g3, ?_⟩
      obtain ⟨g4, hv⟩ := hv
      refine ⟨qok_mk rfl g4, ?_⟩
      obtain ⟨I5, eI5⟩ : ∃ z, z = qu I 393 (x2).toNatClampNeg (I 409 ((((32 : Int32) * x1) + x2)).toNatClampNeg) := ⟨_, rfl⟩
      have hv := hv I5 eI5
      intro h5 eh5
      have eh5 : h5 = zH I5 J := by rw [eh5, eI5]; rfl
      subst eh5
      exact ih x1 (x2 + (1 : Int32)) I5 J hv
theorem u_M_restore (N : Nat) (x1 : Int32) (I : zI) (J : zJ) (Q : Int32 → zI → zJ → Prop) (Q' : Int32 → qH → Prop) (hQ : ∀ (r : Int32) (I : zI) (J : zJ), Q r I J → Q' r (zH I J)) (hv : v_M_restore N x1 I J Q) : w_M_restore N 361 x1 (zH I J) Q' := by
  unfold w_M_restore
  unfold v_M_restore at hv
  refine u_M_in N x1 (0 : Int32) (2 : Int32) I J _ _ (fun r1 I2 J2 hv => ?_) hv
  refine ⟨fun q3 => ?_, fun q3 => ?_⟩
  · have hv := hv.1 q3
    exact ⟨Or.inl rfl, hQ _ _ _ hv⟩
  · have hv := hv.2 q3
    refine ⟨rfl, ?_⟩
    obtain ⟨g4, hv⟩ := hv
    refine ⟨qok_mk rfl g4, ?_⟩
    refine ⟨fun q5 => ?_, fun q5 => ?_⟩
    · have hv := hv.1 q5
      exact u_M_restore_22 N N x1 (0 : Int32) I2 J2 Q _ hQ   hv
    · have hv := hv.2 q5
      exact ⟨Or.inl rfl, hQ _ _ _ hv⟩
theorem u_M_sumNow_5 (N k : Nat) (x1 : Int32) (x2 : Int32) (x3 : Int32) (x4 : Int32) (I : zI) (J : zJ) (Q : Int32 → zI → zJ → Prop) (Q' : Int32 → qH → Prop) (hQ : ∀ (r : Int32) (I : zI) (J : zJ), Q r I J → Q' r (zH I J)) (hv : v_M_sumNow_5 N k x1 x2 x3 x4 I J Q ) : w_M_sumNow_5 N k 361 x1 x2 x3 x4 (zH I J) Q'  := by
  induction k generalizing x1 x2 x3 x4 I J with
  | zero => exact hv.elim
  | succ k ih =>
    rw [w_M_sumNow_5]
    rw [v_M_sumNow_5] at hv
    refine ⟨fun q1 => ?_, fun q1 => ?_⟩
    · have hv := hv.1 q1
      exact hQ _ _ _ hv
    · have hv := hv.2 q1
      refine ⟨rfl, ?_⟩
      obtain ⟨g2, hv⟩ := hv
      refine ⟨qok_mk rfl g2, ?_⟩
      intro y3 ey3
      have hv := hv y3 ey3
      exact ih x1 x2 y3 (x4 + (1 : Int32)) I J hv
theorem u_M_sumNow (N : Nat) (x1 : Int32) (x2 : Int32) (I : zI) (J : zJ) (Q : Int32 → zI → zJ → Prop) (Q' : Int32 → qH → Prop) (hQ : ∀ (r : Int32) (I : zI) (J : zJ), Q r I J → Q' r (zH I J)) (hv : v_M_sumNow N x1 x2 I J Q) : w_M_sumNow N 361 x1 x2 (zH I J) Q' := by
  unfold w_M_sumNow
  unfold v_M_sumNow at hv
  exact u_M_sumNow_5 N N x1 x2 (0 : Int32) x1 I J Q _ hQ   hv
theorem u_M_count_110 (N k : Nat) (x2 : Int32) (x3 : Int32) (I : zI) (J : zJ) (Q : Int32 → zI → zJ → Prop) (Q' : Int32 → qH → Prop) (hQ : ∀ (r : Int32) (I : zI) (J : zJ), Q r I J → Q' r (zH I J)) (hv : v_M_count_110 N k x2 x3 I J Q ) : w_M_count_110 N k 361 x2 x3 (zH I J) Q'  := by
  induction k generalizing x2 x3 I J with
  | zero => exact hv.elim
  | succ k ih =>
    rw [w_M_count_110]
    rw [v_M_count_110] at hv
    refine ⟨rfl, ?_⟩
    obtain ⟨g1, hv⟩ := hv
    refine ⟨qok_mk rfl g1, ?_⟩
    refine ⟨fun q2 => ?_, fun q2 => ?_⟩
    · have hv := hv.1 q2
      exact hQ _ _ _ hv
    · have hv := hv.2 q2
      refine u_M_isUp N x3 I J _ _ (fun r3 I4 J4 hv => ?_) hv
      refine ⟨fun q5 => ?_, fun q5 => ?_⟩
      · have hv := hv.1 q5
        exact ih x2 (x3 + (1 : Int32)) I4 J4 hv
      · have hv := hv.2 q5
        intro y6 ey6
        have hv := hv y6 ey6
        exact ih y6 (x3 + (1 : Int32)) I4 J4 hv
theorem u_M_count_147 (N k : Nat) (x2 : Int32) (x3 : Int32) (I : zI) (J : zJ) (Q : Int32 → zI → zJ → Prop) (Q' : Int32 → qH → Prop) (hQ : ∀ (r : Int32) (I : zI) (J : zJ), Q r I J → Q' r (zH I J)) (hv : v_M_count_147 N k x2 x3 I J Q ) : w_M_count_147 N k 361 x2 x3 (zH I J) Q'  := by
  induction k generalizing x2 x3 I J with
  | zero => exact hv.elim
  | succ k ih =>
    rw [w_M_count_147]
    rw [v_M_count_147] at hv
    refine ⟨rfl, ?_⟩
    obtain ⟨g1, hv⟩ := hv
    refine ⟨qok_mk rfl g1, ?_⟩
    refine ⟨fun q2 => ?_, fun q2 => ?_⟩
    · have hv := hv.1 q2
      exact hQ _ _ _ hv
    · have hv := hv.2 q2
      refine u_M_whoIsOn N x3 I J _ _ (fun r3 I4 J4 hv => ?_) hv
      refine ⟨fun q5 => ?_, fun q5 => ?_⟩
      · have hv := hv.1 q5
        exact ih x2 (x3 + (1 : Int32)) I4 J4 hv
      · have hv := hv.2 q5
        intro y6 ey6
        have hv := hv y6 ey6
        exact ih y6 (x3 + (1 : Int32)) I4 J4 hv
theorem u_M_count_248 (N : Nat) (z0 : Int32) (z1 : Int32) (I : zI) (J : zJ) (Q : Int32 → zI → zJ → Prop) (Q' : Int32 → qH → Prop) (hQ : ∀ (r : Int32) (I : zI) (J : zJ), Q r I J → Q' r (zH I J)) (hv : v_M_count_248 N z0 z1 I J Q ) : w_M_count_248 N 361 z0 z1 (zH I J) Q'  := by
  unfold w_M_count_248
  unfold v_M_count_248 at hv
  refine ⟨rfl, ?_⟩
  obtain ⟨g1, hv⟩ := hv
  refine ⟨qok_mk rfl g1, ?_⟩
  refine ⟨fun q2 => ?_, fun q2 => ?_⟩
  · have hv := hv.1 q2
    exact hQ _ _ _ hv
  · have hv := hv.2 q2
    exact hQ _ _ _ hv
theorem u_M_count_234 (N : Nat) (z0 : Int32) (I : zI) (J : zJ) (Q : Int32 → zI → zJ → Prop) (Q' : Int32 → qH → Prop) (hQ : ∀ (r : Int32) (I : zI) (J : zJ), Q r I J → Q' r (zH I J)) (hv : v_M_count_234 N z0 I J Q ) : w_M_count_234 N 361 z0 (zH I J) Q'  := by
  unfold w_M_count_234
  unfold v_M_count_234 at hv
  refine ⟨rfl, ?_⟩
  obtain ⟨g1, hv⟩ := hv
  refine ⟨qok_mk rfl g1, ?_⟩
  refine ⟨fun q2 => ?_, fun q2 => ?_⟩
  · have hv := hv.1 q2
    exact u_M_count_248 N (0 : Int32) z0 I J Q _ hQ   hv
  · have hv := hv.2 q2
    exact u_M_count_248 N (1 : Int32) z0 I J Q _ hQ   hv
theorem u_M_count_285 (N k : Nat) (x2 : Int32) (x3 : Int32) (I : zI) (J : zJ) (Q : Int32 → zI → zJ → Prop) (Q' : Int32 → qH → Prop) (hQ : ∀ (r : Int32) (I : zI) (J : zJ), Q r I J → Q' r (zH I J)) (hv : v_M_count_285 N k x2 x3 I J Q ) : w_M_count_285 N k 361 x2 x3 (zH I J) Q'  := by
  induction k generalizing x2 x3 I J with
  | zero => exact hv.elim
  | succ k ih =>
    rw [w_M_count_285]
    rw [v_M_count_285] at hv
    refine ⟨fun q1 => ?_, fun q1 => ?_⟩
    · have hv := hv.1 q1
      exact hQ _ _ _ hv
    · have hv := hv.2 q1
      refine ⟨rfl, ?_⟩
      refine u_M_manyOn N x3 I J _ _ (fun r2 I3 J3 hv => ?_) hv
      refine ⟨fun q4 => ?_, fun q4 => ?_⟩
      · have hv := hv.1 q4
        exact ih x2 (x3 + (1 : Int32)) I3 J3 hv
      · have hv := hv.2 q4
        intro y5 ey5
        have hv := hv y5 ey5
        exact ih y5 (x3 + (1 : Int32)) I3 J3 hv
theorem u_M_count (N : Nat) (x1 : Int32) (I : zI) (J : zJ) (Q : Int32 → zI → zJ → Prop) (Q' : Int32 → qH → Prop) (hQ : ∀ (r : Int32) (I : zI) (J : zJ), Q r I J → Q' r (zH I J)) (hv : v_M_count N x1 I J Q) : w_M_count N 361 x1 (zH I J) Q' := by
  unfold w_M_count
  unfold v_M_count at hv
  refine ⟨rfl, ?_⟩
  refine u_M_copies N  I J _ _ (fun I1 J1 hv => ?_) hv
  refine ⟨fun q2 => ?_, fun q2 => ?_⟩
  · have hv := hv.1 q2
    refine ⟨rfl, ?_⟩
    obtain ⟨g3, hv⟩ := hv
    refine ⟨qok_mk rfl g3, ?_⟩
    exact hQ _ _ _ hv
  · have hv := hv.2 q2
    refine ⟨fun q4 => ?_, fun q4 => ?_⟩
    · have hv := hv.1 q4
      refine ⟨rfl, ?_⟩
      obtain ⟨g5, hv⟩ := hv
      refine ⟨qok_mk rfl g5, ?_⟩
      exact hQ _ _ _ hv
    · have hv := hv.2 q4
      refine ⟨fun q6 => ?_, fun q6 => ?_⟩
      · have hv := hv.1 q6
        refine ⟨rfl, ?_⟩
        obtain ⟨g7, hv⟩ := hv
        refine ⟨qok_mk rfl g7, ?_⟩
        exact hQ _ _ _ hv
      · have hv := hv.2 q6
        refine ⟨fun q8 => ?_, fun q8 => ?_⟩
        · have hv := hv.1 q8
          exact u_M_count_110 N N (0 : Int32) (0 : Int32) I1 J1 Q _ hQ   hv
        · have hv := hv.2 q8
          refine ⟨fun q9 => ?_, fun q9 => ?_⟩
          · have hv := hv.1 q9
            exact u_M_count_147 N N (0 : Int32) (0 : Int32) I1 J1 Q _ hQ   hv
          · have hv := hv.2 q9
            refine ⟨fun q10 => ?_, fun q10 => ?_⟩
            · have hv := hv.1 q10
              refine ⟨rfl, ?_⟩
              refine u_M_ownBits N  I1 J1 _ _ (fun r11 I12 J12 hv => ?_) hv
              exact hQ _ _ _ hv
            · have hv := hv.2 q10
              refine ⟨fun q13 => ?_, fun q13 => ?_⟩
              · have hv := hv.1 q13
                refine ⟨rfl, ?_⟩
                refine u_M_sumNow N (18 : Int32) (6 : Int32) I1 J1 _ _ (fun r14 I15 J15 hv => ?_) hv
                exact hQ _ _ _ hv
              · have hv := hv.2 q13
                refine ⟨fun q16 => ?_, fun q16 => ?_⟩
                · have hv := hv.1 q16
                  refine ⟨rfl, ?_⟩
                  refine u_M_sumNow N (24 : Int32) (7 : Int32) I1 J1 _ _ (fun r17 I18 J18 hv => ?_) hv
                  exact hQ _ _ _ hv
                · have hv := hv.2 q16
                  refine ⟨fun q19 => ?_, fun q19 => ?_⟩
                  · have hv := hv.1 q19
                    refine ⟨rfl, ?_⟩
                    exact hQ _ _ _ hv
                  · have hv := hv.2 q19
                    refine ⟨fun q20 => ?_, fun q20 => ?_⟩
                    · have hv := hv.1 q20
                      refine ⟨rfl, ?_⟩
                      exact hQ _ _ _ hv
                    · have hv := hv.2 q20
                      refine ⟨fun q21 => ?_, fun q21 => ?_⟩
                      · have hv := hv.1 q21
                        refine ⟨rfl, ?_⟩
                        exact hQ _ _ _ hv
                      · have hv := hv.2 q21
                        refine ⟨fun q22 => ?_, fun q22 => ?_⟩
                        · have hv := hv.1 q22
                          refine ⟨rfl, ?_⟩
                          obtain ⟨g23, hv⟩ := hv
                          refine ⟨qok_mk rfl g23, ?_⟩
                          refine ⟨fun q24 => ?_, fun q24 => ?_⟩
                          · have hv := hv.1 q24
                            exact u_M_count_234 N (0 : Int32) I1 J1 Q _ hQ   hv
                          · have hv := hv.2 q24
                            exact u_M_count_234 N (1 : Int32) I1 J1 Q _ hQ   hv
                        · have hv := hv.2 q22
                          refine ⟨fun q25 => ?_, fun q25 => ?_⟩
                          · have hv := hv.1 q25
                            refine ⟨rfl, ?_⟩
                            refine u_M_isMoth N  I1 J1 _ _ (fun r26 I27 J27 hv => ?_) hv
                            refine ⟨fun q28 => ?_, fun q28 => ?_⟩
                            · have hv := hv.1 q28
                              exact hQ _ _ _ hv
                            · have hv := hv.2 q28
                              exact hQ _ _ _ hv
                          · have hv := hv.2 q25
                            refine ⟨fun q29 => ?_, fun q29 => ?_⟩
                            · have hv := hv.1 q29
                              refine ⟨rfl, ?_⟩
                              refine u_M_costsAll N  I1 J1 _ _ (fun r30 I31 J31 hv => ?_) hv
                              exact hQ _ _ _ hv
                            · have hv := hv.2 q29
                              refine ⟨fun q32 => ?_, fun q32 => ?_⟩
                              · have hv := hv.1 q32
                                exact u_M_count_285 N N (0 : Int32) (0 : Int32) I1 J1 Q _ hQ   hv
                              · have hv := hv.2 q32
                                exact hQ _ _ _ hv
