/-! over the layout: written by wip/whole/emitv.py -/
def v_X_feed (N : Nat) (x1 : Int32) (x2 : Int32) (x3 : Int32) (x4 : Int32) (x5 : Int32) (I : zI) (J : zJ) (Q : Int32 → zI → zJ → Prop) : Prop := (v_Tape_hasRoomFor N (20 : Int32) I J (fun r1 I2 J2 => ((¬ r1 = 0 → (v_Tape_addFour N x1 I2 J2 (fun I4 J4 => (v_Tape_addFour N x2 I4 J4 (fun I5 J5 => (v_Tape_addFour N x3 I5 J5 (fun I6 J6 => (v_Tape_addFour N x4 I6 J6 (fun I7 J7 => (v_Tape_addFour N x5 I7 J7 (fun I8 J8 => Q (I8 2 1) I8 J8))))))))))) ∧ (r1 = 0 → Q (-1 : Int32) I2 J2))))
def v_X_back (N : Nat) (x1 : Int32) (I : zI) (J : zJ) (Q : Int32 → zI → zJ → Prop) : Prop := ((x1 < 0 → Q (-1 : Int32) I J) ∧ (¬ x1 < 0 → ((x1 ≤ (I 2 1) → (∀ I3 : zI, I3 = qu I 2 1 ((I 2 1) - x1) → Q (I3 2 1) I3 J)) ∧ (¬ x1 ≤ (I 2 1) → Q (-1 : Int32) I J))))
def v_X_read (N : Nat)  (I : zI) (J : zJ) (Q : Int32 → zI → zJ → Prop) : Prop := (v_Reader_readAll N  I J (fun r1 I2 J2 => (∀ I3 : zI, I3 = qu I2 2 1 (0 : Int32) → ((¬ r1 = 0 → Q r1 I3 J2) ∧ (r1 = 0 → (v_Text_become N 8 27 I3 J2 (fun I5 J5 => (v_State_begin N 49 I5 J5 (fun I6 J6 => (v_Past_drop N  I6 J6 (fun I7 J7 => (∀ I8 : zI, I8 = qu I7 83 7 (0 : Int32) → (∀ I9 : zI, I9 = qu I8 1 11 (0 : Int32) → Q r1 I9 J7)))))))))))))
def v_X_place (N : Nat)  (I : zI) (J : zJ) (Q : Int32 → zI → zJ → Prop) : Prop := Q (I 26 13) I J
def v_X_isHanger (N : Nat) (x1 : Int32) (I : zI) (J : zJ) (Q : Int32 → zI → zJ → Prop) : Prop := ((x1 < 0 → Q (0 : Int32) I J) ∧ (¬ x1 < 0 → (((I 8 0) ≤ x1 → Q (0 : Int32) I J) ∧ (¬ (I 8 0) ≤ x1 → Q (1 : Int32) I J))))
def v_X_hanger (N : Nat) (x1 : Int32) (x2 : Int32) (I : zI) (J : zJ) (Q : Int32 → zI → zJ → Prop) : Prop := (v_X_isHanger N x1 I J (fun r1 I2 J2 => ((¬ r1 = 0 → ((x2 = (0 : Int32) → (vp_in x1 7 ∧ Q (I2 9 (x1).toNatClampNeg) I2 J2)) ∧ (¬ x2 = (0 : Int32) → ((x2 = (1 : Int32) → (vp_in x1 7 ∧ Q (I2 10 (x1).toNatClampNeg) I2 J2)) ∧ (¬ x2 = (1 : Int32) → ((x2 = (2 : Int32) → (vp_in x1 7 ∧ Q (I2 54 (x1).toNatClampNeg) I2 J2)) ∧ (¬ x2 = (2 : Int32) → ((x2 = (3 : Int32) → (v_State_whoIsOn N 49 x1 I2 J2 (fun r11 I12 J12 => Q r11 I12 J12))) ∧ (¬ x2 = (3 : Int32) → Q (-1 : Int32) I2 J2))))))))) ∧ (r1 = 0 → Q (-1 : Int32) I2 J2))))
def v_X_isPerson (N : Nat) (x1 : Int32) (I : zI) (J : zJ) (Q : Int32 → zI → zJ → Prop) : Prop := ((x1 < 0 → Q (0 : Int32) I J) ∧ (¬ x1 < 0 → (((I 8 3) ≤ x1 → Q (0 : Int32) I J) ∧ (¬ (I 8 3) ≤ x1 → Q (1 : Int32) I J))))
def v_X_person (N : Nat) (x1 : Int32) (x2 : Int32) (I : zI) (J : zJ) (Q : Int32 → zI → zJ → Prop) : Prop := (v_X_isPerson N x1 I J (fun r1 I2 J2 => ((¬ r1 = 0 → ((x2 = (0 : Int32) → (vp_in x1 6 ∧ Q (I2 50 (x1).toNatClampNeg) I2 J2)) ∧ (¬ x2 = (0 : Int32) → ((x2 = (1 : Int32) → (vp_in x1 6 ∧ Q (I2 12 (x1).toNatClampNeg) I2 J2)) ∧ (¬ x2 = (1 : Int32) → ((x2 = (2 : Int32) → (vp_in x1 6 ∧ Q (I2 51 (x1).toNatClampNeg) I2 J2)) ∧ (¬ x2 = (2 : Int32) → ((x2 = (3 : Int32) → (vp_in x1 6 ∧ Q (I2 52 (x1).toNatClampNeg) I2 J2)) ∧ (¬ x2 = (3 : Int32) → ((x2 = (4 : Int32) → (vp_in x1 6 ∧ Q (I2 53 (x1).toNatClampNeg) I2 J2)) ∧ (¬ x2 = (4 : Int32) → ((x2 = (5 : Int32) → (v_State_othersBeside N 49 x1 I2 J2 (fun r15 I16 J16 => Q r15 I16 J16))) ∧ (¬ x2 = (5 : Int32) → Q (-1 : Int32) I2 J2))))))))))))) ∧ (r1 = 0 → Q (-1 : Int32) I2 J2))))
def v_X_tells (N : Nat) (x1 : Int32) (x2 : Int32) (I : zI) (J : zJ) (Q : Int32 → zI → zJ → Prop) : Prop := (v_X_isPerson N x1 I J (fun r1 I2 J2 => ((r1 = 0 → Q (-1 : Int32) I2 J2) ∧ (¬ r1 = 0 → ((x2 < 0 → Q (-1 : Int32) I2 J2) ∧ (¬ x2 < 0 → ((x2 ≤ (3 : Int32) → (v_State_isHung N 49 x1 I2 J2 (fun r6 I7 J7 => ((¬ r6 = 0 → (v_Reck_lookAtHung N 49 x1 I7 J7 (fun I9 J9 => (v_Reck_lawTells N x2 I9 J9 (fun r10 I11 J11 => Q r10 I11 J11))))) ∧ (r6 = 0 → Q (-2 : Int32) I7 J7))))) ∧ (¬ x2 ≤ (3 : Int32) → Q (-1 : Int32) I2 J2))))))))
def v_X_hang (N : Nat) (x1 : Int32) (x2 : Int32) (I : zI) (J : zJ) (Q : Int32 → zI → zJ → Prop) : Prop := (v_X_isPerson N x1 I J (fun r1 I2 J2 => ((r1 = 0 → Q (0 : Int32) I2 J2) ∧ (¬ r1 = 0 → (v_X_isHanger N x2 I2 J2 (fun r4 I5 J5 => ((¬ r4 = 0 → (v_State_isHung N 49 x1 I5 J5 (fun r7 I8 J8 => ((¬ r7 = 0 → Q (0 : Int32) I8 J8) ∧ (r7 = 0 → (v_State_isTaken N 49 x2 I8 J8 (fun r10 I11 J11 => ((r10 = 0 → (v_Past_keep N 49 I11 J11 (fun I13 J13 => (vp_in x1 6 ∧ ∀ I15 : zI, I15 = qu I13 51 (x1).toNatClampNeg x2 → Q (1 : Int32) I15 J13)))) ∧ (¬ r10 = 0 → Q (0 : Int32) I11 J11))))))))) ∧ (r4 = 0 → Q (0 : Int32) I5 J5))))))))
def v_X_take (N : Nat) (x1 : Int32) (I : zI) (J : zJ) (Q : Int32 → zI → zJ → Prop) : Prop := (v_X_isPerson N x1 I J (fun r1 I2 J2 => ((r1 = 0 → Q (0 : Int32) I2 J2) ∧ (¬ r1 = 0 → (v_State_isHung N 49 x1 I2 J2 (fun r4 I5 J5 => ((¬ r4 = 0 → (v_Past_keep N 49 I5 J5 (fun I7 J7 => (vp_in x1 6 ∧ ∀ I9 : zI, I9 = qu I7 51 (x1).toNatClampNeg (-2 : Int32) → Q (1 : Int32) I9 J7)))) ∧ (r4 = 0 → Q (0 : Int32) I5 J5))))))))
def v_X_change (N : Nat) (x1 : Int32) (x2 : Int32) (I : zI) (J : zJ) (Q : Int32 → zI → zJ → Prop) : Prop := (v_X_isPerson N x1 I J (fun r1 I2 J2 => ((r1 = 0 → Q (0 : Int32) I2 J2) ∧ (¬ r1 = 0 → (v_X_isPerson N x2 I2 J2 (fun r4 I5 J5 => ((r4 = 0 → Q (0 : Int32) I5 J5) ∧ (¬ r4 = 0 → ((¬ x1 = x2 → (v_State_isHung N 49 x1 I5 J5 (fun r8 I9 J9 => ((r8 = 0 → Q (0 : Int32) I9 J9) ∧ (¬ r8 = 0 → (v_State_isHung N 49 x2 I9 J9 (fun r11 I12 J12 => ((¬ r11 = 0 → (v_Past_keep N 49 I12 J12 (fun I14 J14 => (v_State_exchange N 49 x1 x2 I14 J14 (fun I15 J15 => Q (1 : Int32) I15 J15))))) ∧ (r11 = 0 → Q (0 : Int32) I12 J12))))))))) ∧ (x1 = x2 → Q (0 : Int32) I5 J5))))))))))
def v_X_straighten (N : Nat) (x1 : Int32) (I : zI) (J : zJ) (Q : Int32 → zI → zJ → Prop) : Prop := (v_X_isHanger N x1 I J (fun r1 I2 J2 => ((r1 = 0 → Q (0 : Int32) I2 J2) ∧ (¬ r1 = 0 → (v_State_isTaken N 49 x1 I2 J2 (fun r4 I5 J5 => ((¬ r4 = 0 → Q (0 : Int32) I5 J5) ∧ (r4 = 0 → (vp_in x1 7 ∧ ((¬ (I5 54 (x1).toNatClampNeg) = 0 → (v_Past_keep N 49 I5 J5 (fun I9 J9 => (vp_in x1 7 ∧ ∀ I11 : zI, I11 = qu I9 54 (x1).toNatClampNeg (0 : Int32) → Q (1 : Int32) I11 J9)))) ∧ ((I5 54 (x1).toNatClampNeg) = 0 → Q (0 : Int32) I5 J5)))))))))))
def v_X_isFewNights (N : Nat) (x0 : Int32) (I : zI) (J : zJ) (Q : Int32 → zI → zJ → Prop) : Prop := ((x0 < 0 → Q (0 : Int32) I J) ∧ (¬ x0 < 0 → (((60 : Int32) < x0 → Q (0 : Int32) I J) ∧ (¬ (60 : Int32) < x0 → Q (1 : Int32) I J))))
def v_X_nights (N : Nat) (x1 : Int32) (I : zI) (J : zJ) (Q : Int32 → zI → zJ → Prop) : Prop := (v_X_isFewNights N x1 I J (fun r1 I2 J2 => ((¬ r1 = 0 → ((x1 ≤ 0 → Q (I2 49 1) I2 J2) ∧ (¬ x1 ≤ 0 → (v_Past_keep N 49 I2 J2 (fun I5 J5 => (v_Night_goByWithAll N 49 x1 (I5 8 12) I5 J5 (fun I6 J6 => Q (I6 49 1) I6 J6))))))) ∧ (r1 = 0 → Q (-1 : Int32) I2 J2))))
def v_X_undo (N : Nat)  (I : zI) (J : zJ) (Q : Int32 → zI → zJ → Prop) : Prop := (v_Past_giveBack N 49 I J (fun r1 I2 J2 => (qzb r1 ∧ Q r1 I2 J2)))
def v_X_planned_15 (N : Nat) (x1 : Int32) (x2 : Int32) (I : zI) (J : zJ) (Q : Int32 → zI → zJ → Prop)  : Prop := (v_Plan_lookAtCosts N 49 I J (fun I1 J1 => (v_Plan_findBest N x2 (-2 : Int32) I1 J1 (fun r2 I3 J3 => ((¬ x1 = (-1 : Int32) → (v_Plan_hangerFor N x1 (-2 : Int32) I3 J3 (fun r5 I6 J6 => Q r5 I6 J6))) ∧ (x1 = (-1 : Int32) → (v_Plan_costOf N r2 I3 J3 (fun r7 I8 J8 => Q r7 I8 J8))))))))
def v_X_planned (N : Nat) (x1 : Int32) (x2 : Int32) (I : zI) (J : zJ) (Q : Int32 → zI → zJ → Prop) : Prop := ((x1 = (-1 : Int32) → (v_X_planned_15 N x1 x2 I J Q )) ∧ (¬ x1 = (-1 : Int32) → (v_X_isPerson N x1 I J (fun r2 I3 J3 => ((¬ r2 = 0 → (v_X_planned_15 N x1 x2 I3 J3 Q )) ∧ (r2 = 0 → Q (-1 : Int32) I3 J3))))))
def v_X_hanging (N : Nat) (x1 : Int32) (I : zI) (J : zJ) (Q : Int32 → zI → zJ → Prop) : Prop := (v_X_planned N x1 (0 : Int32) I J (fun r1 I2 J2 => Q r1 I2 J2))
def v_X_apart (N : Nat) (x1 : Int32) (I : zI) (J : zJ) (Q : Int32 → zI → zJ → Prop) : Prop := (v_X_planned N x1 (1 : Int32) I J (fun r1 I2 J2 => Q r1 I2 J2))
def v_X_ways (N : Nat) (x1 : Int32) (I : zI) (J : zJ) (Q : Int32 → zI → zJ → Prop) : Prop := ((x1 < 0 → Q (-1 : Int32) I J) ∧ (¬ x1 < 0 → ((x1 ≤ (99 : Int32) → (v_Plan_lookAtCosts N 49 I J (fun I3 J3 => (v_Plan_waysWithin N x1 I3 J3 (fun r4 I5 J5 => Q r4 I5 J5))))) ∧ (¬ x1 ≤ (99 : Int32) → Q (-1 : Int32) I J))))
def v_X_ringFrom_7 (N : Nat) : Nat → Int32 → Int32 → Int32 → zI → zJ → (Int32 → zI → zJ → Prop) → Prop
  | 0 => fun _ _ _ _ _ _ => False
  | k + 1 => fun x2 x3 x4 I J Q  => (((I 8 3) ≤ x4 → Q x2 I J) ∧ (¬ (I 8 3) ≤ x4 → (∀ y2 : Int32, y2 = (x2 ||| ((1 : Int32) <<< (x3 &&& 31))) → (vp_in x3 6 ∧ (∀ y4 : Int32, y4 = (I 52 (x3).toNatClampNeg) → (v_X_ringFrom_7 N k y2 y4 (x4 + (1 : Int32)) I J Q))))))
def v_X_ringFrom (N : Nat) (x1 : Int32) (I : zI) (J : zJ) (Q : Int32 → zI → zJ → Prop) : Prop := (v_X_ringFrom_7 N N (0 : Int32) x1 (0 : Int32) I J Q )
def v_X_sets_6 (N : Nat) : Nat → Int32 → Int32 → Int32 → zI → zJ → (Int32 → zI → zJ → Prop) → Prop
  | 0 => fun _ _ _ _ _ _ => False
  | k + 1 => fun x1 x2 x3 I J Q  => (((I 8 3) ≤ x3 → Q x1 I J) ∧ (¬ (I 8 3) ≤ x3 → ((¬ (x2 &&& ((1 : Int32) <<< (x3 &&& 31))) = 0 → (v_X_sets_6 N k x1 x2 (x3 + (1 : Int32)) I J Q)) ∧ ((x2 &&& ((1 : Int32) <<< (x3 &&& 31))) = 0 → (v_X_ringFrom N x3 I J (fun r3 I4 J4 => (∀ y5 : Int32, y5 = (x2 ||| r3) → (v_X_sets_6 N k (x1 + (1 : Int32)) y5 (x3 + (1 : Int32)) I4 J4 Q))))))))
def v_X_sets (N : Nat)  (I : zI) (J : zJ) (Q : Int32 → zI → zJ → Prop) : Prop := (v_X_sets_6 N N (0 : Int32) (0 : Int32) (0 : Int32) I J Q )
def v_X_changes (N : Nat)  (I : zI) (J : zJ) (Q : Int32 → zI → zJ → Prop) : Prop := (v_X_sets N  I J (fun r1 I2 J2 => Q ((I 8 3) - r1) I2 J2))
def v_X_themselves_25 (N : Nat) : Nat → Int32 → Int32 → zI → zJ → (Int32 → zI → zJ → Prop) → Prop
  | 0 => fun _ _ _ _ _ => False
  | k + 1 => fun x1 x2 I J Q  => (((240 : Int32) < x2 → Q (-2 : Int32) I J) ∧ (¬ (240 : Int32) < x2 → (v_State_bitsOfOwnSelves N 55 I J (fun r2 I3 J3 => ((¬ r2 = x1 → (v_Night_wakeAll N 55 I3 J3 (fun I5 J5 => (v_X_themselves_25 N k x1 (x2 + (1 : Int32)) I5 J5 Q)))) ∧ (r2 = x1 → Q x2 I3 J3))))))
def v_X_themselves (N : Nat)  (I : zI) (J : zJ) (Q : Int32 → zI → zJ → Prop) : Prop := (∀ y1 : Int32, y1 = (((1 : Int32) <<< ((I 8 3) &&& 31)) - (1 : Int32)) → (v_State_become N 55 49 I J (fun I2 J2 => (v_X_themselves_25 N N y1 (0 : Int32) I2 J2 Q ))))
def v_X_crossed_8 (N : Nat) : Nat → Int32 → Int32 → Int32 → Int32 → zI → zJ → (Int32 → zI → zJ → Prop) → Prop
  | 0 => fun _ _ _ _ _ _ _ => False
  | k + 1 => fun x1 x2 x3 x4 I J Q  => (((I 8 3) ≤ x4 → ((x1 = (0 : Int32) → Q x2 I J) ∧ (¬ x1 = (0 : Int32) → ((x1 = (1 : Int32) → Q x3 I J) ∧ (¬ x1 = (1 : Int32) → Q (-1 : Int32) I J))))) ∧ (¬ (I 8 3) ≤ x4 → (vp_in x4 6 ∧ (∀ y5 : Int32, y5 = (I 52 (x4).toNatClampNeg) → ((y5 ≤ x4 → (v_X_crossed_8 N k x1 x2 x3 (x4 + (1 : Int32)) I J Q)) ∧ (¬ y5 ≤ x4 → (vp_in y5 6 ∧ ((¬ (I 52 (y5).toNatClampNeg) = x4 → (v_X_crossed_8 N k x1 x2 x3 (x4 + (1 : Int32)) I J Q)) ∧ ((I 52 (y5).toNatClampNeg) = x4 → ((¬ x3 = (-2 : Int32) → (v_X_crossed_8 N k x1 (x2 + (1 : Int32)) x3 (x4 + (1 : Int32)) I J Q)) ∧ (x3 = (-2 : Int32) → (∀ y10 : Int32, y10 = (((10 : Int32) * x4) + y5) → (v_X_crossed_8 N k x1 (x2 + (1 : Int32)) y10 (x4 + (1 : Int32)) I J Q)))))))))))))
def v_X_crossed (N : Nat) (x1 : Int32) (I : zI) (J : zJ) (Q : Int32 → zI → zJ → Prop) : Prop := (v_X_crossed_8 N N x1 (0 : Int32) (-2 : Int32) (0 : Int32) I J Q )
def v_X_isZeroOrOne (N : Nat) (x0 : Int32) (I : zI) (J : zJ) (Q : Int32 → zI → zJ → Prop) : Prop := ((x0 = 0 → Q (1 : Int32) I J) ∧ (¬ x0 = 0 → ((¬ x0 = (1 : Int32) → Q (0 : Int32) I J) ∧ (x0 = (1 : Int32) → Q (1 : Int32) I J))))
def v_X_fit_27 (N : Nat) : Nat → Int32 → Int32 → Int32 → Int32 → Int32 → zI → zJ → (Int32 → zI → zJ → Prop) → Prop
  | 0 => fun _ _ _ _ _ _ _ _ => False
  | k + 1 => fun x1 x2 x3 x4 x5 I J Q  => (((I 8 0) ≤ x5 → ((¬ x2 = 0 → Q x4 I J) ∧ (x2 = 0 → Q x3 I J))) ∧ (¬ (I 8 0) ≤ x5 → (v_Reck_costAlone N 49 x1 x5 I J (fun r3 I4 J4 => ((x3 = (-2 : Int32) → (v_X_fit_27 N k x1 x2 x5 r3 (x5 + (1 : Int32)) I4 J4 Q)) ∧ (¬ x3 = (-2 : Int32) → ((x4 ≤ r3 → (v_X_fit_27 N k x1 x2 x3 x4 (x5 + (1 : Int32)) I4 J4 Q)) ∧ (¬ x4 ≤ r3 → (v_X_fit_27 N k x1 x2 x5 r3 (x5 + (1 : Int32)) I4 J4 Q)))))))))
def v_X_fit (N : Nat) (x1 : Int32) (x2 : Int32) (I : zI) (J : zJ) (Q : Int32 → zI → zJ → Prop) : Prop := (v_X_isPerson N x1 I J (fun r1 I2 J2 => ((r1 = 0 → Q (-1 : Int32) I2 J2) ∧ (¬ r1 = 0 → (v_X_isZeroOrOne N x2 I2 J2 (fun r4 I5 J5 => ((¬ r4 = 0 → (v_X_fit_27 N N x1 x2 (-2 : Int32) (-2 : Int32) (0 : Int32) I5 J5 Q )) ∧ (r4 = 0 → Q (-1 : Int32) I5 J5))))))))
def v_X_missed_28 (N : Nat) : Nat → Int32 → Int32 → Int32 → Int32 → zI → zJ → (Int32 → zI → zJ → Prop) → (Int32 → Int32 → Int32 → zI → zJ → Prop) → Prop
  | 0 => fun _ _ _ _ _ _ _ _ => False
  | k + 1 => fun x1 x2 x3 x4 I J Q K76 => (((I 8 0) ≤ x4 → (K76 x1 x2 x3 I J)) ∧ (¬ (I 8 0) ≤ x4 → (v_Plan_findBest N (0 : Int32) x4 I J (fun r2 I3 J3 => ((x2 = (-2 : Int32) → (v_X_missed_28 N k x1 x4 r2 (x4 + (1 : Int32)) I3 J3 Q K76)) ∧ (¬ x2 = (-2 : Int32) → ((r2 ≤ x3 → (v_X_missed_28 N k x1 x2 x3 (x4 + (1 : Int32)) I3 J3 Q K76)) ∧ (¬ r2 ≤ x3 → (v_X_missed_28 N k x1 x4 r2 (x4 + (1 : Int32)) I3 J3 Q K76)))))))))
def v_X_missed (N : Nat) (x1 : Int32) (I : zI) (J : zJ) (Q : Int32 → zI → zJ → Prop) : Prop := (v_X_isZeroOrOne N x1 I J (fun r1 I2 J2 => ((¬ r1 = 0 → (v_Plan_lookAtCosts N 49 I2 J2 (fun I4 J4 => (v_X_missed_28 N N x1 (-2 : Int32) (0 : Int32) (0 : Int32) I4 J4 Q (fun w5 w6 w7 I8 J8 => ((w5 = 0 → Q w6 I8 J8) ∧ (¬ w5 = 0 → ((¬ w6 = (-2 : Int32) → (v_Plan_costOf N w7 I8 J8 (fun r11 I12 J12 => Q r11 I12 J12))) ∧ (w6 = (-2 : Int32) → Q w6 I8 J8))))))))) ∧ (r1 = 0 → Q (-1 : Int32) I2 J2))))
def v_X_crowded_7 (N : Nat) : Nat → Int32 → Int32 → Int32 → Int32 → zI → zJ → (Int32 → zI → zJ → Prop) → Prop
  | 0 => fun _ _ _ _ _ _ _ => False
  | k + 1 => fun x1 x2 x3 x4 I J Q  => (((5 : Int32) ≤ x4 → ((x1 = (0 : Int32) → Q x2 I J) ∧ (¬ x1 = (0 : Int32) → ((x1 = (1 : Int32) → Q x3 I J) ∧ (¬ x1 = (1 : Int32) → Q (-1 : Int32) I J))))) ∧ (¬ (5 : Int32) ≤ x4 → (v_State_peopleOnNail N 49 x4 I J (fun r4 I5 J5 => ((r4 ≤ x3 → (v_X_crowded_7 N k x1 x2 x3 (x4 + (1 : Int32)) I5 J5 Q)) ∧ (¬ r4 ≤ x3 → (v_X_crowded_7 N k x1 x4 r4 (x4 + (1 : Int32)) I5 J5 Q)))))))
def v_X_crowded (N : Nat) (x1 : Int32) (I : zI) (J : zJ) (Q : Int32 → zI → zJ → Prop) : Prop := (v_X_crowded_7 N N x1 (0 : Int32) (0 : Int32) (0 : Int32) I J Q )
def v_X_straight_7 (N : Nat) : Nat → Int32 → Int32 → Int32 → zI → zJ → (Int32 → zI → zJ → Prop) → Prop
  | 0 => fun _ _ _ _ _ _ => False
  | k + 1 => fun x1 x2 x3 I J Q  => (((I 8 3) ≤ x3 → Q x1 I J) ∧ (¬ (I 8 3) ≤ x3 → (v_State_isHung N 49 x3 I J (fun r2 I3 J3 => ((r2 = 0 → (v_X_straight_7 N k x1 x2 (x3 + (1 : Int32)) I3 J3 Q)) ∧ (¬ r2 = 0 → ((x1 = (-2 : Int32) → (vp_in x3 6 ∧ (∀ y7 : Int32, y7 = (I3 53 (x3).toNatClampNeg) → (v_X_straight_7 N k x3 y7 (x3 + (1 : Int32)) I3 J3 Q)))) ∧ (¬ x1 = (-2 : Int32) → (vp_in x3 6 ∧ ((x2 ≤ (I3 53 (x3).toNatClampNeg) → (v_X_straight_7 N k x1 x2 (x3 + (1 : Int32)) I3 J3 Q)) ∧ (¬ x2 ≤ (I3 53 (x3).toNatClampNeg) → (∀ y10 : Int32, y10 = (I3 53 (x3).toNatClampNeg) → (v_X_straight_7 N k x3 y10 (x3 + (1 : Int32)) I3 J3 Q)))))))))))))
def v_X_straight (N : Nat)  (I : zI) (J : zJ) (Q : Int32 → zI → zJ → Prop) : Prop := (v_X_straight_7 N N (-2 : Int32) (0 : Int32) (0 : Int32) I J Q )
def v_X_bill_24 (N : Nat) : Nat → Int32 → Int32 → Int32 → zI → zJ → (Int32 → zI → zJ → Prop) → Prop
  | 0 => fun _ _ _ _ _ _ => False
  | k + 1 => fun x1 x2 x3 I J Q  => ((x1 ≤ x3 → Q x2 I J) ∧ (¬ x1 ≤ x3 → (v_Reck_costOfAll N 55 I J (fun r2 I3 J3 => (∀ y4 : Int32, y4 = (x2 + r2) → (v_Night_goByQuietly N 55 I3 J3 (fun I5 J5 => (v_X_bill_24 N k x1 y4 (x3 + (1 : Int32)) I5 J5 Q))))))))
def v_X_bill (N : Nat) (x1 : Int32) (I : zI) (J : zJ) (Q : Int32 → zI → zJ → Prop) : Prop := (v_X_isFewNights N x1 I J (fun r1 I2 J2 => ((¬ r1 = 0 → (v_State_become N 55 49 I2 J2 (fun I4 J4 => (v_X_bill_24 N N x1 (0 : Int32) (0 : Int32) I4 J4 Q )))) ∧ (r1 = 0 → Q (-1 : Int32) I2 J2))))
def v_X_costIfExchanged (N : Nat) (x1 : Int32) (x2 : Int32) (x3 : Int32) (I : zI) (J : zJ) (Q : Int32 → zI → zJ → Prop) : Prop := (v_State_isHung N 49 x1 I J (fun r1 I2 J2 => ((r1 = 0 → Q x3 I2 J2) ∧ (¬ r1 = 0 → (v_State_isHung N 49 x2 I2 J2 (fun r4 I5 J5 => ((¬ r4 = 0 → (v_State_become N 55 49 I5 J5 (fun I7 J7 => (v_State_exchange N 55 x1 x2 I7 J7 (fun I8 J8 => (v_Reck_costOfAll N 55 I8 J8 (fun r9 I10 J10 => Q r9 I10 J10))))))) ∧ (r4 = 0 → Q x3 I5 J5))))))))
def v_X_swap_48 (N : Nat) : Nat → Int32 → Int32 → Int32 → Int32 → Int32 → Int32 → zI → zJ → (Int32 → zI → zJ → Prop) → (Int32 → Int32 → Int32 → Int32 → Int32 → zI → zJ → Prop) → Prop
  | 0 => fun _ _ _ _ _ _ _ _ _ _ => False
  | k + 1 => fun x1 x2 x3 x4 x5 x6 I J Q K99 => (((I 8 3) ≤ x6 → (K99 x1 x2 x3 x4 x5 I J)) ∧ (¬ (I 8 3) ≤ x6 → (v_X_costIfExchanged N x5 x6 x2 I J (fun r2 I3 J3 => (∀ y4 : Int32, y4 = (x2 - r2) → ((y4 ≤ x4 → (v_X_swap_48 N k x1 x2 x3 x4 x5 (x6 + (1 : Int32)) I3 J3 Q K99)) ∧ (¬ y4 ≤ x4 → (∀ y6 : Int32, y6 = (((10 : Int32) * x5) + x6) → (v_X_swap_48 N k x1 x2 y6 y4 x5 (x6 + (1 : Int32)) I3 J3 Q K99)))))))))
def v_X_swap_30 (N : Nat) : Nat → Int32 → Int32 → Int32 → Int32 → Int32 → zI → zJ → (Int32 → zI → zJ → Prop) → (Int32 → Int32 → Int32 → zI → zJ → Prop) → Prop
  | 0 => fun _ _ _ _ _ _ _ _ _ => False
  | k + 1 => fun x1 x2 x3 x4 x5 I J Q K105 => (((I 8 3) ≤ x5 → (K105 x1 x3 x4 I J)) ∧ (¬ (I 8 3) ≤ x5 → (∀ y2 : Int32, y2 = (x5 + (1 : Int32)) → (v_X_swap_48 N N x1 x2 x3 x4 x5 y2 I J Q (fun w3 w4 w5 w6 w7 I8 J8 => (v_X_swap_30 N k w3 w4 w5 w6 (w7 + (1 : Int32)) I8 J8 Q K105))))))
def v_X_swap (N : Nat) (x1 : Int32) (I : zI) (J : zJ) (Q : Int32 → zI → zJ → Prop) : Prop := (v_X_isZeroOrOne N x1 I J (fun r1 I2 J2 => ((¬ r1 = 0 → (v_Reck_costOfAll N 49 I2 J2 (fun r4 I5 J5 => (v_X_swap_30 N N x1 r4 (-2 : Int32) (0 : Int32) (0 : Int32) I5 J5 Q (fun w6 w7 w8 I9 J9 => ((w6 = 0 → Q w7 I9 J9) ∧ (¬ w6 = 0 → ((¬ w7 = (-2 : Int32) → Q w8 I9 J9) ∧ (w7 = (-2 : Int32) → Q w7 I9 J9))))))))) ∧ (r1 = 0 → Q (-1 : Int32) I2 J2))))
def v_X_round_13 (N : Nat) : Nat → Int32 → zI → zJ → (Int32 → zI → zJ → Prop) → Prop
  | 0 => fun _ _ _ _ => False
  | k + 1 => fun x1 I J Q  => (((240 : Int32) < x1 → Q (-2 : Int32) I J) ∧ (¬ (240 : Int32) < x1 → (v_Night_wakeAll N 55 I J (fun I2 J2 => (v_State_hasSelvesOf N 55 49 I2 J2 (fun r3 I4 J4 => ((r3 = 0 → (v_X_round_13 N k (x1 + (1 : Int32)) I4 J4 Q)) ∧ (¬ r3 = 0 → Q x1 I4 J4))))))))
def v_X_round (N : Nat)  (I : zI) (J : zJ) (Q : Int32 → zI → zJ → Prop) : Prop := (v_State_become N 55 49 I J (fun I1 J1 => (v_X_round_13 N N (1 : Int32) I1 J1 Q )))
def v_X_upright_34 (N : Nat) : Nat → Int32 → Int32 → Int32 → zI → zJ → (Int32 → zI → zJ → Prop) → (Int32 → zI → zJ → Prop) → Prop
  | 0 => fun _ _ _ _ _ _ _ => False
  | k + 1 => fun x1 x2 x3 I J Q K56 => ((x1 ≤ x3 → (K56 x2 I J)) ∧ (¬ x1 ≤ x3 → (v_Night_goByQuietly N 55 I J (fun I2 J2 => (v_X_upright_34 N k x1 x2 (x3 + (1 : Int32)) I2 J2 Q K56)))))
def v_X_upright_61 (N : Nat) : Nat → Int32 → Int32 → Int32 → zI → zJ → (Int32 → zI → zJ → Prop) → Prop
  | 0 => fun _ _ _ _ _ _ => False
  | k + 1 => fun x2 x3 x4 I J Q  => (((I 8 3) ≤ x4 → Q x3 I J) ∧ (¬ (I 8 3) ≤ x4 → (vp_in x4 6 ∧ ((x2 ≤ (I 59 (x4).toNatClampNeg) → (∀ y4 : Int32, y4 = (x3 ||| (0 : Int32)) → (v_X_upright_61 N k x2 y4 (x4 + (1 : Int32)) I J Q))) ∧ (¬ x2 ≤ (I 59 (x4).toNatClampNeg) → (∀ y5 : Int32, y5 = (x3 ||| ((1 : Int32) <<< (x4 &&& 31))) → (v_X_upright_61 N k x2 y5 (x4 + (1 : Int32)) I J Q)))))))
def v_X_upright (N : Nat) (x1 : Int32) (x2 : Int32) (I : zI) (J : zJ) (Q : Int32 → zI → zJ → Prop) : Prop := (v_X_isFewNights N x1 I J (fun r1 I2 J2 => ((r1 = 0 → Q (-1 : Int32) I2 J2) ∧ (¬ r1 = 0 → ((x2 < (1 : Int32) → Q (-1 : Int32) I2 J2) ∧ (¬ x2 < (1 : Int32) → ((x2 ≤ (999 : Int32) → (v_State_become N 55 49 I2 J2 (fun I6 J6 => (v_X_upright_34 N N x1 x2 (0 : Int32) I6 J6 Q (fun w7 I8 J8 => (v_X_upright_61 N N w7 (0 : Int32) (0 : Int32) I8 J8 Q )))))) ∧ (¬ x2 ≤ (999 : Int32) → Q (-1 : Int32) I2 J2))))))))
def v_X_holder_2 (N : Nat) : Nat → Int32 → Int32 → zI → zJ → (Int32 → zI → zJ → Prop) → Prop
  | 0 => fun _ _ _ _ _ => False
  | k + 1 => fun x1 x2 I J Q  => (((I 8 3) ≤ x2 → Q (-1 : Int32) I J) ∧ (¬ (I 8 3) ≤ x2 → (vp_in x2 6 ∧ ((¬ (I 52 (x2).toNatClampNeg) = x1 → (v_X_holder_2 N k x1 (x2 + (1 : Int32)) I J Q)) ∧ ((I 52 (x2).toNatClampNeg) = x1 → Q x2 I J)))))
def v_X_holder (N : Nat) (x1 : Int32) (I : zI) (J : zJ) (Q : Int32 → zI → zJ → Prop) : Prop := (v_X_holder_2 N N x1 (0 : Int32) I J Q )
def v_X_free_9 (N : Nat) : Nat → Int32 → Int32 → Int32 → Int32 → zI → zJ → (Int32 → zI → zJ → Prop) → Prop
  | 0 => fun _ _ _ _ _ _ _ => False
  | k + 1 => fun x1 x2 x3 x4 I J Q  => (((I 8 0) ≤ x4 → ((x1 = (0 : Int32) → Q x2 I J) ∧ (¬ x1 = (0 : Int32) → ((x1 = (1 : Int32) → Q x3 I J) ∧ (¬ x1 = (1 : Int32) → Q (-1 : Int32) I J))))) ∧ (¬ (I 8 0) ≤ x4 → (v_State_isTaken N 49 x4 I J (fun r4 I5 J5 => ((¬ r4 = 0 → (v_X_free_9 N k x1 x2 x3 (x4 + (1 : Int32)) I5 J5 Q)) ∧ (r4 = 0 → (vp_in x4 7 ∧ (((I5 10 (x4).toNatClampNeg) ≤ x3 → (v_X_free_9 N k x1 x2 x3 (x4 + (1 : Int32)) I5 J5 Q)) ∧ (¬ (I5 10 (x4).toNatClampNeg) ≤ x3 → (∀ y9 : Int32, y9 = (I5 10 (x4).toNatClampNeg) → (v_X_free_9 N k x1 x4 y9 (x4 + (1 : Int32)) I5 J5 Q)))))))))))
def v_X_free (N : Nat) (x1 : Int32) (I : zI) (J : zJ) (Q : Int32 → zI → zJ → Prop) : Prop := (v_X_free_9 N N x1 (-2 : Int32) (-2 : Int32) (0 : Int32) I J Q )
def v_X_day_23 (N : Nat) : Nat → Int32 → Int32 → zI → zJ → (Int32 → zI → zJ → Prop) → Prop
  | 0 => fun _ _ _ _ _ => False
  | k + 1 => fun x1 x2 I J Q  => (((240 : Int32) < x2 → Q (-2 : Int32) I J) ∧ (¬ (240 : Int32) < x2 → (vp_in x1 6 ∧ ((¬ (I 58 (x1).toNatClampNeg) = x1 → (v_Night_wakeAll N 55 I J (fun I4 J4 => (v_X_day_23 N k x1 (x2 + (1 : Int32)) I4 J4 Q)))) ∧ ((I 58 (x1).toNatClampNeg) = x1 → Q x2 I J)))))
def v_X_day (N : Nat) (x1 : Int32) (I : zI) (J : zJ) (Q : Int32 → zI → zJ → Prop) : Prop := (v_X_isPerson N x1 I J (fun r1 I2 J2 => ((¬ r1 = 0 → (v_State_become N 55 49 I2 J2 (fun I4 J4 => (v_X_day_23 N N x1 (0 : Int32) I4 J4 Q )))) ∧ (r1 = 0 → Q (-1 : Int32) I2 J2))))
def v_X_then (N : Nat) (x1 : Int32) (x2 : Int32) (x3 : Int32) (I : zI) (J : zJ) (Q : Int32 → zI → zJ → Prop) : Prop := (v_X_isPerson N x1 I J (fun r1 I2 J2 => ((r1 = 0 → Q (-1 : Int32) I2 J2) ∧ (¬ r1 = 0 → (v_X_isFewNights N x2 I2 J2 (fun r4 I5 J5 => ((r4 = 0 → Q (-1 : Int32) I5 J5) ∧ (¬ r4 = 0 → ((x3 < 0 → Q (-1 : Int32) I5 J5) ∧ (¬ x3 < 0 → ((x3 ≤ (2 : Int32) → (v_State_become N 55 49 I5 J5 (fun I9 J9 => (v_Night_goByWithAll N 55 x2 (I9 8 12) I9 J9 (fun I10 J10 => ((x3 = (0 : Int32) → (vp_in x1 6 ∧ Q (I10 58 (x1).toNatClampNeg) I10 J10)) ∧ (¬ x3 = (0 : Int32) → ((x3 = (1 : Int32) → (vp_in x1 6 ∧ Q (I10 59 (x1).toNatClampNeg) I10 J10)) ∧ (¬ x3 = (1 : Int32) → (vp_in x1 6 ∧ Q (I10 57 (x1).toNatClampNeg) I10 J10)))))))))) ∧ (¬ x3 ≤ (2 : Int32) → Q (-1 : Int32) I5 J5))))))))))))
def v_X_bentIn (N : Nat) (x1 : Int32) (x2 : Int32) (I : zI) (J : zJ) (Q : Int32 → zI → zJ → Prop) : Prop := (v_X_isHanger N x1 I J (fun r1 I2 J2 => ((r1 = 0 → Q (-1 : Int32) I2 J2) ∧ (¬ r1 = 0 → (v_X_isFewNights N x2 I2 J2 (fun r4 I5 J5 => ((¬ r4 = 0 → (v_State_become N 55 49 I5 J5 (fun I7 J7 => (v_Night_goByWithAll N 55 x2 (I7 8 12) I7 J7 (fun I8 J8 => (vp_in x1 7 ∧ Q (I8 60 (x1).toNatClampNeg) I8 J8)))))) ∧ (r4 = 0 → Q (-1 : Int32) I5 J5))))))))
def v_X_year_34 (N : Nat) : Nat → Int32 → Int32 → Int32 → Int32 → Int32 → zI → zJ → (Int32 → zI → zJ → Prop) → Prop
  | 0 => fun _ _ _ _ _ _ _ _ => False
  | k + 1 => fun x1 x2 x3 x4 x5 I J Q  => ((x3 ≤ x5 → Q x4 I J) ∧ (¬ x3 ≤ x5 → (v_State_become N 55 49 I J (fun I2 J2 => (v_Night_staysHung N 55 x2 ((I2 8 12) + x5) x1 I2 J2 (fun r3 I4 J4 => ((r3 = 0 → (∀ y6 : Int32, y6 = (x4 + (0 : Int32)) → (v_X_year_34 N k x1 x2 x3 y6 (x5 + (1 : Int32)) I4 J4 Q))) ∧ (¬ r3 = 0 → (∀ y7 : Int32, y7 = (x4 + (1 : Int32)) → (v_X_year_34 N k x1 x2 x3 y7 (x5 + (1 : Int32)) I4 J4 Q))))))))))
def v_X_year (N : Nat) (x1 : Int32) (x2 : Int32) (x3 : Int32) (I : zI) (J : zJ) (Q : Int32 → zI → zJ → Prop) : Prop := (v_X_isPerson N x1 I J (fun r1 I2 J2 => ((r1 = 0 → Q (-1 : Int32) I2 J2) ∧ (¬ r1 = 0 → (v_X_isFewNights N x2 I2 J2 (fun r4 I5 J5 => ((r4 = 0 → Q (-1 : Int32) I5 J5) ∧ (¬ r4 = 0 → ((x3 < (1 : Int32) → Q (-1 : Int32) I5 J5) ∧ (¬ x3 < (1 : Int32) → ((x3 ≤ (20 : Int32) → (v_X_year_34 N N x1 x2 x3 (0 : Int32) (0 : Int32) I5 J5 Q )) ∧ (¬ x3 ≤ (20 : Int32) → Q (-1 : Int32) I5 J5))))))))))))
def v_X_tell (N : Nat) (x1 : Int32) (x2 : Int32) (x3 : Int32) (I : zI) (J : zJ) (Q : Int32 → zI → zJ → Prop) : Prop := (v_X_isPerson N x1 I J (fun r1 I2 J2 => ((r1 = 0 → Q (-1 : Int32) I2 J2) ∧ (¬ r1 = 0 → (v_X_isPerson N x2 I2 J2 (fun r4 I5 J5 => ((r4 = 0 → Q (-1 : Int32) I5 J5) ∧ (¬ r4 = 0 → (v_Told_hasRoom N  I5 J5 (fun r7 I8 J8 => ((¬ r7 = 0 → (v_Told_add N x1 x2 x3 I8 J8 (fun r10 I11 J11 => Q r10 I11 J11))) ∧ (r7 = 0 → Q (-1 : Int32) I8 J8))))))))))))
def v_X_forget (N : Nat)  (I : zI) (J : zJ) (Q : Int32 → zI → zJ → Prop) : Prop := (∀ y1 : Int32, y1 = (I 83 7) → (∀ I2 : zI, I2 = qu I 83 7 (0 : Int32) → Q y1 I2 J))
def v_X_isKnown (N : Nat) (x1 : Int32) (I : zI) (J : zJ) (Q : Int32 → zI → zJ → Prop) : Prop := ((x1 < 0 → Q (0 : Int32) I J) ∧ (¬ x1 < 0 → (((I 83 7) < x1 → Q (0 : Int32) I J) ∧ (¬ (I 83 7) < x1 → Q (1 : Int32) I J))))
def v_X_two (N : Nat) (x1 : Int32) (x2 : Int32) (I : zI) (J : zJ) (Q : Int32 → zI → zJ → Prop) : Prop := (v_X_isKnown N x1 I J (fun r1 I2 J2 => ((r1 = 0 → Q (-1 : Int32) I2 J2) ∧ (¬ r1 = 0 → (((-1 : Int32) ≤ x2 → ((¬ x2 = (-1 : Int32) → (v_Told_pairLeft N 49 x1 x2 I2 J2 (fun r6 I7 J7 => Q r6 I7 J7))) ∧ (x2 = (-1 : Int32) → (v_Told_pairsLeft N 49 x1 I2 J2 (fun r8 I9 J9 => Q r8 I9 J9))))) ∧ (¬ (-1 : Int32) ≤ x2 → Q (-1 : Int32) I2 J2))))))
def v_X_ask (N : Nat) (x1 : Int32) (I : zI) (J : zJ) (Q : Int32 → zI → zJ → Prop) : Prop := (v_X_isKnown N x1 I J (fun r1 I2 J2 => ((r1 = 0 → Q (-1 : Int32) I2 J2) ∧ (¬ r1 = 0 → (v_Told_whomToAsk N 49 x1 I2 J2 (fun r4 I5 J5 => Q r4 I5 J5))))))
def v_X_isSlot (N : Nat) (x0 : Int32) (I : zI) (J : zJ) (Q : Int32 → zI → zJ → Prop) : Prop := ((x0 < 0 → Q (0 : Int32) I J) ∧ (¬ x0 < 0 → (((3 : Int32) ≤ x0 → Q (0 : Int32) I J) ∧ (¬ (3 : Int32) ≤ x0 → Q (1 : Int32) I J))))
def v_X_hold (N : Nat) (x1 : Int32) (I : zI) (J : zJ) (Q : Int32 → zI → zJ → Prop) : Prop := (v_X_isSlot N x1 I J (fun r1 I2 J2 => ((¬ r1 = 0 → (vp_in x1 3 ∧ (v_State_become N (343 + 6 * (x1).toNatClampNeg) 49 I2 J2 (fun I6 J6 => (∀ I7 : zI, I7 = qu I6 1 11 ((I6 1 11) ||| ((1 : Int32) <<< (x1 &&& 31))) → Q (1 : Int32) I7 J6))))) ∧ (r1 = 0 → Q (0 : Int32) I2 J2))))
def v_X_restore (N : Nat) (x1 : Int32) (I : zI) (J : zJ) (Q : Int32 → zI → zJ → Prop) : Prop := (v_X_isSlot N x1 I J (fun r1 I2 J2 => ((r1 = 0 → Q (0 : Int32) I2 J2) ∧ (¬ r1 = 0 → ((¬ ((I2 1 11) &&& ((1 : Int32) <<< (x1 &&& 31))) = 0 → (vp_in x1 3 ∧ (v_State_become N 49 (343 + 6 * (x1).toNatClampNeg) I2 J2 (fun I7 J7 => (v_Past_drop N  I7 J7 (fun I8 J8 => Q (1 : Int32) I8 J8)))))) ∧ (((I2 1 11) &&& ((1 : Int32) <<< (x1 &&& 31))) = 0 → Q (0 : Int32) I2 J2))))))
def v_X_sumOfFirst_4 (N : Nat) : Nat → Nat → Int32 → Int32 → Int32 → zI → zJ → (Int32 → zI → zJ → Prop) → Prop
  | 0 => fun _ _ _ _ _ _ _ => False
  | k + 1 => fun x0 x1 x2 x3 I J Q  => ((x1 ≤ x3 → Q x2 I J) ∧ (¬ x1 ≤ x3 → (((nI (zlen x0)) ≤ x3 → Q x2 I J) ∧ (¬ (nI (zlen x0)) ≤ x3 → (vp_in x3 (zlen x0) ∧ (∀ y6 : Int32, y6 = (x2 + (I x0 (x3).toNatClampNeg)) → (v_X_sumOfFirst_4 N k x0 x1 y6 (x3 + (1 : Int32)) I J Q)))))))
def v_X_sumOfFirst (N : Nat) (x0 : Nat) (x1 : Int32) (I : zI) (J : zJ) (Q : Int32 → zI → zJ → Prop) : Prop := (v_X_sumOfFirst_4 N N x0 x1 (0 : Int32) (0 : Int32) I J Q )
def v_X_count (N : Nat) (x1 : Int32) (I : zI) (J : zJ) (Q : Int32 → zI → zJ → Prop) : Prop := ((x1 = (0 : Int32) → Q (I 8 0) I J) ∧ (¬ x1 = (0 : Int32) → ((x1 = (1 : Int32) → Q (I 8 3) I J) ∧ (¬ x1 = (1 : Int32) → ((x1 = (2 : Int32) → Q (I 49 1) I J) ∧ (¬ x1 = (2 : Int32) → ((x1 = (3 : Int32) → (v_State_bitsOfHung N 49 I J (fun r5 I6 J6 => Q r5 I6 J6))) ∧ (¬ x1 = (3 : Int32) → ((x1 = (4 : Int32) → (v_State_bitsOfTaken N 49 I J (fun r8 I9 J9 => Q r8 I9 J9))) ∧ (¬ x1 = (4 : Int32) → ((x1 = (5 : Int32) → (v_State_bitsOfOwnSelves N 49 I J (fun r11 I12 J12 => Q r11 I12 J12))) ∧ (¬ x1 = (5 : Int32) → ((x1 = (6 : Int32) → (v_X_sumOfFirst N 53 (I 8 3) I J (fun r14 I15 J15 => Q r14 I15 J15))) ∧ (¬ x1 = (6 : Int32) → ((x1 = (7 : Int32) → (v_X_sumOfFirst N 54 (I 8 0) I J (fun r17 I18 J18 => Q r17 I18 J18))) ∧ (¬ x1 = (7 : Int32) → ((x1 = (8 : Int32) → Q (I 2 1) I J) ∧ (¬ x1 = (8 : Int32) → ((x1 = (9 : Int32) → Q (I 100 2) I J) ∧ (¬ x1 = (9 : Int32) → ((x1 = (10 : Int32) → Q (I 83 7) I J) ∧ (¬ x1 = (10 : Int32) → ((x1 = (11 : Int32) → (v_Integer_bitCount N (I 1 11) I J (fun r23 I24 J24 => Q r23 I24 J24))) ∧ (¬ x1 = (11 : Int32) → ((x1 = (12 : Int32) → (v_Night_hasMoth N (I 8 12) (I 49 1) I J (fun r26 I27 J27 => ((r26 = 0 → Q (0 : Int32) I27 J27) ∧ (¬ r26 = 0 → Q (1 : Int32) I27 J27))))) ∧ (¬ x1 = (12 : Int32) → ((x1 = (13 : Int32) → (v_Reck_costOfAll N 49 I J (fun r30 I31 J31 => Q r30 I31 J31))) ∧ (¬ x1 = (13 : Int32) → ((x1 = (14 : Int32) → (v_State_bitsOfSharedNails N 49 I J (fun r33 I34 J34 => Q r33 I34 J34))) ∧ (¬ x1 = (14 : Int32) → Q (-1 : Int32) I J))))))))))))))))))))))))))))))
theorem u_X_feed (N : Nat) (x1 : Int32) (x2 : Int32) (x3 : Int32) (x4 : Int32) (x5 : Int32) (I : zI) (J : zJ) (Q : Int32 → zI → zJ → Prop) (Q' : Int32 → qH → Prop) (hQ : ∀ (r : Int32) (I : zI) (J : zJ), Q r I J → Q' r (zH I J)) (hv : v_X_feed N x1 x2 x3 x4 x5 I J Q) : w_X_feed N 1 x1 x2 x3 x4 x5 (zH I J) Q' := by
  unfold w_X_feed
  unfold v_X_feed at hv
  refine ⟨rfl, ?_⟩
  refine ⟨rfl, ?_⟩
  refine u_Tape_hasRoomFor N (20 : Int32) I J _ _ (fun r1 I2 J2 hv => ?_) hv
  refine ⟨fun q3 => ?_, fun q3 => ?_⟩
  · have hv := hv.1 q3
    refine ⟨rfl, ?_⟩
    refine ⟨rfl, ?_⟩
    refine u_Tape_addFour N x1 I2 J2 _ _ (fun I4 J4 hv => ?_) hv
    refine ⟨rfl, ?_⟩
    refine ⟨rfl, ?_⟩
    refine u_Tape_addFour N x2 I4 J4 _ _ (fun I5 J5 hv => ?_) hv
    refine ⟨rfl, ?_⟩
    refine ⟨rfl, ?_⟩
    refine u_Tape_addFour N x3 I5 J5 _ _ (fun I6 J6 hv => ?_) hv
    refine ⟨rfl, ?_⟩
    refine ⟨rfl, ?_⟩
    refine u_Tape_addFour N x4 I6 J6 _ _ (fun I7 J7 hv => ?_) hv
    refine ⟨rfl, ?_⟩
    refine ⟨rfl, ?_⟩
    refine u_Tape_addFour N x5 I7 J7 _ _ (fun I8 J8 hv => ?_) hv
    refine ⟨rfl, ?_⟩
    refine ⟨rfl, ?_⟩
    exact hQ _ _ _ hv
  · have hv := hv.2 q3
    exact hQ _ _ _ hv
theorem u_X_back (N : Nat) (x1 : Int32) (I : zI) (J : zJ) (Q : Int32 → zI → zJ → Prop) (Q' : Int32 → qH → Prop) (hQ : ∀ (r : Int32) (I : zI) (J : zJ), Q r I J → Q' r (zH I J)) (hv : v_X_back N x1 I J Q) : w_X_back N 1 x1 (zH I J) Q' := by
  unfold w_X_back
  unfold v_X_back at hv
  refine ⟨fun q1 => ?_, fun q1 => ?_⟩
  · have hv := hv.1 q1
    exact hQ _ _ _ hv
  · have hv := hv.2 q1
    refine ⟨rfl, ?_⟩
    refine ⟨rfl, ?_⟩
    refine ⟨fun q2 => ?_, fun q2 => ?_⟩
    · have hv := hv.1 q2
      obtain ⟨I3, eI3⟩ : ∃ z, z = qu I 2 1 ((I 2 1) - x1) := ⟨_, rfl⟩
      have hv := hv I3 eI3
      intro h3 eh3
      have eh3 : h3 = zH I3 J := by rw [eh3, eI3]; rfl
      subst eh3
      refine ⟨rfl, ?_⟩
      refine ⟨rfl, ?_⟩
      exact hQ _ _ _ hv
    · have hv := hv.2 q2
      exact hQ _ _ _ hv
theorem u_X_read (N : Nat) (hN : 20 ≤ N)  (I : zI) (J : zJ) (Q : Int32 → zI → zJ → Prop) (Q' : Int32 → qH → Prop) (hQ : ∀ (r : Int32) (I : zI) (J : zJ), Q r I J → Q' r (zH I J)) (hv : v_X_read N  I J Q) : w_X_read N 1 (zH I J) Q' := by
  unfold w_X_read
  unfold v_X_read at hv
  refine ⟨rfl, ?_⟩
  refine ⟨rfl, ?_⟩
  refine u_Reader_readAll N hN  I J _ _ (fun r1 I2 J2 hv => ?_) hv
  refine ⟨rfl, ?_⟩
  refine ⟨rfl, ?_⟩
  obtain ⟨I3, eI3⟩ : ∃ z, z = qu I2 2 1 (0 : Int32) := ⟨_, rfl⟩
  have hv := hv I3 eI3
  intro h3 eh3
  have eh3 : h3 = zH I3 J2 := by rw [eh3, eI3]; rfl
  subst eh3
  refine ⟨fun q4 => ?_, fun q4 => ?_⟩
  · have hv := hv.1 q4
    exact hQ _ _ _ hv
  · have hv := hv.2 q4
    refine ⟨rfl, ?_⟩
    refine ⟨rfl, ?_⟩
    refine ⟨rfl, ?_⟩
    refine u_Text_become_c8_27 N 8 27 I3 J2 _ _ (fun I5 J5 hv => ?_) hv
    refine ⟨rfl, ?_⟩
    refine ⟨rfl, ?_⟩
    refine u_State_begin_c49 N 49 I5 J5 _ _ (fun I6 J6 hv => ?_) hv
    refine ⟨rfl, ?_⟩
    refine ⟨rfl, ?_⟩
    refine u_Past_drop N  I6 J6 _ _ (fun I7 J7 hv => ?_) hv
    refine ⟨rfl, ?_⟩
    refine ⟨rfl, ?_⟩
    obtain ⟨I8, eI8⟩ : ∃ z, z = qu I7 83 7 (0 : Int32) := ⟨_, rfl⟩
    have hv := hv I8 eI8
    intro h8 eh8
    have eh8 : h8 = zH I8 J7 := by rw [eh8, eI8]; rfl
    subst eh8
    refine ⟨rfl, ?_⟩
    obtain ⟨I9, eI9⟩ : ∃ z, z = qu I8 1 11 (0 : Int32) := ⟨_, rfl⟩
    have hv := hv I9 eI9
    intro h9 eh9
    have eh9 : h9 = zH I9 J7 := by rw [eh9, eI9]; rfl
    subst eh9
    exact hQ _ _ _ hv
theorem u_X_place (N : Nat)  (I : zI) (J : zJ) (Q : Int32 → zI → zJ → Prop) (Q' : Int32 → qH → Prop) (hQ : ∀ (r : Int32) (I : zI) (J : zJ), Q r I J → Q' r (zH I J)) (hv : v_X_place N  I J Q) : w_X_place N 1 (zH I J) Q' := by
  unfold w_X_place
  unfold v_X_place at hv
  refine ⟨rfl, ?_⟩
  refine ⟨rfl, ?_⟩
  exact hQ _ _ _ hv
theorem u_X_isHanger (N : Nat) (x1 : Int32) (I : zI) (J : zJ) (Q : Int32 → zI → zJ → Prop) (Q' : Int32 → qH → Prop) (hQ : ∀ (r : Int32) (I : zI) (J : zJ), Q r I J → Q' r (zH I J)) (hv : v_X_isHanger N x1 I J Q) : w_X_isHanger N 1 x1 (zH I J) Q' := by
  unfold w_X_isHanger
  unfold v_X_isHanger at hv
  refine ⟨fun q1 => ?_, fun q1 => ?_⟩
  · have hv := hv.1 q1
    exact ⟨Or.inl rfl, hQ _ _ _ hv⟩
  · have hv := hv.2 q1
    refine ⟨rfl, ?_⟩
    refine ⟨rfl, ?_⟩
    refine ⟨fun q2 => ?_, fun q2 => ?_⟩
    · have hv := hv.1 q2
      exact ⟨Or.inl rfl, hQ _ _ _ hv⟩
    · have hv := hv.2 q2
      exact ⟨Or.inr rfl, hQ _ _ _ hv⟩
theorem u_X_hanger (N : Nat) (x1 : Int32) (x2 : Int32) (I : zI) (J : zJ) (Q : Int32 → zI → zJ → Prop) (Q' : Int32 → qH → Prop) (hQ : ∀ (r : Int32) (I : zI) (J : zJ), Q r I J → Q' r (zH I J)) (hv : v_X_hanger N x1 x2 I J Q) : w_X_hanger N 1 x1 x2 (zH I J) Q' := by
  unfold w_X_hanger
  unfold v_X_hanger at hv
  refine ⟨rfl, ?_⟩
  refine u_X_isHanger N x1 I J _ _ (fun r1 I2 J2 hv => ?_) hv
  refine ⟨fun q3 => ?_, fun q3 => ?_⟩
  · have hv := hv.1 q3
    refine ⟨fun q4 => ?_, fun q4 => ?_⟩
    · have hv := hv.1 q4
      refine ⟨rfl, ?_⟩
      refine ⟨rfl, ?_⟩
      obtain ⟨g5, hv⟩ := hv
      refine ⟨qok_mk rfl g5, ?_⟩
      exact hQ _ _ _ hv
    · have hv := hv.2 q4
      refine ⟨fun q6 => ?_, fun q6 => ?_⟩
      · have hv := hv.1 q6
        refine ⟨rfl, ?_⟩
        refine ⟨rfl, ?_⟩
        obtain ⟨g7, hv⟩ := hv
        refine ⟨qok_mk rfl g7, ?_⟩
        exact hQ _ _ _ hv
      · have hv := hv.2 q6
        refine ⟨fun q8 => ?_, fun q8 => ?_⟩
        · have hv := hv.1 q8
          refine ⟨rfl, ?_⟩
          refine ⟨rfl, ?_⟩
          obtain ⟨g9, hv⟩ := hv
          refine ⟨qok_mk rfl g9, ?_⟩
          exact hQ _ _ _ hv
        · have hv := hv.2 q8
          refine ⟨fun q10 => ?_, fun q10 => ?_⟩
          · have hv := hv.1 q10
            refine ⟨rfl, ?_⟩
            refine ⟨rfl, ?_⟩
            refine u_State_whoIsOn_c49 N 49 x1 I2 J2 _ _ (fun r11 I12 J12 hv => ?_) hv
            exact hQ _ _ _ hv
          · have hv := hv.2 q10
            exact hQ _ _ _ hv
  · have hv := hv.2 q3
    exact hQ _ _ _ hv
theorem u_X_isPerson (N : Nat) (x1 : Int32) (I : zI) (J : zJ) (Q : Int32 → zI → zJ → Prop) (Q' : Int32 → qH → Prop) (hQ : ∀ (r : Int32) (I : zI) (J : zJ), Q r I J → Q' r (zH I J)) (hv : v_X_isPerson N x1 I J Q) : w_X_isPerson N 1 x1 (zH I J) Q' := by
  unfold w_X_isPerson
  unfold v_X_isPerson at hv
  refine ⟨fun q1 => ?_, fun q1 => ?_⟩
  · have hv := hv.1 q1
    exact ⟨Or.inl rfl, hQ _ _ _ hv⟩
  · have hv := hv.2 q1
    refine ⟨rfl, ?_⟩
    refine ⟨rfl, ?_⟩
    refine ⟨fun q2 => ?_, fun q2 => ?_⟩
    · have hv := hv.1 q2
      exact ⟨Or.inl rfl, hQ _ _ _ hv⟩
    · have hv := hv.2 q2
      exact ⟨Or.inr rfl, hQ _ _ _ hv⟩
theorem u_X_person (N : Nat) (x1 : Int32) (x2 : Int32) (I : zI) (J : zJ) (Q : Int32 → zI → zJ → Prop) (Q' : Int32 → qH → Prop) (hQ : ∀ (r : Int32) (I : zI) (J : zJ), Q r I J → Q' r (zH I J)) (hv : v_X_person N x1 x2 I J Q) : w_X_person N 1 x1 x2 (zH I J) Q' := by
  unfold w_X_person
  unfold v_X_person at hv
  refine ⟨rfl, ?_⟩
  refine u_X_isPerson N x1 I J _ _ (fun r1 I2 J2 hv => ?_) hv
  refine ⟨fun q3 => ?_, fun q3 => ?_⟩
  · have hv := hv.1 q3
    refine ⟨fun q4 => ?_, fun q4 => ?_⟩
    · have hv := hv.1 q4
      refine ⟨rfl, ?_⟩
      refine ⟨rfl, ?_⟩
      obtain ⟨g5, hv⟩ := hv
      refine ⟨qok_mk rfl g5, ?_⟩
      exact hQ _ _ _ hv
    · have hv := hv.2 q4
      refine ⟨fun q6 => ?_, fun q6 => ?_⟩
      · have hv := hv.1 q6
        refine ⟨rfl, ?_⟩
        refine ⟨rfl, ?_⟩
        obtain ⟨g7, hv⟩ := hv
        refine ⟨qok_mk rfl g7, ?_⟩
        exact hQ _ _ _ hv
      · have hv := hv.2 q6
        refine ⟨fun q8 => ?_, fun q8 => ?_⟩
        · have hv := hv.1 q8
          refine ⟨rfl, ?_⟩
          refine ⟨rfl, ?_⟩
          obtain ⟨g9, hv⟩ := hv
          refine ⟨qok_mk rfl g9, ?_⟩
          exact hQ _ _ _ hv
        · have hv := hv.2 q8
          refine ⟨fun q10 => ?_, fun q10 => ?_⟩
          · have hv := hv.1 q10
            refine ⟨rfl, ?_⟩
            refine ⟨rfl, ?_⟩
            obtain ⟨g11, hv⟩ := hv
            refine ⟨qok_mk rfl g11, ?_⟩
            exact hQ _ _ _ hv
          · have hv := hv.2 q10
            refine ⟨fun q12 => ?_, fun q12 => ?_⟩
            · have hv := hv.1 q12
              refine ⟨rfl, ?_⟩
              refine ⟨rfl, ?_⟩
              obtain ⟨g13, hv⟩ := hv
              refine ⟨qok_mk rfl g13, ?_⟩
              exact hQ _ _ _ hv
            · have hv := hv.2 q12
              refine ⟨fun q14 => ?_, fun q14 => ?_⟩
              · have hv := hv.1 q14
                refine ⟨rfl, ?_⟩
                refine ⟨rfl, ?_⟩
                refine u_State_othersBeside_c49 N 49 x1 I2 J2 _ _ (fun r15 I16 J16 hv => ?_) hv
                exact hQ _ _ _ hv
              · have hv := hv.2 q14
                exact hQ _ _ _ hv
  · have hv := hv.2 q3
    exact hQ _ _ _ hv
theorem u_X_tells (N : Nat) (x1 : Int32) (x2 : Int32) (I : zI) (J : zJ) (Q : Int32 → zI → zJ → Prop) (Q' : Int32 → qH → Prop) (hQ : ∀ (r : Int32) (I : zI) (J : zJ), Q r I J → Q' r (zH I J)) (hv : v_X_tells N x1 x2 I J Q) : w_X_tells N 1 x1 x2 (zH I J) Q' := by
  unfold w_X_tells
  unfold v_X_tells at hv
  refine ⟨rfl, ?_⟩
  refine u_X_isPerson N x1 I J _ _ (fun r1 I2 J2 hv => ?_) hv
  refine ⟨fun q3 => ?_, fun q3 => ?_⟩
  · have hv := hv.1 q3
    exact hQ _ _ _ hv
  · have hv := hv.2 q3
    refine ⟨fun q4 => ?_, fun q4 => ?_⟩
    · have hv := hv.1 q4
      exact hQ _ _ _ hv
    · have hv := hv.2 q4
      refine ⟨fun q5 => ?_, fun q5 => ?_⟩
      · have hv := hv.1 q5
        refine ⟨rfl, ?_⟩
        refine ⟨rfl, ?_⟩
        refine u_State_isHung_c49 N 49 x1 I2 J2 _ _ (fun r6 I7 J7 hv => ?_) hv
        refine ⟨fun q8 => ?_, fun q8 => ?_⟩
        · have hv := hv.1 q8
          refine ⟨rfl, ?_⟩
          refine ⟨rfl, ?_⟩
          refine u_Reck_lookAtHung_c49 N 49 x1 I7 J7 _ _ (fun I9 J9 hv => ?_) hv
          refine ⟨rfl, ?_⟩
          refine ⟨rfl, ?_⟩
          refine u_Reck_lawTells N x2 I9 J9 _ _ (fun r10 I11 J11 hv => ?_) hv
          exact hQ _ _ _ hv
        · have hv := hv.2 q8
          exact hQ _ _ _ hv
      · have hv := hv.2 q5
        exact hQ _ _ _ hv
theorem u_X_hang (N : Nat) (x1 : Int32) (x2 : Int32) (I : zI) (J : zJ) (Q : Int32 → zI → zJ → Prop) (Q' : Int32 → qH → Prop) (hQ : ∀ (r : Int32) (I : zI) (J : zJ), Q r I J → Q' r (zH I J)) (hv : v_X_hang N x1 x2 I J Q) : w_X_hang N 1 x1 x2 (zH I J) Q' := by
  unfold w_X_hang
  unfold v_X_hang at hv
  refine ⟨rfl, ?_⟩
  refine u_X_isPerson N x1 I J _ _ (fun r1 I2 J2 hv => ?_) hv
  refine ⟨fun q3 => ?_, fun q3 => ?_⟩
  · have hv := hv.1 q3
    exact ⟨Or.inl rfl, hQ _ _ _ hv⟩
  · have hv := hv.2 q3
    refine ⟨rfl, ?_⟩
    refine u_X_isHanger N x2 I2 J2 _ _ (fun r4 I5 J5 hv => ?_) hv
    refine ⟨fun q6 => ?_, fun q6 => ?_⟩
    · have hv := hv.1 q6
      refine ⟨rfl, ?_⟩
      refine ⟨rfl, ?_⟩
      refine u_State_isHung_c49 N 49 x1 I5 J5 _ _ (fun r7 I8 J8 hv => ?_) hv
      refine ⟨fun q9 => ?_, fun q9 => ?_⟩
      · have hv := hv.1 q9
        exact ⟨Or.inl rfl, hQ _ _ _ hv⟩
      · have hv := hv.2 q9
        refine ⟨rfl, ?_⟩
        refine ⟨rfl, ?_⟩
        refine u_State_isTaken_c49 N 49 x2 I8 J8 _ _ (fun r10 I11 J11 hv => ?_) hv
        refine ⟨fun q12 => ?_, fun q12 => ?_⟩
        · have hv := hv.1 q12
          refine ⟨rfl, ?_⟩
          refine ⟨rfl, ?_⟩
          refine u_Past_keep_c49 N 49 I11 J11 _ _ (fun I13 J13 hv => ?_) hv
          refine ⟨rfl, ?_⟩
          refine ⟨rfl, ?_⟩
          obtain ⟨g14, hv⟩ := hv
          refine ⟨qok_mk rfl g14, ?_⟩
          obtain ⟨I15, eI15⟩ : ∃ z, z = qu I13 51 (x1).toNatClampNeg x2 := ⟨_, rfl⟩
          have hv := hv I15 eI15
          intro h15 eh15
          have eh15 : h15 = zH I15 J13 := by rw [eh15, eI15]; rfl
          subst eh15
          exact ⟨Or.inr rfl, hQ _ _ _ hv⟩
        · have hv := hv.2 q12
          exact ⟨Or.inl rfl, hQ _ _ _ hv⟩
    · have hv := hv.2 q6
      exact ⟨Or.inl rfl, hQ _ _ _ hv⟩
theorem u_X_take (N : Nat) (x1 : Int32) (I : zI) (J : zJ) (Q : Int32 → zI → zJ → Prop) (Q' : Int32 → qH → Prop) (hQ : ∀ (r : Int32) (I : zI) (J : zJ), Q r I J → Q' r (zH I J)) (hv : v_X_take N x1 I J Q) : w_X_take N 1 x1 (zH I J) Q' := by
  unfold w_X_take
  unfold v_X_take at hv
  refine ⟨rfl, ?_⟩
  refine u_X_isPerson N x1 I J _ _ (fun r1 I2 J2 hv => ?_) hv
  refine ⟨fun q3 => ?_, fun q3 => ?_⟩
  · have hv := hv.1 q3
    exact ⟨Or.inl rfl, hQ _ _ _ hv⟩
  · have hv := hv.2 q3
    refine ⟨rfl, ?_⟩
    refine ⟨rfl, ?_⟩
    refine u_State_isHung_c49 N 49 x1 I2 J2 _ _ (fun r4 I5 J5 hv => ?_) hv
    refine ⟨fun q6 => ?_, fun q6 => ?_⟩
    · have hv := hv.1 q6
      refine ⟨rfl, ?_⟩
      refine ⟨rfl, ?_⟩
      refine u_Past_keep_c49 N 49 I5 J5 _ _ (fun I7 J7 hv => ?_) hv
      refine ⟨rfl, ?_⟩
      refine ⟨rfl, ?_⟩
      obtain ⟨g8, hv⟩ := hv
      refine ⟨qok_mk rfl g8, ?_⟩
      obtain ⟨I9, eI9⟩ : ∃ z, z = qu I7 51 (x1).toNatClampNeg (-2 : Int32) := ⟨_, rfl⟩
      have hv := hv I9 eI9
      intro h9 eh9
      have eh9 : h9 = zH I9 J7 := by rw [eh9, eI9]; rfl
      subst eh9
      exact ⟨Or.inr rfl, hQ _ _ _ hv⟩
    · have hv := hv.2 q6
      exact ⟨Or.inl rfl, hQ _ _ _ hv⟩
theorem u_X_change (N : Nat) (x1 : Int32) (x2 : Int32) (I : zI) (J : zJ) (Q : Int32 → zI → zJ → Prop) (Q' : Int32 → qH → Prop) (hQ : ∀ (r : Int32) (I : zI) (J : zJ), Q r I J → Q' r (zH I J)) (hv : v_X_change N x1 x2 I J Q) : w_X_change N 1 x1 x2 (zH I J) Q' := by
  unfold w_X_change
  unfold v_X_change at hv
  refine ⟨rfl, ?_⟩
  refine u_X_isPerson N x1 I J _ _ (fun r1 I2 J2 hv => ?_) hv
  refine ⟨fun q3 => ?_, fun q3 => ?_⟩
  · have hv := hv.1 q3
    exact ⟨Or.inl rfl, hQ _ _ _ hv⟩
  · have hv := hv.2 q3
    refine ⟨rfl, ?_⟩
    refine u_X_isPerson N x2 I2 J2 _ _ (fun r4 I5 J5 hv => ?_) hv
    refine ⟨fun q6 => ?_, fun q6 => ?_⟩
    · have hv := hv.1 q6
      exact ⟨Or.inl rfl, hQ _ _ _ hv⟩
    · have hv := hv.2 q6
      refine ⟨fun q7 => ?_, fun q7 => ?_⟩
      · have hv := hv.1 q7
        refine ⟨rfl, ?_⟩
        refine ⟨rfl, ?_⟩
        refine u_State_isHung_c49 N 49 x1 I5 J5 _ _ (fun r8 I9 J9 hv => ?_) hv
        refine ⟨fun q10 => ?_, fun q10 => ?_⟩
        · have hv := hv.1 q10
          exact ⟨Or.inl rfl, hQ _ _ _ hv⟩
        · have hv := hv.2 q10
          refine ⟨rfl, ?_⟩
          refine ⟨rfl, ?_⟩
          refine u_State_isHung_c49 N 49 x2 I9 J9 _ _ (fun r11 I12 J12 hv => ?_) hv
          refine ⟨fun q13 => ?_, fun q13 => ?_⟩
          · have hv := hv.1 q13
            refine ⟨rfl, ?_⟩
            refine ⟨rfl, ?_⟩
            refine u_Past_keep_c49 N 49 I12 J12 _ _ (fun I14 J14 hv => ?_) hv
            refine ⟨rfl, ?_⟩
            refine ⟨rfl, ?_⟩
            refine u_State_exchange_c49 N 49 x1 x2 I14 J14 _ _ (fun I15 J15 hv => ?_) hv
            exact ⟨Or.inr rfl, hQ _ _ _ hv⟩
          · have hv := hv.2 q13
            exact ⟨Or.inl rfl, hQ _ _ _ hv⟩
      · have hv := hv.2 q7
        exact ⟨Or.inl rfl, hQ _ _ _ hv⟩
theorem u_X_straighten (N : Nat) (x1 : Int32) (I : zI) (J : zJ) (Q : Int32 → zI → zJ → Prop) (Q' : Int32 → qH → Prop) (hQ : ∀ (r : Int32) (I : zI) (J : zJ), Q r I J → Q' r (zH I J)) (hv : v_X_straighten N x1 I J Q) : w_X_straighten N 1 x1 (zH I J) Q' := by
  unfold w_X_straighten
  unfold v_X_straighten at hv
  refine ⟨rfl, ?_⟩
  refine u_X_isHanger N x1 I J _ _ (fun r1 I2 J2 hv => ?_) hv
  refine ⟨fun q3 => ?_, fun q3 => ?_⟩
  · have hv := hv.1 q3
    exact ⟨Or.inl rfl, hQ _ _ _ hv⟩
  · have hv := hv.2 q3
    refine ⟨rfl, ?_⟩
    refine ⟨rfl, ?_⟩
    refine u_State_isTaken_c49 N 49 x1 I2 J2 _ _ (fun r4 I5 J5 hv => ?_) hv
    refine ⟨fun q6 => ?_, fun q6 => ?_⟩
    · have hv := hv.1 q6
      exact ⟨Or.inl rfl, hQ _ _ _ hv⟩
    · have hv := hv.2 q6
      refine ⟨rfl, ?_⟩
      refine ⟨rfl, ?_⟩
      obtain ⟨g7, hv⟩ := hv
      refine ⟨qok_mk rfl g7, ?_⟩
      refine ⟨fun q8 => ?_, fun q8 => ?_⟩
      · have hv := hv.1 q8
        refine ⟨rfl, ?_⟩
        refine u_Past_keep_c49 N 49 I5 J5 _ _ (fun I9 J9 hv => ?_) hv
        refine ⟨rfl, ?_⟩
        refine ⟨rfl, ?_⟩
        obtain ⟨g10, hv⟩ := hv
        refine ⟨qok_mk rfl g10, ?_⟩
        obtain ⟨I11, eI11⟩ : ∃ z, z = qu I9 54 (x1).toNatClampNeg (0 : Int32) := ⟨_, rfl⟩
        have hv := hv I11 eI11
        intro h11 eh11
        have eh11 : h11 = zH I11 J9 := by rw [eh11, eI11]; rfl
        subst eh11
        exact ⟨Or.inr rfl, hQ _ _ _ hv⟩
      · have hv := hv.2 q8
        exact ⟨Or.inl rfl, hQ _ _ _ hv⟩
theorem u_X_isFewNights (N : Nat) (x0 : Int32) (I : zI) (J : zJ) (Q : Int32 → zI → zJ → Prop) (Q' : Int32 → qH → Prop) (hQ : ∀ (r : Int32) (I : zI) (J : zJ), Q r I J → Q' r (zH I J)) (hv : v_X_isFewNights N x0 I J Q) : w_X_isFewNights N x0 (zH I J) Q' := by
  unfold w_X_isFewNights
  unfold v_X_isFewNights at hv
  refine ⟨fun q1 => ?_, fun q1 => ?_⟩
  · have hv := hv.1 q1
    exact ⟨Or.inl rfl, hQ _ _ _ hv⟩
  · have hv := hv.2 q1
    refine ⟨fun q2 => ?_, fun q2 => ?_⟩
    · have hv := hv.1 q2
      exact ⟨Or.inl rfl, hQ _ _ _ hv⟩
    · have hv := hv.2 q2
      exact ⟨Or.inr rfl, hQ _ _ _ hv⟩
theorem u_X_nights (N : Nat) (x1 : Int32) (I : zI) (J : zJ) (Q : Int32 → zI → zJ → Prop) (Q' : Int32 → qH → Prop) (hQ : ∀ (r : Int32) (I : zI) (J : zJ), Q r I J → Q' r (zH I J)) (hv : v_X_nights N x1 I J Q) : w_X_nights N 1 x1 (zH I J) Q' := by
  unfold w_X_nights
  unfold v_X_nights at hv
  refine u_X_isFewNights N x1 I J _ _ (fun r1 I2 J2 hv => ?_) hv
  refine ⟨fun q3 => ?_, fun q3 => ?_⟩
  · have hv := hv.1 q3
    refine ⟨fun q4 => ?_, fun q4 => ?_⟩
    · have hv := hv.1 q4
      refine ⟨rfl, ?_⟩
      refine ⟨rfl, ?_⟩
      exact hQ _ _ _ hv
    · have hv := hv.2 q4
      refine ⟨rfl, ?_⟩
      refine ⟨rfl, ?_⟩
      refine u_Past_keep_c49 N 49 I2 J2 _ _ (fun I5 J5 hv => ?_) hv
      refine ⟨rfl, ?_⟩
      refine ⟨rfl, ?_⟩
      refine ⟨rfl, ?_⟩
      refine u_Night_goByWithAll_c49 N 49 x1 (I5 8 12) I5 J5 _ _ (fun I6 J6 hv => ?_) hv
      refine ⟨rfl, ?_⟩
      refine ⟨rfl, ?_⟩
      exact hQ _ _ _ hv
  · have hv := hv.2 q3
    exact hQ _ _ _ hv
theorem u_X_undo (N : Nat)  (I : zI) (J : zJ) (Q : Int32 → zI → zJ → Prop) (Q' : Int32 → qH → Prop) (hQ : ∀ (r : Int32) (I : zI) (J : zJ), Q r I J → Q' r (zH I J)) (hv : v_X_undo N  I J Q) : w_X_undo N 1 (zH I J) Q' := by
  unfold w_X_undo
  unfold v_X_undo at hv
  refine ⟨rfl, ?_⟩
  refine ⟨rfl, ?_⟩
  refine u_Past_giveBack_c49 N 49 I J _ _ (fun r1 I2 J2 hv => ?_) hv
  exact ⟨hv.1, hQ _ _ _ hv.2⟩
theorem u_X_planned_15 (N : Nat) (x1 : Int32) (x2 : Int32) (I : zI) (J : zJ) (Q : Int32 → zI → zJ → Prop) (Q' : Int32 → qH → Prop) (hQ : ∀ (r : Int32) (I : zI) (J : zJ), Q r I J → Q' r (zH I J)) (hv : v_X_planned_15 N x1 x2 I J Q ) : w_X_planned_15 N 1 x1 x2 (zH I J) Q'  := by
  unfold w_X_planned_15
  unfold v_X_planned_15 at hv
  refine ⟨rfl, ?_⟩
  refine ⟨rfl, ?_⟩
  refine u_Plan_lookAtCosts_c49 N 49 I J _ _ (fun I1 J1 hv => ?_) hv
  refine ⟨rfl, ?_⟩
  refine ⟨rfl, ?_⟩
  refine u_Plan_findBest N x2 (-2 : Int32) I1 J1 _ _ (fun r2 I3 J3 hv => ?_) hv
  refine ⟨fun q4 => ?_, fun q4 => ?_⟩
  · have hv := hv.1 q4
    refine ⟨rfl, ?_⟩
    refine ⟨rfl, ?_⟩
    refine u_Plan_hangerFor N x1 (-2 : Int32) I3 J3 _ _ (fun r5 I6 J6 hv => ?_) hv
    exact hQ _ _ _ hv
  · have hv := hv.2 q4
    refine ⟨rfl, ?_⟩
    refine ⟨rfl, ?_⟩
    refine u_Plan_costOf N r2 I3 J3 _ _ (fun r7 I8 J8 hv => ?_) hv
    exact hQ _ _ _ hv
theorem u_X_planned (N : Nat) (x1 : Int32) (x2 : Int32) (I : zI) (J : zJ) (Q : Int32 → zI → zJ → Prop) (Q' : Int32 → qH → Prop) (hQ : ∀ (r : Int32) (I : zI) (J : zJ), Q r I J → Q' r (zH I J)) (hv : v_X_planned N x1 x2 I J Q) : w_X_planned N 1 x1 x2 (zH I J) Q' := by
  unfold w_X_planned
  unfold v_X_planned at hv
  refine ⟨fun q1 => ?_, fun q1 => ?_⟩
  · have hv := hv.1 q1
    exact u_X_planned_15 N x1 x2 I J Q _ hQ   hv
  · have hv := hv.2 q1
    refine ⟨rfl, ?_⟩
    refine u_X_isPerson N x1 I J _ _ (fun r2 I3 J3 hv => ?_) hv
    refine ⟨fun q4 => ?_, fun q4 => ?_⟩
    · have hv := hv.1 q4
      exact u_X_planned_15 N x1 x2 I3 J3 Q _ hQ   hv
    · have hv := hv.2 q4
      exact hQ _ _ _ hv
theorem u_X_hanging (N : Nat) (x1 : Int32) (I : zI) (J : zJ) (Q : Int32 → zI → zJ → Prop) (Q' : Int32 → qH → Prop) (hQ : ∀ (r : Int32) (I : zI) (J : zJ), Q r I J → Q' r (zH I J)) (hv : v_X_hanging N x1 I J Q) : w_X_hanging N 1 x1 (zH I J) Q' := by
  unfold w_X_hanging
  unfold v_X_hanging at hv
  refine ⟨rfl, ?_⟩
  refine u_X_planned N x1 (0 : Int32) I J _ _ (fun r1 I2 J2 hv => ?_) hv
  exact hQ _ _ _ hv
theorem u_X_apart (N : Nat) (x1 : Int32) (I : zI) (J : zJ) (Q : Int32 → zI → zJ → Prop) (Q' : Int32 → qH → Prop) (hQ : ∀ (r : Int32) (I : zI) (J : zJ), Q r I J → Q' r (zH I J)) (hv : v_X_apart N x1 I J Q) : w_X_apart N 1 x1 (zH I J) Q' := by
  unfold w_X_apart
  unfold v_X_apart at hv
  refine ⟨rfl, ?_⟩
  refine u_X_planned N x1 (1 : Int32) I J _ _ (fun r1 I2 J2 hv => ?_) hv
  exact hQ _ _ _ hv
theorem u_X_ways (N : Nat) (x1 : Int32) (I : zI) (J : zJ) (Q : Int32 → zI → zJ → Prop) (Q' : Int32 → qH → Prop) (hQ : ∀ (r : Int32) (I : zI) (J : zJ), Q r I J → Q' r (zH I J)) (hv : v_X_ways N x1 I J Q) : w_X_ways N 1 x1 (zH I J) Q' := by
  unfold w_X_ways
  unfold v_X_ways at hv
  refine ⟨fun q1 => ?_, fun q1 => ?_⟩
  · have hv := hv.1 q1
    exact hQ _ _ _ hv
  · have hv := hv.2 q1
    refine ⟨fun q2 => ?_, fun q2 => ?_⟩
    · have hv := hv.1 q2
      refine ⟨rfl, ?_⟩
      refine ⟨rfl, ?_⟩
      refine u_Plan_lookAtCosts_c49 N 49 I J _ _ (fun I3 J3 hv => ?_) hv
      refine ⟨rfl, ?_⟩
      refine ⟨rfl, ?_⟩
      refine u_Plan_waysWithin N x1 I3 J3 _ _ (fun r4 I5 J5 hv => ?_) hv
      exact hQ _ _ _ hv
    · have hv := hv.2 q2
      exact hQ _ _ _ hv
theorem u_X_ringFrom_7 (N k : Nat) (x2 : Int32) (x3 : Int32) (x4 : Int32) (I : zI) (J : zJ) (Q : Int32 → zI → zJ → Prop) (Q' : Int32 → qH → Prop) (hQ : ∀ (r : Int32) (I : zI) (J : zJ), Q r I J → Q' r (zH I J)) (hv : v_X_ringFrom_7 N k x2 x3 x4 I J Q ) : w_X_ringFrom_7 N k 1 x2 x3 x4 (zH I J) Q'  := by
  induction k generalizing x2 x3 x4 I J with
  | zero => exact hv.elim
  | succ k ih =>
    rw [w_X_ringFrom_7]
    rw [v_X_ringFrom_7] at hv
    refine ⟨rfl, ?_⟩
    refine ⟨rfl, ?_⟩
    refine ⟨fun q1 => ?_, fun q1 => ?_⟩
    · have hv := hv.1 q1
      exact hQ _ _ _ hv
    · have hv := hv.2 q1
      intro y2 ey2
      have hv := hv y2 ey2
      refine ⟨rfl, ?_⟩
      obtain ⟨g3, hv⟩ := hv
      refine ⟨qok_mk rfl g3, ?_⟩
      intro y4 ey4
      have hv := hv y4 ey4
      exact ih y2 y4 (x4 + (1 : Int32)) I J hv
theorem u_X_ringFrom (N : Nat) (x1 : Int32) (I : zI) (J : zJ) (Q : Int32 → zI → zJ → Prop) (Q' : Int32 → qH → Prop) (hQ : ∀ (r : Int32) (I : zI) (J : zJ), Q r I J → Q' r (zH I J)) (hv : v_X_ringFrom N x1 I J Q) : w_X_ringFrom N 1 x1 (zH I J) Q' := by
  unfold w_X_ringFrom
  unfold v_X_ringFrom at hv
  exact u_X_ringFrom_7 N N (0 : Int32) x1 (0 : Int32) I J Q _ hQ   hv
theorem u_X_sets_6 (N k : Nat) (x1 : Int32) (x2 : Int32) (x3 : Int32) (I : zI) (J : zJ) (Q : Int32 → zI → zJ → Prop) (Q' : Int32 → qH → Prop) (hQ : ∀ (r : Int32) (I : zI) (J : zJ), Q r I J → Q' r (zH I J)) (hv : v_X_sets_6 N k x1 x2 x3 I J Q ) : w_X_sets_6 N k 1 x1 x2 x3 (zH I J) Q'  := by
  induction k generalizing x1 x2 x3 I J with
  | zero => exact hv.elim
  | succ k ih =>
    rw [w_X_sets_6]
    rw [v_X_sets_6] at hv
    refine ⟨rfl, ?_⟩
    refine ⟨rfl, ?_⟩
    refine ⟨fun q1 => ?_, fun q1 => ?_⟩
    · have hv := hv.1 q1
      exact hQ _ _ _ hv
    · have hv := hv.2 q1
      refine ⟨fun q2 => ?_, fun q2 => ?_⟩
      · have hv := hv.1 q2
        exact ih x1 x2 (x3 + (1 : Int32)) I J hv
      · have hv := hv.2 q2
        refine u_X_ringFrom N x3 I J _ _ (fun r3 I4 J4 hv => ?_) hv
        intro y5 ey5
        have hv := hv y5 ey5
        exact ih (x1 + (1 : Int32)) y5 (x3 + (1 : Int32)) I4 J4 hv
theorem u_X_sets (N : Nat)  (I : zI) (J : zJ) (Q : Int32 → zI → zJ → Prop) (Q' : Int32 → qH → Prop) (hQ : ∀ (r : Int32) (I : zI) (J : zJ), Q r I J → Q' r (zH I J)) (hv : v_X_sets N  I J Q) : w_X_sets N 1 (zH I J) Q' := by
  unfold w_X_sets
  unfold v_X_sets at hv
  exact u_X_sets_6 N N (0 : Int32) (0 : Int32) (0 : Int32) I J Q _ hQ   hv
theorem u_X_changes (N : Nat)  (I : zI) (J : zJ) (Q : Int32 → zI → zJ → Prop) (Q' : Int32 → qH → Prop) (hQ : ∀ (r : Int32) (I : zI) (J : zJ), Q r I J → Q' r (zH I J)) (hv : v_X_changes N  I J Q) : w_X_changes N 1 (zH I J) Q' := by
  unfold w_X_changes
  unfold v_X_changes at hv
  refine ⟨rfl, ?_⟩
  refine ⟨rfl, ?_⟩
  refine u_X_sets N  I J _ _ (fun r1 I2 J2 hv => ?_) hv
  exact hQ _ _ _ hv
theorem u_X_themselves_25 (N k : Nat) (x1 : Int32) (x2 : Int32) (I : zI) (J : zJ) (Q : Int32 → zI → zJ → Prop) (Q' : Int32 → qH → Prop) (hQ : ∀ (r : Int32) (I : zI) (J : zJ), Q r I J → Q' r (zH I J)) (hv : v_X_themselves_25 N k x1 x2 I J Q ) : w_X_themselves_25 N k 1 x1 x2 (zH I J) Q'  := by
  induction k generalizing x1 x2 I J with
  | zero => exact hv.elim
  | succ k ih =>
    rw [w_X_themselves_25]
    rw [v_X_themselves_25] at hv
    refine ⟨fun q1 => ?_, fun q1 => ?_⟩
    · have hv := hv.1 q1
      exact hQ _ _ _ hv
    · have hv := hv.2 q1
      refine ⟨rfl, ?_⟩
      refine ⟨rfl, ?_⟩
      refine u_State_bitsOfOwnSelves_c55 N 55 I J _ _ (fun r2 I3 J3 hv => ?_) hv
      refine ⟨fun q4 => ?_, fun q4 => ?_⟩
      · have hv := hv.1 q4
        refine ⟨rfl, ?_⟩
        refine ⟨rfl, ?_⟩
        refine u_Night_wakeAll_c55 N 55 I3 J3 _ _ (fun I5 J5 hv => ?_) hv
        exact ih x1 (x2 + (1 : Int32)) I5 J5 hv
      · have hv := hv.2 q4
        exact hQ _ _ _ hv
theorem u_X_themselves (N : Nat)  (I : zI) (J : zJ) (Q : Int32 → zI → zJ → Prop) (Q' : Int32 → qH → Prop) (hQ : ∀ (r : Int32) (I : zI) (J : zJ), Q r I J → Q' r (zH I J)) (hv : v_X_themselves N  I J Q) : w_X_themselves N 1 (zH I J) Q' := by
  unfold w_X_themselves
  unfold v_X_themselves at hv
  refine ⟨rfl, ?_⟩
  refine ⟨rfl, ?_⟩
  intro y1 ey1
  have hv := hv y1 ey1
  refine ⟨rfl, ?_⟩
  refine u_State_become_c55_49 N 55 49 I J _ _ (fun I2 J2 hv => ?_) hv
  exact u_X_themselves_25 N N y1 (0 : Int32) I2 J2 Q _ hQ   hv
theorem u_X_crossed_8 (N k : Nat) (x1 : Int32) (x2 : Int32) (x3 : Int32) (x4 : Int32) (I : zI) (J : zJ) (Q : Int32 → zI → zJ → Prop) (Q' : Int32 → qH → Prop) (hQ : ∀ (r : Int32) (I : zI) (J : zJ), Q r I J → Q' r (zH I J)) (hv : v_X_crossed_8 N k x1 x2 x3 x4 I J Q ) : w_X_crossed_8 N k 1 x1 x2 x3 x4 (zH I J) Q'  := by
  induction k generalizing x1 x2 x3 x4 I J with
  | zero => exact hv.elim
  | succ k ih =>
    rw [w_X_crossed_8]
    rw [v_X_crossed_8] at hv
    refine ⟨rfl, ?_⟩
    refine ⟨rfl, ?_⟩
    refine ⟨fun q1 => ?_, fun q1 => ?_⟩
    · have hv := hv.1 q1
      refine ⟨fun q2 => ?_, fun q2 => ?_⟩
      · have hv := hv.1 q2
        exact hQ _ _ _ hv
      · have hv := hv.2 q2
        refine ⟨fun q3 => ?_, fun q3 => ?_⟩
        · have hv := hv.1 q3
          exact hQ _ _ _ hv
        · have hv := hv.2 q3
          exact hQ _ _ _ hv
    · have hv := hv.2 q1
      refine ⟨rfl, ?_⟩
      obtain ⟨g4, hv⟩ := hv
      refine ⟨qok_mk rfl g4, ?_⟩
      intro y5 ey5
      have hv := hv y5 ey5
      refine ⟨fun q6 => ?_, fun q6 => ?_⟩
      · have hv := hv.1 q6
        exact ih x1 x2 x3 (x4 + (1 : Int32)) I J hv
      · have hv := hv.2 q6
        obtain ⟨g7, hv⟩ := hv
        refine ⟨qok_mk rfl g7, ?_⟩
        refine ⟨fun q8 => ?_, fun q8 => ?_⟩
        · have hv := hv.1 q8
          exact ih x1 x2 x3 (x4 + (1 : Int32)) I J hv
        · have hv := hv.2 q8
          refine ⟨fun q9 => ?_, fun q9 => ?_⟩
          · have hv := hv.1 q9
            exact ih x1 (x2 + (1 : Int32)) x3 (x4 + (1 : Int32)) I J hv
          · have hv := hv.2 q9
            intro y10 ey10
            have hv := hv y10 ey10
            exact ih x1 (x2 + (1 : Int32)) y10 (x4 + (1 : Int32)) I J hv
theorem u_X_crossed (N : Nat) (x1 : Int32) (I : zI) (J : zJ) (Q : Int32 → zI → zJ → Prop) (Q' : Int32 → qH → Prop) (hQ : ∀ (r : Int32) (I : zI) (J : zJ), Q r I J → Q' r (zH I J)) (hv : v_X_crossed N x1 I J Q) : w_X_crossed N 1 x1 (zH I J) Q' := by
  unfold w_X_crossed
  unfold v_X_crossed at hv
  exact u_X_crossed_8 N N x1 (0 : Int32) (-2 : Int32) (0 : Int32) I J Q _ hQ   hv
theorem u_X_isZeroOrOne (N : Nat) (x0 : Int32) (I : zI) (J : zJ) (Q : Int32 → zI → zJ → Prop) (Q' : Int32 → qH → Prop) (hQ : ∀ (r : Int32) (I : zI) (J : zJ), Q r I J → Q' r (zH I J)) (hv : v_X_isZeroOrOne N x0 I J Q) : w_X_isZeroOrOne N x0 (zH I J) Q' := by
  unfold w_X_isZeroOrOne
  unfold v_X_isZeroOrOne at hv
  refine ⟨fun q1 => ?_, fun q1 => ?_⟩
  · have hv := hv.1 q1
    exact ⟨Or.inr rfl, hQ _ _ _ hv⟩
  · have hv := hv.2 q1
    refine ⟨fun q2 => ?_, fun q2 => ?_⟩
    · have hv := hv.1 q2
      exact ⟨Or.inl rfl, hQ _ _ _ hv⟩
    · have hv := hv.2 q2
      exact ⟨Or.inr rfl, hQ _ _ _ hv⟩
theorem u_X_fit_27 (N k : Nat) (x1 : Int32) (x2 : Int32) (x3 : Int32) (x4 : Int32) (x5 : Int32) (I : zI) (J : zJ) (Q : Int32 → zI → zJ → Prop) (Q' : Int32 → qH → Prop) (hQ : ∀ (r : Int32) (I : zI) (J : zJ), Q r I J → Q' r (zH I J)) (hv : v_X_fit_27 N k x1 x2 x3 x4 x5 I J Q ) : w_X_fit_27 N k 1 x1 x2 x3 x4 x5 (zH I J) Q'  := by
  induction k generalizing x1 x2 x3 x4 x5 I J with
  | zero => exact hv.elim
  | succ k ih =>
    rw [w_X_fit_27]
    rw [v_X_fit_27] at hv
    refine ⟨rfl, ?_⟩
    refine ⟨rfl, ?_⟩
    refine ⟨fun q1 => ?_, fun q1 => ?_⟩
    · have hv := hv.1 q1
      refine ⟨fun q2 => ?_, fun q2 => ?_⟩
      · have hv := hv.1 q2
        exact hQ _ _ _ hv
      · have hv := hv.2 q2
        exact hQ _ _ _ hv
    · have hv := hv.2 q1
      refine ⟨rfl, ?_⟩
      refine u_Reck_costAlone_c49 N 49 x1 x5 I J _ _ (fun r3 I4 J4 hv => ?_) hv
      refine ⟨fun q5 => ?_, fun q5 => ?_⟩
      · have hv := hv.1 q5
        exact ih x1 x2 x5 r3 (x5 + (1 : Int32)) I4 J4 hv
      · have hv := hv.2 q5
        refine ⟨fun q6 => ?_, fun q6 => ?_⟩
        · have hv := hv.1 q6
          exact ih x1 x2 x3 x4 (x5 + (1 : Int32)) I4 J4 hv
        · have hv := hv.2 q6
          exact ih x1 x2 x5 r3 (x5 + (1 : Int32)) I4 J4 hv
theorem u_X_fit (N : Nat) (x1 : Int32) (x2 : Int32) (I : zI) (J : zJ) (Q : Int32 → zI → zJ → Prop) (Q' : Int32 → qH → Prop) (hQ : ∀ (r : Int32) (I : zI) (J : zJ), Q r I J → Q' r (zH I J)) (hv : v_X_fit N x1 x2 I J Q) : w_X_fit N 1 x1 x2 (zH I J) Q' := by
  unfold w_X_fit
  unfold v_X_fit at hv
  refine ⟨rfl, ?_⟩
  refine u_X_isPerson N x1 I J _ _ (fun r1 I2 J2 hv => ?_) hv
  refine ⟨fun q3 => ?_, fun q3 => ?_⟩
  · have hv := hv.1 q3
    exact hQ _ _ _ hv
  · have hv := hv.2 q3
    refine u_X_isZeroOrOne N x2 I2 J2 _ _ (fun r4 I5 J5 hv => ?_) hv
    refine ⟨fun q6 => ?_, fun q6 => ?_⟩
    · have hv := hv.1 q6
      exact u_X_fit_27 N N x1 x2 (-2 : Int32) (-2 : Int32) (0 : Int32) I5 J5 Q _ hQ   hv
    · have hv := hv.2 q6
      exact hQ _ _ _ hv
theorem u_X_missed_28 (N k : Nat) (x1 : Int32) (x2 : Int32) (x3 : Int32) (x4 : Int32) (I : zI) (J : zJ) (Q : Int32 → zI → zJ → Prop) (Q' : Int32 → qH → Prop) (hQ : ∀ (r : Int32) (I : zI) (J : zJ), Q r I J → Q' r (zH I J)) (K76 : Int32 → Int32 → Int32 → zI → zJ → Prop) (K76' : Nat → Int32 → Int32 → Int32 → qH → Prop) (hK76 : ∀ (x1 : Int32) (x2 : Int32) (x3 : Int32) (I : zI) (J : zJ), K76 x1 x2 x3 I J → K76' 1 x1 x2 x3 (zH I J)) (hv : v_X_missed_28 N k x1 x2 x3 x4 I J Q K76) : w_X_missed_28 N k 1 x1 x2 x3 x4 (zH I J) Q' K76' := by
  induction k generalizing x1 x2 x3 x4 I J with
  | zero => exact hv.elim
  | succ k ih =>
    rw [w_X_missed_28]
    rw [v_X_missed_28] at hv
    refine ⟨rfl, ?_⟩
    refine ⟨rfl, ?_⟩
    refine ⟨fun q1 => ?_, fun q1 => ?_⟩
    · have hv := hv.1 q1
      exact hK76 x1 x2 x3 I J hv
    · have hv := hv.2 q1
      refine ⟨rfl, ?_⟩
      refine u_Plan_findBest N (0 : Int32) x4 I J _ _ (fun r2 I3 J3 hv => ?_) hv
      refine ⟨fun q4 => ?_, fun q4 => ?_⟩
      · have hv := hv.1 q4
        exact ih x1 x4 r2 (x4 + (1 : Int32)) I3 J3 hv
      · have hv := hv.2 q4
        refine ⟨fun q5 => ?_, fun q5 => ?_⟩
        · have hv := hv.1 q5
          exact ih x1 x2 x3 (x4 + (1 : Int32)) I3 J3 hv
        · have hv := hv.2 q5
          exact ih x1 x4 r2 (x4 + (1 : Int32)) I3 J3 hv
theorem u_X_missed (N : Nat) (x1 : Int32) (I : zI) (J : zJ) (Q : Int32 → zI → zJ → Prop) (Q' : Int32 → qH → Prop) (hQ : ∀ (r : Int32) (I : zI) (J : zJ), Q r I J → Q' r (zH I J)) (hv : v_X_missed N x1 I J Q) : w_X_missed N 1 x1 (zH I J) Q' := by
  unfold w_X_missed
  unfold v_X_missed at hv
  refine u_X_isZeroOrOne N x1 I J _ _ (fun r1 I2 J2 hv => ?_) hv
  refine ⟨fun q3 => ?_, fun q3 => ?_⟩
  · have hv := hv.1 q3
    refine ⟨rfl, ?_⟩
    refine ⟨rfl, ?_⟩
    refine u_Plan_lookAtCosts_c49 N 49 I2 J2 _ _ (fun I4 J4 hv => ?_) hv
    refine u_X_missed_28 N N x1 (-2 : Int32) (0 : Int32) (0 : Int32) I4 J4 Q _ hQ _ _ (fun w5 w6 w7 I8 J8 hv => ?_)  hv
    refine ⟨fun q9 => ?_, fun q9 => ?_⟩
    · have hv := hv.1 q9
      exact hQ _ _ _ hv
    · have hv := hv.2 q9
      refine ⟨fun q10 => ?_, fun q10 => ?_⟩
      · have hv := hv.1 q10
        refine ⟨rfl, ?_⟩
        refine ⟨rfl, ?_⟩
        refine u_Plan_costOf N w7 I8 J8 _ _ (fun r11 I12 J12 hv => ?_) hv
        exact hQ _ _ _ hv
      · have hv := hv.2 q10
        exact hQ _ _ _ hv
  · have hv := hv.2 q3
    exact hQ _ _ _ hv
theorem u_X_crowded_7 (N k : Nat) (x1 : Int32) (x2 : Int32) (x3 : Int32) (x4 : Int32) (I : zI) (J : zJ) (Q : Int32 → zI → zJ → Prop) (Q' : Int32 → qH → Prop) (hQ : ∀ (r : Int32) (I : zI) (J : zJ), Q r I J → Q' r (zH I J)) (hv : v_X_crowded_7 N k x1 x2 x3 x4 I J Q ) : w_X_crowded_7 N k 1 x1 x2 x3 x4 (zH I J) Q'  := by
  induction k generalizing x1 x2 x3 x4 I J with
  | zero => exact hv.elim
  | succ k ih =>
    rw [w_X_crowded_7]
    rw [v_X_crowded_7] at hv
    refine ⟨fun q1 => ?_, fun q1 => ?_⟩
    · have hv := hv.1 q1
      refine ⟨fun q2 => ?_, fun q2 => ?_⟩
      · have hv := hv.1 q2
        exact hQ _ _ _ hv
      · have hv := hv.2 q2
        refine ⟨fun q3 => ?_, fun q3 => ?_⟩
        · have hv := hv.1 q3
          exact hQ _ _ _ hv
        · have hv := hv.2 q3
          exact hQ _ _ _ hv
    · have hv := hv.2 q1
      refine ⟨rfl, ?_⟩
      refine ⟨rfl, ?_⟩
      refine u_State_peopleOnNail_c49 N 49 x4 I J _ _ (fun r4 I5 J5 hv => ?_) hv
      refine ⟨fun q6 => ?_, fun q6 => ?_⟩
      · have hv := hv.1 q6
        exact ih x1 x2 x3 (x4 + (1 : Int32)) I5 J5 hv
      · have hv := hv.2 q6
        exact ih x1 x4 r4 (x4 + (1 : Int32)) I5 J5 hv
theorem u_X_crowded (N : Nat) (x1 : Int32) (I : zI) (J : zJ) (Q : Int32 → zI → zJ → Prop) (Q' : Int32 → qH → Prop) (hQ : ∀ (r : Int32) (I : zI) (J : zJ), Q r I J → Q' r (zH I J)) (hv : v_X_crowded N x1 I J Q) : w_X_crowded N 1 x1 (zH I J) Q' := by
  unfold w_X_crowded
  unfold v_X_crowded at hv
  exact u_X_crowded_7 N N x1 (0 : Int32) (0 : Int32) (0 : Int32) I J Q _ hQ   hv
theorem u_X_straight_7 (N k : Nat) (x1 : Int32) (x2 : Int32) (x3 : Int32) (I : zI) (J : zJ) (Q : Int32 → zI → zJ → Prop) (Q' : Int32 → qH → Prop) (hQ : ∀ (r : Int32) (I : zI) (J : zJ), Q r I J → Q' r (zH I J)) (hv : v_X_straight_7 N k x1 x2 x3 I J Q ) : w_X_straight_7 N k 1 x1 x2 x3 (zH I J) Q'  := by
  induction k generalizing x1 x2 x3 I J with
  | zero => exact hv.elim
  | succ k ih =>
    rw [w_X_straight_7]
    rw [v_X_straight_7] at hv
    refine ⟨rfl, ?_⟩
    refine ⟨rfl, ?_⟩
    refine ⟨fun q1 => ?_, fun q1 => ?_⟩
    · have hv := hv.1 q1
      exact hQ _ _ _ hv
    · have hv := hv.2 q1
      refine ⟨rfl, ?_⟩
      refine u_State_isHung_c49 N 49 x3 I J _ _ (fun r2 I3 J3 hv => ?_) hv
      refine ⟨fun q4 => ?_, fun q4 => ?_⟩
      · have hv := hv.1 q4
        exact ih x1 x2 (x3 + (1 : Int32)) I3 J3 hv
      · have hv := hv.2 q4
        refine ⟨fun q5 => ?_, fun q5 => ?_⟩
        · have hv := hv.1 q5
          refine ⟨rfl, ?_⟩
          refine ⟨rfl, ?_⟩
          obtain ⟨g6, hv⟩ := hv
          refine ⟨qok_mk rfl g6, ?_⟩
          intro y7 ey7
          have hv := hv y7 ey7
          exact ih x3 y7 (x3 + (1 : Int32)) I3 J3 hv
        · have hv := hv.2 q5
          refine ⟨rfl, ?_⟩
          refine ⟨rfl, ?_⟩
          obtain ⟨g8, hv⟩ := hv
          refine ⟨qok_mk rfl g8, ?_⟩
          refine ⟨fun q9 => ?_, fun q9 => ?_⟩
          · have hv := hv.1 q9
            exact ih x1 x2 (x3 + (1 : Int32)) I3 J3 hv
          · have hv := hv.2 q9
            intro y10 ey10
            have hv := hv y10 ey10
            exact ih x3 y10 (x3 + (1 : Int32)) I3 J3 hv
theorem u_X_straight (N : Nat)  (I : zI) (J : zJ) (Q : Int32 → zI → zJ → Prop) (Q' : Int32 → qH → Prop) (hQ : ∀ (r : Int32) (I : zI) (J : zJ), Q r I J → Q' r (zH I J)) (hv : v_X_straight N  I J Q) : w_X_straight N 1 (zH I J) Q' := by
  unfold w_X_straight
  unfold v_X_straight at hv
  exact u_X_straight_7 N N (-2 : Int32) (0 : Int32) (0 : Int32) I J Q _ hQ   hv
theorem u_X_bill_24 (N k : Nat) (x1 : Int32) (x2 : Int32) (x3 : Int32) (I : zI) (J : zJ) (Q : Int32 → zI → zJ → Prop) (Q' : Int32 → qH → Prop) (hQ : ∀ (r : Int32) (I : zI) (J : zJ), Q r I J → Q' r (zH I J)) (hv : v_X_bill_24 N k x1 x2 x3 I J Q ) : w_X_bill_24 N k 1 x1 x2 x3 (zH I J) Q'  := by
  induction k generalizing x1 x2 x3 I J with
  | zero => exact hv.elim
  | succ k ih =>
    rw [w_X_bill_24]
    rw [v_X_bill_24] at hv
    refine ⟨fun q1 => ?_, fun q1 => ?_⟩
    · have hv := hv.1 q1
      exact hQ _ _ _ hv
    · have hv := hv.2 q1
      refine ⟨rfl, ?_⟩
      refine ⟨rfl, ?_⟩
      refine u_Reck_costOfAll_c55 N 55 I J _ _ (fun r2 I3 J3 hv => ?_) hv
      intro y4 ey4
      have hv := hv y4 ey4
      refine ⟨rfl, ?_⟩
      refine ⟨rfl, ?_⟩
      refine u_Night_goByQuietly_c55 N 55 I3 J3 _ _ (fun I5 J5 hv => ?_) hv
      exact ih x1 y4 (x3 + (1 : Int32)) I5 J5 hv
theorem u_X_bill (N : Nat) (x1 : Int32) (I : zI) (J : zJ) (Q : Int32 → zI → zJ → Prop) (Q' : Int32 → qH → Prop) (hQ : ∀ (r : Int32) (I : zI) (J : zJ), Q r I J → Q' r (zH I J)) (hv : v_X_bill N x1 I J Q) : w_X_bill N 1 x1 (zH I J) Q' := by
  unfold w_X_bill
  unfold v_X_bill at hv
  refine u_X_isFewNights N x1 I J _ _ (fun r1 I2 J2 hv => ?_) hv
  refine ⟨fun q3 => ?_, fun q3 => ?_⟩
  · have hv := hv.1 q3
    refine ⟨rfl, ?_⟩
    refine ⟨rfl, ?_⟩
    refine u_State_become_c55_49 N 55 49 I2 J2 _ _ (fun I4 J4 hv => ?_) hv
    exact u_X_bill_24 N N x1 (0 : Int32) (0 : Int32) I4 J4 Q _ hQ   hv
  · have hv := hv.2 q3
    exact hQ _ _ _ hv
theorem u_X_costIfExchanged (N : Nat) (x1 : Int32) (x2 : Int32) (x3 : Int32) (I : zI) (J : zJ) (Q : Int32 → zI → zJ → Prop) (Q' : Int32 → qH → Prop) (hQ : ∀ (r : Int32) (I : zI) (J : zJ), Q r I J → Q' r (zH I J)) (hv : v_X_costIfExchanged N x1 x2 x3 I J Q) : w_X_costIfExchanged N 1 x1 x2 x3 (zH I J) Q' := by
  unfold w_X_costIfExchanged
  unfold v_X_costIfExchanged at hv
  refine ⟨rfl, ?_⟩
  refine ⟨rfl, ?_⟩
  refine u_State_isHung_c49 N 49 x1 I J _ _ (fun r1 I2 J2 hv => ?_) hv
  refine ⟨fun q3 => ?_, fun q3 => ?_⟩
  · have hv := hv.1 q3
    exact hQ _ _ _ hv
  · have hv := hv.2 q3
    refine ⟨rfl, ?_⟩
    refine ⟨rfl, ?_⟩
    refine u_State_isHung_c49 N 49 x2 I2 J2 _ _ (fun r4 I5 J5 hv => ?_) hv
    refine ⟨fun q6 => ?_, fun q6 => ?_⟩
    · have hv := hv.1 q6
      refine ⟨rfl, ?_⟩
      refine ⟨rfl, ?_⟩
      refine u_State_become_c55_49 N 55 49 I5 J5 _ _ (fun I7 J7 hv => ?_) hv
      refine ⟨rfl, ?_⟩
      refine ⟨rfl, ?_⟩
      refine u_State_exchange_c55 N 55 x1 x2 I7 J7 _ _ (fun I8 J8 hv => ?_) hv
      refine ⟨rfl, ?_⟩
      refine ⟨rfl, ?_⟩
      refine u_Reck_costOfAll_c55 N 55 I8 J8 _ _ (fun r9 I10 J10 hv => ?_) hv
      exact hQ _ _ _ hv
    · have hv := hv.2 q6
      exact hQ _ _ _ hv
theorem u_X_swap_48 (N k : Nat) (x1 : Int32) (x2 : Int32) (x3 : Int32) (x4 : Int32) (x5 : Int32) (x6 : Int32) (I : zI) (J : zJ) (Q : Int32 → zI → zJ → Prop) (Q' : Int32 → qH → Prop) (hQ : ∀ (r : Int32) (I : zI) (J : zJ), Q r I J → Q' r (zH I J)) (K99 : Int32 → Int32 → Int32 → Int32 → Int32 → zI → zJ → Prop) (K99' : Nat → Int32 → Int32 → Int32 → Int32 → Int32 → qH → Prop) (hK99 : ∀ (x1 : Int32) (x2 : Int32) (x3 : Int32) (x4 : Int32) (x5 : Int32) (I : zI) (J : zJ), K99 x1 x2 x3 x4 x5 I J → K99' 1 x1 x2 x3 x4 x5 (zH I J)) (hv : v_X_swap_48 N k x1 x2 x3 x4 x5 x6 I J Q K99) : w_X_swap_48 N k 1 x1 x2 x3 x4 x5 x6 (zH I J) Q' K99' := by
  induction k generalizing x1 x2 x3 x4 x5 x6 I J with
  | zero => exact hv.elim
  | succ k ih =>
    rw [w_X_swap_48]
    rw [v_X_swap_48] at hv
    refine ⟨rfl, ?_⟩
    refine ⟨rfl, ?_⟩
    refine ⟨fun q1 => ?_, fun q1 => ?_⟩
    · have hv := hv.1 q1
      exact hK99 x1 x2 x3 x4 x5 I J hv
    · have hv := hv.2 q1
      refine u_X_costIfExchanged N x5 x6 x2 I J _ _ (fun r2 I3 J3 hv => ?_) hv
      intro y4 ey4
      have hv := hv y4 ey4
      refine ⟨fun q5 => ?_, fun q5 => ?_⟩
      · have hv := hv.1 q5
        exact ih x1 x2 x3 x4 x5 (x6 + (1 : Int32)) I3 J3 hv
      · have hv := hv.2 q5
        intro y6 ey6
        have hv := hv y6 ey6
        exact ih x1 x2 y6 y4 x5 (x6 + (1 : Int32)) I3 J3 hv
theorem u_X_swap_30 (N k : Nat) (x1 : Int32) (x2 : Int32) (x3 : Int32) (x4 : Int32) (x5 : Int32) (I : zI) (J : zJ) (Q : Int32 → zI → zJ → Prop) (Q' : Int32 → qH → Prop) (hQ : ∀ (r : Int32) (I : zI) (J : zJ), Q r I J → Q' r (zH I J)) (K105 : Int32 → Int32 → Int32 → zI → zJ → Prop) (K105' : Int32 → Int32 → Int32 → qH → Prop) (hK105 : ∀ (x1 : Int32) (x3 : Int32) (x4 : Int32) (I : zI) (J : zJ), K105 x1 x3 x4 I J → K105' x1 x3 x4 (zH I J)) (hv : v_X_swap_30 N k x1 x2 x3 x4 x5 I J Q K105) : w_X_swap_30 N k 1 x1 x2 x3 x4 x5 (zH I J) Q' K105' := by
  induction k generalizing x1 x2 x3 x4 x5 I J with
  | zero => exact hv.elim
  | succ k ih =>
    rw [w_X_swap_30]
    rw [v_X_swap_30] at hv
    refine ⟨rfl, ?_⟩
    refine ⟨rfl, ?_⟩
    refine ⟨fun q1 => ?_, fun q1 => ?_⟩
    · have hv := hv.1 q1
      exact hK105 x1 x3 x4 I J hv
    · have hv := hv.2 q1
      intro y2 ey2
      have hv := hv y2 ey2
      refine u_X_swap_48 N N x1 x2 x3 x4 x5 y2 I J Q _ hQ _ _ (fun w3 w4 w5 w6 w7 I8 J8 hv => ?_)  hv
      exact ih w3 w4 w5 w6 (w7 + (1 : Int32)) I8 J8 hv
theorem u_X_swap (N : Nat) (x1 : Int32) (I : zI) (J : zJ) (Q : Int32 → zI → zJ → Prop) (Q' : Int32 → qH → Prop) (hQ : ∀ (r : Int32) (I : zI) (J : zJ), Q r I J → Q' r (zH I J)) (hv : v_X_swap N x1 I J Q) : w_X_swap N 1 x1 (zH I J) Q' := by
  unfold w_X_swap
  unfold v_X_swap at hv
  refine u_X_isZeroOrOne N x1 I J _ _ (fun r1 I2 J2 hv => ?_) hv
  refine ⟨fun q3 => ?_, fun q3 => ?_⟩
  · have hv := hv.1 q3
    refine ⟨rfl, ?_⟩
    refine ⟨rfl, ?_⟩
    refine u_Reck_costOfAll_c49 N 49 I2 J2 _ _ (fun r4 I5 J5 hv => ?_) hv
    refine u_X_swap_30 N N x1 r4 (-2 : Int32) (0 : Int32) (0 : Int32) I5 J5 Q _ hQ _ _ (fun w6 w7 w8 I9 J9 hv => ?_)  hv
    refine ⟨fun q10 => ?_, fun q10 => ?_⟩
    · have hv := hv.1 q10
      exact hQ _ _ _ hv
    · have hv := hv.2 q10
      refine ⟨fun q11 => ?_, fun q11 => ?_⟩
      · have hv := hv.1 q11
        exact hQ _ _ _ hv
      · have hv := hv.2 q11
        exact hQ _ _ _ hv
  · have hv := hv.2 q3
    exact hQ _ _ _ hv
theorem u_X_round_13 (N k : Nat) (x1 : Int32) (I : zI) (J : zJ) (Q : Int32 → zI → zJ → Prop) (Q' : Int32 → qH → Prop) (hQ : ∀ (r : Int32) (I : zI) (J : zJ), Q r I J → Q' r (zH I J)) (hv : v_X_round_13 N k x1 I J Q ) : w_X_round_13 N k 1 x1 (zH I J) Q'  := by
  induction k generalizing x1 I J with
  | zero => exact hv.elim
  | succ k ih =>
    rw [w_X_round_13]
    rw [v_X_round_13] at hv
    refine ⟨fun q1 => ?_, fun q1 => ?_⟩
    · have hv := hv.1 q1
      exact hQ _ _ _ hv
    · have hv := hv.2 q1
      refine ⟨rfl, ?_⟩
      refine ⟨rfl, ?_⟩
      refine u_Night_wakeAll_c55 N 55 I J _ _ (fun I2 J2 hv => ?_) hv
      refine ⟨rfl, ?_⟩
      refine ⟨rfl, ?_⟩
      refine u_State_hasSelvesOf_c55_49 N 55 49 I2 J2 _ _ (fun r3 I4 J4 hv => ?_) hv
      refine ⟨fun q5 => ?_, fun q5 => ?_⟩
      · have hv := hv.1 q5
        exact ih (x1 + (1 : Int32)) I4 J4 hv
      · have hv := hv.2 q5
        exact hQ _ _ _ hv
theorem u_X_round (N : Nat)  (I : zI) (J : zJ) (Q : Int32 → zI → zJ → Prop) (Q' : Int32 → qH → Prop) (hQ : ∀ (r : Int32) (I : zI) (J : zJ), Q r I J → Q' r (zH I J)) (hv : v_X_round N  I J Q) : w_X_round N 1 (zH I J) Q' := by
  unfold w_X_round
  unfold v_X_round at hv
  refine ⟨rfl, ?_⟩
  refine ⟨rfl, ?_⟩
  refine u_State_become_c55_49 N 55 49 I J _ _ (fun I1 J1 hv => ?_) hv
  exact u_X_round_13 N N (1 : Int32) I1 J1 Q _ hQ   hv
theorem u_X_upright_34 (N k : Nat) (x1 : Int32) (x2 : Int32) (x3 : Int32) (I : zI) (J : zJ) (Q : Int32 → zI → zJ → Prop) (Q' : Int32 → qH → Prop) (hQ : ∀ (r : Int32) (I : zI) (J : zJ), Q r I J → Q' r (zH I J)) (K56 : Int32 → zI → zJ → Prop) (K56' : Nat → Int32 → qH → Prop) (hK56 : ∀ (x2 : Int32) (I : zI) (J : zJ), K56 x2 I J → K56' 1 x2 (zH I J)) (hv : v_X_upright_34 N k x1 x2 x3 I J Q K56) : w_X_upright_34 N k 1 x1 x2 x3 (zH I J) Q' K56' := by
  induction k generalizing x1 x2 x3 I J with
  | zero => exact hv.elim
  | succ k ih =>
    rw [w_X_upright_34]
    rw [v_X_upright_34] at hv
    refine ⟨fun q1 => ?_, fun q1 => ?_⟩
    · have hv := hv.1 q1
      exact hK56 x2 I J hv
    · have hv := hv.2 q1
      refine ⟨rfl, ?_⟩
      refine ⟨rfl, ?_⟩
      refine u_Night_goByQuietly_c55 N 55 I J _ _ (fun I2 J2 hv => ?_) hv
      exact ih x1 x2 (x3 + (1 : Int32)) I2 J2 hv
theorem u_X_upright_61 (N k : Nat) (x2 : Int32) (x3 : Int32) (x4 : Int32) (I : zI) (J : zJ) (Q : Int32 → zI → zJ → Prop) (Q' : Int32 → qH → Prop) (hQ : ∀ (r : Int32) (I : zI) (J : zJ), Q r I J → Q' r (zH I J)) (hv : v_X_upright_61 N k x2 x3 x4 I J Q ) : w_X_upright_61 N k 1 x2 x3 x4 (zH I J) Q'  := by
  induction k generalizing x2 x3 x4 I J with
  | zero => exact hv.elim
  | succ k ih =>
    rw [w_X_upright_61]
    rw [v_X_upright_61] at hv
    refine ⟨rfl, ?_⟩
    refine ⟨rfl, ?_⟩
    refine ⟨fun q1 => ?_, fun q1 => ?_⟩
    · have hv := hv.1 q1
      exact hQ _ _ _ hv
    · have hv := hv.2 q1
      refine ⟨rfl, ?_⟩
      obtain ⟨g2, hv⟩ := hv
      refine ⟨qok_mk rfl g2, ?_⟩
      refine ⟨fun q3 => ?_, fun q3 => ?_⟩
      · have hv := hv.1 q3
        intro y4 ey4
        have hv := hv y4 ey4
        exact ih x2 y4 (x4 + (1 : Int32)) I J hv
      · have hv := hv.2 q3
        intro y5 ey5
        have hv := hv y5 ey5
        exact ih x2 y5 (x4 + (1 : Int32)) I J hv
theorem u_X_upright (N : Nat) (x1 : Int32) (x2 : Int32) (I : zI) (J : zJ) (Q : Int32 → zI → zJ → Prop) (Q' : Int32 → qH → Prop) (hQ : ∀ (r : Int32) (I : zI) (J : zJ), Q r I J → Q' r (zH I J)) (hv : v_X_upright N x1 x2 I J Q) : w_X_upright N 1 x1 x2 (zH I J) Q' := by
  unfold w_X_upright
  unfold v_X_upright at hv
  refine u_X_isFewNights N x1 I J _ _ (fun r1 I2 J2 hv => ?_) hv
  refine ⟨fun q3 => ?_, fun q3 => ?_⟩
  · have hv := hv.1 q3
    exact hQ _ _ _ hv
  · have hv := hv.2 q3
    refine ⟨fun q4 => ?_, fun q4 => ?_⟩
    · have hv := hv.1 q4
      exact hQ _ _ _ hv
    · have hv := hv.2 q4
      refine ⟨fun q5 => ?_, fun q5 => ?_⟩
      · have hv := hv.1 q5
        refine ⟨rfl, ?_⟩
        refine ⟨rfl, ?_⟩
        refine u_State_become_c55_49 N 55 49 I2 J2 _ _ (fun I6 J6 hv => ?_) hv
        refine u_X_upright_34 N N x1 x2 (0 : Int32) I6 J6 Q _ hQ _ _ (fun w7 I8 J8 hv => ?_)  hv
        exact u_X_upright_61 N N w7 (0 : Int32) (0 : Int32) I8 J8 Q _ hQ   hv
      · have hv := hv.2 q5
        exact hQ _ _ _ hv
theorem u_X_holder_2 (N k : Nat) (x1 : Int32) (x2 : Int32) (I : zI) (J : zJ) (Q : Int32 → zI → zJ → Prop) (Q' : Int32 → qH → Prop) (hQ : ∀ (r : Int32) (I : zI) (J : zJ), Q r I J → Q' r (zH I J)) (hv : v_X_holder_2 N k x1 x2 I J Q ) : w_X_holder_2 N k 1 x1 x2 (zH I J) Q'  := by
  induction k generalizing x1 x2 I J with
  | zero => exact hv.elim
  | succ k ih =>
    rw [w_X_holder_2]
    rw [v_X_holder_2] at hv
    refine ⟨rfl, ?_⟩
    refine ⟨rfl, ?_⟩
    refine ⟨fun q1 => ?_, fun q1 => ?_⟩
    · have hv := hv.1 q1
      exact hQ _ _ _ hv
    · have hv := hv.2 q1
      refine ⟨rfl, ?_⟩
      obtain ⟨g2, hv⟩ := hv
      refine ⟨qok_mk rfl g2, ?_⟩
      refine ⟨fun q3 => ?_, fun q3 => ?_⟩
      · have hv := hv.1 q3
        exact ih x1 (x2 + (1 : Int32)) I J hv
      · have hv := hv.2 q3
        exact hQ _ _ _ hv
theorem u_X_holder (N : Nat) (x1 : Int32) (I : zI) (J : zJ) (Q : Int32 → zI → zJ → Prop) (Q' : Int32 → qH → Prop) (hQ : ∀ (r : Int32) (I : zI) (J : zJ), Q r I J → Q' r (zH I J)) (hv : v_X_holder N x1 I J Q) : w_X_holder N 1 x1 (zH I J) Q' := by
  unfold w_X_holder
  unfold v_X_holder at hv
  exact u_X_holder_2 N N x1 (0 : Int32) I J Q _ hQ   hv
theorem u_X_free_9 (N k : Nat) (x1 : Int32) (x2 : Int32) (x3 : Int32) (x4 : Int32) (I : zI) (J : zJ) (Q : Int32 → zI → zJ → Prop) (Q' : Int32 → qH → Prop) (hQ : ∀ (r : Int32) (I : zI) (J : zJ), Q r I J → Q' r (zH I J)) (hv : v_X_free_9 N k x1 x2 x3 x4 I J Q ) : w_X_free_9 N k 1 x1 x2 x3 x4 (zH I J) Q'  := by
  induction k generalizing x1 x2 x3 x4 I J with
  | zero => exact hv.elim
  | succ k ih =>
    rw [w_X_free_9]
    rw [v_X_free_9] at hv
    refine ⟨rfl, ?_⟩
    refine ⟨rfl, ?_⟩
    refine ⟨fun q1 => ?_, fun q1 => ?_⟩
    · have hv := hv.1 q1
      refine ⟨fun q2 => ?_, fun q2 => ?_⟩
      · have hv := hv.1 q2
        exact hQ _ _ _ hv
      · have hv := hv.2 q2
        refine ⟨fun q3 => ?_, fun q3 => ?_⟩
        · have hv := hv.1 q3
          exact hQ _ _ _ hv
        · have hv := hv.2 q3
          exact hQ _ _ _ hv
    · have hv := hv.2 q1
      refine ⟨rfl, ?_⟩
      refine u_State_isTaken_c49 N 49 x4 I J _ _ (fun r4 I5 J5 hv => ?_) hv
      refine ⟨fun q6 => ?_, fun q6 => ?_⟩
      · have hv := hv.1 q6
        exact ih x1 x2 x3 (x4 + (1 : Int32)) I5 J5 hv
      · have hv := hv.2 q6
        refine ⟨rfl, ?_⟩
        refine ⟨rfl, ?_⟩
        obtain ⟨g7, hv⟩ := hv
        refine ⟨qok_mk rfl g7, ?_⟩
        refine ⟨fun q8 => ?_, fun q8 => ?_⟩
        · have hv := hv.1 q8
          exact ih x1 x2 x3 (x4 + (1 : Int32)) I5 J5 hv
        · have hv := hv.2 q8
          intro y9 ey9
          have hv := hv y9 ey9
          exact ih x1 x4 y9 (x4 + (1 : Int32)) I5 J5 hv
theorem u_X_free (N : Nat) (x1 : Int32) (I : zI) (J : zJ) (Q : Int32 → zI → zJ → Prop) (Q' : Int32 → qH → Prop) (hQ : ∀ (r : Int32) (I : zI) (J : zJ), Q r I J → Q' r (zH I J)) (hv : v_X_free N x1 I J Q) : w_X_free N 1 x1 (zH I J) Q' := by
  unfold w_X_free
  unfold v_X_free at hv
  exact u_X_free_9 N N x1 (-2 : Int32) (-2 : Int32) (0 : Int32) I J Q _ hQ   hv
theorem u_X_day_23 (N k : Nat) (x1 : Int32) (x2 : Int32) (I : zI) (J : zJ) (Q : Int32 → zI → zJ → Prop) (Q' : Int32 → qH → Prop) (hQ : ∀ (r : Int32) (I : zI) (J : zJ), Q r I J → Q' r (zH I J)) (hv : v_X_day_23 N k x1 x2 I J Q ) : w_X_day_23 N k 1 x1 x2 (zH I J) Q'  := by
  induction k generalizing x1 x2 I J with
  | zero => exact hv.elim
  | succ k ih =>
    rw [w_X_day_23]
    rw [v_X_day_23] at hv
    refine ⟨fun q1 => ?_, fun q1 => ?_⟩
    · have hv := hv.1 q1
      exact hQ _ _ _ hv
    · have hv := hv.2 q1
      refine ⟨rfl, ?_⟩
      refine ⟨rfl, ?_⟩
      obtain ⟨g2, hv⟩ := hv
      refine ⟨qok_mk rfl g2, ?_⟩
      refine ⟨fun q3 => ?_, fun q3 => ?_⟩
      · have hv := hv.1 q3
        refine ⟨rfl, ?_⟩
        refine u_Night_wakeAll_c55 N 55 I J _ _ (fun I4 J4 hv => ?_) hv
        exact ih x1 (x2 + (1 : Int32)) I4 J4 hv
      · have hv := hv.2 q3
        exact hQ _ _ _ hv
theorem u_X_day (N : Nat) (x1 : Int32) (I : zI) (J : zJ) (Q : Int32 → zI → zJ → Prop) (Q' : Int32 → qH → Prop) (hQ : ∀ (r : Int32) (I : zI) (J : zJ), Q r I J → Q' r (zH I J)) (hv : v_X_day N x1 I J Q) : w_X_day N 1 x1 (zH I J) Q' := by
  unfold w_X_day
  unfold v_X_day at hv
  refine ⟨rfl, ?_⟩
  refine u_X_isPerson N x1 I J _ _ (fun r1 I2 J2 hv => ?_) hv
  refine ⟨fun q3 => ?_, fun q3 => ?_⟩
  · have hv := hv.1 q3
    refine ⟨rfl, ?_⟩
    refine ⟨rfl, ?_⟩
    refine u_State_become_c55_49 N 55 49 I2 J2 _ _ (fun I4 J4 hv => ?_) hv
    exact u_X_day_23 N N x1 (0 : Int32) I4 J4 Q _ hQ   hv
  · have hv := hv.2 q3
    exact hQ _ _ _ hv
theorem u_X_then (N : Nat) (x1 : Int32) (x2 : Int32) (x3 : Int32) (I : zI) (J : zJ) (Q : Int32 → zI → zJ → Prop) (Q' : Int32 → qH → Prop) (hQ : ∀ (r : Int32) (I : zI) (J : zJ), Q r I J → Q' r (zH I J)) (hv : v_X_then N x1 x2 x3 I J Q) : w_X_then N 1 x1 x2 x3 (zH I J) Q' := by
  unfold w_X_then
  unfold v_X_then at hv
  refine ⟨rfl, ?_⟩
  refine u_X_isPerson N x1 I J _ _ (fun r1 I2 J2 hv => ?_) hv
  refine ⟨fun q3 => ?_, fun q3 => ?_⟩
  · have hv := hv.1 q3
    exact hQ _ _ _ hv
  · have hv := hv.2 q3
    refine u_X_isFewNights N x2 I2 J2 _ _ (fun r4 I5 J5 hv => ?_) hv
    refine ⟨fun q6 => ?_, fun q6 => ?_⟩
    · have hv := hv.1 q6
      exact hQ _ _ _ hv
    · have hv := hv.2 q6
      refine ⟨fun q7 => ?_, fun q7 => ?_⟩
      · have hv := hv.1 q7
        exact hQ _ _ _ hv
      · have hv := hv.2 q7
        refine ⟨fun q8 => ?_, fun q8 => ?_⟩
        · have hv := hv.1 q8
          refine ⟨rfl, ?_⟩
          refine ⟨rfl, ?_⟩
          refine u_State_become_c55_49 N 55 49 I5 J5 _ _ (fun I9 J9 hv => ?_) hv
          refine ⟨rfl, ?_⟩
          refine ⟨rfl, ?_⟩
          refine ⟨rfl, ?_⟩
          refine u_Night_goByWithAll_c55 N 55 x2 (I9 8 12) I9 J9 _ _ (fun I10 J10 hv => ?_) hv
          refine ⟨fun q11 => ?_, fun q11 => ?_⟩
          · have hv := hv.1 q11
            refine ⟨rfl, ?_⟩
            refine ⟨rfl, ?_⟩
            obtain ⟨g12, hv⟩ := hv
            refine ⟨qok_mk rfl g12, ?_⟩
            exact hQ _ _ _ hv
          · have hv := hv.2 q11
            refine ⟨fun q13 => ?_, fun q13 => ?_⟩
            · have hv := hv.1 q13
              refine ⟨rfl, ?_⟩
              refine ⟨rfl, ?_⟩
              obtain ⟨g14, hv⟩ := hv
              refine ⟨qok_mk rfl g14, ?_⟩
              exact hQ _ _ _ hv
            · have hv := hv.2 q13
              refine ⟨rfl, ?_⟩
              refine ⟨rfl, ?_⟩
              obtain ⟨g15, hv⟩ := hv
              refine ⟨qok_mk rfl g15, ?_⟩
              exact hQ _ _ _ hv
        · have hv := hv.2 q8
          exact hQ _ _ _ hv
theorem u_X_bentIn (N : Nat) (x1 : Int32) (x2 : Int32) (I : zI) (J : zJ) (Q : Int32 → zI → zJ → Prop) (Q' : Int32 → qH → Prop) (hQ : ∀ (r : Int32) (I : zI) (J : zJ), Q r I J → Q' r (zH I J)) (hv : v_X_bentIn N x1 x2 I J Q) : w_X_bentIn N 1 x1 x2 (zH I J) Q' := by
  unfold w_X_bentIn
  unfold v_X_bentIn at hv
  refine ⟨rfl, ?_⟩
  refine u_X_isHanger N x1 I J _ _ (fun r1 I2 J2 hv => ?_) hv
  refine ⟨fun q3 => ?_, fun q3 => ?_⟩
  · have hv := hv.1 q3
    exact hQ _ _ _ hv
  · have hv := hv.2 q3
    refine u_X_isFewNights N x2 I2 J2 _ _ (fun r4 I5 J5 hv => ?_) hv
    refine ⟨fun q6 => ?_, fun q6 => ?_⟩
    · have hv := hv.1 q6
      refine ⟨rfl, ?_⟩
      refine ⟨rfl, ?_⟩
      refine u_State_become_c55_49 N 55 49 I5 J5 _ _ (fun I7 J7 hv => ?_) hv
      refine ⟨rfl, ?_⟩
      refine ⟨rfl, ?_⟩
      refine ⟨rfl, ?_⟩
      refine u_Night_goByWithAll_c55 N 55 x2 (I7 8 12) I7 J7 _ _ (fun I8 J8 hv => ?_) hv
      refine ⟨rfl, ?_⟩
      refine ⟨rfl, ?_⟩
      obtain ⟨g9, hv⟩ := hv
      refine ⟨qok_mk rfl g9, ?_⟩
      exact hQ _ _ _ hv
    · have hv := hv.2 q6
      exact hQ _ _ _ hv
theorem u_X_year_34 (N k : Nat) (x1 : Int32) (x2 : Int32) (x3 : Int32) (x4 : Int32) (x5 : Int32) (I : zI) (J : zJ) (Q : Int32 → zI → zJ → Prop) (Q' : Int32 → qH → Prop) (hQ : ∀ (r : Int32) (I : zI) (J : zJ), Q r I J → Q' r (zH I J)) (hv : v_X_year_34 N k x1 x2 x3 x4 x5 I J Q ) : w_X_year_34 N k 1 x1 x2 x3 x4 x5 (zH I J) Q'  := by
  induction k generalizing x1 x2 x3 x4 x5 I J with
  | zero => exact hv.elim
  | succ k ih =>
    rw [w_X_year_34]
    rw [v_X_year_34] at hv
    refine ⟨fun q1 => ?_, fun q1 => ?_⟩
    · have hv := hv.1 q1
      exact hQ _ _ _ hv
    · have hv := hv.2 q1
      refine ⟨rfl, ?_⟩
      refine ⟨rfl, ?_⟩
      refine u_State_become_c55_49 N 55 49 I J _ _ (fun I2 J2 hv => ?_) hv
      refine ⟨rfl, ?_⟩
      refine ⟨rfl, ?_⟩
      refine ⟨rfl, ?_⟩
      refine u_Night_staysHung_c55 N 55 x2 ((I2 8 12) + x5) x1 I2 J2 _ _ (fun r3 I4 J4 hv => ?_) hv
      refine ⟨fun q5 => ?_, fun q5 => ?_⟩
      · have hv := hv.1 q5
        intro y6 ey6
        have hv := hv y6 ey6
        exact ih x1 x2 x3 y6 (x5 + (1 : Int32)) I4 J4 hv
      · have hv := hv.2 q5
        intro y7 ey7
        have hv := hv y7 ey7
        exact ih x1 x2 x3 y7 (x5 + (1 : Int32)) I4 J4 hv
theorem u_X_year (N : Nat) (x1 : Int32) (x2 : Int32) (x3 : Int32) (I : zI) (J : zJ) (Q : Int32 → zI → zJ → Prop) (Q' : Int32 → qH → Prop) (hQ : ∀ (r : Int32) (I : zI) (J : zJ), Q r I J → Q' r (zH I J)) (hv : v_X_year N x1 x2 x3 I J Q) : w_X_year N 1 x1 x2 x3 (zH I J) Q' := by
  unfold w_X_year
  unfold v_X_year at hv
  refine ⟨rfl, ?_⟩
  refine u_X_isPerson N x1 I J _ _ (fun r1 I2 J2 hv => ?_) hv
  refine ⟨fun q3 => ?_, fun q3 => ?_⟩
  · have hv := hv.1 q3
    exact hQ _ _ _ hv
  · have hv := hv.2 q3
    refine u_X_isFewNights N x2 I2 J2 _ _ (fun r4 I5 J5 hv => ?_) hv
    refine ⟨fun q6 => ?_, fun q6 => ?_⟩
    · have hv := hv.1 q6
      exact hQ _ _ _ hv
    · have hv := hv.2 q6
      refine ⟨fun q7 => ?_, fun q7 => ?_⟩
      · have hv := hv.1 q7
        exact hQ _ _ _ hv
      · have hv := hv.2 q7
        refine ⟨fun q8 => ?_, fun q8 => ?_⟩
        · have hv := hv.1 q8
          exact u_X_year_34 N N x1 x2 x3 (0 : Int32) (0 : Int32) I5 J5 Q _ hQ   hv
        · have hv := hv.2 q8
          exact hQ _ _ _ hv
theorem u_X_tell (N : Nat) (x1 : Int32) (x2 : Int32) (x3 : Int32) (I : zI) (J : zJ) (Q : Int32 → zI → zJ → Prop) (Q' : Int32 → qH → Prop) (hQ : ∀ (r : Int32) (I : zI) (J : zJ), Q r I J → Q' r (zH I J)) (hv : v_X_tell N x1 x2 x3 I J Q) : w_X_tell N 1 x1 x2 x3 (zH I J) Q' := by
  unfold w_X_tell
  unfold v_X_tell at hv
  refine ⟨rfl, ?_⟩
  refine u_X_isPerson N x1 I J _ _ (fun r1 I2 J2 hv => ?_) hv
  refine ⟨fun q3 => ?_, fun q3 => ?_⟩
  · have hv := hv.1 q3
    exact hQ _ _ _ hv
  · have hv := hv.2 q3
    refine ⟨rfl, ?_⟩
    refine u_X_isPerson N x2 I2 J2 _ _ (fun r4 I5 J5 hv => ?_) hv
    refine ⟨fun q6 => ?_, fun q6 => ?_⟩
    · have hv := hv.1 q6
      exact hQ _ _ _ hv
    · have hv := hv.2 q6
      refine ⟨rfl, ?_⟩
      refine ⟨rfl, ?_⟩
      refine u_Told_hasRoom N  I5 J5 _ _ (fun r7 I8 J8 hv => ?_) hv
      refine ⟨fun q9 => ?_, fun q9 => ?_⟩
      · have hv := hv.1 q9
        refine ⟨rfl, ?_⟩
        refine ⟨rfl, ?_⟩
        refine u_Told_add N x1 x2 x3 I8 J8 _ _ (fun r10 I11 J11 hv => ?_) hv
        exact hQ _ _ _ hv
      · have hv := hv.2 q9
        exact hQ _ _ _ hv
theorem u_X_forget (N : Nat)  (I : zI) (J : zJ) (Q : Int32 → zI → zJ → Prop) (Q' : Int32 → qH → Prop) (hQ : ∀ (r : Int32) (I : zI) (J : zJ), Q r I J → Q' r (zH I J)) (hv : v_X_forget N  I J Q) : w_X_forget N 1 (zH I J) Q' := by
  unfold w_X_forget
  unfold v_X_forget at hv
  refine ⟨rfl, ?_⟩
  refine ⟨rfl, ?_⟩
  intro y1 ey1
  have hv := hv y1 ey1
  obtain ⟨I2, eI2⟩ : ∃ z, z = qu I 83 7 (0 : Int32) := ⟨_, rfl⟩
  have hv := hv I2 eI2
  intro h2 eh2
  have eh2 : h2 = zH I2 J := by rw [eh2, eI2]; rfl
  subst eh2
  exact hQ _ _ _ hv
theorem u_X_isKnown (N : Nat) (x1 : Int32) (I : zI) (J : zJ) (Q : Int32 → zI → zJ → Prop) (Q' : Int32 → qH → Prop) (hQ : ∀ (r : Int32) (I : zI) (J : zJ), Q r I J → Q' r (zH I J)) (hv : v_X_isKnown N x1 I J Q) : w_X_isKnown N 1 x1 (zH I J) Q' := by
  unfold w_X_isKnown
  unfold v_X_isKnown at hv
  refine ⟨fun q1 => ?_, fun q1 => ?_⟩
  · have hv := hv.1 q1
    exact ⟨Or.inl rfl, hQ _ _ _ hv⟩
  · have hv := hv.2 q1
    refine ⟨rfl, ?_⟩
    refine ⟨rfl, ?_⟩
    refine ⟨fun q2 => ?_, fun q2 => ?_⟩
    · have hv := hv.1 q2
      exact ⟨Or.inl rfl, hQ _ _ _ hv⟩
    · have hv := hv.2 q2
      exact ⟨Or.inr rfl, hQ _ _ _ hv⟩
theorem u_X_two (N : Nat) (x1 : Int32) (x2 : Int32) (I : zI) (J : zJ) (Q : Int32 → zI → zJ → Prop) (Q' : Int32 → qH → Prop) (hQ : ∀ (r : Int32) (I : zI) (J : zJ), Q r I J → Q' r (zH I J)) (hv : v_X_two N x1 x2 I J Q) : w_X_two N 1 x1 x2 (zH I J) Q' := by
  unfold w_X_two
  unfold v_X_two at hv
  refine ⟨rfl, ?_⟩
  refine u_X_isKnown N x1 I J _ _ (fun r1 I2 J2 hv => ?_) hv
  refine ⟨fun q3 => ?_, fun q3 => ?_⟩
  · have hv := hv.1 q3
    exact hQ _ _ _ hv
  · have hv := hv.2 q3
    refine ⟨fun q4 => ?_, fun q4 => ?_⟩
    · have hv := hv.1 q4
      refine ⟨fun q5 => ?_, fun q5 => ?_⟩
      · have hv := hv.1 q5
        refine ⟨rfl, ?_⟩
        refine ⟨rfl, ?_⟩
        refine u_Told_pairLeft_c49 N 49 x1 x2 I2 J2 _ _ (fun r6 I7 J7 hv => ?_) hv
        exact hQ _ _ _ hv
      · have hv := hv.2 q5
        refine ⟨rfl, ?_⟩
        refine ⟨rfl, ?_⟩
        refine u_Told_pairsLeft_c49 N 49 x1 I2 J2 _ _ (fun r8 I9 J9 hv => ?_) hv
        exact hQ _ _ _ hv
    · have hv := hv.2 q4
      exact hQ _ _ _ hv
theorem u_X_ask (N : Nat) (x1 : Int32) (I : zI) (J : zJ) (Q : Int32 → zI → zJ → Prop) (Q' : Int32 → qH → Prop) (hQ : ∀ (r : Int32) (I : zI) (J : zJ), Q r I J → Q' r (zH I J)) (hv : v_X_ask N x1 I J Q) : w_X_ask N 1 x1 (zH I J) Q' := by
  unfold w_X_ask
  unfold v_X_ask at hv
  refine ⟨rfl, ?_⟩
  refine u_X_isKnown N x1 I J _ _ (fun r1 I2 J2 hv => ?_) hv
  refine ⟨fun q3 => ?_, fun q3 => ?_⟩
  · have hv := hv.1 q3
    exact hQ _ _ _ hv
  · have hv := hv.2 q3
    refine ⟨rfl, ?_⟩
    refine ⟨rfl, ?_⟩
    refine u_Told_whomToAsk_c49 N 49 x1 I2 J2 _ _ (fun r4 I5 J5 hv => ?_) hv
    exact hQ _ _ _ hv
theorem u_X_isSlot (N : Nat) (x0 : Int32) (I : zI) (J : zJ) (Q : Int32 → zI → zJ → Prop) (Q' : Int32 → qH → Prop) (hQ : ∀ (r : Int32) (I : zI) (J : zJ), Q r I J → Q' r (zH I J)) (hv : v_X_isSlot N x0 I J Q) : w_X_isSlot N x0 (zH I J) Q' := by
  unfold w_X_isSlot
  unfold v_X_isSlot at hv
  refine ⟨fun q1 => ?_, fun q1 => ?_⟩
  · have hv := hv.1 q1
    exact ⟨Or.inl rfl, hQ _ _ _ hv⟩
  · have hv := hv.2 q1
    refine ⟨fun q2 => ?_, fun q2 => ?_⟩
    · have hv := hv.1 q2
      exact ⟨Or.inl rfl, hQ _ _ _ hv⟩
    · have hv := hv.2 q2
      exact ⟨Or.inr rfl, hQ _ _ _ hv⟩
theorem u_X_hold (N : Nat) (x1 : Int32) (I : zI) (J : zJ) (Q : Int32 → zI → zJ → Prop) (Q' : Int32 → qH → Prop) (hQ : ∀ (r : Int32) (I : zI) (J : zJ), Q r I J → Q' r (zH I J)) (hv : v_X_hold N x1 I J Q) : w_X_hold N 1 x1 (zH I J) Q' := by
  unfold w_X_hold
  unfold v_X_hold at hv
  refine u_X_isSlot N x1 I J _ _ (fun r1 I2 J2 hv => ?_) hv
  refine ⟨fun q3 => ?_, fun q3 => ?_⟩
  · have hv := hv.1 q3
    refine ⟨rfl, ?_⟩
    obtain ⟨g4, hv⟩ := hv
    refine ⟨qok_mk rfl g4, ?_⟩
    have z5 := zSt_slot _ (zlt g4)
    rw [show (qR (zH I2 J2) (qR (zH I2 J2) 1 10) (x1).toNatClampNeg) = (343 + 6 * (x1).toNatClampNeg) from z5.1]
    refine ⟨z5.2.1, ?_⟩
    refine u_State_become_g N z5.2 zSt_49 (343 + 6 * (x1).toNatClampNeg) 49 I2 J2 _ _ (fun I6 J6 hv => ?_) hv
    refine ⟨rfl, ?_⟩
    obtain ⟨I7, eI7⟩ : ∃ z, z = qu I6 1 11 ((I6 1 11) ||| ((1 : Int32) <<< (x1 &&& 31))) := ⟨_, rfl⟩
    have hv := hv I7 eI7
    intro h7 eh7
    have eh7 : h7 = zH I7 J6 := by rw [eh7, eI7]; rfl
    subst eh7
    exact ⟨Or.inr rfl, hQ _ _ _ hv⟩
  · have hv := hv.2 q3
    exact ⟨Or.inl rfl, hQ _ _ _ hv⟩
theorem u_X_restore (N : Nat) (x1 : Int32) (I : zI) (J : zJ) (Q : Int32 → zI → zJ → Prop) (Q' : Int32 → qH → Prop) (hQ : ∀ (r : Int32) (I : zI) (J : zJ), Q r I J → Q' r (zH I J)) (hv : v_X_restore N x1 I J Q) : w_X_restore N 1 x1 (zH I J) Q' := by
  unfold w_X_restore
  unfold v_X_restore at hv
  refine u_X_isSlot N x1 I J _ _ (fun r1 I2 J2 hv => ?_) hv
  refine ⟨fun q3 => ?_, fun q3 => ?_⟩
  · have hv := hv.1 q3
    exact ⟨Or.inl rfl, hQ _ _ _ hv⟩
  · have hv := hv.2 q3
    refine ⟨rfl, ?_⟩
    refine ⟨fun q4 => ?_, fun q4 => ?_⟩
    · have hv := hv.1 q4
      obtain ⟨g5, hv⟩ := hv
      refine ⟨qok_mk rfl g5, ?_⟩
      have z6 := zSt_slot _ (zlt g5)
      rw [show (qR (zH I2 J2) (qR (zH I2 J2) 1 10) (x1).toNatClampNeg) = (343 + 6 * (x1).toNatClampNeg) from z6.1]
      refine ⟨rfl, ?_⟩
      refine u_State_become_g N zSt_49 z6.2 49 (343 + 6 * (x1).toNatClampNeg) I2 J2 _ _ (fun I7 J7 hv => ?_) hv
      refine ⟨rfl, ?_⟩
      refine ⟨rfl, ?_⟩
      refine u_Past_drop N  I7 J7 _ _ (fun I8 J8 hv => ?_) hv
      exact ⟨Or.inr rfl, hQ _ _ _ hv⟩
    · have hv := hv.2 q4
      exact ⟨Or.inl rfl, hQ _ _ _ hv⟩
theorem u_X_sumOfFirst_4_c53 (N k : Nat) (x1 : Int32) (x2 : Int32) (x3 : Int32) (I : zI) (J : zJ) (Q : Int32 → zI → zJ → Prop) (Q' : Int32 → qH → Prop) (hQ : ∀ (r : Int32) (I : zI) (J : zJ), Q r I J → Q' r (zH I J)) (hv : v_X_sumOfFirst_4 N k 53 x1 x2 x3 I J Q ) : w_X_sumOfFirst_4 N k 53 x1 x2 x3 (zH I J) Q'  := by
  induction k generalizing x1 x2 x3 I J with
  | zero => exact hv.elim
  | succ k ih =>
    rw [w_X_sumOfFirst_4]
    rw [v_X_sumOfFirst_4] at hv
    refine ⟨fun q1 => ?_, fun q1 => ?_⟩
    · have hv := hv.1 q1
      exact hQ _ _ _ hv
    · have hv := hv.2 q1
      refine ⟨6, rfl, ?_⟩
      refine ⟨fun q4 => ?_, fun q4 => ?_⟩
      · have hv := hv.1 q4
        exact hQ _ _ _ hv
      · have hv := hv.2 q4
        obtain ⟨g5, hv⟩ := hv
        refine ⟨qok_mk rfl g5, ?_⟩
        intro y6 ey6
        have hv := hv y6 ey6
        exact ih x1 y6 (x3 + (1 : Int32)) I J hv
theorem u_X_sumOfFirst_c53 (N : Nat) (_x0 : Nat) (x1 : Int32) (I : zI) (J : zJ) (Q : Int32 → zI → zJ → Prop) (Q' : Int32 → qH → Prop) (hQ : ∀ (r : Int32) (I : zI) (J : zJ), Q r I J → Q' r (zH I J)) (hv : v_X_sumOfFirst N 53 x1 I J Q) : w_X_sumOfFirst N 53 x1 (zH I J) Q' := by
  unfold w_X_sumOfFirst
  unfold v_X_sumOfFirst at hv
  exact u_X_sumOfFirst_4_c53 N N x1 (0 : Int32) (0 : Int32) I J Q _ hQ   hv
theorem u_X_sumOfFirst_4_c54 (N k : Nat) (x1 : Int32) (x2 : Int32) (x3 : Int32) (I : zI) (J : zJ) (Q : Int32 → zI → zJ → Prop) (Q' : Int32 → qH → Prop) (hQ : ∀ (r : Int32) (I : zI) (J : zJ), Q r I J → Q' r (zH I J)) (hv : v_X_sumOfFirst_4 N k 54 x1 x2 x3 I J Q ) : w_X_sumOfFirst_4 N k 54 x1 x2 x3 (zH I J) Q'  := by
  induction k generalizing x1 x2 x3 I J with
  | zero => exact hv.elim
  | succ k ih =>
    rw [w_X_sumOfFirst_4]
    rw [v_X_sumOfFirst_4] at hv
    refine ⟨fun q1 => ?_, fun q1 => ?_⟩
    · have hv := hv.1 q1
      exact hQ _ _ _ hv
    · have hv := hv.2 q1
      refine ⟨7, rfl, ?_⟩
      refine ⟨fun q4 => ?_, fun q4 => ?_⟩
      · have hv := hv.1 q4
        exact hQ _ _ _ hv
      · have hv := hv.2 q4
        obtain ⟨g5, hv⟩ := hv
        refine ⟨qok_mk rfl g5, ?_⟩
        intro y6 ey6
        have hv := hv y6 ey6
        exact ih x1 y6 (x3 + (1 : Int32)) I J hv
theorem u_X_sumOfFirst_c54 (N : Nat) (_x0 : Nat) (x1 : Int32) (I : zI) (J : zJ) (Q : Int32 → zI → zJ → Prop) (Q' : Int32 → qH → Prop) (hQ : ∀ (r : Int32) (I : zI) (J : zJ), Q r I J → Q' r (zH I J)) (hv : v_X_sumOfFirst N 54 x1 I J Q) : w_X_sumOfFirst N 54 x1 (zH I J) Q' := by
  unfold w_X_sumOfFirst
  unfold v_X_sumOfFirst at hv
  exact u_X_sumOfFirst_4_c54 N N x1 (0 : Int32) (0 : Int32) I J Q _ hQ   hv
theorem u_X_count (N : Nat) (x1 : Int32) (I : zI) (J : zJ) (Q : Int32 → zI → zJ → Prop) (Q' : Int32 → qH → Prop) (hQ : ∀ (r : Int32) (I : zI) (J : zJ), Q r I J → Q' r (zH I J)) (hv : v_X_count N x1 I J Q) : w_X_count N 1 x1 (zH I J) Q' := by
  unfold w_X_count
  unfold v_X_count at hv
  refine ⟨fun q1 => ?_, fun q1 => ?_⟩
  · have hv := hv.1 q1
    refine ⟨rfl, ?_⟩
    refine ⟨rfl, ?_⟩
    exact hQ _ _ _ hv
  · have hv := hv.2 q1
    refine ⟨fun q2 => ?_, fun q2 => ?_⟩
    · have hv := hv.1 q2
      refine ⟨rfl, ?_⟩
      refine ⟨rfl, ?_⟩
      exact hQ _ _ _ hv
    · have hv := hv.2 q2
      refine ⟨fun q3 => ?_, fun q3 => ?_⟩
      · have hv := hv.1 q3
        refine ⟨rfl, ?_⟩
        refine ⟨rfl, ?_⟩
        exact hQ _ _ _ hv
      · have hv := hv.2 q3
        refine ⟨fun q4 => ?_, fun q4 => ?_⟩
        · have hv := hv.1 q4
          refine ⟨rfl, ?_⟩
          refine ⟨rfl, ?_⟩
          refine u_State_bitsOfHung_c49 N 49 I J _ _ (fun r5 I6 J6 hv => ?_) hv
          exact hQ _ _ _ hv
        · have hv := hv.2 q4
          refine ⟨fun q7 => ?_, fun q7 => ?_⟩
          · have hv := hv.1 q7
            refine ⟨rfl, ?_⟩
            refine ⟨rfl, ?_⟩
            refine u_State_bitsOfTaken_c49 N 49 I J _ _ (fun r8 I9 J9 hv => ?_) hv
            exact hQ _ _ _ hv
          · have hv := hv.2 q7
            refine ⟨fun q10 => ?_, fun q10 => ?_⟩
            · have hv := hv.1 q10
              refine ⟨rfl, ?_⟩
              refine ⟨rfl, ?_⟩
              refine u_State_bitsOfOwnSelves_c49 N 49 I J _ _ (fun r11 I12 J12 hv => ?_) hv
              exact hQ _ _ _ hv
            · have hv := hv.2 q10
              refine ⟨fun q13 => ?_, fun q13 => ?_⟩
              · have hv := hv.1 q13
                refine ⟨rfl, ?_⟩
                refine ⟨rfl, ?_⟩
                refine ⟨rfl, ?_⟩
                refine u_X_sumOfFirst_c53 N 53 (I 8 3) I J _ _ (fun r14 I15 J15 hv => ?_) hv
                exact hQ _ _ _ hv
              · have hv := hv.2 q13
                refine ⟨fun q16 => ?_, fun q16 => ?_⟩
                · have hv := hv.1 q16
                  refine ⟨rfl, ?_⟩
                  refine ⟨rfl, ?_⟩
                  refine ⟨rfl, ?_⟩
                  refine u_X_sumOfFirst_c54 N 54 (I 8 0) I J _ _ (fun r17 I18 J18 hv => ?_) hv
                  exact hQ _ _ _ hv
                · have hv := hv.2 q16
                  refine ⟨fun q19 => ?_, fun q19 => ?_⟩
                  · have hv := hv.1 q19
                    refine ⟨rfl, ?_⟩
                    refine ⟨rfl, ?_⟩
                    exact hQ _ _ _ hv
                  · have hv := hv.2 q19
                    refine ⟨fun q20 => ?_, fun q20 => ?_⟩
                    · have hv := hv.1 q20
                      refine ⟨rfl, ?_⟩
                      refine ⟨rfl, ?_⟩
                      exact hQ _ _ _ hv
                    · have hv := hv.2 q20
                      refine ⟨fun q21 => ?_, fun q21 => ?_⟩
                      · have hv := hv.1 q21
                        refine ⟨rfl, ?_⟩
                        refine ⟨rfl, ?_⟩
                        exact hQ _ _ _ hv
                      · have hv := hv.2 q21
                        refine ⟨fun q22 => ?_, fun q22 => ?_⟩
                        · have hv := hv.1 q22
                          refine ⟨rfl, ?_⟩
                          refine u_Integer_bitCount N (I 1 11) I J _ _ (fun r23 I24 J24 hv => ?_) hv
                          exact hQ _ _ _ hv
                        · have hv := hv.2 q22
                          refine ⟨fun q25 => ?_, fun q25 => ?_⟩
                          · have hv := hv.1 q25
                            refine ⟨rfl, ?_⟩
                            refine ⟨rfl, ?_⟩
                            refine ⟨rfl, ?_⟩
                            refine ⟨rfl, ?_⟩
                            refine u_Night_hasMoth N (I 8 12) (I 49 1) I J _ _ (fun r26 I27 J27 hv => ?_) hv
                            refine ⟨fun q28 => ?_, fun q28 => ?_⟩
                            · have hv := hv.1 q28
                              exact hQ _ _ _ hv
                            · have hv := hv.2 q28
                              exact hQ _ _ _ hv
                          · have hv := hv.2 q25
                            refine ⟨fun q29 => ?_, fun q29 => ?_⟩
                            · have hv := hv.1 q29
                              refine ⟨rfl, ?_⟩
                              refine ⟨rfl, ?_⟩
                              refine u_Reck_costOfAll_c49 N 49 I J _ _ (fun r30 I31 J31 hv => ?_) hv
                              exact hQ _ _ _ hv
                            · have hv := hv.2 q29
                              refine ⟨fun q32 => ?_, fun q32 => ?_⟩
                              · have hv := hv.1 q32
                                refine ⟨rfl, ?_⟩
                                refine ⟨rfl, ?_⟩
                                refine u_State_bitsOfSharedNails_c49 N 49 I J _ _ (fun r33 I34 J34 hv => ?_) hv
                                exact hQ _ _ _ hv
                              · have hv := hv.2 q32
                                exact hQ _ _ _ hv
