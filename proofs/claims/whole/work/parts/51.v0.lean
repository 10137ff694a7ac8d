/-! over the layout: written by wip/whole/emitv.py -/
def v_Integer_bitCount (N : Nat) (x0 : Int32) (I : zI) (J : zJ) (Q : Int32 → zI → zJ → Prop) : Prop := (∀ y1 : Int32, y1 = (x0 - (((x0).toUInt32 >>> (((1 : Int32)).toUInt32 &&& Int32.toUInt32 31)).toInt32 &&& (1431655765 : Int32))) → (∀ y2 : Int32, y2 = ((y1 &&& (858993459 : Int32)) + (((y1).toUInt32 >>> (((2 : Int32)).toUInt32 &&& Int32.toUInt32 31)).toInt32 &&& (858993459 : Int32))) → (∀ y3 : Int32, y3 = ((y2 + ((y2).toUInt32 >>> (((4 : Int32)).toUInt32 &&& Int32.toUInt32 31)).toInt32) &&& (252645135 : Int32)) → (∀ y4 : Int32, y4 = (y3 + ((y3).toUInt32 >>> (((8 : Int32)).toUInt32 &&& Int32.toUInt32 31)).toInt32) → (∀ y5 : Int32, y5 = (y4 + ((y4).toUInt32 >>> (((16 : Int32)).toUInt32 &&& Int32.toUInt32 31)).toInt32) → Q (y5 &&& (63 : Int32)) I J)))))
def v_Math_floorMod (N : Nat) (x0 : Int32) (x1 : Int32) (I : zI) (J : zJ) (Q : Int32 → zI → zJ → Prop) : Prop := (¬ x1 = 0 ∧ (∀ y2 : Int32, y2 = (x0 - x0 / x1 * x1) → ((0 ≤ (x0 ^^^ x1) → Q y2 I J) ∧ (¬ 0 ≤ (x0 ^^^ x1) → ((y2 = 0 → Q y2 I J) ∧ (¬ y2 = 0 → Q (y2 + x1) I J))))))
def v_Law_add (N : Nat) (x0 : Nat) (x1 : Int32) (x2 : Int32) (I : zI) (J : zJ) (Q : zI → zJ → Prop) : Prop := (((400 : Int32) ≤ (I x0 2) → Q I J) ∧ (¬ (400 : Int32) ≤ (I x0 2) → (vp_in (I x0 2) 400 ∧ ∀ I3 : zI, I3 = qu I (x0 + 1) ((I x0 2)).toNatClampNeg x1 → (vp_in (I3 x0 2) 400 ∧ ∀ I5 : zI, I5 = qu I3 (x0 + 2) ((I3 x0 2)).toNatClampNeg x2 → (∀ I6 : zI, I6 = qu I5 x0 2 ((I5 x0 2) + (1 : Int32)) → Q I6 J)))))
def v_Law_aimAtEnd (N : Nat) (x0 : Nat) (x1 : Int32) (I : zI) (J : zJ) (Q : zI → zJ → Prop) : Prop := ((x1 < 0 → Q I J) ∧ (¬ x1 < 0 → (((I x0 2) ≤ x1 → Q I J) ∧ (¬ (I x0 2) ≤ x1 → (vp_in x1 400 ∧ ∀ I4 : zI, I4 = qu I (x0 + 2) (x1).toNatClampNeg (I x0 2) → Q I4 J)))))
def v_Law_becomeOneStep (N : Nat) (x0 : Nat) (x1 : Int32) (x2 : Int32) (I : zI) (J : zJ) (Q : zI → zJ → Prop) : Prop := (∀ I1 : zI, I1 = qu I x0 2 (0 : Int32) → (v_Law_add N x0 x1 x2 I1 J (fun I2 J2 => (v_Law_add N x0 (4 : Int32) (0 : Int32) I2 J2 (fun I3 J3 => Q I3 J3)))))
def v_Law_become (N : Nat) (x0 : Nat) (x1 : Nat) (I : zI) (J : zJ) (Q : zI → zJ → Prop) : Prop := (zcpok (0 : Int32) (0 : Int32) (I x1 2) 400 400 ∧ ∀ I2 : zI, I2 = zcp I (x0 + 1) (va_cpy (I (x1 + 1)) (I (x0 + 1)) ((0 : Int32)).toNatClampNeg ((0 : Int32)).toNatClampNeg ((I x1 2)).toNatClampNeg) → (zcpok (0 : Int32) (0 : Int32) (I2 x1 2) 400 400 ∧ ∀ I5 : zI, I5 = zcp I2 (x0 + 2) (va_cpy (I2 (x1 + 2)) (I2 (x0 + 2)) ((0 : Int32)).toNatClampNeg ((0 : Int32)).toNatClampNeg ((I2 x1 2)).toNatClampNeg) → (∀ I7 : zI, I7 = qu I5 x0 2 (I5 x1 2) → Q I7 J)))
def v_State_isHung (N : Nat) (x0 : Nat) (x1 : Int32) (I : zI) (J : zJ) (Q : Int32 → zI → zJ → Prop) : Prop := (vp_in x1 6 ∧ (((I (x0 + 2) (x1).toNatClampNeg) < 0 → Q (0 : Int32) I J) ∧ (¬ (I (x0 + 2) (x1).toNatClampNeg) < 0 → Q (1 : Int32) I J)))
def v_State_nailOf (N : Nat) (x0 : Nat) (x1 : Int32) (I : zI) (J : zJ) (Q : Int32 → zI → zJ → Prop) : Prop := (vp_in x1 6 ∧ (∀ y2 : Int32, y2 = (I (x0 + 2) (x1).toNatClampNeg) → ((y2 < 0 → Q (-2 : Int32) I J) ∧ (¬ y2 < 0 → (vp_in y2 7 ∧ Q (I 9 (y2).toNatClampNeg) I J)))))
def v_State_peopleOnNail_4 (N : Nat) : Nat → Nat → Int32 → Int32 → Int32 → zI → zJ → (Int32 → zI → zJ → Prop) → Prop
  | 0 => fun _ _ _ _ _ _ _ => False
  | k + 1 => fun x0 x1 x2 x3 I J Q  => (((I 8 3) ≤ x3 → Q x2 I J) ∧ (¬ (I 8 3) ≤ x3 → (v_State_nailOf N x0 x3 I J (fun r2 I3 J3 => ((¬ r2 = x1 → (∀ y5 : Int32, y5 = (x2 + (0 : Int32)) → (v_State_peopleOnNail_4 N k x0 x1 y5 (x3 + (1 : Int32)) I3 J3 Q))) ∧ (r2 = x1 → (∀ y6 : Int32, y6 = (x2 + (1 : Int32)) → (v_State_peopleOnNail_4 N k x0 x1 y6 (x3 + (1 : Int32)) I3 J3 Q))))))))
def v_State_peopleOnNail (N : Nat) (x0 : Nat) (x1 : Int32) (I : zI) (J : zJ) (Q : Int32 → zI → zJ → Prop) : Prop := (v_State_peopleOnNail_4 N N x0 x1 (0 : Int32) (0 : Int32) I J Q )
def v_State_othersBeside (N : Nat) (x0 : Nat) (x1 : Int32) (I : zI) (J : zJ) (Q : Int32 → zI → zJ → Prop) : Prop := (v_State_isHung N x0 x1 I J (fun r1 I2 J2 => ((r1 = 0 → Q (0 : Int32) I2 J2) ∧ (¬ r1 = 0 → (v_State_nailOf N x0 x1 I2 J2 (fun r4 I5 J5 => (v_State_peopleOnNail N x0 r4 I5 J5 (fun r6 I7 J7 => Q (r6 - (1 : Int32)) I7 J7))))))))
def v_State_begin_7 (N : Nat) : Nat → Nat → Int32 → zI → zJ → (zI → zJ → Prop) → (zI → zJ → Prop) → Prop
  | 0 => fun _ _ _ _ _ _ => False
  | k + 1 => fun x0 x1 I J Q K63 => (((6 : Int32) ≤ x1 → (K63 I J)) ∧ (¬ (6 : Int32) ≤ x1 → (vp_in x1 6 ∧ (vp_in x1 6 ∧ ∀ I4 : zI, I4 = qu I (x0 + 1) (x1).toNatClampNeg (I 11 (x1).toNatClampNeg) → (vp_in x1 6 ∧ (vp_in x1 6 ∧ ∀ I7 : zI, I7 = qu I4 (x0 + 2) (x1).toNatClampNeg (I4 13 (x1).toNatClampNeg) → (vp_in x1 6 ∧ ∀ I9 : zI, I9 = qu I7 (x0 + 3) (x1).toNatClampNeg x1 → (vp_in x1 6 ∧ ∀ I11 : zI, I11 = qu I9 (x0 + 4) (x1).toNatClampNeg (0 : Int32) → (v_State_begin_7 N k x0 (x1 + (1 : Int32)) I11 J Q K63)))))))))
def v_State_begin_65 (N : Nat) : Nat → Nat → Int32 → zI → zJ → (zI → zJ → Prop) → Prop
  | 0 => fun _ _ _ _ _ => False
  | k + 1 => fun x0 x1 I J Q  => (((7 : Int32) ≤ x1 → Q I J) ∧ (¬ (7 : Int32) ≤ x1 → (vp_in x1 7 ∧ ∀ I3 : zI, I3 = qu I (x0 + 5) (x1).toNatClampNeg (0 : Int32) → (v_State_begin_65 N k x0 (x1 + (1 : Int32)) I3 J Q))))
def v_State_begin (N : Nat) (x0 : Nat) (I : zI) (J : zJ) (Q : zI → zJ → Prop) : Prop := (∀ I1 : zI, I1 = qu I x0 1 (0 : Int32) → (v_State_begin_7 N N x0 (0 : Int32) I1 J Q (fun I2 J2 => (v_State_begin_65 N N x0 (0 : Int32) I2 J2 Q ))))
def v_State_become (N : Nat) (x0 : Nat) (x1 : Nat) (I : zI) (J : zJ) (Q : zI → zJ → Prop) : Prop := (∀ I1 : zI, I1 = qu I x0 1 (I x1 1) → (zcpok (0 : Int32) (0 : Int32) (6 : Int32) 6 6 ∧ ∀ I3 : zI, I3 = zcp I1 (x0 + 1) (va_cpy (I1 (x1 + 1)) (I1 (x0 + 1)) ((0 : Int32)).toNatClampNeg ((0 : Int32)).toNatClampNeg ((6 : Int32)).toNatClampNeg) → (zcpok (0 : Int32) (0 : Int32) (6 : Int32) 6 6 ∧ ∀ I6 : zI, I6 = zcp I3 (x0 + 2) (va_cpy (I3 (x1 + 2)) (I3 (x0 + 2)) ((0 : Int32)).toNatClampNeg ((0 : Int32)).toNatClampNeg ((6 : Int32)).toNatClampNeg) → (zcpok (0 : Int32) (0 : Int32) (6 : Int32) 6 6 ∧ ∀ I9 : zI, I9 = zcp I6 (x0 + 3) (va_cpy (I6 (x1 + 3)) (I6 (x0 + 3)) ((0 : Int32)).toNatClampNeg ((0 : Int32)).toNatClampNeg ((6 : Int32)).toNatClampNeg) → (zcpok (0 : Int32) (0 : Int32) (6 : Int32) 6 6 ∧ ∀ I12 : zI, I12 = zcp I9 (x0 + 4) (va_cpy (I9 (x1 + 4)) (I9 (x0 + 4)) ((0 : Int32)).toNatClampNeg ((0 : Int32)).toNatClampNeg ((6 : Int32)).toNatClampNeg) → (zcpok (0 : Int32) (0 : Int32) (7 : Int32) 7 7 ∧ ∀ I15 : zI, I15 = zcp I12 (x0 + 5) (va_cpy (I12 (x1 + 5)) (I12 (x0 + 5)) ((0 : Int32)).toNatClampNeg ((0 : Int32)).toNatClampNeg ((7 : Int32)).toNatClampNeg) → Q I15 J))))))
def v_State_exchange (N : Nat) (x0 : Nat) (x1 : Int32) (x2 : Int32) (I : zI) (J : zJ) (Q : zI → zJ → Prop) : Prop := (vp_in x1 6 ∧ (∀ y2 : Int32, y2 = (I (x0 + 2) (x1).toNatClampNeg) → (vp_in x2 6 ∧ (∀ I4 : zI, I4 = qu I (x0 + 2) (x1).toNatClampNeg (I (x0 + 2) (x2).toNatClampNeg) → (vp_in x2 6 ∧ ∀ I6 : zI, I6 = qu I4 (x0 + 2) (x2).toNatClampNeg y2 → Q I6 J)))))
def v_State_whoIsOn_2 (N : Nat) : Nat → Nat → Int32 → Int32 → zI → zJ → (Int32 → zI → zJ → Prop) → Prop
  | 0 => fun _ _ _ _ _ _ => False
  | k + 1 => fun x0 x1 x2 I J Q  => (((I 8 3) ≤ x2 → Q (-2 : Int32) I J) ∧ (¬ (I 8 3) ≤ x2 → (vp_in x2 6 ∧ ((¬ (I (x0 + 2) (x2).toNatClampNeg) = x1 → (v_State_whoIsOn_2 N k x0 x1 (x2 + (1 : Int32)) I J Q)) ∧ ((I (x0 + 2) (x2).toNatClampNeg) = x1 → Q x2 I J)))))
def v_State_whoIsOn (N : Nat) (x0 : Nat) (x1 : Int32) (I : zI) (J : zJ) (Q : Int32 → zI → zJ → Prop) : Prop := (v_State_whoIsOn_2 N N x0 x1 (0 : Int32) I J Q )
def v_State_isTaken (N : Nat) (x0 : Nat) (x1 : Int32) (I : zI) (J : zJ) (Q : Int32 → zI → zJ → Prop) : Prop := (v_State_whoIsOn N x0 x1 I J (fun r1 I2 J2 => ((r1 < 0 → Q (0 : Int32) I2 J2) ∧ (¬ r1 < 0 → Q (1 : Int32) I2 J2))))
def v_State_hasSelvesOf_2 (N : Nat) : Nat → Nat → Nat → Int32 → zI → zJ → (Int32 → zI → zJ → Prop) → Prop
  | 0 => fun _ _ _ _ _ _ => False
  | k + 1 => fun x0 x1 x2 I J Q  => (((I 8 3) ≤ x2 → Q (1 : Int32) I J) ∧ (¬ (I 8 3) ≤ x2 → (vp_in x2 6 ∧ (vp_in x2 6 ∧ (((I (x0 + 3) (x2).toNatClampNeg) = (I (x1 + 3) (x2).toNatClampNeg) → (v_State_hasSelvesOf_2 N k x0 x1 (x2 + (1 : Int32)) I J Q)) ∧ (¬ (I (x0 + 3) (x2).toNatClampNeg) = (I (x1 + 3) (x2).toNatClampNeg) → Q (0 : Int32) I J))))))
def v_State_hasSelvesOf (N : Nat) (x0 : Nat) (x1 : Nat) (I : zI) (J : zJ) (Q : Int32 → zI → zJ → Prop) : Prop := (v_State_hasSelvesOf_2 N N x0 x1 (0 : Int32) I J Q )
def v_State_bitsOfHung_4 (N : Nat) : Nat → Nat → Int32 → Int32 → zI → zJ → (Int32 → zI → zJ → Prop) → Prop
  | 0 => fun _ _ _ _ _ _ => False
  | k + 1 => fun x0 x1 x2 I J Q  => (((I 8 3) ≤ x2 → Q x1 I J) ∧ (¬ (I 8 3) ≤ x2 → (v_State_isHung N x0 x2 I J (fun r2 I3 J3 => ((r2 = 0 → (∀ y5 : Int32, y5 = (x1 ||| (0 : Int32)) → (v_State_bitsOfHung_4 N k x0 y5 (x2 + (1 : Int32)) I3 J3 Q))) ∧ (¬ r2 = 0 → (∀ y6 : Int32, y6 = (x1 ||| ((1 : Int32) <<< (x2 &&& 31))) → (v_State_bitsOfHung_4 N k x0 y6 (x2 + (1 : Int32)) I3 J3 Q))))))))
def v_State_bitsOfHung (N : Nat) (x0 : Nat) (I : zI) (J : zJ) (Q : Int32 → zI → zJ → Prop) : Prop := (v_State_bitsOfHung_4 N N x0 (0 : Int32) (0 : Int32) I J Q )
def v_State_bitsOfTaken_4 (N : Nat) : Nat → Nat → Int32 → Int32 → zI → zJ → (Int32 → zI → zJ → Prop) → Prop
  | 0 => fun _ _ _ _ _ _ => False
  | k + 1 => fun x0 x1 x2 I J Q  => (((I 8 3) ≤ x2 → Q x1 I J) ∧ (¬ (I 8 3) ≤ x2 → (v_State_isHung N x0 x2 I J (fun r2 I3 J3 => ((r2 = 0 → (∀ y5 : Int32, y5 = (x1 ||| (0 : Int32)) → (v_State_bitsOfTaken_4 N k x0 y5 (x2 + (1 : Int32)) I3 J3 Q))) ∧ (¬ r2 = 0 → (vp_in x2 6 ∧ (∀ y7 : Int32, y7 = (x1 ||| ((1 : Int32) <<< ((I3 (x0 + 2) (x2).toNatClampNeg) &&& 31))) → (v_State_bitsOfTaken_4 N k x0 y7 (x2 + (1 : Int32)) I3 J3 Q)))))))))
def v_State_bitsOfTaken (N : Nat) (x0 : Nat) (I : zI) (J : zJ) (Q : Int32 → zI → zJ → Prop) : Prop := (v_State_bitsOfTaken_4 N N x0 (0 : Int32) (0 : Int32) I J Q )
def v_State_bitsOfOwnSelves_4 (N : Nat) : Nat → Nat → Int32 → Int32 → zI → zJ → (Int32 → zI → zJ → Prop) → Prop
  | 0 => fun _ _ _ _ _ _ => False
  | k + 1 => fun x0 x1 x2 I J Q  => (((I 8 3) ≤ x2 → Q x1 I J) ∧ (¬ (I 8 3) ≤ x2 → (vp_in x2 6 ∧ ((¬ (I (x0 + 3) (x2).toNatClampNeg) = x2 → (∀ y4 : Int32, y4 = (x1 ||| (0 : Int32)) → (v_State_bitsOfOwnSelves_4 N k x0 y4 (x2 + (1 : Int32)) I J Q))) ∧ ((I (x0 + 3) (x2).toNatClampNeg) = x2 → (∀ y5 : Int32, y5 = (x1 ||| ((1 : Int32) <<< (x2 &&& 31))) → (v_State_bitsOfOwnSelves_4 N k x0 y5 (x2 + (1 : Int32)) I J Q)))))))
def v_State_bitsOfOwnSelves (N : Nat) (x0 : Nat) (I : zI) (J : zJ) (Q : Int32 → zI → zJ → Prop) : Prop := (v_State_bitsOfOwnSelves_4 N N x0 (0 : Int32) (0 : Int32) I J Q )
def v_State_bitsOfSharedNails_4 (N : Nat) : Nat → Nat → Int32 → Int32 → zI → zJ → (Int32 → zI → zJ → Prop) → Prop
  | 0 => fun _ _ _ _ _ _ => False
  | k + 1 => fun x0 x1 x2 I J Q  => (((5 : Int32) ≤ x2 → Q x1 I J) ∧ (¬ (5 : Int32) ≤ x2 → (v_State_peopleOnNail N x0 x2 I J (fun r2 I3 J3 => ((r2 < (2 : Int32) → (∀ y5 : Int32, y5 = (x1 ||| (0 : Int32)) → (v_State_bitsOfSharedNails_4 N k x0 y5 (x2 + (1 : Int32)) I3 J3 Q))) ∧ (¬ r2 < (2 : Int32) → (∀ y6 : Int32, y6 = (x1 ||| ((1 : Int32) <<< (x2 &&& 31))) → (v_State_bitsOfSharedNails_4 N k x0 y6 (x2 + (1 : Int32)) I3 J3 Q))))))))
def v_State_bitsOfSharedNails (N : Nat) (x0 : Nat) (I : zI) (J : zJ) (Q : Int32 → zI → zJ → Prop) : Prop := (v_State_bitsOfSharedNails_4 N N x0 (0 : Int32) (0 : Int32) I J Q )
def v_Text_clear_22 (N : Nat) : Nat → Nat → Int32 → zI → zJ → (zI → zJ → Prop) → (zI → zJ → Prop) → Prop
  | 0 => fun _ _ _ _ _ _ => False
  | k + 1 => fun x0 x1 I J Q K42 => (((6 : Int32) ≤ x1 → (K42 I J)) ∧ (¬ (6 : Int32) ≤ x1 → (vp_in x1 6 ∧ ∀ I3 : zI, I3 = qu I (x0 + 5) (x1).toNatClampNeg (-2 : Int32) → (v_Text_clear_22 N k x0 (x1 + (1 : Int32)) I3 J Q K42))))
def v_Text_clear (N : Nat) (x0 : Nat) (I : zI) (J : zJ) (Q : zI → zJ → Prop) : Prop := (∀ I1 : zI, I1 = qu I x0 0 (0 : Int32) → (∀ I2 : zI, I2 = qu I1 x0 3 (0 : Int32) → (∀ I3 : zI, I3 = qu I2 x0 11 (0 : Int32) → (∀ I4 : zI, I4 = qu I3 x0 12 (0 : Int32) → (v_Text_clear_22 N N x0 (0 : Int32) I4 J Q (fun I5 J5 => (v_Law_becomeOneStep N (x0 + 6) (2 : Int32) (0 : Int32) I5 J5 (fun I6 J6 => (v_Law_becomeOneStep N (x0 + 9) (1 : Int32) (0 : Int32) I6 J6 (fun I7 J7 => (v_Law_becomeOneStep N (x0 + 12) (1 : Int32) (0 : Int32) I7 J7 (fun I8 J8 => (v_Law_becomeOneStep N (x0 + 15) (2 : Int32) (0 : Int32) I8 J8 (fun I9 J9 => Q I9 J9))))))))))))))
def v_Text_isFirstTaken_2 (N : Nat) : Nat → Nat → Int32 → Int32 → zI → zJ → (Int32 → zI → zJ → Prop) → Prop
  | 0 => fun _ _ _ _ _ _ => False
  | k + 1 => fun x0 x1 x2 I J Q  => (((I x0 3) ≤ x2 → Q (0 : Int32) I J) ∧ (¬ (I x0 3) ≤ x2 → (vp_in x2 6 ∧ ((¬ (I (x0 + 5) (x2).toNatClampNeg) = x1 → (v_Text_isFirstTaken_2 N k x0 x1 (x2 + (1 : Int32)) I J Q)) ∧ ((I (x0 + 5) (x2).toNatClampNeg) = x1 → Q (1 : Int32) I J)))))
def v_Text_isFirstTaken (N : Nat) (x0 : Nat) (x1 : Int32) (I : zI) (J : zJ) (Q : Int32 → zI → zJ → Prop) : Prop := (v_Text_isFirstTaken_2 N N x0 x1 (0 : Int32) I J Q )
def v_Text_become (N : Nat) (x0 : Nat) (x1 : Nat) (I : zI) (J : zJ) (Q : zI → zJ → Prop) : Prop := (∀ I1 : zI, I1 = qu I x0 0 (I x1 0) → (∀ I2 : zI, I2 = qu I1 x0 3 (I1 x1 3) → (∀ I3 : zI, I3 = qu I2 x0 11 (I2 x1 11) → (∀ I4 : zI, I4 = qu I3 x0 12 (I3 x1 12) → (zcpok (0 : Int32) (0 : Int32) (7 : Int32) 7 7 ∧ ∀ I6 : zI, I6 = zcp I4 (x0 + 1) (va_cpy (I4 (x1 + 1)) (I4 (x0 + 1)) ((0 : Int32)).toNatClampNeg ((0 : Int32)).toNatClampNeg ((7 : Int32)).toNatClampNeg) → (zcpok (0 : Int32) (0 : Int32) (7 : Int32) 7 7 ∧ ∀ I9 : zI, I9 = zcp I6 (x0 + 2) (va_cpy (I6 (x1 + 2)) (I6 (x0 + 2)) ((0 : Int32)).toNatClampNeg ((0 : Int32)).toNatClampNeg ((7 : Int32)).toNatClampNeg) → (zcpok (0 : Int32) (0 : Int32) (6 : Int32) 6 6 ∧ ∀ I12 : zI, I12 = zcp I9 (x0 + 3) (va_cpy (I9 (x1 + 3)) (I9 (x0 + 3)) ((0 : Int32)).toNatClampNeg ((0 : Int32)).toNatClampNeg ((6 : Int32)).toNatClampNeg) → (zcpok (0 : Int32) (0 : Int32) (6 : Int32) 6 6 ∧ ∀ I15 : zI, I15 = zcp I12 (x0 + 4) (va_cpy (I12 (x1 + 4)) (I12 (x0 + 4)) ((0 : Int32)).toNatClampNeg ((0 : Int32)).toNatClampNeg ((6 : Int32)).toNatClampNeg) → (zcpok (0 : Int32) (0 : Int32) (6 : Int32) 6 6 ∧ ∀ I18 : zI, I18 = zcp I15 (x0 + 5) (va_cpy (I15 (x1 + 5)) (I15 (x0 + 5)) ((0 : Int32)).toNatClampNeg ((0 : Int32)).toNatClampNeg ((6 : Int32)).toNatClampNeg) → (v_Law_become N (x0 + 6) (x1 + 6) I18 J (fun I20 J20 => (v_Law_become N (x0 + 9) (x1 + 9) I20 J20 (fun I21 J21 => (v_Law_become N (x0 + 12) (x1 + 12) I21 J21 (fun I22 J22 => (v_Law_become N (x0 + 15) (x1 + 15) I22 J22 (fun I23 J23 => Q I23 J23)))))))))))))))))
def v_Waits_close (N : Nat)  (I : zI) (J : zJ) (Q : zI → zJ → Prop) : Prop := (∀ I1 : zI, I1 = qu I 47 1 (if (0 : Int32) < ((I 47 1) - (1 : Int32)) then ((I 47 1) - (1 : Int32)) else (0 : Int32)) → (∀ I2 : zI, I2 = qu I1 47 2 ((I1 47 2) - (1 : Int32)) → Q I2 J))
def v_Waits_strengthOf (N : Nat) (x0 : Int32) (I : zI) (J : zJ) (Q : Int32 → zI → zJ → Prop) : Prop := ((x0 = (42 : Int32) → Q (2 : Int32) I J) ∧ (¬ x0 = (42 : Int32) → ((x0 = (43 : Int32) → Q (1 : Int32) I J) ∧ (¬ x0 = (43 : Int32) → ((x0 = (44 : Int32) → Q (0 : Int32) I J) ∧ (¬ x0 = (44 : Int32) → ((x0 = (45 : Int32) → Q (1 : Int32) I J) ∧ (¬ x0 = (45 : Int32) → ((x0 = (46 : Int32) → Q (0 : Int32) I J) ∧ (¬ x0 = (46 : Int32) → ((x0 = (47 : Int32) → Q (2 : Int32) I J) ∧ (¬ x0 = (47 : Int32) → Q (0 : Int32) I J))))))))))))
def v_Waits_letGo_0 (N : Nat) : Nat → Nat → Int32 → zI → zJ → (zI → zJ → Prop) → Prop
  | 0 => fun _ _ _ _ _ => False
  | k + 1 => fun x1 x2 I J Q  => (((I 47 1) ≤ 0 → Q I J) ∧ (¬ (I 47 1) ≤ 0 → (vp_in ((I 47 1) - (1 : Int32)) 32 ∧ (v_Waits_strengthOf N (I 48 (((I 47 1) - (1 : Int32))).toNatClampNeg) I J (fun r3 I4 J4 => ((r3 < x2 → Q I4 J4) ∧ (¬ r3 < x2 → (∀ I6 : zI, I6 = qu I4 47 1 ((I4 47 1) - (1 : Int32)) → (vp_in (I6 47 1) 32 ∧ (v_Law_add N x1 (I6 48 ((I6 47 1)).toNatClampNeg) (0 : Int32) I6 J4 (fun I8 J8 => (v_Waits_letGo_0 N k x1 x2 I8 J8 Q))))))))))))
def v_Waits_letGo (N : Nat) (x1 : Nat) (x2 : Int32) (I : zI) (J : zJ) (Q : zI → zJ → Prop) : Prop := (v_Waits_letGo_0 N N x1 x2 I J Q )
def v_Waits_put (N : Nat) (x1 : Int32) (I : zI) (J : zJ) (Q : zI → zJ → Prop) : Prop := (((32 : Int32) ≤ (I 47 1) → Q I J) ∧ (¬ (32 : Int32) ≤ (I 47 1) → (vp_in (I 47 1) 32 ∧ ∀ I3 : zI, I3 = qu I 48 ((I 47 1)).toNatClampNeg x1 → (∀ I4 : zI, I4 = qu I3 47 1 ((I3 47 1) + (1 : Int32)) → Q I4 J))))
def v_Waits_open (N : Nat)  (I : zI) (J : zJ) (Q : zI → zJ → Prop) : Prop := (v_Waits_put N (40 : Int32) I J (fun I1 J1 => (∀ I2 : zI, I2 = qu I1 47 2 ((I1 47 2) + (1 : Int32)) → Q I2 J1)))
def v_Waits_add (N : Nat) (x1 : Nat) (x2 : Int32) (I : zI) (J : zJ) (Q : zI → zJ → Prop) : Prop := (v_Waits_strengthOf N x2 I J (fun r1 I2 J2 => (v_Waits_letGo N x1 r1 I2 J2 (fun I3 J3 => (v_Waits_put N x2 I3 J3 (fun I4 J4 => Q I4 J4))))))
def v_Waits_begin (N : Nat)  (I : zI) (J : zJ) (Q : zI → zJ → Prop) : Prop := (∀ I1 : zI, I1 = qu I 47 1 (0 : Int32) → (∀ I2 : zI, I2 = qu I1 47 2 (0 : Int32) → Q I2 J))
theorem u_Integer_bitCount (N : Nat) (x0 : Int32) (I : zI) (J : zJ) (Q : Int32 → zI → zJ → Prop) (Q' : Int32 → qH → Prop) (hQ : ∀ (r : Int32) (I : zI) (J : zJ), Q r I J → Q' r (zH I J)) (hv : v_Integer_bitCount N x0 I J Q) : w_Integer_bitCount N x0 (zH I J) Q' := by
  unfold w_Integer_bitCount
  unfold v_Integer_bitCount at hv
  intro y1 ey1
  have hv := hv y1 ey1
  intro y2 ey2
  have hv := hv y2 ey2
  intro y3 ey3
  have hv := hv y3 ey3
  intro y4 ey4
  have hv := hv y4 ey4
  intro y5 ey5
  have hv := hv y5 ey5
  exact hQ _ _ _ hv
theorem u_Math_floorMod (N : Nat) (x0 : Int32) (x1 : Int32) (I : zI) (J : zJ) (Q : Int32 → zI → zJ → Prop) (Q' : Int32 → qH → Prop) (hQ : ∀ (r : Int32) (I : zI) (J : zJ), Q r I J → Q' r (zH I J)) (hv : v_Math_floorMod N x0 x1 I J Q) : w_Math_floorMod N x0 x1 (zH I J) Q' := by
  unfold w_Math_floorMod
  unfold v_Math_floorMod at hv
  obtain ⟨g1, hv⟩ := hv
  refine ⟨g1, ?_⟩
  intro y2 ey2
  have hv := hv y2 ey2
  refine ⟨fun q3 => ?_, fun q3 => ?_⟩
  · have hv := hv.1 q3
    exact hQ _ _ _ hv
  · have hv := hv.2 q3
    refine ⟨fun q4 => ?_, fun q4 => ?_⟩
    · have hv := hv.1 q4
      exact hQ _ _ _ hv
    · have hv := hv.2 q4
      exact hQ _ _ _ hv
theorem u_Law_add_c33 (N : Nat) (_x0 : Nat) (x1 : Int32) (x2 : Int32) (I : zI) (J : zJ) (Q : zI → zJ → Prop) (Q' : qH → Prop) (hQ : ∀ (I : zI) (J : zJ), Q I J → Q' (zH I J)) (hv : v_Law_add N 33 x1 x2 I J Q) : w_Law_add N 33 x1 x2 (zH I J) Q' := by
  unfold w_Law_add
  unfold v_Law_add at hv
  refine ⟨rfl, ?_⟩
  refine ⟨fun q1 => ?_, fun q1 => ?_⟩
  · have hv := hv.1 q1
    exact hQ _ _ hv
  · have hv := hv.2 q1
    obtain ⟨g2, hv⟩ := hv
    refine ⟨qok_mk rfl g2, ?_⟩
    obtain ⟨I3, eI3⟩ : ∃ z, z = qu I 34 ((I 33 2)).toNatClampNeg x1 := ⟨_, rfl⟩
    have hv := hv I3 eI3
    intro h3 eh3
    have eh3 : h3 = zH I3 J := by rw [eh3, eI3]; rfl
    subst eh3
    refine ⟨rfl, ?_⟩
    obtain ⟨g4, hv⟩ := hv
    refine ⟨qok_mk rfl g4, ?_⟩
    obtain ⟨I5, eI5⟩ : ∃ z, z = qu I3 35 ((I3 33 2)).toNatClampNeg x2 := ⟨_, rfl⟩
    have hv := hv I5 eI5
    intro h5 eh5
    have eh5 : h5 = zH I5 J := by rw [eh5, eI5]; rfl
    subst eh5
    refine ⟨rfl, ?_⟩
    obtain ⟨I6, eI6⟩ : ∃ z, z = qu I5 33 2 ((I5 33 2) + (1 : Int32)) := ⟨_, rfl⟩
    have hv := hv I6 eI6
    intro h6 eh6
    have eh6 : h6 = zH I6 J := by rw [eh6, eI6]; rfl
    subst eh6
    exact hQ _ _ hv
theorem u_Law_add_c36 (N : Nat) (_x0 : Nat) (x1 : Int32) (x2 : Int32) (I : zI) (J : zJ) (Q : zI → zJ → Prop) (Q' : qH → Prop) (hQ : ∀ (I : zI) (J : zJ), Q I J → Q' (zH I J)) (hv : v_Law_add N 36 x1 x2 I J Q) : w_Law_add N 36 x1 x2 (zH I J) Q' := by
  unfold w_Law_add
  unfold v_Law_add at hv
  refine ⟨rfl, ?_⟩
  refine ⟨fun q1 => ?_, fun q1 => ?_⟩
  · have hv := hv.1 q1
    exact hQ _ _ hv
  · have hv := hv.2 q1
    obtain ⟨g2, hv⟩ := hv
    refine ⟨qok_mk rfl g2, ?_⟩
    obtain ⟨I3, eI3⟩ : ∃ z, z = qu I 37 ((I 36 2)).toNatClampNeg x1 := ⟨_, rfl⟩
    have hv := hv I3 eI3
    intro h3 eh3
    have eh3 : h3 = zH I3 J := by rw [eh3, eI3]; rfl
    subst eh3
    refine ⟨rfl, ?_⟩
    obtain ⟨g4, hv⟩ := hv
    refine ⟨qok_mk rfl g4, ?_⟩
    obtain ⟨I5, eI5⟩ : ∃ z, z = qu I3 38 ((I3 36 2)).toNatClampNeg x2 := ⟨_, rfl⟩
    have hv := hv I5 eI5
    intro h5 eh5
    have eh5 : h5 = zH I5 J := by rw [eh5, eI5]; rfl
    subst eh5
    refine ⟨rfl, ?_⟩
    obtain ⟨I6, eI6⟩ : ∃ z, z = qu I5 36 2 ((I5 36 2) + (1 : Int32)) := ⟨_, rfl⟩
    have hv := hv I6 eI6
    intro h6 eh6
    have eh6 : h6 = zH I6 J := by rw [eh6, eI6]; rfl
    subst eh6
    exact hQ _ _ hv
theorem u_Law_add_c39 (N : Nat) (_x0 : Nat) (x1 : Int32) (x2 : Int32) (I : zI) (J : zJ) (Q : zI → zJ → Prop) (Q' : qH → Prop) (hQ : ∀ (I : zI) (J : zJ), Q I J → Q' (zH I J)) (hv : v_Law_add N 39 x1 x2 I J Q) : w_Law_add N 39 x1 x2 (zH I J) Q' := by
  unfold w_Law_add
  unfold v_Law_add at hv
  refine ⟨rfl, ?_⟩
  refine ⟨fun q1 => ?_, fun q1 => ?_⟩
  · have hv := hv.1 q1
    exact hQ _ _ hv
  · have hv := hv.2 q1
    obtain ⟨g2, hv⟩ := hv
    refine ⟨qok_mk rfl g2, ?_⟩
    obtain ⟨I3, eI3⟩ : ∃ z, z = qu I 40 ((I 39 2)).toNatClampNeg x1 := ⟨_, rfl⟩
    have hv := hv I3 eI3
    intro h3 eh3
    have eh3 : h3 = zH I3 J := by rw [eh3, eI3]; rfl
    subst eh3
    refine ⟨rfl, ?_⟩
    obtain ⟨g4, hv⟩ := hv
    refine ⟨qok_mk rfl g4, ?_⟩
    obtain ⟨I5, eI5⟩ : ∃ z, z = qu I3 41 ((I3 39 2)).toNatClampNeg x2 := ⟨_, rfl⟩
    have hv := hv I5 eI5
    intro h5 eh5
    have eh5 : h5 = zH I5 J := by rw [eh5, eI5]; rfl
    subst eh5
    refine ⟨rfl, ?_⟩
    obtain ⟨I6, eI6⟩ : ∃ z, z = qu I5 39 2 ((I5 39 2) + (1 : Int32)) := ⟨_, rfl⟩
    have hv := hv I6 eI6
    intro h6 eh6
    have eh6 : h6 = zH I6 J := by rw [eh6, eI6]; rfl
    subst eh6
    exact hQ _ _ hv
theorem u_Law_add_c42 (N : Nat) (_x0 : Nat) (x1 : Int32) (x2 : Int32) (I : zI) (J : zJ) (Q : zI → zJ → Prop) (Q' : qH → Prop) (hQ : ∀ (I : zI) (J : zJ), Q I J → Q' (zH I J)) (hv : v_Law_add N 42 x1 x2 I J Q) : w_Law_add N 42 x1 x2 (zH I J) Q' := by
  unfold w_Law_add
  unfold v_Law_add at hv
  refine ⟨rfl, ?_⟩
  refine ⟨fun q1 => ?_, fun q1 => ?_⟩
  · have hv := hv.1 q1
    exact hQ _ _ hv
  · have hv := hv.2 q1
    obtain ⟨g2, hv⟩ := hv
    refine ⟨qok_mk rfl g2, ?_⟩
    obtain ⟨I3, eI3⟩ : ∃ z, z = qu I 43 ((I 42 2)).toNatClampNeg x1 := ⟨_, rfl⟩
    have hv := hv I3 eI3
    intro h3 eh3
    have eh3 : h3 = zH I3 J := by rw [eh3, eI3]; rfl
    subst eh3
    refine ⟨rfl, ?_⟩
    obtain ⟨g4, hv⟩ := hv
    refine ⟨qok_mk rfl g4, ?_⟩
    obtain ⟨I5, eI5⟩ : ∃ z, z = qu I3 44 ((I3 42 2)).toNatClampNeg x2 := ⟨_, rfl⟩
    have hv := hv I5 eI5
    intro h5 eh5
    have eh5 : h5 = zH I5 J := by rw [eh5, eI5]; rfl
    subst eh5
    refine ⟨rfl, ?_⟩
    obtain ⟨I6, eI6⟩ : ∃ z, z = qu I5 42 2 ((I5 42 2) + (1 : Int32)) := ⟨_, rfl⟩
    have hv := hv I6 eI6
    intro h6 eh6
    have eh6 : h6 = zH I6 J := by rw [eh6, eI6]; rfl
    subst eh6
    exact hQ _ _ hv
theorem u_Law_aimAtEnd_c33 (N : Nat) (_x0 : Nat) (x1 : Int32) (I : zI) (J : zJ) (Q : zI → zJ → Prop) (Q' : qH → Prop) (hQ : ∀ (I : zI) (J : zJ), Q I J → Q' (zH I J)) (hv : v_Law_aimAtEnd N 33 x1 I J Q) : w_Law_aimAtEnd N 33 x1 (zH I J) Q' := by
  unfold w_Law_aimAtEnd
  unfold v_Law_aimAtEnd at hv
  refine ⟨fun q1 => ?_, fun q1 => ?_⟩
  · have hv := hv.1 q1
    exact hQ _ _ hv
  · have hv := hv.2 q1
    refine ⟨rfl, ?_⟩
    refine ⟨fun q2 => ?_, fun q2 => ?_⟩
    · have hv := hv.1 q2
      exact hQ _ _ hv
    · have hv := hv.2 q2
      obtain ⟨g3, hv⟩ := hv
      refine ⟨qok_mk rfl g3, ?_⟩
      obtain ⟨I4, eI4⟩ : ∃ z, z = qu I 35 (x1).toNatClampNeg (I 33 2) := ⟨_, rfl⟩
      have hv := hv I4 eI4
      intro h4 eh4
      have eh4 : h4 = zH I4 J := by rw [eh4, eI4]; rfl
      subst eh4
      exact hQ _ _ hv
theorem u_Law_aimAtEnd_c36 (N : Nat) (_x0 : Nat) (x1 : Int32) (I : zI) (J : zJ) (Q : zI → zJ → Prop) (Q' : qH → Prop) (hQ : ∀ (I : zI) (J : zJ), Q I J → Q' (zH I J)) (hv : v_Law_aimAtEnd N 36 x1 I J Q) : w_Law_aimAtEnd N 36 x1 (zH I J) Q' := by
  unfold w_Law_aimAtEnd
  unfold v_Law_aimAtEnd at hv
  refine ⟨fun q1 => ?_, fun q1 => ?_⟩
  · have hv := hv.1 q1
    exact hQ _ _ hv
  · have hv := hv.2 q1
    refine ⟨rfl, ?_⟩
    refine ⟨fun q2 => ?_, fun q2 => ?_⟩
    · have hv := hv.1 q2
      exact hQ _ _ hv
    · have hv := hv.2 q2
      obtain ⟨g3, hv⟩ := hv
      refine ⟨qok_mk rfl g3, ?_⟩
      obtain ⟨I4, eI4⟩ : ∃ z, z = qu I 38 (x1).toNatClampNeg (I 36 2) := ⟨_, rfl⟩
      have hv := hv I4 eI4
      intro h4 eh4
      have eh4 : h4 = zH I4 J := by rw [eh4, eI4]; rfl
      subst eh4
      exact hQ _ _ hv
theorem u_Law_aimAtEnd_c39 (N : Nat) (_x0 : Nat) (x1 : Int32) (I : zI) (J : zJ) (Q : zI → zJ → Prop) (Q' : qH → Prop) (hQ : ∀ (I : zI) (J : zJ), Q I J → Q' (zH I J)) (hv : v_Law_aimAtEnd N 39 x1 I J Q) : w_Law_aimAtEnd N 39 x1 (zH I J) Q' := by
  unfold w_Law_aimAtEnd
  unfold v_Law_aimAtEnd at hv
  refine ⟨fun q1 => ?_, fun q1 => ?_⟩
  · have hv := hv.1 q1
    exact hQ _ _ hv
  · have hv := hv.2 q1
    refine ⟨rfl, ?_⟩
    refine ⟨fun q2 => ?_, fun q2 => ?_⟩
    · have hv := hv.1 q2
      exact hQ _ _ hv
    · have hv := hv.2 q2
      obtain ⟨g3, hv⟩ := hv
      refine ⟨qok_mk rfl g3, ?_⟩
      obtain ⟨I4, eI4⟩ : ∃ z, z = qu I 41 (x1).toNatClampNeg (I 39 2) := ⟨_, rfl⟩
      have hv := hv I4 eI4
      intro h4 eh4
      have eh4 : h4 = zH I4 J := by rw [eh4, eI4]; rfl
      subst eh4
      exact hQ _ _ hv
theorem u_Law_aimAtEnd_c42 (N : Nat) (_x0 : Nat) (x1 : Int32) (I : zI) (J : zJ) (Q : zI → zJ → Prop) (Q' : qH → Prop) (hQ : ∀ (I : zI) (J : zJ), Q I J → Q' (zH I J)) (hv : v_Law_aimAtEnd N 42 x1 I J Q) : w_Law_aimAtEnd N 42 x1 (zH I J) Q' := by
  unfold w_Law_aimAtEnd
  unfold v_Law_aimAtEnd at hv
  refine ⟨fun q1 => ?_, fun q1 => ?_⟩
  · have hv := hv.1 q1
    exact hQ _ _ hv
  · have hv := hv.2 q1
    refine ⟨rfl, ?_⟩
    refine ⟨fun q2 => ?_, fun q2 => ?_⟩
    · have hv := hv.1 q2
      exact hQ _ _ hv
    · have hv := hv.2 q2
      obtain ⟨g3, hv⟩ := hv
      refine ⟨qok_mk rfl g3, ?_⟩
      obtain ⟨I4, eI4⟩ : ∃ z, z = qu I 44 (x1).toNatClampNeg (I 42 2) := ⟨_, rfl⟩
      have hv := hv I4 eI4
      intro h4 eh4
      have eh4 : h4 = zH I4 J := by rw [eh4, eI4]; rfl
      subst eh4
      exact hQ _ _ hv
theorem u_Law_becomeOneStep_c33 (N : Nat) (_x0 : Nat) (x1 : Int32) (x2 : Int32) (I : zI) (J : zJ) (Q : zI → zJ → Prop) (Q' : qH → Prop) (hQ : ∀ (I : zI) (J : zJ), Q I J → Q' (zH I J)) (hv : v_Law_becomeOneStep N 33 x1 x2 I J Q) : w_Law_becomeOneStep N 33 x1 x2 (zH I J) Q' := by
  unfold w_Law_becomeOneStep
  unfold v_Law_becomeOneStep at hv
  refine ⟨rfl, ?_⟩
  obtain ⟨I1, eI1⟩ : ∃ z, z = qu I 33 2 (0 : Int32) := ⟨_, rfl⟩
  have hv := hv I1 eI1
  intro h1 eh1
  have eh1 : h1 = zH I1 J := by rw [eh1, eI1]; rfl
  subst eh1
  refine ⟨rfl, ?_⟩
  refine u_Law_add_c33 N 33 x1 x2 I1 J _ _ (fun I2 J2 hv => ?_) hv
  refine ⟨rfl, ?_⟩
  refine u_Law_add_c33 N 33 (4 : Int32) (0 : Int32) I2 J2 _ _ (fun I3 J3 hv => ?_) hv
  exact hQ _ _ hv
theorem u_Law_becomeOneStep_c36 (N : Nat) (_x0 : Nat) (x1 : Int32) (x2 : Int32) (I : zI) (J : zJ) (Q : zI → zJ → Prop) (Q' : qH → Prop) (hQ : ∀ (I : zI) (J : zJ), Q I J → Q' (zH I J)) (hv : v_Law_becomeOneStep N 36 x1 x2 I J Q) : w_Law_becomeOneStep N 36 x1 x2 (zH I J) Q' := by
  unfold w_Law_becomeOneStep
  unfold v_Law_becomeOneStep at hv
  refine ⟨rfl, ?_⟩
  obtain ⟨I1, eI1⟩ : ∃ z, z = qu I 36 2 (0 : Int32) := ⟨_, rfl⟩
  have hv := hv I1 eI1
  intro h1 eh1
  have eh1 : h1 = zH I1 J := by rw [eh1, eI1]; rfl
  subst eh1
  refine ⟨rfl, ?_⟩
  refine u_Law_add_c36 N 36 x1 x2 I1 J _ _ (fun I2 J2 hv => ?_) hv
  refine ⟨rfl, ?_⟩
  refine u_Law_add_c36 N 36 (4 : Int32) (0 : Int32) I2 J2 _ _ (fun I3 J3 hv => ?_) hv
  exact hQ _ _ hv
theorem u_Law_becomeOneStep_c39 (N : Nat) (_x0 : Nat) (x1 : Int32) (x2 : Int32) (I : zI) (J : zJ) (Q : zI → zJ → Prop) (Q' : qH → Prop) (hQ : ∀ (I : zI) (J : zJ), Q I J → Q' (zH I J)) (hv : v_Law_becomeOneStep N 39 x1 x2 I J Q) : w_Law_becomeOneStep N 39 x1 x2 (zH I J) Q' := by
  unfold w_Law_becomeOneStep
  unfold v_Law_becomeOneStep at hv
  refine ⟨rfl, ?_⟩
  obtain ⟨I1, eI1⟩ : ∃ z, z = qu I 39 2 (0 : Int32) := ⟨_, rfl⟩
  have hv := hv I1 eI1
  intro h1 eh1
  have eh1 : h1 = zH I1 J := by rw [eh1, eI1]; rfl
  subst eh1
  refine ⟨rfl, ?_⟩
  refine u_Law_add_c39 N 39 x1 x2 I1 J _ _ (fun I2 J2 hv => ?_) hv
  refine ⟨rfl, ?_⟩
  refine u_Law_add_c39 N 39 (4 : Int32) (0 : Int32) I2 J2 _ _ (fun I3 J3 hv => ?_) hv
  exact hQ _ _ hv
theorem u_Law_becomeOneStep_c42 (N : Nat) (_x0 : Nat) (x1 : Int32) (x2 : Int32) (I : zI) (J : zJ) (Q : zI → zJ → Prop) (Q' : qH → Prop) (hQ : ∀ (I : zI) (J : zJ), Q I J → Q' (zH I J)) (hv : v_Law_becomeOneStep N 42 x1 x2 I J Q) : w_Law_becomeOneStep N 42 x1 x2 (zH I J) Q' := by
  unfold w_Law_becomeOneStep
  unfold v_Law_becomeOneStep at hv
  refine ⟨rfl, ?_⟩
  obtain ⟨I1, eI1⟩ : ∃ z, z = qu I 42 2 (0 : Int32) := ⟨_, rfl⟩
  have hv := hv I1 eI1
  intro h1 eh1
  have eh1 : h1 = zH I1 J := by rw [eh1, eI1]; rfl
  subst eh1
  refine ⟨rfl, ?_⟩
  refine u_Law_add_c42 N 42 x1 x2 I1 J _ _ (fun I2 J2 hv => ?_) hv
  refine ⟨rfl, ?_⟩
  refine u_Law_add_c42 N 42 (4 : Int32) (0 : Int32) I2 J2 _ _ (fun I3 J3 hv => ?_) hv
  exact hQ _ _ hv
theorem u_Law_become_c14_33 (N : Nat) (_x0 : Nat) (_x1 : Nat) (I : zI) (J : zJ) (Q : zI → zJ → Prop) (Q' : qH → Prop) (hQ : ∀ (I : zI) (J : zJ), Q I J → Q' (zH I J)) (hv : v_Law_become N 14 33 I J Q) : w_Law_become N 14 33 (zH I J) Q' := by
  unfold w_Law_become
  unfold v_Law_become at hv
  refine ⟨rfl, ?_⟩
  refine ⟨rfl, ?_⟩
  obtain ⟨gz3, hv⟩ := hv
  refine ⟨qcpok_mk rfl rfl gz3, ?_⟩
  obtain ⟨I2, eI2⟩ : ∃ z, z = zcp I 15 (va_cpy (I 34) (I 15) ((0 : Int32)).toNatClampNeg ((0 : Int32)).toNatClampNeg ((I 33 2)).toNatClampNeg) := ⟨_, rfl⟩
  have hv := hv I2 eI2
  intro h2 eh2
  have eh2 : h2 = zH I2 J := by rw [eh2, eI2]; rfl
  subst eh2
  refine ⟨rfl, ?_⟩
  refine ⟨rfl, ?_⟩
  obtain ⟨gz6, hv⟩ := hv
  refine ⟨qcpok_mk rfl rfl gz6, ?_⟩
  obtain ⟨I5, eI5⟩ : ∃ z, z = zcp I2 16 (va_cpy (I2 35) (I2 16) ((0 : Int32)).toNatClampNeg ((0 : Int32)).toNatClampNeg ((I2 33 2)).toNatClampNeg) := ⟨_, rfl⟩
  have hv := hv I5 eI5
  intro h5 eh5
  have eh5 : h5 = zH I5 J := by rw [eh5, eI5]; rfl
  subst eh5
  refine ⟨rfl, ?_⟩
  refine ⟨rfl, ?_⟩
  obtain ⟨I7, eI7⟩ : ∃ z, z = qu I5 14 2 (I5 33 2) := ⟨_, rfl⟩
  have hv := hv I7 eI7
  intro h7 eh7
  have eh7 : h7 = zH I7 J := by rw [eh7, eI7]; rfl
  subst eh7
  exact hQ _ _ hv
theorem u_Law_become_c17_36 (N : Nat) (_x0 : Nat) (_x1 : Nat) (I : zI) (J : zJ) (Q : zI → zJ → Prop) (Q' : qH → Prop) (hQ : ∀ (I : zI) (J : zJ), Q I J → Q' (zH I J)) (hv : v_Law_become N 17 36 I J Q) : w_Law_become N 17 36 (zH I J) Q' := by
  unfold w_Law_become
  unfold v_Law_become at hv
  refine ⟨rfl, ?_⟩
  refine ⟨rfl, ?_⟩
  obtain ⟨gz3, hv⟩ := hv
  refine ⟨qcpok_mk rfl rfl gz3, ?_⟩
  obtain ⟨I2, eI2⟩ : ∃ z, z = zcp I 18 (va_cpy (I 37) (I 18) ((0 : Int32)).toNatClampNeg ((0 : Int32)).toNatClampNeg ((I 36 2)).toNatClampNeg) := ⟨_, rfl⟩
  have hv := hv I2 eI2
  intro h2 eh2
  have eh2 : h2 = zH I2 J := by rw [eh2, eI2]; rfl
  subst eh2
  refine ⟨rfl, ?_⟩
  refine ⟨rfl, ?_⟩
  obtain ⟨gz6, hv⟩ := hv
  refine ⟨qcpok_mk rfl rfl gz6, ?_⟩
  obtain ⟨I5, eI5⟩ : ∃ z, z = zcp I2 19 (va_cpy (I2 38) (I2 19) ((0 : Int32)).toNatClampNeg ((0 : Int32)).toNatClampNeg ((I2 36 2)).toNatClampNeg) := ⟨_, rfl⟩
  have hv := hv I5 eI5
  intro h5 eh5
  have eh5 : h5 = zH I5 J := by rw [eh5, eI5]; rfl
  subst eh5
  refine ⟨rfl, ?_⟩
  refine ⟨rfl, ?_⟩
  obtain ⟨I7, eI7⟩ : ∃ z, z = qu I5 17 2 (I5 36 2) := ⟨_, rfl⟩
  have hv := hv I7 eI7
  intro h7 eh7
  have eh7 : h7 = zH I7 J := by rw [eh7, eI7]; rfl
  subst eh7
  exact hQ _ _ hv
theorem u_Law_become_c20_39 (N : Nat) (_x0 : Nat) (_x1 : Nat) (I : zI) (J : zJ) (Q : zI → zJ → Prop) (Q' : qH → Prop) (hQ : ∀ (I : zI) (J : zJ), Q I J → Q' (zH I J)) (hv : v_Law_become N 20 39 I J Q) : w_Law_become N 20 39 (zH I J) Q' := by
  unfold w_Law_become
  unfold v_Law_become at hv
  refine ⟨rfl, ?_⟩
  refine ⟨rfl, ?_⟩
  obtain ⟨gz3, hv⟩ := hv
  refine ⟨qcpok_mk rfl rfl gz3, ?_⟩
  obtain ⟨I2, eI2⟩ : ∃ z, z = zcp I 21 (va_cpy (I 40) (I 21) ((0 : Int32)).toNatClampNeg ((0 : Int32)).toNatClampNeg ((I 39 2)).toNatClampNeg) := ⟨_, rfl⟩
  have hv := hv I2 eI2
  intro h2 eh2
  have eh2 : h2 = zH I2 J := by rw [eh2, eI2]; rfl
  subst eh2
  refine ⟨rfl, ?_⟩
  refine ⟨rfl, ?_⟩
  obtain ⟨gz6, hv⟩ := hv
  refine ⟨qcpok_mk rfl rfl gz6, ?_⟩
  obtain ⟨I5, eI5⟩ : ∃ z, z = zcp I2 22 (va_cpy (I2 41) (I2 22) ((0 : Int32)).toNatClampNeg ((0 : Int32)).toNatClampNeg ((I2 39 2)).toNatClampNeg) := ⟨_, rfl⟩
  have hv := hv I5 eI5
  intro h5 eh5
  have eh5 : h5 = zH I5 J := by rw [eh5, eI5]; rfl
  subst eh5
  refine ⟨rfl, ?_⟩
  refine ⟨rfl, ?_⟩
  obtain ⟨I7, eI7⟩ : ∃ z, z = qu I5 20 2 (I5 39 2) := ⟨_, rfl⟩
  have hv := hv I7 eI7
  intro h7 eh7
  have eh7 : h7 = zH I7 J := by rw [eh7, eI7]; rfl
  subst eh7
  exact hQ _ _ hv
theorem u_Law_become_c23_42 (N : Nat) (_x0 : Nat) (_x1 : Nat) (I : zI) (J : zJ) (Q : zI → zJ → Prop) (Q' : qH → Prop) (hQ : ∀ (I : zI) (J : zJ), Q I J → Q' (zH I J)) (hv : v_Law_become N 23 42 I J Q) : w_Law_become N 23 42 (zH I J) Q' := by
  unfold w_Law_become
  unfold v_Law_become at hv
  refine ⟨rfl, ?_⟩
  refine ⟨rfl, ?_⟩
  obtain ⟨gz3, hv⟩ := hv
  refine ⟨qcpok_mk rfl rfl gz3, ?_⟩
  obtain ⟨I2, eI2⟩ : ∃ z, z = zcp I 24 (va_cpy (I 43) (I 24) ((0 : Int32)).toNatClampNeg ((0 : Int32)).toNatClampNeg ((I 42 2)).toNatClampNeg) := ⟨_, rfl⟩
  have hv := hv I2 eI2
  intro h2 eh2
  have eh2 : h2 = zH I2 J := by rw [eh2, eI2]; rfl
  subst eh2
  refine ⟨rfl, ?_⟩
  refine ⟨rfl, ?_⟩
  obtain ⟨gz6, hv⟩ := hv
  refine ⟨qcpok_mk rfl rfl gz6, ?_⟩
  obtain ⟨I5, eI5⟩ : ∃ z, z = zcp I2 25 (va_cpy (I2 44) (I2 25) ((0 : Int32)).toNatClampNeg ((0 : Int32)).toNatClampNeg ((I2 42 2)).toNatClampNeg) := ⟨_, rfl⟩
  have hv := hv I5 eI5
  intro h5 eh5
  have eh5 : h5 = zH I5 J := by rw [eh5, eI5]; rfl
  subst eh5
  refine ⟨rfl, ?_⟩
  refine ⟨rfl, ?_⟩
  obtain ⟨I7, eI7⟩ : ∃ z, z = qu I5 23 2 (I5 42 2) := ⟨_, rfl⟩
  have hv := hv I7 eI7
  intro h7 eh7
  have eh7 : h7 = zH I7 J := by rw [eh7, eI7]; rfl
  subst eh7
  exact hQ _ _ hv
theorem u_State_isHung_c49 (N : Nat) (_x0 : Nat) (x1 : Int32) (I : zI) (J : zJ) (Q : Int32 → zI → zJ → Prop) (Q' : Int32 → qH → Prop) (hQ : ∀ (r : Int32) (I : zI) (J : zJ), Q r I J → Q' r (zH I J)) (hv : v_State_isHung N 49 x1 I J Q) : w_State_isHung N 49 x1 (zH I J) Q' := by
  unfold w_State_isHung
  unfold v_State_isHung at hv
  refine ⟨rfl, ?_⟩
  obtain ⟨g1, hv⟩ := hv
  refine ⟨qok_mk rfl g1, ?_⟩
  refine ⟨fun q2 => ?_, fun q2 => ?_⟩
  · have hv := hv.1 q2
    exact ⟨Or.inl rfl, hQ _ _ _ hv⟩
  · have hv := hv.2 q2
    exact ⟨Or.inr rfl, hQ _ _ _ hv⟩
theorem u_State_isHung_c55 (N : Nat) (_x0 : Nat) (x1 : Int32) (I : zI) (J : zJ) (Q : Int32 → zI → zJ → Prop) (Q' : Int32 → qH → Prop) (hQ : ∀ (r : Int32) (I : zI) (J : zJ), Q r I J → Q' r (zH I J)) (hv : v_State_isHung N 55 x1 I J Q) : w_State_isHung N 55 x1 (zH I J) Q' := by
  unfold w_State_isHung
  unfold v_State_isHung at hv
  refine ⟨rfl, ?_⟩
  obtain ⟨g1, hv⟩ := hv
  refine ⟨qok_mk rfl g1, ?_⟩
  refine ⟨fun q2 => ?_, fun q2 => ?_⟩
  · have hv := hv.1 q2
    exact ⟨Or.inl rfl, hQ _ _ _ hv⟩
  · have hv := hv.2 q2
    exact ⟨Or.inr rfl, hQ _ _ _ hv⟩
theorem u_State_nailOf_c49 (N : Nat) (_x0 : Nat) (x1 : Int32) (I : zI) (J : zJ) (Q : Int32 → zI → zJ → Prop) (Q' : Int32 → qH → Prop) (hQ : ∀ (r : Int32) (I : zI) (J : zJ), Q r I J → Q' r (zH I J)) (hv : v_State_nailOf N 49 x1 I J Q) : w_State_nailOf N 49 x1 (zH I J) Q' := by
  unfold w_State_nailOf
  unfold v_State_nailOf at hv
  refine ⟨rfl, ?_⟩
  obtain ⟨g1, hv⟩ := hv
  refine ⟨qok_mk rfl g1, ?_⟩
  intro y2 ey2
  have hv := hv y2 ey2
  refine ⟨fun q3 => ?_, fun q3 => ?_⟩
  · have hv := hv.1 q3
    exact hQ _ _ _ hv
  · have hv := hv.2 q3
    refine ⟨rfl, ?_⟩
    obtain ⟨g4, hv⟩ := hv
    refine ⟨qok_mk rfl g4, ?_⟩
    exact hQ _ _ _ hv
theorem u_State_nailOf_c55 (N : Nat) (_x0 : Nat) (x1 : Int32) (I : zI) (J : zJ) (Q : Int32 → zI → zJ → Prop) (Q' : Int32 → qH → Prop) (hQ : ∀ (r : Int32) (I : zI) (J : zJ), Q r I J → Q' r (zH I J)) (hv : v_State_nailOf N 55 x1 I J Q) : w_State_nailOf N 55 x1 (zH I J) Q' := by
  unfold w_State_nailOf
  unfold v_State_nailOf at hv
  refine ⟨rfl, ?_⟩
  obtain ⟨g1, hv⟩ := hv
  refine ⟨qok_mk rfl g1, ?_⟩
  intro y2 ey2
  have hv := hv y2 ey2
  refine ⟨fun q3 => ?_, fun q3 => ?_⟩
  · have hv := hv.1 q3
    exact hQ _ _ _ hv
  · have hv := hv.2 q3
    refine ⟨rfl, ?_⟩
    obtain ⟨g4, hv⟩ := hv
    refine ⟨qok_mk rfl g4, ?_⟩
    exact hQ _ _ _ hv
theorem u_State_nailOf_c94 (N : Nat) (_x0 : Nat) (x1 : Int32) (I : zI) (J : zJ) (Q : Int32 → zI → zJ → Prop) (Q' : Int32 → qH → Prop) (hQ : ∀ (r : Int32) (I : zI) (J : zJ), Q r I J → Q' r (zH I J)) (hv : v_State_nailOf N 94 x1 I J Q) : w_State_nailOf N 94 x1 (zH I J) Q' := by
  unfold w_State_nailOf
  unfold v_State_nailOf at hv
  refine ⟨rfl, ?_⟩
  obtain ⟨g1, hv⟩ := hv
  refine ⟨qok_mk rfl g1, ?_⟩
  intro y2 ey2
  have hv := hv y2 ey2
  refine ⟨fun q3 => ?_, fun q3 => ?_⟩
  · have hv := hv.1 q3
    exact hQ _ _ _ hv
  · have hv := hv.2 q3
    refine ⟨rfl, ?_⟩
    obtain ⟨g4, hv⟩ := hv
    refine ⟨qok_mk rfl g4, ?_⟩
    exact hQ _ _ _ hv
theorem u_State_peopleOnNail_4_c49 (N k : Nat) (x1 : Int32) (x2 : Int32) (x3 : Int32) (I : zI) (J : zJ) (Q : Int32 → zI → zJ → Prop) (Q' : Int32 → qH → Prop) (hQ : ∀ (r : Int32) (I : zI) (J : zJ), Q r I J → Q' r (zH I J)) (hv : v_State_peopleOnNail_4 N k 49 x1 x2 x3 I J Q ) : w_State_peopleOnNail_4 N k 49 x1 x2 x3 (zH I J) Q'  := by
  induction k generalizing x1 x2 x3 I J with
  | zero => exact hv.elim
  | succ k ih =>
    rw [w_State_peopleOnNail_4]
    rw [v_State_peopleOnNail_4] at hv
    refine ⟨rfl, ?_⟩
    refine ⟨rfl, ?_⟩
    refine ⟨fun q1 => ?_, fun q1 => ?_⟩
    · have hv := hv.1 q1
      exact hQ _ _ _ hv
    · have hv := hv.2 q1
      refine u_State_nailOf_c49 N 49 x3 I J _ _ (fun r2 I3 J3 hv => ?_) hv
      refine ⟨fun q4 => ?_, fun q4 => ?_⟩
      · have hv := hv.1 q4
        intro y5 ey5
        have hv := hv y5 ey5
        exact ih x1 y5 (x3 + (1 : Int32)) I3 J3 hv
      · have hv := hv.2 q4
        intro y6 ey6
        have hv := hv y6 ey6
        exact ih x1 y6 (x3 + (1 : Int32)) I3 J3 hv
theorem u_State_peopleOnNail_c49 (N : Nat) (_x0 : Nat) (x1 : Int32) (I : zI) (J : zJ) (Q : Int32 → zI → zJ → Prop) (Q' : Int32 → qH → Prop) (hQ : ∀ (r : Int32) (I : zI) (J : zJ), Q r I J → Q' r (zH I J)) (hv : v_State_peopleOnNail N 49 x1 I J Q) : w_State_peopleOnNail N 49 x1 (zH I J) Q' := by
  unfold w_State_peopleOnNail
  unfold v_State_peopleOnNail at hv
  exact u_State_peopleOnNail_4_c49 N N x1 (0 : Int32) (0 : Int32) I J Q _ hQ   hv
theorem u_State_peopleOnNail_4_c55 (N k : Nat) (x1 : Int32) (x2 : Int32) (x3 : Int32) (I : zI) (J : zJ) (Q : Int32 → zI → zJ → Prop) (Q' : Int32 → qH → Prop) (hQ : ∀ (r : Int32) (I : zI) (J : zJ), Q r I J → Q' r (zH I J)) (hv : v_State_peopleOnNail_4 N k 55 x1 x2 x3 I J Q ) : w_State_peopleOnNail_4 N k 55 x1 x2 x3 (zH I J) Q'  := by
  induction k generalizing x1 x2 x3 I J with
  | zero => exact hv.elim
  | succ k ih =>
    rw [w_State_peopleOnNail_4]
    rw [v_State_peopleOnNail_4] at hv
    refine ⟨rfl, ?_⟩
    refine ⟨rfl, ?_⟩
    refine ⟨fun q1 => ?_, fun q1 => ?_⟩
    · have hv := hv.1 q1
      exact hQ _ _ _ hv
    · have hv := hv.2 q1
      refine u_State_nailOf_c55 N 55 x3 I J _ _ (fun r2 I3 J3 hv => ?_) hv
      refine ⟨fun q4 => ?_, fun q4 => ?_⟩
      · have hv := hv.1 q4
        intro y5 ey5
        have hv := hv y5 ey5
        exact ih x1 y5 (x3 + (1 : Int32)) I3 J3 hv
      · have hv := hv.2 q4
        intro y6 ey6
        have hv := hv y6 ey6
        exact ih x1 y6 (x3 + (1 : Int32)) I3 J3 hv
theorem u_State_peopleOnNail_c55 (N : Nat) (_x0 : Nat) (x1 : Int32) (I : zI) (J : zJ) (Q : Int32 → zI → zJ → Prop) (Q' : Int32 → qH → Prop) (hQ : ∀ (r : Int32) (I : zI) (J : zJ), Q r I J → Q' r (zH I J)) (hv : v_State_peopleOnNail N 55 x1 I J Q) : w_State_peopleOnNail N 55 x1 (zH I J) Q' := by
  unfold w_State_peopleOnNail
  unfold v_State_peopleOnNail at hv
  exact u_State_peopleOnNail_4_c55 N N x1 (0 : Int32) (0 : Int32) I J Q _ hQ   hv
theorem u_State_othersBeside_c49 (N : Nat) (_x0 : Nat) (x1 : Int32) (I : zI) (J : zJ) (Q : Int32 → zI → zJ → Prop) (Q' : Int32 → qH → Prop) (hQ : ∀ (r : Int32) (I : zI) (J : zJ), Q r I J → Q' r (zH I J)) (hv : v_State_othersBeside N 49 x1 I J Q) : w_State_othersBeside N 49 x1 (zH I J) Q' := by
  unfold w_State_othersBeside
  unfold v_State_othersBeside at hv
  refine ⟨rfl, ?_⟩
  refine u_State_isHung_c49 N 49 x1 I J _ _ (fun r1 I2 J2 hv => ?_) hv
  refine ⟨fun q3 => ?_, fun q3 => ?_⟩
  · have hv := hv.1 q3
    exact hQ _ _ _ hv
  · have hv := hv.2 q3
    refine ⟨rfl, ?_⟩
    refine u_State_nailOf_c49 N 49 x1 I2 J2 _ _ (fun r4 I5 J5 hv => ?_) hv
    refine ⟨rfl, ?_⟩
    refine u_State_peopleOnNail_c49 N 49 r4 I5 J5 _ _ (fun r6 I7 J7 hv => ?_) hv
    exact hQ _ _ _ hv
theorem u_State_othersBeside_c55 (N : Nat) (_x0 : Nat) (x1 : Int32) (I : zI) (J : zJ) (Q : Int32 → zI → zJ → Prop) (Q' : Int32 → qH → Prop) (hQ : ∀ (r : Int32) (I : zI) (J : zJ), Q r I J → Q' r (zH I J)) (hv : v_State_othersBeside N 55 x1 I J Q) : w_State_othersBeside N 55 x1 (zH I J) Q' := by
  unfold w_State_othersBeside
  unfold v_State_othersBeside at hv
  refine ⟨rfl, ?_⟩
  refine u_State_isHung_c55 N 55 x1 I J _ _ (fun r1 I2 J2 hv => ?_) hv
  refine ⟨fun q3 => ?_, fun q3 => ?_⟩
  · have hv := hv.1 q3
    exact hQ _ _ _ hv
  · have hv := hv.2 q3
    refine ⟨rfl, ?_⟩
    refine u_State_nailOf_c55 N 55 x1 I2 J2 _ _ (fun r4 I5 J5 hv => ?_) hv
    refine ⟨rfl, ?_⟩
    refine u_State_peopleOnNail_c55 N 55 r4 I5 J5 _ _ (fun r6 I7 J7 hv => ?_) hv
    exact hQ _ _ _ hv
theorem u_State_begin_7_c49 (N k : Nat) (x1 : Int32) (I : zI) (J : zJ) (Q : zI → zJ → Prop) (Q' : qH → Prop) (hQ : ∀ (I : zI) (J : zJ), Q I J → Q' (zH I J)) (K63 : zI → zJ → Prop) (K63' : Nat → qH → Prop) (hK63 : ∀  (I : zI) (J : zJ), K63  I J → K63' 49 (zH I J)) (hv : v_State_begin_7 N k 49 x1 I J Q K63) : w_State_begin_7 N k 49 x1 (zH I J) Q' K63' := by
  induction k generalizing x1 I J with
  | zero => exact hv.elim
  | succ k ih =>
    rw [w_State_begin_7]
    rw [v_State_begin_7] at hv
    refine ⟨fun q1 => ?_, fun q1 => ?_⟩
    · have hv := hv.1 q1
      exact hK63 I J hv
    · have hv := hv.2 q1
      refine ⟨rfl, ?_⟩
      refine ⟨rfl, ?_⟩
      obtain ⟨g2, hv⟩ := hv
      refine ⟨qok_mk rfl g2, ?_⟩
      obtain ⟨g3, hv⟩ := hv
      refine ⟨qok_mk rfl g3, ?_⟩
      obtain ⟨I4, eI4⟩ : ∃ z, z = qu I 50 (x1).toNatClampNeg (I 11 (x1).toNatClampNeg) := ⟨_, rfl⟩
      have hv := hv I4 eI4
      intro h4 eh4
      have eh4 : h4 = zH I4 J := by rw [eh4, eI4]; rfl
      subst eh4
      refine ⟨rfl, ?_⟩
      refine ⟨rfl, ?_⟩
      obtain ⟨g5, hv⟩ := hv
      refine ⟨qok_mk rfl g5, ?_⟩
      obtain ⟨g6, hv⟩ := hv
      refine ⟨qok_mk rfl g6, ?_⟩
      obtain ⟨I7, eI7⟩ : ∃ z, z = qu I4 51 (x1).toNatClampNeg (I4 13 (x1).toNatClampNeg) := ⟨_, rfl⟩
      have hv := hv I7 eI7
      intro h7 eh7
      have eh7 : h7 = zH I7 J := by rw [eh7, eI7]; rfl
      subst eh7
      refine ⟨rfl, ?_⟩
      obtain ⟨g8, hv⟩ := hv
      refine ⟨qok_mk rfl g8, ?_⟩
      obtain ⟨I9, eI9⟩ : ∃ z, z = qu I7 52 (x1).toNatClampNeg x1 := ⟨_, rfl⟩
      have hv := hv I9 eI9
      intro h9 eh9
      have eh9 : h9 = zH I9 J := by rw [eh9, eI9]; rfl
      subst eh9
      refine ⟨rfl, ?_⟩
      obtain ⟨g10, hv⟩ := hv
      refine ⟨qok_mk rfl g10, ?_⟩
      obtain ⟨I11, eI11⟩ : ∃ z, z = qu I9 53 (x1).toNatClampNeg (0 : Int32) := ⟨_, rfl⟩
      have hv := hv I11 eI11
      intro h11 eh11
      have eh11 : h11 = zH I11 J := by rw [eh11, eI11]; rfl
      subst eh11
      exact ih (x1 + (1 : Int32)) I11 J hv
theorem u_State_begin_65_c49 (N k : Nat) (x1 : Int32) (I : zI) (J : zJ) (Q : zI → zJ → Prop) (Q' : qH → Prop) (hQ : ∀ (I : zI) (J : zJ), Q I J → Q' (zH I J)) (hv : v_State_begin_65 N k 49 x1 I J Q ) : w_State_begin_65 N k 49 x1 (zH I J) Q'  := by
  induction k generalizing x1 I J with
  | zero => exact hv.elim
  | succ k ih =>
    rw [w_State_begin_65]
    rw [v_State_begin_65] at hv
    refine ⟨fun q1 => ?_, fun q1 => ?_⟩
    · have hv := hv.1 q1
      exact hQ _ _ hv
    · have hv := hv.2 q1
      refine ⟨rfl, ?_⟩
      obtain ⟨g2, hv⟩ := hv
      refine ⟨qok_mk rfl g2, ?_⟩
      obtain ⟨I3, eI3⟩ : ∃ z, z = qu I 54 (x1).toNatClampNeg (0 : Int32) := ⟨_, rfl⟩
      have hv := hv I3 eI3
      intro h3 eh3
      have eh3 : h3 = zH I3 J := by rw [eh3, eI3]; rfl
      subst eh3
      exact ih (x1 + (1 : Int32)) I3 J hv
theorem u_State_begin_c49 (N : Nat) (_x0 : Nat) (I : zI) (J : zJ) (Q : zI → zJ → Prop) (Q' : qH → Prop) (hQ : ∀ (I : zI) (J : zJ), Q I J → Q' (zH I J)) (hv : v_State_begin N 49 I J Q) : w_State_begin N 49 (zH I J) Q' := by
  unfold w_State_begin
  unfold v_State_begin at hv
  refine ⟨rfl, ?_⟩
  obtain ⟨I1, eI1⟩ : ∃ z, z = qu I 49 1 (0 : Int32) := ⟨_, rfl⟩
  have hv := hv I1 eI1
  intro h1 eh1
  have eh1 : h1 = zH I1 J := by rw [eh1, eI1]; rfl
  subst eh1
  refine u_State_begin_7_c49 N N (0 : Int32) I1 J Q _ hQ _ _ (fun I2 J2 hv => ?_)  hv
  exact u_State_begin_65_c49 N N (0 : Int32) I2 J2 Q _ hQ   hv
theorem u_State_become_c55_49 (N : Nat) (_x0 : Nat) (_x1 : Nat) (I : zI) (J : zJ) (Q : zI → zJ → Prop) (Q' : qH → Prop) (hQ : ∀ (I : zI) (J : zJ), Q I J → Q' (zH I J)) (hv : v_State_become N 55 49 I J Q) : w_State_become N 55 49 (zH I J) Q' := by
  unfold w_State_become
  unfold v_State_become at hv
  refine ⟨rfl, ?_⟩
  refine ⟨rfl, ?_⟩
  obtain ⟨I1, eI1⟩ : ∃ z, z = qu I 55 1 (I 49 1) := ⟨_, rfl⟩
  have hv := hv I1 eI1
  intro h1 eh1
  have eh1 : h1 = zH I1 J := by rw [eh1, eI1]; rfl
  subst eh1
  refine ⟨rfl, ?_⟩
  refine ⟨rfl, ?_⟩
  obtain ⟨gz4, hv⟩ := hv
  refine ⟨qcpok_mk rfl rfl gz4, ?_⟩
  obtain ⟨I3, eI3⟩ : ∃ z, z = zcp I1 56 (va_cpy (I1 50) (I1 56) ((0 : Int32)).toNatClampNeg ((0 : Int32)).toNatClampNeg ((6 : Int32)).toNatClampNeg) := ⟨_, rfl⟩
  have hv := hv I3 eI3
  intro h3 eh3
  have eh3 : h3 = zH I3 J := by rw [eh3, eI3]; rfl
  subst eh3
  refine ⟨rfl, ?_⟩
  refine ⟨rfl, ?_⟩
  obtain ⟨gz7, hv⟩ := hv
  refine ⟨qcpok_mk rfl rfl gz7, ?_⟩
  obtain ⟨I6, eI6⟩ : ∃ z, z = zcp I3 57 (va_cpy (I3 51) (I3 57) ((0 : Int32)).toNatClampNeg ((0 : Int32)).toNatClampNeg ((6 : Int32)).toNatClampNeg) := ⟨_, rfl⟩
  have hv := hv I6 eI6
  intro h6 eh6
  have eh6 : h6 = zH I6 J := by rw [eh6, eI6]; rfl
  subst eh6
  refine ⟨rfl, ?_⟩
  refine ⟨rfl, ?_⟩
  obtain ⟨gz10, hv⟩ := hv
  refine ⟨qcpok_mk rfl rfl gz10, ?_⟩
  obtain ⟨I9, eI9⟩ : ∃ z, z = zcp I6 58 (va_cpy (I6 52) (I6 58) ((0 : Int32)).toNatClampNeg ((0 : Int32)).toNatClampNeg ((6 : Int32)).toNatClampNeg) := ⟨_, rfl⟩
  have hv := hv I9 eI9
  intro h9 eh9
  have eh9 : h9 = zH I9 J := by rw [eh9, eI9]; rfl
  subst eh9
  refine ⟨rfl, ?_⟩
  refine ⟨rfl, ?_⟩
  obtain ⟨gz13, hv⟩ := hv
  refine ⟨qcpok_mk rfl rfl gz13, ?_⟩
  obtain ⟨I12, eI12⟩ : ∃ z, z = zcp I9 59 (va_cpy (I9 53) (I9 59) ((0 : Int32)).toNatClampNeg ((0 : Int32)).toNatClampNeg ((6 : Int32)).toNatClampNeg) := ⟨_, rfl⟩
  have hv := hv I12 eI12
  intro h12 eh12
  have eh12 : h12 = zH I12 J := by rw [eh12, eI12]; rfl
  subst eh12
  refine ⟨rfl, ?_⟩
  refine ⟨rfl, ?_⟩
  obtain ⟨gz16, hv⟩ := hv
  refine ⟨qcpok_mk rfl rfl gz16, ?_⟩
  obtain ⟨I15, eI15⟩ : ∃ z, z = zcp I12 60 (va_cpy (I12 54) (I12 60) ((0 : Int32)).toNatClampNeg ((0 : Int32)).toNatClampNeg ((7 : Int32)).toNatClampNeg) := ⟨_, rfl⟩
  have hv := hv I15 eI15
  intro h15 eh15
  have eh15 : h15 = zH I15 J := by rw [eh15, eI15]; rfl
  subst eh15
  exact hQ _ _ hv
theorem u_State_become_c94_49 (N : Nat) (_x0 : Nat) (_x1 : Nat) (I : zI) (J : zJ) (Q : zI → zJ → Prop) (Q' : qH → Prop) (hQ : ∀ (I : zI) (J : zJ), Q I J → Q' (zH I J)) (hv : v_State_become N 94 49 I J Q) : w_State_become N 94 49 (zH I J) Q' := by
  unfold w_State_become
  unfold v_State_become at hv
  refine ⟨rfl, ?_⟩
  refine ⟨rfl, ?_⟩
  obtain ⟨I1, eI1⟩ : ∃ z, z = qu I 94 1 (I 49 1) := ⟨_, rfl⟩
  have hv := hv I1 eI1
  intro h1 eh1
  have eh1 : h1 = zH I1 J := by rw [eh1, eI1]; rfl
  subst eh1
  refine ⟨rfl, ?_⟩
  refine ⟨rfl, ?_⟩
  obtain ⟨gz4, hv⟩ := hv
  refine ⟨qcpok_mk rfl rfl gz4, ?_⟩
  obtain ⟨I3, eI3⟩ : ∃ z, z = zcp I1 95 (va_cpy (I1 50) (I1 95) ((0 : Int32)).toNatClampNeg ((0 : Int32)).toNatClampNeg ((6 : Int32)).toNatClampNeg) := ⟨_, rfl⟩
  have hv := hv I3 eI3
  intro h3 eh3
  have eh3 : h3 = zH I3 J := by rw [eh3, eI3]; rfl
  subst eh3
  refine ⟨rfl, ?_⟩
  refine ⟨rfl, ?_⟩
  obtain ⟨gz7, hv⟩ := hv
  refine ⟨qcpok_mk rfl rfl gz7, ?_⟩
  obtain ⟨I6, eI6⟩ : ∃ z, z = zcp I3 96 (va_cpy (I3 51) (I3 96) ((0 : Int32)).toNatClampNeg ((0 : Int32)).toNatClampNeg ((6 : Int32)).toNatClampNeg) := ⟨_, rfl⟩
  have hv := hv I6 eI6
  intro h6 eh6
  have eh6 : h6 = zH I6 J := by rw [eh6, eI6]; rfl
  subst eh6
  refine ⟨rfl, ?_⟩
  refine ⟨rfl, ?_⟩
  obtain ⟨gz10, hv⟩ := hv
  refine ⟨qcpok_mk rfl rfl gz10, ?_⟩
  obtain ⟨I9, eI9⟩ : ∃ z, z = zcp I6 97 (va_cpy (I6 52) (I6 97) ((0 : Int32)).toNatClampNeg ((0 : Int32)).toNatClampNeg ((6 : Int32)).toNatClampNeg) := ⟨_, rfl⟩
  have hv := hv I9 eI9
  intro h9 eh9
  have eh9 : h9 = zH I9 J := by rw [eh9, eI9]; rfl
  subst eh9
  refine ⟨rfl, ?_⟩
  refine ⟨rfl, ?_⟩
  obtain ⟨gz13, hv⟩ := hv
  refine ⟨qcpok_mk rfl rfl gz13, ?_⟩
  obtain ⟨I12, eI12⟩ : ∃ z, z = zcp I9 98 (va_cpy (I9 53) (I9 98) ((0 : Int32)).toNatClampNeg ((0 : Int32)).toNatClampNeg ((6 : Int32)).toNatClampNeg) := ⟨_, rfl⟩
  have hv := hv I12 eI12
  intro h12 eh12
  have eh12 : h12 = zH I12 J := by rw [eh12, eI12]; rfl
  subst eh12
  refine ⟨rfl, ?_⟩
  refine ⟨rfl, ?_⟩
  obtain ⟨gz16, hv⟩ := hv
  refine ⟨qcpok_mk rfl rfl gz16, ?_⟩
  obtain ⟨I15, eI15⟩ : ∃ z, z = zcp I12 99 (va_cpy (I12 54) (I12 99) ((0 : Int32)).toNatClampNeg ((0 : Int32)).toNatClampNeg ((7 : Int32)).toNatClampNeg) := ⟨_, rfl⟩
  have hv := hv I15 eI15
  intro h15 eh15
  have eh15 : h15 = zH I15 J := by rw [eh15, eI15]; rfl
  subst eh15
  exact hQ _ _ hv
theorem u_State_exchange_c49 (N : Nat) (_x0 : Nat) (x1 : Int32) (x2 : Int32) (I : zI) (J : zJ) (Q : zI → zJ → Prop) (Q' : qH → Prop) (hQ : ∀ (I : zI) (J : zJ), Q I J → Q' (zH I J)) (hv : v_State_exchange N 49 x1 x2 I J Q) : w_State_exchange N 49 x1 x2 (zH I J) Q' := by
  unfold w_State_exchange
  unfold v_State_exchange at hv
  refine ⟨rfl, ?_⟩
  obtain ⟨g1, hv⟩ := hv
  refine ⟨qok_mk rfl g1, ?_⟩
  intro y2 ey2
  have hv := hv y2 ey2
  obtain ⟨g3, hv⟩ := hv
  refine ⟨qok_mk rfl g3, ?_⟩
  obtain ⟨I4, eI4⟩ : ∃ z, z = qu I 51 (x1).toNatClampNeg (I 51 (x2).toNatClampNeg) := ⟨_, rfl⟩
  have hv := hv I4 eI4
  intro h4 eh4
  have eh4 : h4 = zH I4 J := by rw [eh4, eI4]; rfl
  subst eh4
  refine ⟨rfl, ?_⟩
  obtain ⟨g5, hv⟩ := hv
  refine ⟨qok_mk rfl g5, ?_⟩
  obtain ⟨I6, eI6⟩ : ∃ z, z = qu I4 51 (x2).toNatClampNeg y2 := ⟨_, rfl⟩
  have hv := hv I6 eI6
  intro h6 eh6
  have eh6 : h6 = zH I6 J := by rw [eh6, eI6]; rfl
  subst eh6
  exact hQ _ _ hv
theorem u_State_exchange_c55 (N : Nat) (_x0 : Nat) (x1 : Int32) (x2 : Int32) (I : zI) (J : zJ) (Q : zI → zJ → Prop) (Q' : qH → Prop) (hQ : ∀ (I : zI) (J : zJ), Q I J → Q' (zH I J)) (hv : v_State_exchange N 55 x1 x2 I J Q) : w_State_exchange N 55 x1 x2 (zH I J) Q' := by
  unfold w_State_exchange
  unfold v_State_exchange at hv
  refine ⟨rfl, ?_⟩
  obtain ⟨g1, hv⟩ := hv
  refine ⟨qok_mk rfl g1, ?_⟩
  intro y2 ey2
  have hv := hv y2 ey2
  obtain ⟨g3, hv⟩ := hv
  refine ⟨qok_mk rfl g3, ?_⟩
  obtain ⟨I4, eI4⟩ : ∃ z, z = qu I 57 (x1).toNatClampNeg (I 57 (x2).toNatClampNeg) := ⟨_, rfl⟩
  have hv := hv I4 eI4
  intro h4 eh4
  have eh4 : h4 = zH I4 J := by rw [eh4, eI4]; rfl
  subst eh4
  refine ⟨rfl, ?_⟩
  obtain ⟨g5, hv⟩ := hv
  refine ⟨qok_mk rfl g5, ?_⟩
  obtain ⟨I6, eI6⟩ : ∃ z, z = qu I4 57 (x2).toNatClampNeg y2 := ⟨_, rfl⟩
  have hv := hv I6 eI6
  intro h6 eh6
  have eh6 : h6 = zH I6 J := by rw [eh6, eI6]; rfl
  subst eh6
  exact hQ _ _ hv
theorem u_State_exchange_c94 (N : Nat) (_x0 : Nat) (x1 : Int32) (x2 : Int32) (I : zI) (J : zJ) (Q : zI → zJ → Prop) (Q' : qH → Prop) (hQ : ∀ (I : zI) (J : zJ), Q I J → Q' (zH I J)) (hv : v_State_exchange N 94 x1 x2 I J Q) : w_State_exchange N 94 x1 x2 (zH I J) Q' := by
  unfold w_State_exchange
  unfold v_State_exchange at hv
  refine ⟨rfl, ?_⟩
  obtain ⟨g1, hv⟩ := hv
  refine ⟨qok_mk rfl g1, ?_⟩
  intro y2 ey2
  have hv := hv y2 ey2
  obtain ⟨g3, hv⟩ := hv
  refine ⟨qok_mk rfl g3, ?_⟩
  obtain ⟨I4, eI4⟩ : ∃ z, z = qu I 96 (x1).toNatClampNeg (I 96 (x2).toNatClampNeg) := ⟨_, rfl⟩
  have hv := hv I4 eI4
  intro h4 eh4
  have eh4 : h4 = zH I4 J := by rw [eh4, eI4]; rfl
  subst eh4
  refine ⟨rfl, ?_⟩
  obtain ⟨g5, hv⟩ := hv
  refine ⟨qok_mk rfl g5, ?_⟩
  obtain ⟨I6, eI6⟩ : ∃ z, z = qu I4 96 (x2).toNatClampNeg y2 := ⟨_, rfl⟩
  have hv := hv I6 eI6
  intro h6 eh6
  have eh6 : h6 = zH I6 J := by rw [eh6, eI6]; rfl
  subst eh6
  exact hQ _ _ hv
theorem u_State_whoIsOn_2_c49 (N k : Nat) (x1 : Int32) (x2 : Int32) (I : zI) (J : zJ) (Q : Int32 → zI → zJ → Prop) (Q' : Int32 → qH → Prop) (hQ : ∀ (r : Int32) (I : zI) (J : zJ), Q r I J → Q' r (zH I J)) (hv : v_State_whoIsOn_2 N k 49 x1 x2 I J Q ) : w_State_whoIsOn_2 N k 49 x1 x2 (zH I J) Q'  := by
  induction k generalizing x1 x2 I J with
  | zero => exact hv.elim
  | succ k ih =>
    rw [w_State_whoIsOn_2]
    rw [v_State_whoIsOn_2] at hv
    refine ⟨rfl, ?_⟩
    refine ⟨rfl, ?_⟩
    refine ⟨fun q1 => ?_, fun q1 => ?_⟩
    · have hv := hv.1 q1
      exact hQ _ _ _ hv
    · have hv := hv.2 q1
      obtain ⟨g2, hv⟩ := hv
      refine ⟨qok_mk rfl g2, ?_⟩
      refine ⟨fun q3 => ?_, fun q3 => ?_⟩
      · have hv := hv.1 q3
        exact ih x1 (x2 + (1 : Int32)) I J hv
      · have hv := hv.2 q3
        exact hQ _ _ _ hv
theorem u_State_whoIsOn_c49 (N : Nat) (_x0 : Nat) (x1 : Int32) (I : zI) (J : zJ) (Q : Int32 → zI → zJ → Prop) (Q' : Int32 → qH → Prop) (hQ : ∀ (r : Int32) (I : zI) (J : zJ), Q r I J → Q' r (zH I J)) (hv : v_State_whoIsOn N 49 x1 I J Q) : w_State_whoIsOn N 49 x1 (zH I J) Q' := by
  unfold w_State_whoIsOn
  unfold v_State_whoIsOn at hv
  exact u_State_whoIsOn_2_c49 N N x1 (0 : Int32) I J Q _ hQ   hv
theorem u_State_isTaken_c49 (N : Nat) (_x0 : Nat) (x1 : Int32) (I : zI) (J : zJ) (Q : Int32 → zI → zJ → Prop) (Q' : Int32 → qH → Prop) (hQ : ∀ (r : Int32) (I : zI) (J : zJ), Q r I J → Q' r (zH I J)) (hv : v_State_isTaken N 49 x1 I J Q) : w_State_isTaken N 49 x1 (zH I J) Q' := by
  unfold w_State_isTaken
  unfold v_State_isTaken at hv
  refine ⟨rfl, ?_⟩
  refine u_State_whoIsOn_c49 N 49 x1 I J _ _ (fun r1 I2 J2 hv => ?_) hv
  refine ⟨fun q3 => ?_, fun q3 => ?_⟩
  · have hv := hv.1 q3
    exact ⟨Or.inl rfl, hQ _ _ _ hv⟩
  · have hv := hv.2 q3
    exact ⟨Or.inr rfl, hQ _ _ _ hv⟩
theorem u_State_hasSelvesOf_2_c55_49 (N k : Nat) (x2 : Int32) (I : zI) (J : zJ) (Q : Int32 → zI → zJ → Prop) (Q' : Int32 → qH → Prop) (hQ : ∀ (r : Int32) (I : zI) (J : zJ), Q r I J → Q' r (zH I J)) (hv : v_State_hasSelvesOf_2 N k 55 49 x2 I J Q ) : w_State_hasSelvesOf_2 N k 55 49 x2 (zH I J) Q'  := by
  induction k generalizing x2 I J with
  | zero => exact hv.elim
  | succ k ih =>
    rw [w_State_hasSelvesOf_2]
    rw [v_State_hasSelvesOf_2] at hv
    refine ⟨rfl, ?_⟩
    refine ⟨rfl, ?_⟩
    refine ⟨fun q1 => ?_, fun q1 => ?_⟩
    · have hv := hv.1 q1
      exact ⟨Or.inr rfl, hQ _ _ _ hv⟩
    · have hv := hv.2 q1
      obtain ⟨g2, hv⟩ := hv
      refine ⟨qok_mk rfl g2, ?_⟩
      refine ⟨rfl, ?_⟩
      obtain ⟨g3, hv⟩ := hv
      refine ⟨qok_mk rfl g3, ?_⟩
      refine ⟨fun q4 => ?_, fun q4 => ?_⟩
      · have hv := hv.1 q4
        exact ih (x2 + (1 : Int32)) I J hv
      · have hv := hv.2 q4
        exact ⟨Or.inl rfl, hQ _ _ _ hv⟩
theorem u_State_hasSelvesOf_c55_49 (N : Nat) (_x0 : Nat) (_x1 : Nat) (I : zI) (J : zJ) (Q : Int32 → zI → zJ → Prop) (Q' : Int32 → qH → Prop) (hQ : ∀ (r : Int32) (I : zI) (J : zJ), Q r I J → Q' r (zH I J)) (hv : v_State_hasSelvesOf N 55 49 I J Q) : w_State_hasSelvesOf N 55 49 (zH I J) Q' := by
  unfold w_State_hasSelvesOf
  unfold v_State_hasSelvesOf at hv
  exact u_State_hasSelvesOf_2_c55_49 N N (0 : Int32) I J Q _ hQ   hv
theorem u_State_bitsOfHung_4_c49 (N k : Nat) (x1 : Int32) (x2 : Int32) (I : zI) (J : zJ) (Q : Int32 → zI → zJ → Prop) (Q' : Int32 → qH → Prop) (hQ : ∀ (r : Int32) (I : zI) (J : zJ), Q r I J → Q' r (zH I J)) (hv : v_State_bitsOfHung_4 N k 49 x1 x2 I J Q ) : w_State_bitsOfHung_4 N k 49 x1 x2 (zH I J) Q'  := by
  induction k generalizing x1 x2 I J with
  | zero => exact hv.elim
  | succ k ih =>
    rw [w_State_bitsOfHung_4]
    rw [v_State_bitsOfHung_4] at hv
    refine ⟨rfl, ?_⟩
    refine ⟨rfl, ?_⟩
    refine ⟨fun q1 => ?_, fun q1 => ?_⟩
    · have hv := hv.1 q1
      exact hQ _ _ _ hv
    · have hv := hv.2 q1
      refine u_State_isHung_c49 N 49 x2 I J _ _ (fun r2 I3 J3 hv => ?_) hv
      refine ⟨fun q4 => ?_, fun q4 => ?_⟩
      · have hv := hv.1 q4
        intro y5 ey5
        have hv := hv y5 ey5
        exact ih y5 (x2 + (1 : Int32)) I3 J3 hv
      · have hv := hv.2 q4
        intro y6 ey6
        have hv := hv y6 ey6
        exact ih y6 (x2 + (1 : Int32)) I3 J3 hv
theorem u_State_bitsOfHung_c49 (N : Nat) (_x0 : Nat) (I : zI) (J : zJ) (Q : Int32 → zI → zJ → Prop) (Q' : Int32 → qH → Prop) (hQ : ∀ (r : Int32) (I : zI) (J : zJ), Q r I J → Q' r (zH I J)) (hv : v_State_bitsOfHung N 49 I J Q) : w_State_bitsOfHung N 49 (zH I J) Q' := by
  unfold w_State_bitsOfHung
  unfold v_State_bitsOfHung at hv
  exact u_State_bitsOfHung_4_c49 N N (0 : Int32) (0 : Int32) I J Q _ hQ   hv
theorem u_State_bitsOfTaken_4_c49 (N k : Nat) (x1 : Int32) (x2 : Int32) (I : zI) (J : zJ) (Q : Int32 → zI → zJ → Prop) (Q' : Int32 → qH → Prop) (hQ : ∀ (r : Int32) (I : zI) (J : zJ), Q r I J → Q' r (zH I J)) (hv : v_State_bitsOfTaken_4 N k 49 x1 x2 I J Q ) : w_State_bitsOfTaken_4 N k 49 x1 x2 (zH I J) Q'  := by
  induction k generalizing x1 x2 I J with
  | zero => exact hv.elim
  | succ k ih =>
    rw [w_State_bitsOfTaken_4]
    rw [v_State_bitsOfTaken_4] at hv
    refine ⟨rfl, ?_⟩
    refine ⟨rfl, ?_⟩
    refine ⟨fun q1 => ?_, fun q1 => ?_⟩
    · have hv := hv.1 q1
      exact hQ _ _ _ hv
    · have hv := hv.2 q1
      refine u_State_isHung_c49 N 49 x2 I J _ _ (fun r2 I3 J3 hv => ?_) hv
      refine ⟨fun q4 => ?_, fun q4 => ?_⟩
      · have hv := hv.1 q4
        intro y5 ey5
        have hv := hv y5 ey5
        exact ih y5 (x2 + (1 : Int32)) I3 J3 hv
      · have hv := hv.2 q4
        refine ⟨rfl, ?_⟩
        obtain ⟨g6, hv⟩ := hv
        refine ⟨qok_mk rfl g6, ?_⟩
        intro y7 ey7
        have hv := hv y7 ey7
        exact ih y7 (x2 + (1 : Int32)) I3 J3 hv
theorem u_State_bitsOfTaken_c49 (N : Nat) (_x0 : Nat) (I : zI) (J : zJ) (Q : Int32 → zI → zJ → Prop) (Q' : Int32 → qH → Prop) (hQ : ∀ (r : Int32) (I : zI) (J : zJ), Q r I J → Q' r (zH I J)) (hv : v_State_bitsOfTaken N 49 I J Q) : w_State_bitsOfTaken N 49 (zH I J) Q' := by
  unfold w_State_bitsOfTaken
  unfold v_State_bitsOfTaken at hv
  exact u_State_bitsOfTaken_4_c49 N N (0 : Int32) (0 : Int32) I J Q _ hQ   hv
theorem u_State_bitsOfOwnSelves_4_c49 (N k : Nat) (x1 : Int32) (x2 : Int32) (I : zI) (J : zJ) (Q : Int32 → zI → zJ → Prop) (Q' : Int32 → qH → Prop) (hQ : ∀ (r : Int32) (I : zI) (J : zJ), Q r I J → Q' r (zH I J)) (hv : v_State_bitsOfOwnSelves_4 N k 49 x1 x2 I J Q ) : w_State_bitsOfOwnSelves_4 N k 49 x1 x2 (zH I J) Q'  := by
  induction k generalizing x1 x2 I J with
  | zero => exact hv.elim
  | succ k ih =>
    rw [w_State_bitsOfOwnSelves_4]
    rw [v_State_bitsOfOwnSelves_4] at hv
    refine ⟨rfl, ?_⟩
    refine ⟨rfl, ?_⟩
    refine ⟨fun q1 => ?_, fun q1 => ?_⟩
    · have hv := hv.1 q1
      exact hQ _ _ _ hv
    · have hv := hv.2 q1
      obtain ⟨g2, hv⟩ := hv
      refine ⟨qok_mk rfl g2, ?_⟩
      refine ⟨fun q3 => ?_, fun q3 => ?_⟩
      · have hv := hv.1 q3
        intro y4 ey4
        have hv := hv y4 ey4
        exact ih y4 (x2 + (1 : Int32)) I J hv
      · have hv := hv.2 q3
        intro y5 ey5
        have hv := hv y5 ey5
        exact ih y5 (x2 + (1 : Int32)) I J hv
theorem u_State_bitsOfOwnSelves_c49 (N : Nat) (_x0 : Nat) (I : zI) (J : zJ) (Q : Int32 → zI → zJ → Prop) (Q' : Int32 → qH → Prop) (hQ : ∀ (r : Int32) (I : zI) (J : zJ), Q r I J → Q' r (zH I J)) (hv : v_State_bitsOfOwnSelves N 49 I J Q) : w_State_bitsOfOwnSelves N 49 (zH I J) Q' := by
  unfold w_State_bitsOfOwnSelves
  unfold v_State_bitsOfOwnSelves at hv
  exact u_State_bitsOfOwnSelves_4_c49 N N (0 : Int32) (0 : Int32) I J Q _ hQ   hv
theorem u_State_bitsOfOwnSelves_4_c55 (N k : Nat) (x1 : Int32) (x2 : Int32) (I : zI) (J : zJ) (Q : Int32 → zI → zJ → Prop) (Q' : Int32 → qH → Prop) (hQ : ∀ (r : Int32) (I : zI) (J : zJ), Q r I J → Q' r (zH I J)) (hv : v_State_bitsOfOwnSelves_4 N k 55 x1 x2 I J Q ) : w_State_bitsOfOwnSelves_4 N k 55 x1 x2 (zH I J) Q'  := by
  induction k generalizing x1 x2 I J with
  | zero => exact hv.elim
  | succ k ih =>
    rw [w_State_bitsOfOwnSelves_4]
    rw [v_State_bitsOfOwnSelves_4] at hv
    refine ⟨rfl, ?_⟩
    refine ⟨rfl, ?_⟩
    refine ⟨fun q1 => ?_, fun q1 => ?_⟩
    · have hv := hv.1 q1
      exact hQ _ _ _ hv
    · have hv := hv.2 q1
      obtain ⟨g2, hv⟩ := hv
      refine ⟨qok_mk rfl g2, ?_⟩
      refine ⟨fun q3 => ?_, fun q3 => ?_⟩
      · have hv := hv.1 q3
        intro y4 ey4
        have hv := hv y4 ey4
        exact ih y4 (x2 + (1 : Int32)) I J hv
      · have hv := hv.2 q3
        intro y5 ey5
        have hv := hv y5 ey5
        exact ih y5 (x2 + (1 : Int32)) I J hv
theorem u_State_bitsOfOwnSelves_c55 (N : Nat) (_x0 : Nat) (I : zI) (J : zJ) (Q : Int32 → zI → zJ → Prop) (Q' : Int32 → qH → Prop) (hQ : ∀ (r : Int32) (I : zI) (J : zJ), Q r I J → Q' r (zH I J)) (hv : v_State_bitsOfOwnSelves N 55 I J Q) : w_State_bitsOfOwnSelves N 55 (zH I J) Q' := by
  unfold w_State_bitsOfOwnSelves
  unfold v_State_bitsOfOwnSelves at hv
  exact u_State_bitsOfOwnSelves_4_c55 N N (0 : Int32) (0 : Int32) I J Q _ hQ   hv
theorem u_State_bitsOfSharedNails_4_c49 (N k : Nat) (x1 : Int32) (x2 : Int32) (I : zI) (J : zJ) (Q : Int32 → zI → zJ → Prop) (Q' : Int32 → qH → Prop) (hQ : ∀ (r : Int32) (I : zI) (J : zJ), Q r I J → Q' r (zH I J)) (hv : v_State_bitsOfSharedNails_4 N k 49 x1 x2 I J Q ) : w_State_bitsOfSharedNails_4 N k 49 x1 x2 (zH I J) Q'  := by
  induction k generalizing x1 x2 I J with
  | zero => exact hv.elim
  | succ k ih =>
    rw [w_State_bitsOfSharedNails_4]
    rw [v_State_bitsOfSharedNails_4] at hv
    refine ⟨fun q1 => ?_, fun q1 => ?_⟩
    · have hv := hv.1 q1
      exact hQ _ _ _ hv
    · have hv := hv.2 q1
      refine ⟨rfl, ?_⟩
      refine u_State_peopleOnNail_c49 N 49 x2 I J _ _ (fun r2 I3 J3 hv => ?_) hv
      refine ⟨fun q4 => ?_, fun q4 => ?_⟩
      · have hv := hv.1 q4
        intro y5 ey5
        have hv := hv y5 ey5
        exact ih y5 (x2 + (1 : Int32)) I3 J3 hv
      · have hv := hv.2 q4
        intro y6 ey6
        have hv := hv y6 ey6
        exact ih y6 (x2 + (1 : Int32)) I3 J3 hv
theorem u_State_bitsOfSharedNails_c49 (N : Nat) (_x0 : Nat) (I : zI) (J : zJ) (Q : Int32 → zI → zJ → Prop) (Q' : Int32 → qH → Prop) (hQ : ∀ (r : Int32) (I : zI) (J : zJ), Q r I J → Q' r (zH I J)) (hv : v_State_bitsOfSharedNails N 49 I J Q) : w_State_bitsOfSharedNails N 49 (zH I J) Q' := by
  unfold w_State_bitsOfSharedNails
  unfold v_State_bitsOfSharedNails at hv
  exact u_State_bitsOfSharedNails_4_c49 N N (0 : Int32) (0 : Int32) I J Q _ hQ   hv
theorem u_Text_clear_22_c27 (N k : Nat) (x1 : Int32) (I : zI) (J : zJ) (Q : zI → zJ → Prop) (Q' : qH → Prop) (hQ : ∀ (I : zI) (J : zJ), Q I J → Q' (zH I J)) (K42 : zI → zJ → Prop) (K42' : Nat → qH → Prop) (hK42 : ∀  (I : zI) (J : zJ), K42  I J → K42' 27 (zH I J)) (hv : v_Text_clear_22 N k 27 x1 I J Q K42) : w_Text_clear_22 N k 27 x1 (zH I J) Q' K42' := by
  induction k generalizing x1 I J with
  | zero => exact hv.elim
  | succ k ih =>
    rw [w_Text_clear_22]
    rw [v_Text_clear_22] at hv
    refine ⟨fun q1 => ?_, fun q1 => ?_⟩
    · have hv := hv.1 q1
      exact hK42 I J hv
    · have hv := hv.2 q1
      refine ⟨rfl, ?_⟩
      obtain ⟨g2, hv⟩ := hv
      refine ⟨qok_mk rfl g2, ?_⟩
      obtain ⟨I3, eI3⟩ : ∃ z, z = qu I 32 (x1).toNatClampNeg (-2 : Int32) := ⟨_, rfl⟩
      have hv := hv I3 eI3
      intro h3 eh3
      have eh3 : h3 = zH I3 J := by rw [eh3, eI3]; rfl
      subst eh3
      exact ih (x1 + (1 : Int32)) I3 J hv
theorem u_Text_clear_c27 (N : Nat) (_x0 : Nat) (I : zI) (J : zJ) (Q : zI → zJ → Prop) (Q' : qH → Prop) (hQ : ∀ (I : zI) (J : zJ), Q I J → Q' (zH I J)) (hv : v_Text_clear N 27 I J Q) : w_Text_clear N 27 (zH I J) Q' := by
  unfold w_Text_clear
  unfold v_Text_clear at hv
  refine ⟨rfl, ?_⟩
  obtain ⟨I1, eI1⟩ : ∃ z, z = qu I 27 0 (0 : Int32) := ⟨_, rfl⟩
  have hv := hv I1 eI1
  intro h1 eh1
  have eh1 : h1 = zH I1 J := by rw [eh1, eI1]; rfl
  subst eh1
  refine ⟨rfl, ?_⟩
  obtain ⟨I2, eI2⟩ : ∃ z, z = qu I1 27 3 (0 : Int32) := ⟨_, rfl⟩
  have hv := hv I2 eI2
  intro h2 eh2
  have eh2 : h2 = zH I2 J := by rw [eh2, eI2]; rfl
  subst eh2
  refine ⟨rfl, ?_⟩
  obtain ⟨I3, eI3⟩ : ∃ z, z = qu I2 27 11 (0 : Int32) := ⟨_, rfl⟩
  have hv := hv I3 eI3
  intro h3 eh3
  have eh3 : h3 = zH I3 J := by rw [eh3, eI3]; rfl
  subst eh3
  refine ⟨rfl, ?_⟩
  obtain ⟨I4, eI4⟩ : ∃ z, z = qu I3 27 12 (0 : Int32) := ⟨_, rfl⟩
  have hv := hv I4 eI4
  intro h4 eh4
  have eh4 : h4 = zH I4 J := by rw [eh4, eI4]; rfl
  subst eh4
  refine u_Text_clear_22_c27 N N (0 : Int32) I4 J Q _ hQ _ _ (fun I5 J5 hv => ?_)  hv
  refine ⟨rfl, ?_⟩
  refine ⟨rfl, ?_⟩
  refine u_Law_becomeOneStep_c33 N 33 (2 : Int32) (0 : Int32) I5 J5 _ _ (fun I6 J6 hv => ?_) hv
  refine ⟨rfl, ?_⟩
  refine ⟨rfl, ?_⟩
  refine u_Law_becomeOneStep_c36 N 36 (1 : Int32) (0 : Int32) I6 J6 _ _ (fun I7 J7 hv => ?_) hv
  refine ⟨rfl, ?_⟩
  refine ⟨rfl, ?_⟩
  refine u_Law_becomeOneStep_c39 N 39 (1 : Int32) (0 : Int32) I7 J7 _ _ (fun I8 J8 hv => ?_) hv
  refine ⟨rfl, ?_⟩
  refine ⟨rfl, ?_⟩
  refine u_Law_becomeOneStep_c42 N 42 (2 : Int32) (0 : Int32) I8 J8 _ _ (fun I9 J9 hv => ?_) hv
  exact hQ _ _ hv
theorem u_Text_isFirstTaken_2_c27 (N k : Nat) (x1 : Int32) (x2 : Int32) (I : zI) (J : zJ) (Q : Int32 → zI → zJ → Prop) (Q' : Int32 → qH → Prop) (hQ : ∀ (r : Int32) (I : zI) (J : zJ), Q r I J → Q' r (zH I J)) (hv : v_Text_isFirstTaken_2 N k 27 x1 x2 I J Q ) : w_Text_isFirstTaken_2 N k 27 x1 x2 (zH I J) Q'  := by
  induction k generalizing x1 x2 I J with
  | zero => exact hv.elim
  | succ k ih =>
    rw [w_Text_isFirstTaken_2]
    rw [v_Text_isFirstTaken_2] at hv
    refine ⟨rfl, ?_⟩
    refine ⟨fun q1 => ?_, fun q1 => ?_⟩
    · have hv := hv.1 q1
      exact ⟨Or.inl rfl, hQ _ _ _ hv⟩
    · have hv := hv.2 q1
      obtain ⟨g2, hv⟩ := hv
      refine ⟨qok_mk rfl g2, ?_⟩
      refine ⟨fun q3 => ?_, fun q3 => ?_⟩
      · have hv := hv.1 q3
        exact ih x1 (x2 + (1 : Int32)) I J hv
      · have hv := hv.2 q3
        exact ⟨Or.inr rfl, hQ _ _ _ hv⟩
theorem u_Text_isFirstTaken_c27 (N : Nat) (_x0 : Nat) (x1 : Int32) (I : zI) (J : zJ) (Q : Int32 → zI → zJ → Prop) (Q' : Int32 → qH → Prop) (hQ : ∀ (r : Int32) (I : zI) (J : zJ), Q r I J → Q' r (zH I J)) (hv : v_Text_isFirstTaken N 27 x1 I J Q) : w_Text_isFirstTaken N 27 x1 (zH I J) Q' := by
  unfold w_Text_isFirstTaken
  unfold v_Text_isFirstTaken at hv
  exact u_Text_isFirstTaken_2_c27 N N x1 (0 : Int32) I J Q _ hQ   hv
theorem u_Text_become_c8_27 (N : Nat) (_x0 : Nat) (_x1 : Nat) (I : zI) (J : zJ) (Q : zI → zJ → Prop) (Q' : qH → Prop) (hQ : ∀ (I : zI) (J : zJ), Q I J → Q' (zH I J)) (hv : v_Text_become N 8 27 I J Q) : w_Text_become N 8 27 (zH I J) Q' := by
  unfold w_Text_become
  unfold v_Text_become at hv
  refine ⟨rfl, ?_⟩
  refine ⟨rfl, ?_⟩
  obtain ⟨I1, eI1⟩ : ∃ z, z = qu I 8 0 (I 27 0) := ⟨_, rfl⟩
  have hv := hv I1 eI1
  intro h1 eh1
  have eh1 : h1 = zH I1 J := by rw [eh1, eI1]; rfl
  subst eh1
  refine ⟨rfl, ?_⟩
  refine ⟨rfl, ?_⟩
  obtain ⟨I2, eI2⟩ : ∃ z, z = qu I1 8 3 (I1 27 3) := ⟨_, rfl⟩
  have hv := hv I2 eI2
  intro h2 eh2
  have eh2 : h2 = zH I2 J := by rw [eh2, eI2]; rfl
  subst eh2
  refine ⟨rfl, ?_⟩
  refine ⟨rfl, ?_⟩
  obtain ⟨I3, eI3⟩ : ∃ z, z = qu I2 8 11 (I2 27 11) := ⟨_, rfl⟩
  have hv := hv I3 eI3
  intro h3 eh3
  have eh3 : h3 = zH I3 J := by rw [eh3, eI3]; rfl
  subst eh3
  refine ⟨rfl, ?_⟩
  refine ⟨rfl, ?_⟩
  obtain ⟨I4, eI4⟩ : ∃ z, z = qu I3 8 12 (I3 27 12) := ⟨_, rfl⟩
  have hv := hv I4 eI4
  intro h4 eh4
  have eh4 : h4 = zH I4 J := by rw [eh4, eI4]; rfl
  subst eh4
  refine ⟨rfl, ?_⟩
  refine ⟨rfl, ?_⟩
  obtain ⟨gz7, hv⟩ := hv
  refine ⟨qcpok_mk rfl rfl gz7, ?_⟩
  obtain ⟨I6, eI6⟩ : ∃ z, z = zcp I4 9 (va_cpy (I4 28) (I4 9) ((0 : Int32)).toNatClampNeg ((0 : Int32)).toNatClampNeg ((7 : Int32)).toNatClampNeg) := ⟨_, rfl⟩
  have hv := hv I6 eI6
  intro h6 eh6
  have eh6 : h6 = zH I6 J := by rw [eh6, eI6]; rfl
  subst eh6
  refine ⟨rfl, ?_⟩
  refine ⟨rfl, ?_⟩
  obtain ⟨gz10, hv⟩ := hv
  refine ⟨qcpok_mk rfl rfl gz10, ?_⟩
  obtain ⟨I9, eI9⟩ : ∃ z, z = zcp I6 10 (va_cpy (I6 29) (I6 10) ((0 : Int32)).toNatClampNeg ((0 : Int32)).toNatClampNeg ((7 : Int32)).toNatClampNeg) := ⟨_, rfl⟩
  have hv := hv I9 eI9
  intro h9 eh9
  have eh9 : h9 = zH I9 J := by rw [eh9, eI9]; rfl
  subst eh9
  refine ⟨rfl, ?_⟩
  refine ⟨rfl, ?_⟩
  obtain ⟨gz13, hv⟩ := hv
  refine ⟨qcpok_mk rfl rfl gz13, ?_⟩
  obtain ⟨I12, eI12⟩ : ∃ z, z = zcp I9 11 (va_cpy (I9 30) (I9 11) ((0 : Int32)).toNatClampNeg ((0 : Int32)).toNatClampNeg ((6 : Int32)).toNatClampNeg) := ⟨_, rfl⟩
  have hv := hv I12 eI12
  intro h12 eh12
  have eh12 : h12 = zH I12 J := by rw [eh12, eI12]; rfl
  subst eh12
  refine ⟨rfl, ?_⟩
  refine ⟨rfl, ?_⟩
  obtain ⟨gz16, hv⟩ := hv
  refine ⟨qcpok_mk rfl rfl gz16, ?_⟩
  obtain ⟨I15, eI15⟩ : ∃ z, z = zcp I12 12 (va_cpy (I12 31) (I12 12) ((0 : Int32)).toNatClampNeg ((0 : Int32)).toNatClampNeg ((6 : Int32)).toNatClampNeg) := ⟨_, rfl⟩
  have hv := hv I15 eI15
  intro h15 eh15
  have eh15 : h15 = zH I15 J := by rw [eh15, eI15]; rfl
  subst eh15
  refine ⟨rfl, ?_⟩
  refine ⟨rfl, ?_⟩
  obtain ⟨gz19, hv⟩ := hv
  refine ⟨qcpok_mk rfl rfl gz19, ?_⟩
  obtain ⟨I18, eI18⟩ : ∃ z, z = zcp I15 13 (va_cpy (I15 32) (I15 13) ((0 : Int32)).toNatClampNeg ((0 : Int32)).toNatClampNeg ((6 : Int32)).toNatClampNeg) := ⟨_, rfl⟩
  have hv := hv I18 eI18
  intro h18 eh18
  have eh18 : h18 = zH I18 J := by rw [eh18, eI18]; rfl
  subst eh18
  refine ⟨rfl, ?_⟩
  refine ⟨rfl, ?_⟩
  refine ⟨rfl, ?_⟩
  refine u_Law_become_c14_33 N 14 33 I18 J _ _ (fun I20 J20 hv => ?_) hv
  refine ⟨rfl, ?_⟩
  refine ⟨rfl, ?_⟩
  refine ⟨rfl, ?_⟩
  refine u_Law_become_c17_36 N 17 36 I20 J20 _ _ (fun I21 J21 hv => ?_) hv
  refine ⟨rfl, ?_⟩
  refine ⟨rfl, ?_⟩
  refine ⟨rfl, ?_⟩
  refine u_Law_become_c20_39 N 20 39 I21 J21 _ _ (fun I22 J22 hv => ?_) hv
  refine ⟨rfl, ?_⟩
  refine ⟨rfl, ?_⟩
  refine ⟨rfl, ?_⟩
  refine u_Law_become_c23_42 N 23 42 I22 J22 _ _ (fun I23 J23 hv => ?_) hv
  exact hQ _ _ hv
theorem u_Waits_close (N : Nat)  (I : zI) (J : zJ) (Q : zI → zJ → Prop) (Q' : qH → Prop) (hQ : ∀ (I : zI) (J : zJ), Q I J → Q' (zH I J)) (hv : v_Waits_close N  I J Q) : w_Waits_close N 47 (zH I J) Q' := by
  unfold w_Waits_close
  unfold v_Waits_close at hv
  refine ⟨rfl, ?_⟩
  obtain ⟨I1, eI1⟩ : ∃ z, z = qu I 47 1 (if (0 : Int32) < ((I 47 1) - (1 : Int32)) then ((I 47 1) - (1 : Int32)) else (0 : Int32)) := ⟨_, rfl⟩
  have hv := hv I1 eI1
  intro h1 eh1
  have eh1 : h1 = zH I1 J := by rw [eh1, eI1]; rfl
  subst eh1
  refine ⟨rfl, ?_⟩
  obtain ⟨I2, eI2⟩ : ∃ z, z = qu I1 47 2 ((I1 47 2) - (1 : Int32)) := ⟨_, rfl⟩
  have hv := hv I2 eI2
  intro h2 eh2
  have eh2 : h2 = zH I2 J := by rw [eh2, eI2]; rfl
  subst eh2
  exact hQ _ _ hv
theorem u_Waits_strengthOf (N : Nat) (x0 : Int32) (I : zI) (J : zJ) (Q : Int32 → zI → zJ → Prop) (Q' : Int32 → qH → Prop) (hQ : ∀ (r : Int32) (I : zI) (J : zJ), Q r I J → Q' r (zH I J)) (hv : v_Waits_strengthOf N x0 I J Q) : w_Waits_strengthOf N x0 (zH I J) Q' := by
  unfold w_Waits_strengthOf
  unfold v_Waits_strengthOf at hv
  refine ⟨fun q1 => ?_, fun q1 => ?_⟩
  · have hv := hv.1 q1
    exact hQ _ _ _ hv
  · have hv := hv.2 q1
    refine ⟨fun q2 => ?_, fun q2 => ?_⟩
    · have hv := hv.1 q2
      exact hQ _ _ _ hv
    · have hv := hv.2 q2
      refine ⟨fun q3 => ?_, fun q3 => ?_⟩
      · have hv := hv.1 q3
        exact hQ _ _ _ hv
      · have hv := hv.2 q3
        refine ⟨fun q4 => ?_, fun q4 => ?_⟩
        · have hv := hv.1 q4
          exact hQ _ _ _ hv
        · have hv := hv.2 q4
          refine ⟨fun q5 => ?_, fun q5 => ?_⟩
          · have hv := hv.1 q5
            exact hQ _ _ _ hv
          · have hv := hv.2 q5
            refine ⟨fun q6 => ?_, fun q6 => ?_⟩
            · have hv := hv.1 q6
              exact hQ _ _ _ hv
            · have hv := hv.2 q6
              exact hQ _ _ _ hv
theorem u_Waits_letGo_0_c33 (N k : Nat) (x2 : Int32) (I : zI) (J : zJ) (Q : zI → zJ → Prop) (Q' : qH → Prop) (hQ : ∀ (I : zI) (J : zJ), Q I J → Q' (zH I J)) (hv : v_Waits_letGo_0 N k 33 x2 I J Q ) : w_Waits_letGo_0 N k 47 33 x2 (zH I J) Q'  := by
  induction k generalizing x2 I J with
  | zero => exact hv.elim
  | succ k ih =>
    rw [w_Waits_letGo_0]
    rw [v_Waits_letGo_0] at hv
    refine ⟨rfl, ?_⟩
    refine ⟨fun q1 => ?_, fun q1 => ?_⟩
    · have hv := hv.1 q1
      exact hQ _ _ hv
    · have hv := hv.2 q1
      obtain ⟨g2, hv⟩ := hv
      refine ⟨qok_mk rfl g2, ?_⟩
      refine u_Waits_strengthOf N (I 48 (((I 47 1) - (1 : Int32))).toNatClampNeg) I J _ _ (fun r3 I4 J4 hv => ?_) hv
      refine ⟨fun q5 => ?_, fun q5 => ?_⟩
      · have hv := hv.1 q5
        exact hQ _ _ hv
      · have hv := hv.2 q5
        refine ⟨rfl, ?_⟩
        obtain ⟨I6, eI6⟩ : ∃ z, z = qu I4 47 1 ((I4 47 1) - (1 : Int32)) := ⟨_, rfl⟩
        have hv := hv I6 eI6
        intro h6 eh6
        have eh6 : h6 = zH I6 J4 := by rw [eh6, eI6]; rfl
        subst eh6
        refine ⟨rfl, ?_⟩
        obtain ⟨g7, hv⟩ := hv
        refine ⟨qok_mk rfl g7, ?_⟩
        refine ⟨rfl, ?_⟩
        refine u_Law_add_c33 N 33 (I6 48 ((I6 47 1)).toNatClampNeg) (0 : Int32) I6 J4 _ _ (fun I8 J8 hv => ?_) hv
        exact ih x2 I8 J8 hv
theorem u_Waits_letGo_c33 (N : Nat) (_x1 : Nat) (x2 : Int32) (I : zI) (J : zJ) (Q : zI → zJ → Prop) (Q' : qH → Prop) (hQ : ∀ (I : zI) (J : zJ), Q I J → Q' (zH I J)) (hv : v_Waits_letGo N 33 x2 I J Q) : w_Waits_letGo N 47 33 x2 (zH I J) Q' := by
  unfold w_Waits_letGo
  unfold v_Waits_letGo at hv
  exact u_Waits_letGo_0_c33 N N x2 I J Q _ hQ   hv
theorem u_Waits_letGo_0_c36 (N k : Nat) (x2 : Int32) (I : zI) (J : zJ) (Q : zI → zJ → Prop) (Q' : qH → Prop) (hQ : ∀ (I : zI) (J : zJ), Q I J → Q' (zH I J)) (hv : v_Waits_letGo_0 N k 36 x2 I J Q ) : w_Waits_letGo_0 N k 47 36 x2 (zH I J) Q'  := by
  induction k generalizing x2 I J with
  | zero => exact hv.elim
  | succ k ih =>
    rw [w_Waits_letGo_0]
    rw [v_Waits_letGo_0] at hv
    refine ⟨rfl, ?_⟩
    refine ⟨fun q1 => ?_, fun q1 => ?_⟩
    · have hv := hv.1 q1
      exact hQ _ _ hv
    · have hv := hv.2 q1
      obtain ⟨g2, hv⟩ := hv
      refine ⟨qok_mk rfl g2, ?_⟩
      refine u_Waits_strengthOf N (I 48 (((I 47 1) - (1 : Int32))).toNatClampNeg) I J _ _ (fun r3 I4 J4 hv => ?_) hv
      refine ⟨fun q5 => ?_, fun q5 => ?_⟩
      · have hv := hv.1 q5
        exact hQ _ _ hv
      · have hv := hv.2 q5
        refine ⟨rfl, ?_⟩
        obtain ⟨I6, eI6⟩ : ∃ z, z = qu I4 47 1 ((I4 47 1) - (1 : Int32)) := ⟨_, rfl⟩
        have hv := hv I6 eI6
        intro h6 eh6
        have eh6 : h6 = zH I6 J4 := by rw [eh6, eI6]; rfl
        subst eh6
        refine ⟨rfl, ?_⟩
        obtain ⟨g7, hv⟩ := hv
        refine ⟨qok_mk rfl g7, ?_⟩
        refine ⟨rfl, ?_⟩
        refine u_Law_add_c36 N 36 (I6 48 ((I6 47 1)).toNatClampNeg) (0 : Int32) I6 J4 _ _ (fun I8 J8 hv => ?_) hv
        exact ih x2 I8 J8 hv
theorem u_Waits_letGo_c36 (N : Nat) (_x1 : Nat) (x2 : Int32) (I : zI) (J : zJ) (Q : zI → zJ → Prop) (Q' : qH → Prop) (hQ : ∀ (I : zI) (J : zJ), Q I J → Q' (zH I J)) (hv : v_Waits_letGo N 36 x2 I J Q) : w_Waits_letGo N 47 36 x2 (zH I J) Q' := by
  unfold w_Waits_letGo
  unfold v_Waits_letGo at hv
  exact u_Waits_letGo_0_c36 N N x2 I J Q _ hQ   hv
theorem u_Waits_letGo_0_c39 (N k : Nat) (x2 : Int32) (I : zI) (J : zJ) (Q : zI → zJ → Prop) (Q' : qH → Prop) (hQ : ∀ (I : zI) (J : zJ), Q I J → Q' (zH I J)) (hv : v_Waits_letGo_0 N k 39 x2 I J Q ) : w_Waits_letGo_0 N k 47 39 x2 (zH I J) Q'  := by
  induction k generalizing x2 I J with
  | zero => exact hv.elim
  | succ k ih =>
    rw [w_Waits_letGo_0]
    rw [v_Waits_letGo_0] at hv
    refine ⟨rfl, ?_⟩
    refine ⟨fun q1 => ?_, fun q1 => ?_⟩
    · have hv := hv.1 q1
      exact hQ _ _ hv
    · have hv := hv.2 q1
      obtain ⟨g2, hv⟩ := hv
      refine ⟨qok_mk rfl g2, ?_⟩
      refine u_Waits_strengthOf N (I 48 (((I 47 1) - (1 : Int32))).toNatClampNeg) I J _ _ (fun r3 I4 J4 hv => ?_) hv
      refine ⟨fun q5 => ?_, fun q5 => ?_⟩
      · have hv := hv.1 q5
        exact hQ _ _ hv
      · have hv := hv.2 q5
        refine ⟨rfl, ?_⟩
        obtain ⟨I6, eI6⟩ : ∃ z, z = qu I4 47 1 ((I4 47 1) - (1 : Int32)) := ⟨_, rfl⟩
        have hv := hv I6 eI6
        intro h6 eh6
        have eh6 : h6 = zH I6 J4 := by rw [eh6, eI6]; rfl
        subst eh6
        refine ⟨rfl, ?_⟩
        obtain ⟨g7, hv⟩ := hv
        refine ⟨qok_mk rfl g7, ?_⟩
        refine ⟨rfl, ?_⟩
        refine u_Law_add_c39 N 39 (I6 48 ((I6 47 1)).toNatClampNeg) (0 : Int32) I6 J4 _ _ (fun I8 J8 hv => ?_) hv
        exact ih x2 I8 J8 hv
theorem u_Waits_letGo_c39 (N : Nat) (_x1 : Nat) (x2 : Int32) (I : zI) (J : zJ) (Q : zI → zJ → Prop) (Q' : qH → Prop) (hQ : ∀ (I : zI) (J : zJ), Q I J → Q' (zH I J)) (hv : v_Waits_letGo N 39 x2 I J Q) : w_Waits_letGo N 47 39 x2 (zH I J) Q' := by
  unfold w_Waits_letGo
  unfold v_Waits_letGo at hv
  exact u_Waits_letGo_0_c39 N N x2 I J Q _ hQ   hv
theorem u_Waits_letGo_0_c42 (N k : Nat) (x2 : Int32) (I : zI) (J : zJ) (Q : zI → zJ → Prop) (Q' : qH → Prop) (hQ : ∀ (I : zI) (J : zJ), Q I J → Q' (zH I J)) (hv : v_Waits_letGo_0 N k 42 x2 I J Q ) : w_Waits_letGo_0 N k 47 42 x2 (zH I J) Q'  := by
  induction k generalizing x2 I J with
  | zero => exact hv.elim
  | succ k ih =>
    rw [w_Waits_letGo_0]
    rw [v_Waits_letGo_0] at hv
    refine ⟨rfl, ?_⟩
    refine ⟨fun q1 => ?_, fun q1 => ?_⟩
    · have hv := hv.1 q1
      exact hQ _ _ hv
    · have hv := hv.2 q1
      obtain ⟨g2, hv⟩ := hv
      refine ⟨qok_mk rfl g2, ?_⟩
      refine u_Waits_strengthOf N (I 48 (((I 47 1) - (1 : Int32))).toNatClampNeg) I J _ _ (fun r3 I4 J4 hv => ?_) hv
      refine ⟨fun q5 => ?_, fun q5 => ?_⟩
      · have hv := hv.1 q5
        exact hQ _ _ hv
      · have hv := hv.2 q5
        refine ⟨rfl, ?_⟩
        obtain ⟨I6, eI6⟩ : ∃ z, z = qu I4 47 1 ((I4 47 1) - (1 : Int32)) := ⟨_, rfl⟩
        have hv := hv I6 eI6
        intro h6 eh6
        have eh6 : h6 = zH I6 J4 := by rw [eh6, eI6]; rfl
        subst eh6
        refine ⟨rfl, ?_⟩
        obtain ⟨g7, hv⟩ := hv
        refine ⟨qok_mk rfl g7, ?_⟩
        refine ⟨rfl, ?_⟩
        refine u_Law_add_c42 N 42 (I6 48 ((I6 47 1)).toNatClampNeg) (0 : Int32) I6 J4 _ _ (fun I8 J8 hv => ?_) hv
        exact ih x2 I8 J8 hv
theorem u_Waits_letGo_c42 (N : Nat) (_x1 : Nat) (x2 : Int32) (I : zI) (J : zJ) (Q : zI → zJ → Prop) (Q' : qH → Prop) (hQ : ∀ (I : zI) (J : zJ), Q I J → Q' (zH I J)) (hv : v_Waits_letGo N 42 x2 I J Q) : w_Waits_letGo N 47 42 x2 (zH I J) Q' := by
  unfold w_Waits_letGo
  unfold v_Waits_letGo at hv
  exact u_Waits_letGo_0_c42 N N x2 I J Q _ hQ   hv
theorem u_Waits_put (N : Nat) (x1 : Int32) (I : zI) (J : zJ) (Q : zI → zJ → Prop) (Q' : qH → Prop) (hQ : ∀ (I : zI) (J : zJ), Q I J → Q' (zH I J)) (hv : v_Waits_put N x1 I J Q) : w_Waits_put N 47 x1 (zH I J) Q' := by
  unfold w_Waits_put
  unfold v_Waits_put at hv
  refine ⟨rfl, ?_⟩
  refine ⟨fun q1 => ?_, fun q1 => ?_⟩
  · have hv := hv.1 q1
    exact hQ _ _ hv
  · have hv := hv.2 q1
    obtain ⟨g2, hv⟩ := hv
    refine ⟨qok_mk rfl g2, ?_⟩
    obtain ⟨I3, eI3⟩ : ∃ z, z = qu I 48 ((I 47 1)).toNatClampNeg x1 := ⟨_, rfl⟩
    have hv := hv I3 eI3
    intro h3 eh3
    have eh3 : h3 = zH I3 J := by rw [eh3, eI3]; rfl
    subst eh3
    refine ⟨rfl, ?_⟩
    obtain ⟨I4, eI4⟩ : ∃ z, z = qu I3 47 1 ((I3 47 1) + (1 : Int32)) := ⟨_, rfl⟩
    have hv := hv I4 eI4
    intro h4 eh4
    have eh4 : h4 = zH I4 J := by rw [eh4, eI4]; rfl
    subst eh4
    exact hQ _ _ hv
theorem u_Waits_open (N : Nat)  (I : zI) (J : zJ) (Q : zI → zJ → Prop) (Q' : qH → Prop) (hQ : ∀ (I : zI) (J : zJ), Q I J → Q' (zH I J)) (hv : v_Waits_open N  I J Q) : w_Waits_open N 47 (zH I J) Q' := by
  unfold w_Waits_open
  unfold v_Waits_open at hv
  refine ⟨rfl, ?_⟩
  refine u_Waits_put N (40 : Int32) I J _ _ (fun I1 J1 hv => ?_) hv
  refine ⟨rfl, ?_⟩
  obtain ⟨I2, eI2⟩ : ∃ z, z = qu I1 47 2 ((I1 47 2) + (1 : Int32)) := ⟨_, rfl⟩
  have hv := hv I2 eI2
  intro h2 eh2
  have eh2 : h2 = zH I2 J1 := by rw [eh2, eI2]; rfl
  subst eh2
  exact hQ _ _ hv
theorem u_Waits_add_c33 (N : Nat) (_x1 : Nat) (x2 : Int32) (I : zI) (J : zJ) (Q : zI → zJ → Prop) (Q' : qH → Prop) (hQ : ∀ (I : zI) (J : zJ), Q I J → Q' (zH I J)) (hv : v_Waits_add N 33 x2 I J Q) : w_Waits_add N 47 33 x2 (zH I J) Q' := by
  unfold w_Waits_add
  unfold v_Waits_add at hv
  refine u_Waits_strengthOf N x2 I J _ _ (fun r1 I2 J2 hv => ?_) hv
  refine ⟨rfl, ?_⟩
  refine u_Waits_letGo_c33 N 33 r1 I2 J2 _ _ (fun I3 J3 hv => ?_) hv
  refine ⟨rfl, ?_⟩
  refine u_Waits_put N x2 I3 J3 _ _ (fun I4 J4 hv => ?_) hv
  exact hQ _ _ hv
theorem u_Waits_add_c36 (N : Nat) (_x1 : Nat) (x2 : Int32) (I : zI) (J : zJ) (Q : zI → zJ → Prop) (Q' : qH → Prop) (hQ : ∀ (I : zI) (J : zJ), Q I J → Q' (zH I J)) (hv : v_Waits_add N 36 x2 I J Q) : w_Waits_add N 47 36 x2 (zH I J) Q' := by
  unfold w_Waits_add
  unfold v_Waits_add at hv
  refine u_Waits_strengthOf N x2 I J _ _ (fun r1 I2 J2 hv => ?_) hv
  refine ⟨rfl, ?_⟩
  refine u_Waits_letGo_c36 N 36 r1 I2 J2 _ _ (fun I3 J3 hv => ?_) hv
  refine ⟨rfl, ?_⟩
  refine u_Waits_put N x2 I3 J3 _ _ (fun I4 J4 hv => ?_) hv
  exact hQ _ _ hv
theorem u_Waits_add_c39 (N : Nat) (_x1 : Nat) (x2 : Int32) (I : zI) (J : zJ) (Q : zI → zJ → Prop) (Q' : qH → Prop) (hQ : ∀ (I : zI) (J : zJ), Q I J → Q' (zH I J)) (hv : v_Waits_add N 39 x2 I J Q) : w_Waits_add N 47 39 x2 (zH I J) Q' := by
  unfold w_Waits_add
  unfold v_Waits_add at hv
  refine u_Waits_strengthOf N x2 I J _ _ (fun r1 I2 J2 hv => ?_) hv
  refine ⟨rfl, ?_⟩
  refine u_Waits_letGo_c39 N 39 r1 I2 J2 _ _ (fun I3 J3 hv => ?_) hv
  refine ⟨rfl, ?_⟩
  refine u_Waits_put N x2 I3 J3 _ _ (fun I4 J4 hv => ?_) hv
  exact hQ _ _ hv
theorem u_Waits_add_c42 (N : Nat) (_x1 : Nat) (x2 : Int32) (I : zI) (J : zJ) (Q : zI → zJ → Prop) (Q' : qH → Prop) (hQ : ∀ (I : zI) (J : zJ), Q I J → Q' (zH I J)) (hv : v_Waits_add N 42 x2 I J Q) : w_Waits_add N 47 42 x2 (zH I J) Q' := by
  unfold w_Waits_add
  unfold v_Waits_add at hv
  refine u_Waits_strengthOf N x2 I J _ _ (fun r1 I2 J2 hv => ?_) hv
  refine ⟨rfl, ?_⟩
  refine u_Waits_letGo_c42 N 42 r1 I2 J2 _ _ (fun I3 J3 hv => ?_) hv
  refine ⟨rfl, ?_⟩
  refine u_Waits_put N x2 I3 J3 _ _ (fun I4 J4 hv => ?_) hv
  exact hQ _ _ hv
theorem u_Waits_begin (N : Nat)  (I : zI) (J : zJ) (Q : zI → zJ → Prop) (Q' : qH → Prop) (hQ : ∀ (I : zI) (J : zJ), Q I J → Q' (zH I J)) (hv : v_Waits_begin N  I J Q) : w_Waits_begin N 47 (zH I J) Q' := by
  unfold w_Waits_begin
  unfold v_Waits_begin at hv
  refine ⟨rfl, ?_⟩
  obtain ⟨I1, eI1⟩ : ∃ z, z = qu I 47 1 (0 : Int32) := ⟨_, rfl⟩
  have hv := hv I1 eI1
  intro h1 eh1
  have eh1 : h1 = zH I1 J := by rw [eh1, eI1]; rfl
  subst eh1
  refine ⟨rfl, ?_⟩
  obtain ⟨I2, eI2⟩ : ∃ z, z = qu I1 47 2 (0 : Int32) := ⟨_, rfl⟩
  have hv := hv I2 eI2
  intro h2 eh2
  have eh2 : h2 = zH I2 J := by rw [eh2, eI2]; rfl
  subst eh2
  exact hQ _ _ hv
