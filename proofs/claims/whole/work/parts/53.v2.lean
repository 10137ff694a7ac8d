/-! over the layout: written by wip/whole/emitv.py -/
def v_Tape_byteAt (N : Nat) (x1 : Int32) (I : zI) (J : zJ) (Q : Int32 → zI → zJ → Prop) : Prop := ((x1 < 0 → Q (-1 : Int32) I J) ∧ (¬ x1 < 0 → (((I 2 1) ≤ x1 → Q (-1 : Int32) I J) ∧ (¬ (I 2 1) ≤ x1 → (vp_in x1 2000 ∧ Q ((I 3 (x1).toNatClampNeg) &&& (255 : Int32)) I J)))))
def v_Tape_isBlank (N : Nat) (x0 : Int32) (I : zI) (J : zJ) (Q : Int32 → zI → zJ → Prop) : Prop := ((x0 = (9 : Int32) → Q (1 : Int32) I J) ∧ (¬ x0 = (9 : Int32) → ((x0 = (10 : Int32) → Q (1 : Int32) I J) ∧ (¬ x0 = (10 : Int32) → ((x0 = (13 : Int32) → Q (1 : Int32) I J) ∧ (¬ x0 = (13 : Int32) → ((¬ x0 = (32 : Int32) → Q (0 : Int32) I J) ∧ (x0 = (32 : Int32) → Q (1 : Int32) I J))))))))
def v_Tape_skipBlanks_0 (N : Nat) : Nat → zI → zJ → (zI → zJ → Prop) → Prop
  | 0 => fun _ _ _ => False
  | k + 1 => fun I J Q  => (((I 2 1) ≤ (I 2 3) → Q I J) ∧ (¬ (I 2 1) ≤ (I 2 3) → (v_Tape_byteAt N (I 2 3) I J (fun r2 I3 J3 => (v_Tape_isBlank N r2 I3 J3 (fun r4 I5 J5 => ((r4 = 0 → Q I5 J5) ∧ (¬ r4 = 0 → (∀ I7 : zI, I7 = qu I5 2 3 ((I5 2 3) + (1 : Int32)) → (v_Tape_skipBlanks_0 N k I7 J5 Q))))))))))
def v_Tape_skipBlanks (N : Nat)  (I : zI) (J : zJ) (Q : zI → zJ → Prop) : Prop := (v_Tape_skipBlanks_0 N N  I J Q )
def v_Tape_isDigit (N : Nat) (x0 : Int32) (I : zI) (J : zJ) (Q : Int32 → zI → zJ → Prop) : Prop := ((x0 < (48 : Int32) → Q (0 : Int32) I J) ∧ (¬ x0 < (48 : Int32) → (((57 : Int32) < x0 → Q (0 : Int32) I J) ∧ (¬ (57 : Int32) < x0 → Q (1 : Int32) I J))))
def v_Tape_isLetter (N : Nat) (x0 : Int32) (I : zI) (J : zJ) (Q : Int32 → zI → zJ → Prop) : Prop := ((x0 < (97 : Int32) → Q (0 : Int32) I J) ∧ (¬ x0 < (97 : Int32) → (((122 : Int32) < x0 → Q (0 : Int32) I J) ∧ (¬ (122 : Int32) < x0 → Q (1 : Int32) I J))))
def v_Tape_splitInt_2 (N : Nat) : Nat → Int32 → Int64 → zI → zJ → (Int32 → zI → zJ → Prop) → (Int32 → Int64 → zI → zJ → Prop) → Prop
  | 0 => fun _ _ _ _ _ _ => False
  | k + 1 => fun x1 x2 I J Q K59 => (((I 2 1) ≤ (I 2 3) → (K59 x1 x2 I J)) ∧ (¬ (I 2 1) ≤ (I 2 3) → (v_Tape_byteAt N (I 2 3) I J (fun r2 I3 J3 => (v_Tape_isDigit N r2 I3 J3 (fun r4 I5 J5 => ((r4 = 0 → (K59 x1 x2 I5 J5)) ∧ (¬ r4 = 0 → (v_Tape_byteAt N (I5 2 3) I5 J5 (fun r7 I8 J8 => (∀ y9 : Int64, y9 = ((x2 * (10 : Int64)) + (((r7 - (48 : Int32))).toInt64)) → (∀ I10 : zI, I10 = qu I8 2 3 ((I8 2 3) + (1 : Int32)) → (v_Tape_splitInt_2 N k x1 y9 I10 J8 Q K59)))))))))))))
def v_Tape_splitInt_59 (N : Nat) (x1 : Int32) (x2 : Int64) (I : zI) (J : zJ) (Q : Int32 → zI → zJ → Prop)  : Prop := (vp_in x1 402 ∧ ∀ J2 : zJ, J2 = qu J 7 (x1).toNatClampNeg x2 → (vp_in x1 402 ∧ ((((I 2 3) - (I 6 (x1).toNatClampNeg)) ≤ (4 : Int32) → Q (4 : Int32) I J2) ∧ (¬ ((I 2 3) - (I 6 (x1).toNatClampNeg)) ≤ (4 : Int32) → Q (2 : Int32) I J2))))
def v_Tape_splitInt (N : Nat) (x1 : Int32) (I : zI) (J : zJ) (Q : Int32 → zI → zJ → Prop) : Prop := (v_Tape_splitInt_2 N N x1 (0 : Int64) I J Q (fun w1 w2 I3 J3 => (v_Tape_splitInt_59 N w1 w2 I3 J3 Q )))
def v_Tape_kindOf_2 (N : Nat) : Nat → Int64 → Int32 → zI → zJ → (Int32 → zI → zJ → Prop) → Prop
  | 0 => fun _ _ _ _ _ => False
  | k + 1 => fun x1 x3 I J Q  => (((21 : Int32) ≤ x3 → Q (3 : Int32) I J) ∧ (¬ (21 : Int32) ≤ x3 → (vp_in x3 21 ∧ ((¬ (lg_cmp (J 4 (x3).toNatClampNeg) x1) = 0 → (v_Tape_kindOf_2 N k x1 (x3 + (1 : Int32)) I J Q)) ∧ ((lg_cmp (J 4 (x3).toNatClampNeg) x1) = 0 → Q ((256 : Int32) + x3) I J)))))
def v_Tape_kindOf (N : Nat) (x1 : Int64) (I : zI) (J : zJ) (Q : Int32 → zI → zJ → Prop) : Prop := (v_Tape_kindOf_2 N N x1 (0 : Int32) I J Q )
def v_Tape_withLetter (N : Nat) (x0 : Int64) (x2 : Int32) (I : zI) (J : zJ) (Q : Int64 → zI → zJ → Prop) : Prop := Q ((x0 * (27 : Int64)) + ((((x2 - (97 : Int32)) + (1 : Int32))).toInt64)) I J
def v_Tape_splitWord_2 (N : Nat) : Nat → Int32 → Int64 → zI → zJ → (Int32 → zI → zJ → Prop) → (Int32 → Int64 → zI → zJ → Prop) → Prop
  | 0 => fun _ _ _ _ _ _ => False
  | k + 1 => fun x1 x2 I J Q K53 => (((I 2 1) ≤ (I 2 3) → (K53 x1 x2 I J)) ∧ (¬ (I 2 1) ≤ (I 2 3) → (v_Tape_byteAt N (I 2 3) I J (fun r2 I3 J3 => (v_Tape_isLetter N r2 I3 J3 (fun r4 I5 J5 => ((r4 = 0 → (K53 x1 x2 I5 J5)) ∧ (¬ r4 = 0 → (v_Tape_byteAt N (I5 2 3) I5 J5 (fun r7 I8 J8 => (v_Tape_withLetter N x2 r7 I8 J8 (fun r9 I10 J10 => (∀ I11 : zI, I11 = qu I10 2 3 ((I10 2 3) + (1 : Int32)) → (v_Tape_splitWord_2 N k x1 r9 I11 J10 Q K53))))))))))))))
def v_Tape_splitWord_53 (N : Nat) (x1 : Int32) (x2 : Int64) (I : zI) (J : zJ) (Q : Int32 → zI → zJ → Prop)  : Prop := (vp_in x1 402 ∧ ∀ J2 : zJ, J2 = qu J 7 (x1).toNatClampNeg x2 → (vp_in x1 402 ∧ ((((I 2 3) - (I 6 (x1).toNatClampNeg)) ≤ (8 : Int32) → (v_Tape_kindOf N x2 I J2 (fun r5 I6 J6 => Q r5 I6 J6))) ∧ (¬ ((I 2 3) - (I 6 (x1).toNatClampNeg)) ≤ (8 : Int32) → Q (2 : Int32) I J2))))
def v_Tape_splitWord (N : Nat) (x1 : Int32) (I : zI) (J : zJ) (Q : Int32 → zI → zJ → Prop) : Prop := (v_Tape_splitWord_2 N N x1 (0 : Int64) I J Q (fun w1 w2 I3 J3 => (v_Tape_splitWord_53 N w1 w2 I3 J3 Q )))
def v_Tape_splitOne (N : Nat) (x1 : Int32) (I : zI) (J : zJ) (Q : Int32 → zI → zJ → Prop) : Prop := (v_Tape_byteAt N (I 2 3) I J (fun r1 I2 J2 => ((¬ r1 = (-1 : Int32) → (v_Tape_isLetter N r1 I2 J2 (fun r4 I5 J5 => ((r4 = 0 → (v_Tape_isDigit N r1 I5 J5 (fun r7 I8 J8 => ((r7 = 0 → (∀ I10 : zI, I10 = qu I8 2 3 ((I8 2 3) + (1 : Int32)) → (((zix (((r1).toUInt32 % 65536).toInt32)) < 0 → Q (2 : Int32) I10 J8) ∧ (¬ (zix (((r1).toUInt32 % 65536).toInt32)) < 0 → Q r1 I10 J8)))) ∧ (¬ r7 = 0 → (v_Tape_splitInt N x1 I8 J8 (fun r15 I16 J16 => Q r15 I16 J16))))))) ∧ (¬ r4 = 0 → (v_Tape_splitWord N x1 I5 J5 (fun r17 I18 J18 => Q r17 I18 J18))))))) ∧ (r1 = (-1 : Int32) → Q (1 : Int32) I2 J2))))
def v_Tape_split_9 (N : Nat) : Nat → Int32 → Int32 → zI → zJ → (zI → zJ → Prop) → Prop
  | 0 => fun _ _ _ _ _ => False
  | k + 1 => fun x1 x2 I J Q  => (((402 : Int32) ≤ x2 → Q I J) ∧ (¬ (402 : Int32) ≤ x2 → ((x1 = 0 → Q I J) ∧ (¬ x1 = 0 → (v_Tape_skipBlanks N  I J (fun I3 J3 => (vp_in x2 402 ∧ ∀ I5 : zI, I5 = qu I3 6 (x2).toNatClampNeg (I3 2 3) → (vp_in x2 402 ∧ ∀ J7 : zJ, J7 = qu J3 7 (x2).toNatClampNeg (0 : Int64) → (v_Tape_splitOne N x2 I5 J7 (fun r8 I9 J9 => (vp_in x2 402 ∧ ∀ I11 : zI, I11 = qu I9 5 (x2).toNatClampNeg r8 → (vp_in x2 402 ∧ (((I11 5 (x2).toNatClampNeg) = (1 : Int32) → (v_Tape_split_9 N k (0 : Int32) (x2 + (1 : Int32)) I11 J9 Q)) ∧ (¬ (I11 5 (x2).toNatClampNeg) = (1 : Int32) → (((I11 5 (x2).toNatClampNeg) = (2 : Int32) → (v_Tape_split_9 N k (0 : Int32) (x2 + (1 : Int32)) I11 J9 Q)) ∧ (¬ (I11 5 (x2).toNatClampNeg) = (2 : Int32) → (v_Tape_split_9 N k (1 : Int32) (x2 + (1 : Int32)) I11 J9 Q)))))))))))))))))
def v_Tape_split (N : Nat)  (I : zI) (J : zJ) (Q : zI → zJ → Prop) : Prop := (∀ I1 : zI, I1 = qu I 2 3 (0 : Int32) → (v_Tape_split_9 N N (1 : Int32) (0 : Int32) I1 J Q ))
def v_Tape_hasRoomFor (N : Nat) (x1 : Int32) (I : zI) (J : zJ) (Q : Int32 → zI → zJ → Prop) : Prop := (((2000 : Int32) < ((I 2 1) + x1) → Q (0 : Int32) I J) ∧ (¬ (2000 : Int32) < ((I 2 1) + x1) → Q (1 : Int32) I J))
def v_Tape_addFour_3 (N : Nat) : Nat → Int32 → Int32 → zI → zJ → (zI → zJ → Prop) → Prop
  | 0 => fun _ _ _ _ _ => False
  | k + 1 => fun x1 x2 I J Q  => ((x2 < 0 → Q I J) ∧ (¬ x2 < 0 → (((2000 : Int32) ≤ (I 2 1) → (v_Tape_addFour_3 N k x1 (x2 + (-8 : Int32)) I J Q)) ∧ (¬ (2000 : Int32) ≤ (I 2 1) → (vp_in (I 2 1) 2000 ∧ ∀ I4 : zI, I4 = qu I 3 ((I 2 1)).toNatClampNeg (vp_nar .byte ((((x1).toUInt32 >>> ((x2).toUInt32 &&& Int32.toUInt32 31)).toInt32).toInt8.toInt32)) → (∀ I5 : zI, I5 = qu I4 2 1 ((I4 2 1) + (1 : Int32)) → (v_Tape_addFour_3 N k x1 (x2 + (-8 : Int32)) I5 J Q)))))))
def v_Tape_addFour (N : Nat) (x1 : Int32) (I : zI) (J : zJ) (Q : zI → zJ → Prop) : Prop := (v_Tape_addFour_3 N N x1 (24 : Int32) I J Q )
def v_Reader_lookAt (N : Nat) (x1 : Int32) (I : zI) (J : zJ) (Q : zI → zJ → Prop) : Prop := (∀ I1 : zI, I1 = qu I 26 1 x1 → (vp_in x1 402 ∧ (∀ I3 : zI, I3 = qu I1 26 2 (I1 5 (x1).toNatClampNeg) → (vp_in x1 402 ∧ (∀ J5 : zJ, J5 = qu J 26 3 (J 7 (x1).toNatClampNeg) → Q I3 J5)))))
def v_Reader_fails (N : Nat) (x1 : Int32) (I : zI) (J : zJ) (Q : Int32 → zI → zJ → Prop) : Prop := (∀ I1 : zI, I1 = qu I 26 12 x1 → (vp_in (I1 26 1) 402 ∧ (∀ I3 : zI, I3 = qu I1 26 13 (I1 6 ((I1 26 1)).toNatClampNeg) → Q (0 : Int32) I3 J)))
def v_Reader_goOn (N : Nat)  (I : zI) (J : zJ) (Q : Int32 → zI → zJ → Prop) : Prop := (((I 26 1) < (400 : Int32) → (v_Reader_lookAt N ((I 26 1) + (1 : Int32)) I J (fun I2 J2 => Q (1 : Int32) I2 J2))) ∧ (¬ (I 26 1) < (400 : Int32) → (v_Reader_fails N (2 : Int32) I J (fun r3 I4 J4 => (qzb r3 ∧ Q r3 I4 J4)))))
def v_Reader_pass (N : Nat) (x1 : Int32) (I : zI) (J : zJ) (Q : Int32 → zI → zJ → Prop) : Prop := ((¬ (I 26 2) = x1 → (v_Reader_fails N (1 : Int32) I J (fun r2 I3 J3 => (qzb r2 ∧ Q r2 I3 J3)))) ∧ ((I 26 2) = x1 → (v_Reader_goOn N  I J (fun r4 I5 J5 => (qzb r4 ∧ Q r4 I5 J5)))))
def v_Reader_readClosing_2 (N : Nat) : Nat → Nat → Int32 → zI → zJ → (Int32 → zI → zJ → Prop) → Prop
  | 0 => fun _ _ _ _ _ => False
  | k + 1 => fun x1 x2 I J Q  => (((6 : Int32) ≤ x2 → Q (1 : Int32) I J) ∧ (¬ (6 : Int32) ≤ x2 → (((I 47 2) ≤ 0 → Q (1 : Int32) I J) ∧ (¬ (I 47 2) ≤ 0 → ((¬ (I 26 2) = (41 : Int32) → Q (1 : Int32) I J) ∧ ((I 26 2) = (41 : Int32) → (v_Waits_letGo N x1 (1 : Int32) I J (fun I4 J4 => (v_Waits_close N  I4 J4 (fun I5 J5 => (v_Reader_goOn N  I5 J5 (fun r6 I7 J7 => ((¬ r6 = 0 → (v_Reader_readClosing_2 N k x1 (x2 + (1 : Int32)) I7 J7 Q)) ∧ (r6 = 0 → Q (0 : Int32) I7 J7))))))))))))))
def v_Reader_readClosing (N : Nat) (x1 : Nat) (I : zI) (J : zJ) (Q : Int32 → zI → zJ → Prop) : Prop := (v_Reader_readClosing_2 N N x1 (0 : Int32) I J Q )
def v_Reader_readOpening_2 (N : Nat) : Nat → Int32 → zI → zJ → (Int32 → zI → zJ → Prop) → Prop
  | 0 => fun _ _ _ _ => False
  | k + 1 => fun x1 I J Q  => (((6 : Int32) < x1 → Q (1 : Int32) I J) ∧ (¬ (6 : Int32) < x1 → ((¬ (I 26 2) = (40 : Int32) → Q (1 : Int32) I J) ∧ ((I 26 2) = (40 : Int32) → (((I 47 2) < (6 : Int32) → (v_Waits_open N  I J (fun I4 J4 => (v_Reader_goOn N  I4 J4 (fun r5 I6 J6 => ((¬ r5 = 0 → (v_Reader_readOpening_2 N k (x1 + (1 : Int32)) I6 J6 Q)) ∧ (r5 = 0 → Q (0 : Int32) I6 J6))))))) ∧ (¬ (I 47 2) < (6 : Int32) → (v_Reader_fails N (2 : Int32) I J (fun r8 I9 J9 => (qzb r8 ∧ Q r8 I9 J9)))))))))
def v_Reader_readOpening (N : Nat)  (I : zI) (J : zJ) (Q : Int32 → zI → zJ → Prop) : Prop := (v_Reader_readOpening_2 N N (0 : Int32) I J Q )
def v_Reader_readOperand (N : Nat) (x1 : Nat) (I : zI) (J : zJ) (Q : Int32 → zI → zJ → Prop) : Prop := ((¬ (I 26 2) = (4 : Int32) → (((I 26 2) < (268 : Int32) → (v_Reader_fails N (1 : Int32) I J (fun r3 I4 J4 => (qzb r3 ∧ Q r3 I4 J4)))) ∧ (¬ (I 26 2) < (268 : Int32) → (((276 : Int32) < (I 26 2) → (v_Reader_fails N (1 : Int32) I J (fun r6 I7 J7 => (qzb r6 ∧ Q r6 I7 J7)))) ∧ (¬ (276 : Int32) < (I 26 2) → (v_Law_add N x1 (2 : Int32) ((I 26 2) - (268 : Int32)) I J (fun I8 J8 => (v_Reader_goOn N  I8 J8 (fun r9 I10 J10 => (qzb r9 ∧ Q r9 I10 J10)))))))))) ∧ ((I 26 2) = (4 : Int32) → (v_Law_add N x1 (1 : Int32) (((J 26 3)).toInt32) I J (fun I11 J11 => (v_Reader_goOn N  I11 J11 (fun r12 I13 J13 => (qzb r12 ∧ Q r12 I13 J13)))))))
def v_Reader_readSum_62 (N : Nat) (x1 : Nat) (x3 : Int32) (z0 : Int32) (I : zI) (J : zJ) (Q : Int32 → zI → zJ → Prop) (K11 : Int32 → Int32 → zI → zJ → Prop) : Prop := ((¬ z0 = 0 → (K11 z0 (x3 + (1 : Int32)) I J)) ∧ (z0 = 0 → (v_Waits_add N x1 (I 26 2) I J (fun I2 J2 => (v_Reader_goOn N  I2 J2 (fun r3 I4 J4 => ((¬ r3 = 0 → (K11 z0 (x3 + (1 : Int32)) I4 J4)) ∧ (r3 = 0 → Q (0 : Int32) I4 J4))))))))
def v_Reader_readSum_11 (N : Nat) : Nat → Nat → Int32 → Int32 → zI → zJ → (Int32 → zI → zJ → Prop) → (zI → zJ → Prop) → Prop
  | 0 => fun _ _ _ _ _ _ _ => False
  | k + 1 => fun x1 x2 x3 I J Q K94 => (((400 : Int32) < x3 → (K94 I J)) ∧ (¬ (400 : Int32) < x3 → ((¬ x2 = 0 → (K94 I J)) ∧ (x2 = 0 → (v_Reader_readOpening N  I J (fun r3 I4 J4 => ((r3 = 0 → Q (0 : Int32) I4 J4) ∧ (¬ r3 = 0 → (v_Reader_readOperand N x1 I4 J4 (fun r6 I7 J7 => ((r6 = 0 → Q (0 : Int32) I7 J7) ∧ (¬ r6 = 0 → (v_Reader_readClosing N x1 I7 J7 (fun r9 I10 J10 => ((¬ r9 = 0 → (v_Waits_strengthOf N (I10 26 2) I10 J10 (fun r12 I13 J13 => ((¬ r12 = 0 → (v_Reader_readSum_62 N x1 x3 (0 : Int32) I13 J13 Q (fun x2 x3 I J => v_Reader_readSum_11 N k x1 x2 x3 I J Q K94))) ∧ (r12 = 0 → (v_Reader_readSum_62 N x1 x3 (1 : Int32) I13 J13 Q (fun x2 x3 I J => v_Reader_readSum_11 N k x1 x2 x3 I J Q K94))))))) ∧ (r9 = 0 → Q (0 : Int32) I10 J10))))))))))))))))
def v_Reader_readSum_94 (N : Nat) (x1 : Nat) (I : zI) (J : zJ) (Q : Int32 → zI → zJ → Prop)  : Prop := (v_Waits_letGo N x1 (1 : Int32) I J (fun I1 J1 => (((I1 47 2) = 0 → Q (1 : Int32) I1 J1) ∧ (¬ (I1 47 2) = 0 → (v_Reader_fails N (1 : Int32) I1 J1 (fun r3 I4 J4 => ((r3 = 0 → Q (0 : Int32) I4 J4) ∧ (¬ r3 = 0 → Q (1 : Int32) I4 J4))))))))
def v_Reader_readSum (N : Nat) (x1 : Nat) (I : zI) (J : zJ) (Q : Int32 → zI → zJ → Prop) : Prop := (v_Waits_begin N  I J (fun I1 J1 => (v_Reader_readSum_11 N N x1 (0 : Int32) (0 : Int32) I1 J1 Q (fun I2 J2 => (v_Reader_readSum_94 N x1 I2 J2 Q )))))
def v_Reader_readIf (N : Nat) (x1 : Nat) (I : zI) (J : zJ) (Q : Int32 → zI → zJ → Prop) : Prop := (v_Reader_goOn N  I J (fun r1 I2 J2 => ((r1 = 0 → Q (0 : Int32) I2 J2) ∧ (¬ r1 = 0 → (v_Reader_readSum N x1 I2 J2 (fun r4 I5 J5 => ((r4 = 0 → Q (0 : Int32) I5 J5) ∧ (¬ r4 = 0 → (v_Reader_pass N (60 : Int32) I5 J5 (fun r7 I8 J8 => ((¬ r7 = 0 → (v_Reader_readSum N x1 I8 J8 (fun r10 I11 J11 => ((r10 = 0 → Q (0 : Int32) I11 J11) ∧ (¬ r10 = 0 → (v_Reader_pass N (266 : Int32) I11 J11 (fun r13 I14 J14 => ((¬ r13 = 0 → (∀ y16 : Int32, y16 = (I14 x1 2) → (v_Law_add N x1 (3 : Int32) (0 : Int32) I14 J14 (fun I17 J17 => (v_Reader_readSum N x1 I17 J17 (fun r18 I19 J19 => ((r18 = 0 → Q (0 : Int32) I19 J19) ∧ (¬ r18 = 0 → (v_Reader_pass N (267 : Int32) I19 J19 (fun r21 I22 J22 => ((¬ r21 = 0 → (v_Law_add N x1 (4 : Int32) (0 : Int32) I22 J22 (fun I24 J24 => (v_Law_aimAtEnd N x1 y16 I24 J24 (fun I25 J25 => Q (1 : Int32) I25 J25))))) ∧ (r21 = 0 → Q (0 : Int32) I22 J22)))))))))))) ∧ (r13 = 0 → Q (0 : Int32) I14 J14))))))))) ∧ (r7 = 0 → Q (0 : Int32) I8 J8))))))))))))
def v_Reader_readLaw_25 (N : Nat) : Nat → Nat → Int32 → zI → zJ → (Int32 → zI → zJ → Prop) → (zI → zJ → Prop) → Prop
  | 0 => fun _ _ _ _ _ _ => False
  | k + 1 => fun x1 x2 I J Q K67 => (((4 : Int32) < x2 → (K67 I J)) ∧ (¬ (4 : Int32) < x2 → ((¬ (I 26 2) = (265 : Int32) → (K67 I J)) ∧ ((I 26 2) = (265 : Int32) → ((¬ x2 = (4 : Int32) → (v_Reader_readIf N x1 I J (fun r4 I5 J5 => ((¬ r4 = 0 → (v_Reader_readLaw_25 N k x1 (x2 + (1 : Int32)) I5 J5 Q K67)) ∧ (r4 = 0 → Q (0 : Int32) I5 J5))))) ∧ (x2 = (4 : Int32) → (v_Reader_fails N (2 : Int32) I J (fun r7 I8 J8 => (qzb r7 ∧ Q r7 I8 J8)))))))))
def v_Reader_readLaw_67 (N : Nat) (x1 : Nat) (I : zI) (J : zJ) (Q : Int32 → zI → zJ → Prop)  : Prop := (v_Reader_readSum N x1 I J (fun r1 I2 J2 => ((¬ r1 = 0 → (v_Law_add N x1 (4 : Int32) (0 : Int32) I2 J2 (fun I4 J4 => (v_Reader_pass N (59 : Int32) I4 J4 (fun r5 I6 J6 => (qzb r5 ∧ Q r5 I6 J6)))))) ∧ (r1 = 0 → Q (0 : Int32) I2 J2))))
def v_Reader_readLaw (N : Nat) (x1 : Nat) (I : zI) (J : zJ) (Q : Int32 → zI → zJ → Prop) : Prop := (∀ I1 : zI, I1 = qu I x1 2 (0 : Int32) → (v_Reader_goOn N  I1 J (fun r2 I3 J3 => ((r2 = 0 → Q (0 : Int32) I3 J3) ∧ (¬ r2 = 0 → (v_Reader_pass N (61 : Int32) I3 J3 (fun r5 I6 J6 => ((¬ r5 = 0 → (v_Reader_readLaw_25 N N x1 (0 : Int32) I6 J6 Q (fun I8 J8 => (v_Reader_readLaw_67 N x1 I8 J8 Q )))) ∧ (r5 = 0 → Q (0 : Int32) I6 J6)))))))))
def v_Reader_indexOf_2 (N : Nat) : Nat → Nat → Int32 → Int32 → zI → zJ → (Int32 → zI → zJ → Prop) → Prop
  | 0 => fun _ _ _ _ _ _ => False
  | k + 1 => fun x1 x2 x3 I J Q  => ((x2 ≤ x3 → Q (-1 : Int32) I J) ∧ (¬ x2 ≤ x3 → (((nI (zlen x1)) ≤ x3 → Q (-1 : Int32) I J) ∧ (¬ (nI (zlen x1)) ≤ x3 → (vp_in x3 (zlen x1) ∧ ((¬ (lg_cmp (J x1 (x3).toNatClampNeg) (J 26 3)) = 0 → (v_Reader_indexOf_2 N k x1 x2 (x3 + (1 : Int32)) I J Q)) ∧ ((lg_cmp (J x1 (x3).toNatClampNeg) (J 26 3)) = 0 → Q x3 I J)))))))
def v_Reader_indexOf (N : Nat) (x1 : Nat) (x2 : Int32) (I : zI) (J : zJ) (Q : Int32 → zI → zJ → Prop) : Prop := (v_Reader_indexOf_2 N N x1 x2 (0 : Int32) I J Q )
def v_Reader_isNameTold (N : Nat)  (I : zI) (J : zJ) (Q : Int32 → zI → zJ → Prop) : Prop := (v_Reader_indexOf N 45 (I 27 0) I J (fun r1 I2 J2 => ((0 ≤ r1 → Q (1 : Int32) I2 J2) ∧ (¬ 0 ≤ r1 → (v_Reader_indexOf N 46 (I2 27 3) I2 J2 (fun r4 I5 J5 => ((r4 < 0 → Q (0 : Int32) I5 J5) ∧ (¬ r4 < 0 → Q (1 : Int32) I5 J5))))))))
def v_Reader_keepFault (N : Nat) (x1 : Int32) (I : zI) (J : zJ) (Q : zI → zJ → Prop) : Prop := ((¬ (I 26 10) = 0 → Q I J) ∧ ((I 26 10) = 0 → (∀ I2 : zI, I2 = qu I 26 10 x1 → (vp_in (I2 26 1) 402 ∧ (∀ I4 : zI, I4 = qu I2 26 11 (I2 6 ((I2 26 1)).toNatClampNeg) → Q I4 J)))))
def v_Reader_readNewName_20 (N : Nat) (x1 : Nat) (x2 : Int32) (I : zI) (J : zJ) (Q : Int32 → zI → zJ → Prop)  : Prop := ((x2 < 0 → (v_Reader_pass N (3 : Int32) I J (fun r2 I3 J3 => (qzb r2 ∧ Q r2 I3 J3)))) ∧ (¬ x2 < 0 → (((nI (zlen x1)) ≤ x2 → (v_Reader_pass N (3 : Int32) I J (fun r7 I8 J8 => (qzb r7 ∧ Q r7 I8 J8)))) ∧ (¬ (nI (zlen x1)) ≤ x2 → (vp_in x2 (zlen x1) ∧ ∀ J10 : zJ, J10 = qu J x1 (x2).toNatClampNeg (J 26 3) → (v_Reader_pass N (3 : Int32) I J10 (fun r11 I12 J12 => (qzb r11 ∧ Q r11 I12 J12))))))))
def v_Reader_readNewName (N : Nat) (x1 : Nat) (x2 : Int32) (I : zI) (J : zJ) (Q : Int32 → zI → zJ → Prop) : Prop := ((¬ (I 26 2) = (3 : Int32) → (v_Reader_readNewName_20 N x1 x2 I J Q )) ∧ ((I 26 2) = (3 : Int32) → (v_Reader_isNameTold N  I J (fun r2 I3 J3 => ((r2 = 0 → (v_Reader_readNewName_20 N x1 x2 I3 J3 Q )) ∧ (¬ r2 = 0 → (v_Reader_keepFault N (3 : Int32) I3 J3 (fun I5 J5 => (v_Reader_readNewName_20 N x1 x2 I5 J5 Q )))))))))
def v_Reader_readNumber (N : Nat) (x1 : Int32) (I : zI) (J : zJ) (Q : Int32 → zI → zJ → Prop) : Prop := ((¬ (I 26 2) = (4 : Int32) → (∀ I2 : zI, I2 = qu I 26 4 (((J 26 3)).toInt32) → (v_Reader_pass N (4 : Int32) I2 J (fun r3 I4 J4 => (qzb r3 ∧ Q r3 I4 J4))))) ∧ ((I 26 2) = (4 : Int32) → (((lg_cmp (J 26 3) ((x1).toInt64)) ≤ 0 → (∀ I6 : zI, I6 = qu I 26 4 (((J 26 3)).toInt32) → (v_Reader_pass N (4 : Int32) I6 J (fun r7 I8 J8 => (qzb r7 ∧ Q r7 I8 J8))))) ∧ (¬ (lg_cmp (J 26 3) ((x1).toInt64)) ≤ 0 → (v_Reader_keepFault N (5 : Int32) I J (fun I9 J9 => (∀ I10 : zI, I10 = qu I9 26 4 (((J9 26 3)).toInt32) → (v_Reader_pass N (4 : Int32) I10 J9 (fun r11 I12 J12 => (qzb r11 ∧ Q r11 I12 J12))))))))))
def v_Reader_readHanger (N : Nat)  (I : zI) (J : zJ) (Q : Int32 → zI → zJ → Prop) : Prop := (∀ y1 : Int32, y1 = (I 27 0) → ((y1 < (7 : Int32) → (v_Reader_goOn N  I J (fun r3 I4 J4 => ((r3 = 0 → Q (0 : Int32) I4 J4) ∧ (¬ r3 = 0 → (v_Reader_readNewName N 45 y1 I4 J4 (fun r6 I7 J7 => ((r6 = 0 → Q (0 : Int32) I7 J7) ∧ (¬ r6 = 0 → (v_Reader_readNumber N (4 : Int32) I7 J7 (fun r9 I10 J10 => ((¬ r9 = 0 → (vp_in y1 7 ∧ ∀ I13 : zI, I13 = qu I10 28 (y1).toNatClampNeg (I10 26 4) → (v_Reader_readNumber N (99 : Int32) I13 J10 (fun r14 I15 J15 => ((¬ r14 = 0 → (vp_in y1 7 ∧ ∀ I18 : zI, I18 = qu I15 29 (y1).toNatClampNeg (I15 26 4) → (∀ I19 : zI, I19 = qu I18 27 0 ((I18 27 0) + (1 : Int32)) → (v_Reader_pass N (59 : Int32) I19 J15 (fun r20 I21 J21 => (qzb r20 ∧ Q r20 I21 J21)))))) ∧ (r14 = 0 → Q (0 : Int32) I15 J15)))))) ∧ (r9 = 0 → Q (0 : Int32) I10 J10))))))))))))) ∧ (¬ y1 < (7 : Int32) → (v_Reader_fails N (2 : Int32) I J (fun r22 I23 J23 => (qzb r22 ∧ Q r22 I23 J23))))))
def v_Reader_hangerNamed (N : Nat)  (I : zI) (J : zJ) (Q : Int32 → zI → zJ → Prop) : Prop := (v_Reader_indexOf N 45 (I 27 0) I J (fun r1 I2 J2 => ((0 ≤ r1 → (v_Text_isFirstTaken N 27 r1 I2 J2 (fun r4 I5 J5 => ((r4 = 0 → Q r1 I5 J5) ∧ (¬ r4 = 0 → (v_Reader_keepFault N (3 : Int32) I5 J5 (fun I7 J7 => Q r1 I7 J7))))))) ∧ (¬ 0 ≤ r1 → (v_Reader_keepFault N (4 : Int32) I2 J2 (fun I8 J8 => Q r1 I8 J8))))))
def v_Reader_personNamed (N : Nat)  (I : zI) (J : zJ) (Q : Int32 → zI → zJ → Prop) : Prop := (v_Reader_indexOf N 46 (I 27 3) I J (fun r1 I2 J2 => ((0 ≤ r1 → (vp_in r1 6 ∧ (((I2 32 (r1).toNatClampNeg) < 0 → Q r1 I2 J2) ∧ (¬ (I2 32 (r1).toNatClampNeg) < 0 → (v_Reader_keepFault N (3 : Int32) I2 J2 (fun I6 J6 => Q r1 I6 J6)))))) ∧ (¬ 0 ≤ r1 → (v_Reader_keepFault N (4 : Int32) I2 J2 (fun I7 J7 => Q r1 I7 J7))))))
def v_Reader_readHangs (N : Nat)  (I : zI) (J : zJ) (Q : Int32 → zI → zJ → Prop) : Prop := (((I 26 8) < (6 : Int32) → (∀ I2 : zI, I2 = qu I 26 8 ((I 26 8) + (1 : Int32)) → (v_Reader_goOn N  I2 J (fun r3 I4 J4 => ((¬ r3 = 0 → (v_Reader_personNamed N  I4 J4 (fun r6 I7 J7 => (v_Reader_pass N (3 : Int32) I7 J7 (fun r8 I9 J9 => ((¬ r8 = 0 → (v_Reader_hangerNamed N  I9 J9 (fun r11 I12 J12 => (v_Reader_pass N (3 : Int32) I12 J12 (fun r13 I14 J14 => ((¬ r13 = 0 → ((r6 < 0 → (v_Reader_pass N (59 : Int32) I14 J14 (fun r17 I18 J18 => (qzb r17 ∧ Q r17 I18 J18)))) ∧ (¬ r6 < 0 → ((r11 < 0 → (v_Reader_pass N (59 : Int32) I14 J14 (fun r20 I21 J21 => (qzb r20 ∧ Q r20 I21 J21)))) ∧ (¬ r11 < 0 → (vp_in r6 6 ∧ ∀ I23 : zI, I23 = qu I14 32 (r6).toNatClampNeg r11 → (v_Reader_pass N (59 : Int32) I23 J14 (fun r24 I25 J25 => (qzb r24 ∧ Q r24 I25 J25))))))))) ∧ (r13 = 0 → Q (0 : Int32) I14 J14))))))) ∧ (r8 = 0 → Q (0 : Int32) I9 J9))))))) ∧ (r3 = 0 → Q (0 : Int32) I4 J4)))))) ∧ (¬ (I 26 8) < (6 : Int32) → (v_Reader_fails N (2 : Int32) I J (fun r26 I27 J27 => (qzb r26 ∧ Q r26 I27 J27)))))
def v_Reader_readMoth (N : Nat)  (I : zI) (J : zJ) (Q : Int32 → zI → zJ → Prop) : Prop := (v_Reader_goOn N  I J (fun r1 I2 J2 => ((r1 = 0 → Q (0 : Int32) I2 J2) ∧ (¬ r1 = 0 → (v_Reader_readNumber N (100 : Int32) I2 J2 (fun r4 I5 J5 => ((¬ r4 = 0 → (∀ I7 : zI, I7 = qu I5 27 11 (I5 26 4) → (v_Reader_pass N (59 : Int32) I7 J5 (fun r8 I9 J9 => (qzb r8 ∧ Q r8 I9 J9))))) ∧ (r4 = 0 → Q (0 : Int32) I5 J5))))))))
def v_Reader_readPerson (N : Nat)  (I : zI) (J : zJ) (Q : Int32 → zI → zJ → Prop) : Prop := (∀ y1 : Int32, y1 = (I 27 3) → ((y1 < (6 : Int32) → (v_Reader_goOn N  I J (fun r3 I4 J4 => ((r3 = 0 → Q (0 : Int32) I4 J4) ∧ (¬ r3 = 0 → (v_Reader_readNewName N 46 y1 I4 J4 (fun r6 I7 J7 => ((r6 = 0 → Q (0 : Int32) I7 J7) ∧ (¬ r6 = 0 → (v_Reader_readNumber N (99 : Int32) I7 J7 (fun r9 I10 J10 => ((¬ r9 = 0 → (vp_in y1 6 ∧ ∀ I13 : zI, I13 = qu I10 30 (y1).toNatClampNeg (I10 26 4) → (v_Reader_readNumber N (9 : Int32) I13 J10 (fun r14 I15 J15 => ((¬ r14 = 0 → (vp_in y1 6 ∧ ∀ I18 : zI, I18 = qu I15 31 (y1).toNatClampNeg (I15 26 4) → (∀ I19 : zI, I19 = qu I18 27 3 ((I18 27 3) + (1 : Int32)) → (v_Reader_pass N (59 : Int32) I19 J15 (fun r20 I21 J21 => (qzb r20 ∧ Q r20 I21 J21)))))) ∧ (r14 = 0 → Q (0 : Int32) I15 J15)))))) ∧ (r9 = 0 → Q (0 : Int32) I10 J10))))))))))))) ∧ (¬ y1 < (6 : Int32) → (v_Reader_fails N (2 : Int32) I J (fun r22 I23 J23 => (qzb r22 ∧ Q r22 I23 J23))))))
def v_Reader_readSeed (N : Nat)  (I : zI) (J : zJ) (Q : Int32 → zI → zJ → Prop) : Prop := (v_Reader_goOn N  I J (fun r1 I2 J2 => ((r1 = 0 → Q (0 : Int32) I2 J2) ∧ (¬ r1 = 0 → (v_Reader_readNumber N (9999 : Int32) I2 J2 (fun r4 I5 J5 => ((¬ r4 = 0 → (∀ I7 : zI, I7 = qu I5 27 12 (I5 26 4) → (v_Reader_pass N (59 : Int32) I7 J5 (fun r8 I9 J9 => (qzb r8 ∧ Q r8 I9 J9))))) ∧ (r4 = 0 → Q (0 : Int32) I5 J5))))))))
def v_Reader_readTell (N : Nat)  (I : zI) (J : zJ) (Q : Int32 → zI → zJ → Prop) : Prop := (∀ y1 : Int32, y1 = (I 26 2) → ((y1 = (256 : Int32) → (v_Reader_readHanger N  I J (fun r3 I4 J4 => (qzb r3 ∧ Q r3 I4 J4)))) ∧ (¬ y1 = (256 : Int32) → ((y1 = (257 : Int32) → (v_Reader_readPerson N  I J (fun r6 I7 J7 => (qzb r6 ∧ Q r6 I7 J7)))) ∧ (¬ y1 = (257 : Int32) → ((y1 = (258 : Int32) → (v_Reader_readHangs N  I J (fun r9 I10 J10 => (qzb r9 ∧ Q r9 I10 J10)))) ∧ (¬ y1 = (258 : Int32) → ((y1 = (259 : Int32) → (v_Reader_fails N (1 : Int32) I J (fun r12 I13 J13 => (qzb r12 ∧ Q r12 I13 J13)))) ∧ (¬ y1 = (259 : Int32) → ((y1 = (260 : Int32) → (v_Reader_fails N (1 : Int32) I J (fun r15 I16 J16 => (qzb r15 ∧ Q r15 I16 J16)))) ∧ (¬ y1 = (260 : Int32) → ((y1 = (261 : Int32) → (v_Reader_fails N (1 : Int32) I J (fun r18 I19 J19 => (qzb r18 ∧ Q r18 I19 J19)))) ∧ (¬ y1 = (261 : Int32) → ((y1 = (262 : Int32) → (v_Reader_fails N (1 : Int32) I J (fun r21 I22 J22 => (qzb r21 ∧ Q r21 I22 J22)))) ∧ (¬ y1 = (262 : Int32) → ((y1 = (263 : Int32) → (v_Reader_readMoth N  I J (fun r24 I25 J25 => (qzb r24 ∧ Q r24 I25 J25)))) ∧ (¬ y1 = (263 : Int32) → ((y1 = (264 : Int32) → (v_Reader_readSeed N  I J (fun r27 I28 J28 => (qzb r27 ∧ Q r27 I28 J28)))) ∧ (¬ y1 = (264 : Int32) → (v_Reader_fails N (1 : Int32) I J (fun r29 I30 J30 => (qzb r29 ∧ Q r29 I30 J30))))))))))))))))))))))
def v_Reader_readAll_87 (N : Nat) (x2 : Int32) (z0 : Int32) (I : zI) (J : zJ) (Q : Int32 → zI → zJ → Prop) (K43 : Int32 → Int32 → zI → zJ → Prop) : Prop := ((z0 = 0 → (v_Reader_readTell N  I J (fun r2 I3 J3 => (K43 r2 (x2 + (1 : Int32)) I3 J3)))) ∧ (¬ z0 = 0 → ((((I 26 2) - (259 : Int32)) = (0 : Int32) → (v_Reader_readLaw N 33 I J (fun r6 I7 J7 => (K43 r6 (x2 + (1 : Int32)) I7 J7)))) ∧ (¬ ((I 26 2) - (259 : Int32)) = (0 : Int32) → ((((I 26 2) - (259 : Int32)) = (1 : Int32) → (v_Reader_readLaw N 36 I J (fun r8 I9 J9 => (K43 r8 (x2 + (1 : Int32)) I9 J9)))) ∧ (¬ ((I 26 2) - (259 : Int32)) = (1 : Int32) → ((((I 26 2) - (259 : Int32)) = (2 : Int32) → (v_Reader_readLaw N 39 I J (fun r10 I11 J11 => (K43 r10 (x2 + (1 : Int32)) I11 J11)))) ∧ (¬ ((I 26 2) - (259 : Int32)) = (2 : Int32) → (v_Reader_readLaw N 42 I J (fun r12 I13 J13 => (K43 r12 (x2 + (1 : Int32)) I13 J13)))))))))))
def v_Reader_readAll_86 (N : Nat) (x2 : Int32) (I : zI) (J : zJ) (Q : Int32 → zI → zJ → Prop) (K43 : Int32 → Int32 → zI → zJ → Prop) : Prop := (v_Reader_readAll_87 N x2 (0 : Int32) I J Q K43)
def v_Reader_readAll_43 (N : Nat) : Nat → Int32 → Int32 → zI → zJ → (Int32 → zI → zJ → Prop) → (zI → zJ → Prop) → Prop
  | 0 => fun _ _ _ _ _ _ => False
  | k + 1 => fun x1 x2 I J Q K125 => (((400 : Int32) < x2 → (K125 I J)) ∧ (¬ (400 : Int32) < x2 → ((x1 = 0 → (K125 I J)) ∧ (¬ x1 = 0 → (((I 26 2) = (1 : Int32) → (K125 I J)) ∧ (¬ (I 26 2) = (1 : Int32) → (((I 26 2) < (259 : Int32) → (v_Reader_readAll_86 N x2 I J Q (fun x1 x2 I J => v_Reader_readAll_43 N k x1 x2 I J Q K125))) ∧ (¬ (I 26 2) < (259 : Int32) → (((262 : Int32) < (I 26 2) → (v_Reader_readAll_86 N x2 I J Q (fun x1 x2 I J => v_Reader_readAll_43 N k x1 x2 I J Q K125))) ∧ (¬ (262 : Int32) < (I 26 2) → (v_Reader_readAll_87 N x2 (1 : Int32) I J Q (fun x1 x2 I J => v_Reader_readAll_43 N k x1 x2 I J Q K125))))))))))))
def v_Reader_readAll_125 (N : Nat)  (I : zI) (J : zJ) (Q : Int32 → zI → zJ → Prop)  : Prop := ((¬ (I 26 12) = 0 → Q (I 26 12) I J) ∧ ((I 26 12) = 0 → (((I 26 10) = 0 → Q (I 26 12) I J) ∧ (¬ (I 26 10) = 0 → (∀ I3 : zI, I3 = qu I 26 12 (I 26 10) → (∀ I4 : zI, I4 = qu I3 26 13 (I3 26 11) → Q (I4 26 12) I4 J))))))
def v_Reader_readAll (N : Nat)  (I : zI) (J : zJ) (Q : Int32 → zI → zJ → Prop) : Prop := (∀ I1 : zI, I1 = qu I 26 12 (0 : Int32) → (∀ I2 : zI, I2 = qu I1 26 13 (-1 : Int32) → (∀ I3 : zI, I3 = qu I2 26 10 (0 : Int32) → (∀ I4 : zI, I4 = qu I3 26 8 (0 : Int32) → (v_Text_clear N 27 I4 J (fun I5 J5 => (v_Tape_split N  I5 J5 (fun I6 J6 => (v_Reader_lookAt N (0 : Int32) I6 J6 (fun I7 J7 => (v_Reader_readAll_43 N N (1 : Int32) (0 : Int32) I7 J7 Q (fun I8 J8 => (v_Reader_readAll_125 N  I8 J8 Q )))))))))))))
theorem u_Tape_byteAt (N : Nat) (x1 : Int32) (I : zI) (J : zJ) (Q : Int32 → zI → zJ → Prop) (Q' : Int32 → qH → Prop) (hQ : ∀ (r : Int32) (I : zI) (J : zJ), Q r I J → Q' r (zH I J)) (hv : v_Tape_byteAt N x1 I J Q) : w_Tape_byteAt N 2 x1 (zH I J) Q' := by
  unfold w_Tape_byteAt
  unfold v_Tape_byteAt at hv
  refine ⟨fun q1 => ?_, fun q1 => ?_⟩
  · have hv := hv.1 q1
    exact hQ _ _ _ hv
  · have hv := hv.2 q1
    refine ⟨rfl, ?_⟩
    refine ⟨fun q2 => ?_, fun q2 => ?_⟩
    · have hv := hv.1 q2
      exact hQ _ _ _ hv
    · have hv := hv.2 q2
      obtain ⟨g3, hv⟩ := hv
      refine ⟨qok_mk rfl g3, ?_⟩
      exact hQ _ _ _ hv
theorem u_Tape_isBlank (N : Nat) (x0 : Int32) (I : zI) (J : zJ) (Q : Int32 → zI → zJ → Prop) (Q' : Int32 → qH → Prop) (hQ : ∀ (r : Int32) (I : zI) (J : zJ), Q r I J → Q' r (zH I J)) (hv : v_Tape_isBlank N x0 I J Q) : w_Tape_isBlank N x0 (zH I J) Q' := by
  unfold w_Tape_isBlank
  unfold v_Tape_isBlank at hv
  refine ⟨fun q1 => ?_, fun q1 => ?_⟩
  · have hv := hv.1 q1
    exact ⟨Or.inr rfl, hQ _ _ _ hv⟩
  · have hv := hv.2 q1
    refine ⟨fun q2 => ?_, fun q2 => ?_⟩
    · have hv := hv.1 q2
      exact ⟨Or.inr rfl, hQ _ _ _ hv⟩
    · have hv := hv.2 q2
      refine ⟨fun q3 => ?_, fun q3 => ?_⟩
      · have hv := hv.1 q3
        exact ⟨Or.inr rfl, hQ _ _ _ hv⟩
      · have hv := hv.2 q3
        refine ⟨fun q4 => ?_, fun q4 => ?_⟩
        · have hv := hv.1 q4
          exact ⟨Or.inl rfl, hQ _ _ _ hv⟩
        · have hv := hv.2 q4
          exact ⟨Or.inr rfl, hQ _ _ _ hv⟩
theorem u_Tape_skipBlanks_0 (N k : Nat)  (I : zI) (J : zJ) (Q : zI → zJ → Prop) (Q' : qH → Prop) (hQ : ∀ (I : zI) (J : zJ), Q I J → Q' (zH I J)) (hv : v_Tape_skipBlanks_0 N k  I J Q ) : w_Tape_skipBlanks_0 N k 2 (zH I J) Q'  := by
  induction k generalizing I J with
  | zero => exact hv.elim
  | succ k ih =>
    rw [w_Tape_skipBlanks_0]
    rw [v_Tape_skipBlanks_0] at hv
    refine ⟨rfl, ?_⟩
    refine ⟨fun q1 => ?_, fun q1 => ?_⟩
    · have hv := hv.1 q1
      exact hQ _ _ hv
    · have hv := hv.2 q1
      refine u_Tape_byteAt N (I 2 3) I J _ _ (fun r2 I3 J3 hv => ?_) hv
      refine u_Tape_isBlank N r2 I3 J3 _ _ (fun r4 I5 J5 hv => ?_) hv
      refine ⟨fun q6 => ?_, fun q6 => ?_⟩
      · have hv := hv.1 q6
        exact hQ _ _ hv
      · have hv := hv.2 q6
        refine ⟨rfl, ?_⟩
        obtain ⟨I7, eI7⟩ : ∃ z, z = qu I5 2 3 ((I5 2 3) + (1 : Int32)) := ⟨_, rfl⟩
        have hv := hv I7 eI7
        intro h7 eh7
        have eh7 : h7 = zH I7 J5 := by rw [eh7, eI7]; rfl
        subst eh7
        exact ih I7 J5 hv
theorem u_Tape_skipBlanks (N : Nat)  (I : zI) (J : zJ) (Q : zI → zJ → Prop) (Q' : qH → Prop) (hQ : ∀ (I : zI) (J : zJ), Q I J → Q' (zH I J)) (hv : v_Tape_skipBlanks N  I J Q) : w_Tape_skipBlanks N 2 (zH I J) Q' := by
  unfold w_Tape_skipBlanks
  unfold v_Tape_skipBlanks at hv
  exact u_Tape_skipBlanks_0 N N  I J Q _ hQ   hv
theorem u_Tape_isDigit (N : Nat) (x0 : Int32) (I : zI) (J : zJ) (Q : Int32 → zI → zJ → Prop) (Q' : Int32 → qH → Prop) (hQ : ∀ (r : Int32) (I : zI) (J : zJ), Q r I J → Q' r (zH I J)) (hv : v_Tape_isDigit N x0 I J Q) : w_Tape_isDigit N x0 (zH I J) Q' := by
  unfold w_Tape_isDigit
  unfold v_Tape_isDigit at hv
  refine ⟨fun q1 => ?_, fun q1 => ?_⟩
  · have hv := hv.1 q1
    exact ⟨Or.inl rfl, hQ _ _ _ hv⟩
  · have hv := hv.2 q1
    refine ⟨fun q2 => ?_, fun q2 => ?_⟩
    · have hv := hv.1 q2
      exact ⟨Or.inl rfl, hQ _ _ _ hv⟩
    · have hv := hv.2 q2
      exact ⟨Or.inr rfl, hQ _ _ _ hv⟩
theorem u_Tape_isLetter (N : Nat) (x0 : Int32) (I : zI) (J : zJ) (Q : Int32 → zI → zJ → Prop) (Q' : Int32 → qH → Prop) (hQ : ∀ (r : Int32) (I : zI) (J : zJ), Q r I J → Q' r (zH I J)) (hv : v_Tape_isLetter N x0 I J Q) : w_Tape_isLetter N x0 (zH I J) Q' := by
  unfold w_Tape_isLetter
  unfold v_Tape_isLetter at hv
  refine ⟨fun q1 => ?_, fun q1 => ?_⟩
  · have hv := hv.1 q1
    exact ⟨Or.inl rfl, hQ _ _ _ hv⟩
  · have hv := hv.2 q1
    refine ⟨fun q2 => ?_, fun q2 => ?_⟩
    · have hv := hv.1 q2
      exact ⟨Or.inl rfl, hQ _ _ _ hv⟩
    · have hv := hv.2 q2
      exact ⟨Or.inr rfl, hQ _ _ _ hv⟩
theorem u_Tape_splitInt_2 (N k : Nat) (x1 : Int32) (x2 : Int64) (I : zI) (J : zJ) (Q : Int32 → zI → zJ → Prop) (Q' : Int32 → qH → Prop) (hQ : ∀ (r : Int32) (I : zI) (J : zJ), Q r I J → Q' r (zH I J)) (K59 : Int32 → Int64 → zI → zJ → Prop) (K59' : Nat → Int32 → Int64 → qH → Prop) (hK59 : ∀ (x1 : Int32) (x2 : Int64) (I : zI) (J : zJ), K59 x1 x2 I J → K59' 2 x1 x2 (zH I J)) (hv : v_Tape_splitInt_2 N k x1 x2 I J Q K59) : w_Tape_splitInt_2 N k 2 x1 x2 (zH I J) Q' K59' := by
  induction k generalizing x1 x2 I J with
  | zero => exact hv.elim
  | succ k ih =>
    rw [w_Tape_splitInt_2]
    rw [v_Tape_splitInt_2] at hv
    refine ⟨rfl, ?_⟩
    refine ⟨fun q1 => ?_, fun q1 => ?_⟩
    · have hv := hv.1 q1
      exact hK59 x1 x2 I J hv
    · have hv := hv.2 q1
      refine u_Tape_byteAt N (I 2 3) I J _ _ (fun r2 I3 J3 hv => ?_) hv
      refine u_Tape_isDigit N r2 I3 J3 _ _ (fun r4 I5 J5 hv => ?_) hv
      refine ⟨fun q6 => ?_, fun q6 => ?_⟩
      · have hv := hv.1 q6
        exact hK59 x1 x2 I5 J5 hv
      · have hv := hv.2 q6
        refine ⟨rfl, ?_⟩
        refine u_Tape_byteAt N (I5 2 3) I5 J5 _ _ (fun r7 I8 J8 hv => ?_) hv
        intro y9 ey9
        have hv := hv y9 ey9
        refine ⟨rfl, ?_⟩
        obtain ⟨I10, eI10⟩ : ∃ z, z = qu I8 2 3 ((I8 2 3) + (1 : Int32)) := ⟨_, rfl⟩
        have hv := hv I10 eI10
        intro h10 eh10
        have eh10 : h10 = zH I10 J8 := by rw [eh10, eI10]; rfl
        subst eh10
        exact ih x1 y9 I10 J8 hv
theorem u_Tape_splitInt_59 (N : Nat) (x1 : Int32) (x2 : Int64) (I : zI) (J : zJ) (Q : Int32 → zI → zJ → Prop) (Q' : Int32 → qH → Prop) (hQ : ∀ (r : Int32) (I : zI) (J : zJ), Q r I J → Q' r (zH I J)) (hv : v_Tape_splitInt_59 N x1 x2 I J Q ) : w_Tape_splitInt_59 N 2 x1 x2 (zH I J) Q'  := by
  unfold w_Tape_splitInt_59
  unfold v_Tape_splitInt_59 at hv
  refine ⟨rfl, ?_⟩
  obtain ⟨g1, hv⟩ := hv
  refine ⟨qok_mk rfl g1, ?_⟩
  obtain ⟨J2, eJ2⟩ : ∃ z, z = qu J 7 (x1).toNatClampNeg x2 := ⟨_, rfl⟩
  have hv := hv J2 eJ2
  intro h2 eh2
  have eh2 : h2 = zH I J2 := by rw [eh2, eJ2]; rfl
  subst eh2
  refine ⟨rfl, ?_⟩
  obtain ⟨g3, hv⟩ := hv
  refine ⟨qok_mk rfl g3, ?_⟩
  refine ⟨fun q4 => ?_, fun q4 => ?_⟩
  · have hv := hv.1 q4
    exact hQ _ _ _ hv
  · have hv := hv.2 q4
    exact hQ _ _ _ hv
theorem u_Tape_splitInt (N : Nat) (x1 : Int32) (I : zI) (J : zJ) (Q : Int32 → zI → zJ → Prop) (Q' : Int32 → qH → Prop) (hQ : ∀ (r : Int32) (I : zI) (J : zJ), Q r I J → Q' r (zH I J)) (hv : v_Tape_splitInt N x1 I J Q) : w_Tape_splitInt N 2 x1 (zH I J) Q' := by
  unfold w_Tape_splitInt
  unfold v_Tape_splitInt at hv
  refine u_Tape_splitInt_2 N N x1 (0 : Int64) I J Q _ hQ _ _ (fun w1 w2 I3 J3 hv => ?_)  hv
  exact u_Tape_splitInt_59 N w1 w2 I3 J3 Q _ hQ   hv
theorem u_Tape_kindOf_2 (N k : Nat) (x1 : Int64) (x3 : Int32) (I : zI) (J : zJ) (Q : Int32 → zI → zJ → Prop) (Q' : Int32 → qH → Prop) (hQ : ∀ (r : Int32) (I : zI) (J : zJ), Q r I J → Q' r (zH I J)) (hv : v_Tape_kindOf_2 N k x1 x3 I J Q ) : w_Tape_kindOf_2 N k 2 x1 x3 (zH I J) Q'  := by
  induction k generalizing x1 x3 I J with
  | zero => exact hv.elim
  | succ k ih =>
    rw [w_Tape_kindOf_2]
    rw [v_Tape_kindOf_2] at hv
    refine ⟨fun q1 => ?_, fun q1 => ?_⟩
    · have hv := hv.1 q1
      exact hQ _ _ _ hv
    · have hv := hv.2 q1
      refine ⟨rfl, ?_⟩
      obtain ⟨g2, hv⟩ := hv
      refine ⟨qok_mk rfl g2, ?_⟩
      refine ⟨fun q3 => ?_, fun q3 => ?_⟩
      · have hv := hv.1 q3
        exact ih x1 (x3 + (1 : Int32)) I J hv
      · have hv := hv.2 q3
        exact hQ _ _ _ hv
theorem u_Tape_kindOf (N : Nat) (x1 : Int64) (I : zI) (J : zJ) (Q : Int32 → zI → zJ → Prop) (Q' : Int32 → qH → Prop) (hQ : ∀ (r : Int32) (I : zI) (J : zJ), Q r I J → Q' r (zH I J)) (hv : v_Tape_kindOf N x1 I J Q) : w_Tape_kindOf N 2 x1 (zH I J) Q' := by
  unfold w_Tape_kindOf
  unfold v_Tape_kindOf at hv
  exact u_Tape_kindOf_2 N N x1 (0 : Int32) I J Q _ hQ   hv
theorem u_Tape_withLetter (N : Nat) (x0 : Int64) (x2 : Int32) (I : zI) (J : zJ) (Q : Int64 → zI → zJ → Prop) (Q' : Int64 → qH → Prop) (hQ : ∀ (r : Int64) (I : zI) (J : zJ), Q r I J → Q' r (zH I J)) (hv : v_Tape_withLetter N x0 x2 I J Q) : w_Tape_withLetter N x0 x2 (zH I J) Q' := by
  unfold w_Tape_withLetter
  unfold v_Tape_withLetter at hv
  exact hQ _ _ _ hv
theorem u_Tape_splitWord_2 (N k : Nat) (x1 : Int32) (x2 : Int64) (I : zI) (J : zJ) (Q : Int32 → zI → zJ → Prop) (Q' : Int32 → qH → Prop) (hQ : ∀ (r : Int32) (I : zI) (J : zJ), Q r I J → Q' r (zH I J)) (K53 : Int32 → Int64 → zI → zJ → Prop) (K53' : Nat → Int32 → Int64 → qH → Prop) (hK53 : ∀ (x1 : Int32) (x2 : Int64) (I : zI) (J : zJ), K53 x1 x2 I J → K53' 2 x1 x2 (zH I J)) (hv : v_Tape_splitWord_2 N k x1 x2 I J Q K53) : w_Tape_splitWord_2 N k 2 x1 x2 (zH I J) Q' K53' := by
  induction k generalizing x1 x2 I J with
  | zero => exact hv.elim
  | succ k ih =>
    rw [w_Tape_splitWord_2]
    rw [v_Tape_splitWord_2] at hv
    refine ⟨rfl, ?_⟩
    refine ⟨fun q1 => ?_, fun q1 => ?_⟩
    · have hv := hv.1 q1
      exact hK53 x1 x2 I J hv
    · have hv := hv.2 q1
      refine u_Tape_byteAt N (I 2 3) I J _ _ (fun r2 I3 J3 hv => ?_) hv
      refine u_Tape_isLetter N r2 I3 J3 _ _ (fun r4 I5 J5 hv => ?_) hv
      refine ⟨fun q6 => ?_, fun q6 => ?_⟩
      · have hv := hv.1 q6
        exact hK53 x1 x2 I5 J5 hv
      · have hv := hv.2 q6
        refine ⟨rfl, ?_⟩
        refine u_Tape_byteAt N (I5 2 3) I5 J5 _ _ (fun r7 I8 J8 hv => ?_) hv
        refine u_Tape_withLetter N x2 r7 I8 J8 _ _ (fun r9 I10 J10 hv => ?_) hv
        refine ⟨rfl, ?_⟩
        obtain ⟨I11, eI11⟩ : ∃ z, z = qu I10 2 3 ((I10 2 3) + (1 : Int32)) := ⟨_, rfl⟩
        have hv := hv I11 eI11
        intro h11 eh11
        have eh11 : h11 = zH I11 J10 := by rw [eh11, eI11]; rfl
        subst eh11
        exact ih x1 r9 I11 J10 hv
theorem u_Tape_splitWord_53 (N : Nat) (x1 : Int32) (x2 : Int64) (I : zI) (J : zJ) (Q : Int32 → zI → zJ → Prop) (Q' : Int32 → qH → Prop) (hQ : ∀ (r : Int32) (I : zI) (J : zJ), Q r I J → Q' r (zH I J)) (hv : v_Tape_splitWord_53 N x1 x2 I J Q ) : w_Tape_splitWord_53 N 2 x1 x2 (zH I J) Q'  := by
  unfold w_Tape_splitWord_53
  unfold v_Tape_splitWord_53 at hv
  refine ⟨rfl, ?_⟩
  obtain ⟨g1, hv⟩ := hv
  refine ⟨qok_mk rfl g1, ?_⟩
  obtain ⟨J2, eJ2⟩ : ∃ z, z = qu J 7 (x1).toNatClampNeg x2 := ⟨_, rfl⟩
  have hv := hv J2 eJ2
  intro h2 eh2
  have eh2 : h2 = zH I J2 := by rw [eh2, eJ2]; rfl
  subst eh2
  refine ⟨rfl, ?_⟩
  obtain ⟨g3, hv⟩ := hv
  refine ⟨qok_mk rfl g3, ?_⟩
  refine ⟨fun q4 => ?_, fun q4 => ?_⟩
  · have hv := hv.1 q4
    refine u_Tape_kindOf N x2 I J2 _ _ (fun r5 I6 J6 hv => ?_) hv
    exact hQ _ _ _ hv
  · have hv := hv.2 q4
    exact hQ _ _ _ hv
theorem u_Tape_splitWord (N : Nat) (x1 : Int32) (I : zI) (J : zJ) (Q : Int32 → zI → zJ → Prop) (Q' : Int32 → qH → Prop) (hQ : ∀ (r : Int32) (I : zI) (J : zJ), Q r I J → Q' r (zH I J)) (hv : v_Tape_splitWord N x1 I J Q) : w_Tape_splitWord N 2 x1 (zH I J) Q' := by
  unfold w_Tape_splitWord
  unfold v_Tape_splitWord at hv
  refine u_Tape_splitWord_2 N N x1 (0 : Int64) I J Q _ hQ _ _ (fun w1 w2 I3 J3 hv => ?_)  hv
  exact u_Tape_splitWord_53 N w1 w2 I3 J3 Q _ hQ   hv
theorem u_Tape_splitOne (N : Nat) (hN : 20 ≤ N) (x1 : Int32) (I : zI) (J : zJ) (Q : Int32 → zI → zJ → Prop) (Q' : Int32 → qH → Prop) (hQ : ∀ (r : Int32) (I : zI) (J : zJ), Q r I J → Q' r (zH I J)) (hv : v_Tape_splitOne N x1 I J Q) : w_Tape_splitOne N 2 x1 (zH I J) Q' := by
  unfold w_Tape_splitOne
  unfold v_Tape_splitOne at hv
  refine ⟨rfl, ?_⟩
  refine u_Tape_byteAt N (I 2 3) I J _ _ (fun r1 I2 J2 hv => ?_) hv
  refine ⟨fun q3 => ?_, fun q3 => ?_⟩
  · have hv := hv.1 q3
    refine u_Tape_isLetter N r1 I2 J2 _ _ (fun r4 I5 J5 hv => ?_) hv
    refine ⟨fun q6 => ?_, fun q6 => ?_⟩
    · have hv := hv.1 q6
      refine u_Tape_isDigit N r1 I5 J5 _ _ (fun r7 I8 J8 hv => ?_) hv
      refine ⟨fun q9 => ?_, fun q9 => ?_⟩
      · have hv := hv.1 q9
        refine ⟨rfl, ?_⟩
        obtain ⟨I10, eI10⟩ : ∃ z, z = qu I8 2 3 ((I8 2 3) + (1 : Int32)) := ⟨_, rfl⟩
        have hv := hv I10 eI10
        intro h10 eh10
        have eh10 : h10 = zH I10 J8 := by rw [eh10, eI10]; rfl
        subst eh10
        refine ⟨by decide, ?_⟩
        refine z_indexOf N hN (((r1).toUInt32 % 65536).toInt32) _ _ ?_
        refine ⟨fun q14 => ?_, fun q14 => ?_⟩
        · have hv := hv.1 q14
          exact hQ _ _ _ hv
        · have hv := hv.2 q14
          exact hQ _ _ _ hv
      · have hv := hv.2 q9
        refine ⟨rfl, ?_⟩
        refine u_Tape_splitInt N x1 I8 J8 _ _ (fun r15 I16 J16 hv => ?_) hv
        exact hQ _ _ _ hv
    · have hv := hv.2 q6
      refine ⟨rfl, ?_⟩
      refine u_Tape_splitWord N x1 I5 J5 _ _ (fun r17 I18 J18 hv => ?_) hv
      exact hQ _ _ _ hv
  · have hv := hv.2 q3
    exact hQ _ _ _ hv
theorem u_Tape_split_9 (N k : Nat) (hN : 20 ≤ N) (x1 : Int32) (x2 : Int32) (I : zI) (J : zJ) (Q : zI → zJ → Prop) (Q' : qH → Prop) (hQ : ∀ (I : zI) (J : zJ), Q I J → Q' (zH I J)) (hv : v_Tape_split_9 N k x1 x2 I J Q ) : w_Tape_split_9 N k 2 x1 x2 (zH I J) Q'  := by
  induction k generalizing x1 x2 I J with
  | zero => exact hv.elim
  | succ k ih =>
    rw [w_Tape_split_9]
    rw [v_Tape_split_9] at hv
    refine ⟨fun q1 => ?_, fun q1 => ?_⟩
    · have hv := hv.1 q1
      exact hQ _ _ hv
    · have hv := hv.2 q1
      refine ⟨fun q2 => ?_, fun q2 => ?_⟩
      · have hv := hv.1 q2
        exact hQ _ _ hv
      · have hv := hv.2 q2
        refine ⟨rfl, ?_⟩
        refine u_Tape_skipBlanks N  I J _ _ (fun I3 J3 hv => ?_) hv
        refine ⟨rfl, ?_⟩
        obtain ⟨g4, hv⟩ := hv
        refine ⟨qok_mk rfl g4, ?_⟩
        obtain ⟨I5, eI5⟩ : ∃ z, z = qu I3 6 (x2).toNatClampNeg (I3 2 3) := ⟨_, rfl⟩
        have hv := hv I5 eI5
        intro h5 eh5
        have eh5 : h5 = zH I5 J3 := by rw [eh5, eI5]; rfl
        subst eh5
        refine ⟨rfl, ?_⟩
        obtain ⟨g6, hv⟩ := hv
        refine ⟨qok_mk rfl g6, ?_⟩
        obtain ⟨J7, eJ7⟩ : ∃ z, z = qu J3 7 (x2).toNatClampNeg (0 : Int64) := ⟨_, rfl⟩
        have hv := hv J7 eJ7
        intro h7 eh7
        have eh7 : h7 = zH I5 J7 := by rw [eh7, eJ7]; rfl
        subst eh7
        refine ⟨rfl, ?_⟩
        refine u_Tape_splitOne N hN x2 I5 J7 _ _ (fun r8 I9 J9 hv => ?_) hv
        obtain ⟨g10, hv⟩ := hv
        refine ⟨qok_mk rfl g10, ?_⟩
        obtain ⟨I11, eI11⟩ : ∃ z, z = qu I9 5 (x2).toNatClampNeg r8 := ⟨_, rfl⟩
        have hv := hv I11 eI11
        intro h11 eh11
        have eh11 : h11 = zH I11 J9 := by rw [eh11, eI11]; rfl
        subst eh11
        refine ⟨rfl, ?_⟩
        obtain ⟨g12, hv⟩ := hv
        refine ⟨qok_mk rfl g12, ?_⟩
        refine ⟨fun q13 => ?_, fun q13 => ?_⟩
        · have hv := hv.1 q13
          exact ih (0 : Int32) (x2 + (1 : Int32)) I11 J9 hv
        · have hv := hv.2 q13
          refine ⟨fun q14 => ?_, fun q14 => ?_⟩
          · have hv := hv.1 q14
            exact ih (0 : Int32) (x2 + (1 : Int32)) I11 J9 hv
          · have hv := hv.2 q14
            exact ih (1 : Int32) (x2 + (1 : Int32)) I11 J9 hv
theorem u_Tape_split (N : Nat) (hN : 20 ≤ N)  (I : zI) (J : zJ) (Q : zI → zJ → Prop) (Q' : qH → Prop) (hQ : ∀ (I : zI) (J : zJ), Q I J → Q' (zH I J)) (hv : v_Tape_split N  I J Q) : w_Tape_split N 2 (zH I J) Q' := by
  unfold w_Tape_split
  unfold v_Tape_split at hv
  refine ⟨rfl, ?_⟩
  obtain ⟨I1, eI1⟩ : ∃ z, z = qu I 2 3 (0 : Int32) := ⟨_, rfl⟩
  have hv := hv I1 eI1
  intro h1 eh1
  have eh1 : h1 = zH I1 J := by rw [eh1, eI1]; rfl
  subst eh1
  exact u_Tape_split_9 N N hN (1 : Int32) (0 : Int32) I1 J Q _ hQ   hv
theorem u_Tape_hasRoomFor (N : Nat) (x1 : Int32) (I : zI) (J : zJ) (Q : Int32 → zI → zJ → Prop) (Q' : Int32 → qH → Prop) (hQ : ∀ (r : Int32) (I : zI) (J : zJ), Q r I J → Q' r (zH I J)) (hv : v_Tape_hasRoomFor N x1 I J Q) : w_Tape_hasRoomFor N 2 x1 (zH I J) Q' := by
  unfold w_Tape_hasRoomFor
  unfold v_Tape_hasRoomFor at hv
  refine ⟨rfl, ?_⟩
  refine ⟨fun q1 => ?_, fun q1 => ?_⟩
  · have hv := hv.1 q1
    exact ⟨Or.inl rfl, hQ _ _ _ hv⟩
  · have hv := hv.2 q1
    exact ⟨Or.inr rfl, hQ _ _ _ hv⟩
theorem u_Tape_addFour_3 (N k : Nat) (x1 : Int32) (x2 : Int32) (I : zI) (J : zJ) (Q : zI → zJ → Prop) (Q' : qH → Prop) (hQ : ∀ (I : zI) (J : zJ), Q I J → Q' (zH I J)) (hv : v_Tape_addFour_3 N k x1 x2 I J Q ) : w_Tape_addFour_3 N k 2 x1 x2 (zH I J) Q'  := by
  induction k generalizing x1 x2 I J with
  | zero => exact hv.elim
  | succ k ih =>
    rw [w_Tape_addFour_3]
    rw [v_Tape_addFour_3] at hv
    refine ⟨fun q1 => ?_, fun q1 => ?_⟩
    · have hv := hv.1 q1
      exact hQ _ _ hv
    · have hv := hv.2 q1
      refine ⟨rfl, ?_⟩
      refine ⟨fun q2 => ?_, fun q2 => ?_⟩
      · have hv := hv.1 q2
        exact ih x1 (x2 + (-8 : Int32)) I J hv
      · have hv := hv.2 q2
        obtain ⟨g3, hv⟩ := hv
        refine ⟨qok_mk rfl g3, ?_⟩
        obtain ⟨I4, eI4⟩ : ∃ z, z = qu I 3 ((I 2 1)).toNatClampNeg (vp_nar .byte ((((x1).toUInt32 >>> ((x2).toUInt32 &&& Int32.toUInt32 31)).toInt32).toInt8.toInt32)) := ⟨_, rfl⟩
        have hv := hv I4 eI4
        intro h4 eh4
        have eh4 : h4 = zH I4 J := by rw [eh4, eI4]; rfl
        subst eh4
        refine ⟨rfl, ?_⟩
        obtain ⟨I5, eI5⟩ : ∃ z, z = qu I4 2 1 ((I4 2 1) + (1 : Int32)) := ⟨_, rfl⟩
        have hv := hv I5 eI5
        intro h5 eh5
        have eh5 : h5 = zH I5 J := by rw [eh5, eI5]; rfl
        subst eh5
        exact ih x1 (x2 + (-8 : Int32)) I5 J hv
theorem u_Tape_addFour (N : Nat) (x1 : Int32) (I : zI) (J : zJ) (Q : zI → zJ → Prop) (Q' : qH → Prop) (hQ : ∀ (I : zI) (J : zJ), Q I J → Q' (zH I J)) (hv : v_Tape_addFour N x1 I J Q) : w_Tape_addFour N 2 x1 (zH I J) Q' := by
  unfold w_Tape_addFour
  unfold v_Tape_addFour at hv
  exact u_Tape_addFour_3 N N x1 (24 : Int32) I J Q _ hQ   hv
theorem u_Reader_lookAt (N : Nat) (x1 : Int32) (I : zI) (J : zJ) (Q : zI → zJ → Prop) (Q' : qH → Prop) (hQ : ∀ (I : zI) (J : zJ), Q I J → Q' (zH I J)) (hv : v_Reader_lookAt N x1 I J Q) : w_Reader_lookAt N 26 x1 (zH I J) Q' := by
  unfold w_Reader_lookAt
  unfold v_Reader_lookAt at hv
  refine ⟨rfl, ?_⟩
  obtain ⟨I1, eI1⟩ : ∃ z, z = qu I 26 1 x1 := ⟨_, rfl⟩
  have hv := hv I1 eI1
  intro h1 eh1
  have eh1 : h1 = zH I1 J := by rw [eh1, eI1]; rfl
  subst eh1
  refine ⟨rfl, ?_⟩
  refine ⟨rfl, ?_⟩
  obtain ⟨g2, hv⟩ := hv
  refine ⟨qok_mk rfl g2, ?_⟩
  obtain ⟨I3, eI3⟩ : ∃ z, z = qu I1 26 2 (I1 5 (x1).toNatClampNeg) := ⟨_, rfl⟩
  have hv := hv I3 eI3
  intro h3 eh3
  have eh3 : h3 = zH I3 J := by rw [eh3, eI3]; rfl
  subst eh3
  refine ⟨rfl, ?_⟩
  refine ⟨rfl, ?_⟩
  obtain ⟨g4, hv⟩ := hv
  refine ⟨qok_mk rfl g4, ?_⟩
  obtain ⟨J5, eJ5⟩ : ∃ z, z = qu J 26 3 (J 7 (x1).toNatClampNeg) := ⟨_, rfl⟩
  have hv := hv J5 eJ5
  intro h5 eh5
  have eh5 : h5 = zH I3 J5 := by rw [eh5, eJ5]; rfl
  subst eh5
  exact hQ _ _ hv
theorem u_Reader_fails (N : Nat) (x1 : Int32) (I : zI) (J : zJ) (Q : Int32 → zI → zJ → Prop) (Q' : Int32 → qH → Prop) (hQ : ∀ (r : Int32) (I : zI) (J : zJ), Q r I J → Q' r (zH I J)) (hv : v_Reader_fails N x1 I J Q) : w_Reader_fails N 26 x1 (zH I J) Q' := by
  unfold w_Reader_fails
  unfold v_Reader_fails at hv
  refine ⟨rfl, ?_⟩
  obtain ⟨I1, eI1⟩ : ∃ z, z = qu I 26 12 x1 := ⟨_, rfl⟩
  have hv := hv I1 eI1
  intro h1 eh1
  have eh1 : h1 = zH I1 J := by rw [eh1, eI1]; rfl
  subst eh1
  refine ⟨rfl, ?_⟩
  refine ⟨rfl, ?_⟩
  obtain ⟨g2, hv⟩ := hv
  refine ⟨qok_mk rfl g2, ?_⟩
  obtain ⟨I3, eI3⟩ : ∃ z, z = qu I1 26 13 (I1 6 ((I1 26 1)).toNatClampNeg) := ⟨_, rfl⟩
  have hv := hv I3 eI3
  intro h3 eh3
  have eh3 : h3 = zH I3 J := by rw [eh3, eI3]; rfl
  subst eh3
  exact ⟨Or.inl rfl, hQ _ _ _ hv⟩
theorem u_Reader_goOn (N : Nat)  (I : zI) (J : zJ) (Q : Int32 → zI → zJ → Prop) (Q' : Int32 → qH → Prop) (hQ : ∀ (r : Int32) (I : zI) (J : zJ), Q r I J → Q' r (zH I J)) (hv : v_Reader_goOn N  I J Q) : w_Reader_goOn N 26 (zH I J) Q' := by
  unfold w_Reader_goOn
  unfold v_Reader_goOn at hv
  refine ⟨rfl, ?_⟩
  refine ⟨fun q1 => ?_, fun q1 => ?_⟩
  · have hv := hv.1 q1
    refine u_Reader_lookAt N ((I 26 1) + (1 : Int32)) I J _ _ (fun I2 J2 hv => ?_) hv
    exact ⟨Or.inr rfl, hQ _ _ _ hv⟩
  · have hv := hv.2 q1
    refine u_Reader_fails N (2 : Int32) I J _ _ (fun r3 I4 J4 hv => ?_) hv
    exact ⟨hv.1, hQ _ _ _ hv.2⟩
theorem u_Reader_pass (N : Nat) (x1 : Int32) (I : zI) (J : zJ) (Q : Int32 → zI → zJ → Prop) (Q' : Int32 → qH → Prop) (hQ : ∀ (r : Int32) (I : zI) (J : zJ), Q r I J → Q' r (zH I J)) (hv : v_Reader_pass N x1 I J Q) : w_Reader_pass N 26 x1 (zH I J) Q' := by
  unfold w_Reader_pass
  unfold v_Reader_pass at hv
  refine ⟨rfl, ?_⟩
  refine ⟨fun q1 => ?_, fun q1 => ?_⟩
  · have hv := hv.1 q1
    refine u_Reader_fails N (1 : Int32) I J _ _ (fun r2 I3 J3 hv => ?_) hv
    exact ⟨hv.1, hQ _ _ _ hv.2⟩
  · have hv := hv.2 q1
    refine u_Reader_goOn N  I J _ _ (fun r4 I5 J5 hv => ?_) hv
    exact ⟨hv.1, hQ _ _ _ hv.2⟩
theorem u_Reader_readClosing_2_c33 (N k : Nat) (x2 : Int32) (I : zI) (J : zJ) (Q : Int32 → zI → zJ → Prop) (Q' : Int32 → qH → Prop) (hQ : ∀ (r : Int32) (I : zI) (J : zJ), Q r I J → Q' r (zH I J)) (hv : v_Reader_readClosing_2 N k 33 x2 I J Q ) : w_Reader_readClosing_2 N k 26 33 x2 (zH I J) Q'  := by
  induction k generalizing x2 I J with
  | zero => exact hv.elim
  | succ k ih =>
    rw [w_Reader_readClosing_2]
    rw [v_Reader_readClosing_2] at hv
    refine ⟨fun q1 => ?_, fun q1 => ?_⟩
    · have hv := hv.1 q1
      exact ⟨Or.inr rfl, hQ _ _ _ hv⟩
    · have hv := hv.2 q1
      refine ⟨rfl, ?_⟩
      refine ⟨rfl, ?_⟩
      refine ⟨fun q2 => ?_, fun q2 => ?_⟩
      · have hv := hv.1 q2
        exact ⟨Or.inr rfl, hQ _ _ _ hv⟩
      · have hv := hv.2 q2
        refine ⟨fun q3 => ?_, fun q3 => ?_⟩
        · have hv := hv.1 q3
          exact ⟨Or.inr rfl, hQ _ _ _ hv⟩
        · have hv := hv.2 q3
          refine u_Waits_letGo_c33 N 33 (1 : Int32) I J _ _ (fun I4 J4 hv => ?_) hv
          refine ⟨rfl, ?_⟩
          refine ⟨rfl, ?_⟩
          refine u_Waits_close N  I4 J4 _ _ (fun I5 J5 hv => ?_) hv
          refine ⟨rfl, ?_⟩
          refine u_Reader_goOn N  I5 J5 _ _ (fun r6 I7 J7 hv => ?_) hv
          refine ⟨fun q8 => ?_, fun q8 => ?_⟩
          · have hv := hv.1 q8
            exact ih (x2 + (1 : Int32)) I7 J7 hv
          · have hv := hv.2 q8
            exact ⟨Or.inl rfl, hQ _ _ _ hv⟩
theorem u_Reader_readClosing_c33 (N : Nat) (_x1 : Nat) (I : zI) (J : zJ) (Q : Int32 → zI → zJ → Prop) (Q' : Int32 → qH → Prop) (hQ : ∀ (r : Int32) (I : zI) (J : zJ), Q r I J → Q' r (zH I J)) (hv : v_Reader_readClosing N 33 I J Q) : w_Reader_readClosing N 26 33 (zH I J) Q' := by
  unfold w_Reader_readClosing
  unfold v_Reader_readClosing at hv
  exact u_Reader_readClosing_2_c33 N N (0 : Int32) I J Q _ hQ   hv
theorem u_Reader_readClosing_2_c36 (N k : Nat) (x2 : Int32) (I : zI) (J : zJ) (Q : Int32 → zI → zJ → Prop) (Q' : Int32 → qH → Prop) (hQ : ∀ (r : Int32) (I : zI) (J : zJ), Q r I J → Q' r (zH I J)) (hv : v_Reader_readClosing_2 N k 36 x2 I J Q ) : w_Reader_readClosing_2 N k 26 36 x2 (zH I J) Q'  := by
  induction k generalizing x2 I J with
  | zero => exact hv.elim
  | succ k ih =>
    rw [w_Reader_readClosing_2]
    rw [v_Reader_readClosing_2] at hv
    refine ⟨fun q1 => ?_, fun q1 => ?_⟩
    · have hv := hv.1 q1
      exact ⟨Or.inr rfl, hQ _ _ _ hv⟩
    · have hv := hv.2 q1
      refine ⟨rfl, ?_⟩
      refine ⟨rfl, ?_⟩
      refine ⟨fun q2 => ?_, fun q2 => ?_⟩
      · have hv := hv.1 q2
        exact ⟨Or.inr rfl, hQ _ _ _ hv⟩
      · have hv := hv.2 q2
        refine ⟨fun q3 => ?_, fun q3 => ?_⟩
        · have hv := hv.1 q3
          exact ⟨Or.inr rfl, hQ _ _ _ hv⟩
        · have hv := hv.2 q3
          refine u_Waits_letGo_c36 N 36 (1 : Int32) I J _ _ (fun I4 J4 hv => ?_) hv
          refine ⟨rfl, ?_⟩
          refine ⟨rfl, ?_⟩
          refine u_Waits_close N  I4 J4 _ _ (fun I5 J5 hv => ?_) hv
          refine ⟨rfl, ?_⟩
          refine u_Reader_goOn N  I5 J5 _ _ (fun r6 I7 J7 hv => ?_) hv
          refine ⟨fun q8 => ?_, fun q8 => ?_⟩
          · have hv := hv.1 q8
            exact ih (x2 + (1 : Int32)) I7 J7 hv
          · have hv := hv.2 q8
            exact ⟨Or.inl rfl, hQ _ _ _ hv⟩
theorem u_Reader_readClosing_c36 (N : Nat) (_x1 : Nat) (I : zI) (J : zJ) (Q : Int32 → zI → zJ → Prop) (Q' : Int32 → qH → Prop) (hQ : ∀ (r : Int32) (I : zI) (J : zJ), Q r I J → Q' r (zH I J)) (hv : v_Reader_readClosing N 36 I J Q) : w_Reader_readClosing N 26 36 (zH I J) Q' := by
  unfold w_Reader_readClosing
  unfold v_Reader_readClosing at hv
  exact u_Reader_readClosing_2_c36 N N (0 : Int32) I J Q _ hQ   hv
theorem u_Reader_readClosing_2_c39 (N k : Nat) (x2 : Int32) (I : zI) (J : zJ) (Q : Int32 → zI → zJ → Prop) (Q' : Int32 → qH → Prop) (hQ : ∀ (r : Int32) (I : zI) (J : zJ), Q r I J → Q' r (zH I J)) (hv : v_Reader_readClosing_2 N k 39 x2 I J Q ) : w_Reader_readClosing_2 N k 26 39 x2 (zH I J) Q'  := by
  induction k generalizing x2 I J with
  | zero => exact hv.elim
  | succ k ih =>
    rw [w_Reader_readClosing_2]
    rw [v_Reader_readClosing_2] at hv
    refine ⟨fun q1 => ?_, fun q1 => ?_⟩
    · have hv := hv.1 q1
      exact ⟨Or.inr rfl, hQ _ _ _ hv⟩
    · have hv := hv.2 q1
      refine ⟨rfl, ?_⟩
      refine ⟨rfl, ?_⟩
      refine ⟨fun q2 => ?_, fun q2 => ?_⟩
      · have hv := hv.1 q2
        exact ⟨Or.inr rfl, hQ _ _ _ hv⟩
      · have hv := hv.2 q2
        refine ⟨fun q3 => ?_, fun q3 => ?_⟩
        · have hv := hv.1 q3
          exact ⟨Or.inr rfl, hQ _ _ _ hv⟩
        · have hv := hv.2 q3
          refine u_Waits_letGo_c39 N 39 (1 : Int32) I J _ _ (fun I4 J4 hv => ?_) hv
          refine ⟨rfl, ?_⟩
          refine ⟨rfl, ?_⟩
          refine u_Waits_close N  I4 J4 _ _ (fun I5 J5 hv => ?_) hv
          refine ⟨rfl, ?_⟩
          refine u_Reader_goOn N  I5 J5 _ _ (fun r6 I7 J7 hv => ?_) hv
          refine ⟨fun q8 => ?_, fun q8 => ?_⟩
          · have hv := hv.1 q8
            exact ih (x2 + (1 : Int32)) I7 J7 hv
          · have hv := hv.2 q8
            exact ⟨Or.inl rfl, hQ _ _ _ hv⟩
theorem u_Reader_readClosing_c39 (N : Nat) (_x1 : Nat) (I : zI) (J : zJ) (Q : Int32 → zI → zJ → Prop) (Q' : Int32 → qH → Prop) (hQ : ∀ (r : Int32) (I : zI) (J : zJ), Q r I J → Q' r (zH I J)) (hv : v_Reader_readClosing N 39 I J Q) : w_Reader_readClosing N 26 39 (zH I J) Q' := by
  unfold w_Reader_readClosing
  unfold v_Reader_readClosing at hv
  exact u_Reader_readClosing_2_c39 N N (0 : Int32) I J Q _ hQ   hv
theorem u_Reader_readClosing_2_c42 (N k : Nat) (x2 : Int32) (I : zI) (J : zJ) (Q : Int32 → zI → zJ → Prop) (Q' : Int32 → qH → Prop) (hQ : ∀ (r : Int32) (I : zI) (J : zJ), Q r I J → Q' r (zH I J)) (hv : v_Reader_readClosing_2 N k 42 x2 I J Q ) : w_Reader_readClosing_2 N k 26 42 x2 (zH I J) Q'  := by
  induction k generalizing x2 I J with
  | zero => exact hv.elim
  | succ k ih =>
    rw [w_Reader_readClosing_2]
    rw [v_Reader_readClosing_2] at hv
    refine ⟨fun q1 => ?_, fun q1 => ?_⟩
    · have hv := hv.1 q1
      exact ⟨Or.inr rfl, hQ _ _ _ hv⟩
    · have hv := hv.2 q1
      refine ⟨rfl, ?_⟩
      refine ⟨rfl, ?_⟩
      refine ⟨fun q2 => ?_, fun q2 => ?_⟩
      · have hv := hv.1 q2
        exact ⟨Or.inr rfl, hQ _ _ _ hv⟩
      · have hv := hv.2 q2
        refine ⟨fun q3 => ?_, fun q3 => ?_⟩
        · have hv := hv.1 q3
          exact ⟨Or.inr rfl, hQ _ _ _ hv⟩
        · have hv := hv.2 q3
          refine u_Waits_letGo_c42 N 42 (1 : Int32) I J _ _ (fun I4 J4 hv => ?_) hv
          refine ⟨rfl, ?_⟩
          refine ⟨rfl, ?_⟩
          refine u_Waits_close N  I4 J4 _ _ (fun I5 J5 hv => ?_) hv
          refine ⟨rfl, ?_⟩
          refine u_Reader_goOn N  I5 J5 _ _ (fun r6 I7 J7 hv => ?_) hv
          refine ⟨fun q8 => ?_, fun q8 => ?_⟩
          · have hv := hv.1 q8
            exact ih (x2 + (1 : Int32)) I7 J7 hv
          · have hv := hv.2 q8
            exact ⟨Or.inl rfl, hQ _ _ _ hv⟩
theorem u_Reader_readClosing_c42 (N : Nat) (_x1 : Nat) (I : zI) (J : zJ) (Q : Int32 → zI → zJ → Prop) (Q' : Int32 → qH → Prop) (hQ : ∀ (r : Int32) (I : zI) (J : zJ), Q r I J → Q' r (zH I J)) (hv : v_Reader_readClosing N 42 I J Q) : w_Reader_readClosing N 26 42 (zH I J) Q' := by
  unfold w_Reader_readClosing
  unfold v_Reader_readClosing at hv
  exact u_Reader_readClosing_2_c42 N N (0 : Int32) I J Q _ hQ   hv
theorem u_Reader_readOpening_2 (N k : Nat) (x1 : Int32) (I : zI) (J : zJ) (Q : Int32 → zI → zJ → Prop) (Q' : Int32 → qH → Prop) (hQ : ∀ (r : Int32) (I : zI) (J : zJ), Q r I J → Q' r (zH I J)) (hv : v_Reader_readOpening_2 N k x1 I J Q ) : w_Reader_readOpening_2 N k 26 x1 (zH I J) Q'  := by
  induction k generalizing x1 I J with
  | zero => exact hv.elim
  | succ k ih =>
    rw [w_Reader_readOpening_2]
    rw [v_Reader_readOpening_2] at hv
    refine ⟨fun q1 => ?_, fun q1 => ?_⟩
    · have hv := hv.1 q1
      exact ⟨Or.inr rfl, hQ _ _ _ hv⟩
    · have hv := hv.2 q1
      refine ⟨rfl, ?_⟩
      refine ⟨fun q2 => ?_, fun q2 => ?_⟩
      · have hv := hv.1 q2
        exact ⟨Or.inr rfl, hQ _ _ _ hv⟩
      · have hv := hv.2 q2
        refine ⟨rfl, ?_⟩
        refine ⟨fun q3 => ?_, fun q3 => ?_⟩
        · have hv := hv.1 q3
          refine u_Waits_open N  I J _ _ (fun I4 J4 hv => ?_) hv
          refine ⟨rfl, ?_⟩
          refine u_Reader_goOn N  I4 J4 _ _ (fun r5 I6 J6 hv => ?_) hv
          refine ⟨fun q7 => ?_, fun q7 => ?_⟩
          · have hv := hv.1 q7
            exact ih (x1 + (1 : Int32)) I6 J6 hv
          · have hv := hv.2 q7
            exact ⟨Or.inl rfl, hQ _ _ _ hv⟩
        · have hv := hv.2 q3
          refine u_Reader_fails N (2 : Int32) I J _ _ (fun r8 I9 J9 hv => ?_) hv
          exact ⟨hv.1, hQ _ _ _ hv.2⟩
theorem u_Reader_readOpening (N : Nat)  (I : zI) (J : zJ) (Q : Int32 → zI → zJ → Prop) (Q' : Int32 → qH → Prop) (hQ : ∀ (r : Int32) (I : zI) (J : zJ), Q r I J → Q' r (zH I J)) (hv : v_Reader_readOpening N  I J Q) : w_Reader_readOpening N 26 (zH I J) Q' := by
  unfold w_Reader_readOpening
  unfold v_Reader_readOpening at hv
  exact u_Reader_readOpening_2 N N (0 : Int32) I J Q _ hQ   hv
theorem u_Reader_readOperand_c33 (N : Nat) (_x1 : Nat) (I : zI) (J : zJ) (Q : Int32 → zI → zJ → Prop) (Q' : Int32 → qH → Prop) (hQ : ∀ (r : Int32) (I : zI) (J : zJ), Q r I J → Q' r (zH I J)) (hv : v_Reader_readOperand N 33 I J Q) : w_Reader_readOperand N 26 33 (zH I J) Q' := by
  unfold w_Reader_readOperand
  unfold v_Reader_readOperand at hv
  refine ⟨rfl, ?_⟩
  refine ⟨fun q1 => ?_, fun q1 => ?_⟩
  · have hv := hv.1 q1
    refine ⟨fun q2 => ?_, fun q2 => ?_⟩
    · have hv := hv.1 q2
      refine u_Reader_fails N (1 : Int32) I J _ _ (fun r3 I4 J4 hv => ?_) hv
      exact ⟨hv.1, hQ _ _ _ hv.2⟩
    · have hv := hv.2 q2
      refine ⟨fun q5 => ?_, fun q5 => ?_⟩
      · have hv := hv.1 q5
        refine u_Reader_fails N (1 : Int32) I J _ _ (fun r6 I7 J7 hv => ?_) hv
        exact ⟨hv.1, hQ _ _ _ hv.2⟩
      · have hv := hv.2 q5
        refine ⟨rfl, ?_⟩
        refine u_Law_add_c33 N 33 (2 : Int32) ((I 26 2) - (268 : Int32)) I J _ _ (fun I8 J8 hv => ?_) hv
        refine ⟨rfl, ?_⟩
        refine u_Reader_goOn N  I8 J8 _ _ (fun r9 I10 J10 hv => ?_) hv
        exact ⟨hv.1, hQ _ _ _ hv.2⟩
  · have hv := hv.2 q1
    refine ⟨rfl, ?_⟩
    refine u_Law_add_c33 N 33 (1 : Int32) (((J 26 3)).toInt32) I J _ _ (fun I11 J11 hv => ?_) hv
    refine ⟨rfl, ?_⟩
    refine u_Reader_goOn N  I11 J11 _ _ (fun r12 I13 J13 hv => ?_) hv
    exact ⟨hv.1, hQ _ _ _ hv.2⟩
theorem u_Reader_readOperand_c36 (N : Nat) (_x1 : Nat) (I : zI) (J : zJ) (Q : Int32 → zI → zJ → Prop) (Q' : Int32 → qH → Prop) (hQ : ∀ (r : Int32) (I : zI) (J : zJ), Q r I J → Q' r (zH I J)) (hv : v_Reader_readOperand N 36 I J Q) : w_Reader_readOperand N 26 36 (zH I J) Q' := by
  unfold w_Reader_readOperand
  unfold v_Reader_readOperand at hv
  refine ⟨rfl, ?_⟩
  refine ⟨fun q1 => ?_, fun q1 => ?_⟩
  · have hv := hv.1 q1
    refine ⟨fun q2 => ?_, fun q2 => ?_⟩
    · have hv := hv.1 q2
      refine u_Reader_fails N (1 : Int32) I J _ _ (fun r3 I4 J4 hv => ?_) hv
      exact ⟨hv.1, hQ _ _ _ hv.2⟩
    · have hv := hv.2 q2
      refine ⟨fun q5 => ?_, fun q5 => ?_⟩
      · have hv := hv.1 q5
        refine u_Reader_fails N (1 : Int32) I J _ _ (fun r6 I7 J7 hv => ?_) hv
        exact ⟨hv.1, hQ _ _ _ hv.2⟩
      · have hv := hv.2 q5
        refine ⟨rfl, ?_⟩
        refine u_Law_add_c36 N 36 (2 : Int32) ((I 26 2) - (268 : Int32)) I J _ _ (fun I8 J8 hv => ?_) hv
        refine ⟨rfl, ?_⟩
        refine u_Reader_goOn N  I8 J8 _ _ (fun r9 I10 J10 hv => ?_) hv
        exact ⟨hv.1, hQ _ _ _ hv.2⟩
  · have hv := hv.2 q1
    refine ⟨rfl, ?_⟩
    refine u_Law_add_c36 N 36 (1 : Int32) (((J 26 3)).toInt32) I J _ _ (fun I11 J11 hv => ?_) hv
    refine ⟨rfl, ?_⟩
    refine u_Reader_goOn N  I11 J11 _ _ (fun r12 I13 J13 hv => ?_) hv
    exact ⟨hv.1, hQ _ _ _ hv.2⟩
theorem u_Reader_readOperand_c39 (N : Nat) (_x1 : Nat) (I : zI) (J : zJ) (Q : Int32 → zI → zJ → Prop) (Q' : Int32 → qH → Prop) (hQ : ∀ (r : Int32) (I : zI) (J : zJ), Q r I J → Q' r (zH I J)) (hv : v_Reader_readOperand N 39 I J Q) : w_Reader_readOperand N 26 39 (zH I J) Q' := by
  unfold w_Reader_readOperand
  unfold v_Reader_readOperand at hv
  refine ⟨rfl, ?_⟩
  refine ⟨fun q1 => ?_, fun q1 => ?_⟩
  · have hv := hv.1 q1
    refine ⟨fun q2 => ?_, fun q2 => ?_⟩
    · have hv := hv.1 q2
      refine u_Reader_fails N (1 : Int32) I J _ _ (fun r3 I4 J4 hv => ?_) hv
      exact ⟨hv.1, hQ _ _ _ hv.2⟩
    · have hv := hv.2 q2
      refine ⟨fun q5 => ?_, fun q5 => ?_⟩
      · have hv := hv.1 q5
        refine u_Reader_fails N (1 : Int32) I J _ _ (fun r6 I7 J7 hv => ?_) hv
        exact ⟨hv.1, hQ _ _ _ hv.2⟩
      · have hv := hv.2 q5
        refine ⟨rfl, ?_⟩
        refine u_Law_add_c39 N 39 (2 : Int32) ((I 26 2) - (268 : Int32)) I J _ _ (fun I8 J8 hv => ?_) hv
        refine ⟨rfl, ?_⟩
        refine u_Reader_goOn N  I8 J8 _ _ (fun r9 I10 J10 hv => ?_) hv
        exact ⟨hv.1, hQ _ _ _ hv.2⟩
  · have hv := hv.2 q1
    refine ⟨rfl, ?_⟩
    refine u_Law_add_c39 N 39 (1 : Int32) (((J 26 3)).toInt32) I J _ _ (fun I11 J11 hv => ?_) hv
    refine ⟨rfl, ?_⟩
    refine u_Reader_goOn N  I11 J11 _ _ (fun r12 I13 J13 hv => ?_) hv
    exact ⟨hv.1, hQ _ _ _ hv.2⟩
theorem u_Reader_readOperand_c42 (N : Nat) (_x1 : Nat) (I : zI) (J : zJ) (Q : Int32 → zI → zJ → Prop) (Q' : Int32 → qH → Prop) (hQ : ∀ (r : Int32) (I : zI) (J : zJ), Q r I J → Q' r (zH I J)) (hv : v_Reader_readOperand N 42 I J Q) : w_Reader_readOperand N 26 42 (zH I J) Q' := by
  unfold w_Reader_readOperand
  unfold v_Reader_readOperand at hv
  refine ⟨rfl, ?_⟩
  refine ⟨fun q1 => ?_, fun q1 => ?_⟩
  · have hv := hv.1 q1
    refine ⟨fun q2 => ?_, fun q2 => ?_⟩
    · have hv := hv.1 q2
      refine u_Reader_fails N (1 : Int32) I J _ _ (fun r3 I4 J4 hv => ?_) hv
      exact ⟨hv.1, hQ _ _ _ hv.2⟩
    · have hv := hv.2 q2
      refine ⟨fun q5 => ?_, fun q5 => ?_⟩
      · have hv := hv.1 q5
        refine u_Reader_fails N (1 : Int32) I J _ _ (fun r6 I7 J7 hv => ?_) hv
        exact ⟨hv.1, hQ _ _ _ hv.2⟩
      · have hv := hv.2 q5
        refine ⟨rfl, ?_⟩
        refine u_Law_add_c42 N 42 (2 : Int32) ((I 26 2) - (268 : Int32)) I J _ _ (fun I8 J8 hv => ?_) hv
        refine ⟨rfl, ?_⟩
        refine u_Reader_goOn N  I8 J8 _ _ (fun r9 I10 J10 hv => ?_) hv
        exact ⟨hv.1, hQ _ _ _ hv.2⟩
  · have hv := hv.2 q1
    refine ⟨rfl, ?_⟩
    refine u_Law_add_c42 N 42 (1 : Int32) (((J 26 3)).toInt32) I J _ _ (fun I11 J11 hv => ?_) hv
    refine ⟨rfl, ?_⟩
    refine u_Reader_goOn N  I11 J11 _ _ (fun r12 I13 J13 hv => ?_) hv
    exact ⟨hv.1, hQ _ _ _ hv.2⟩
theorem u_Reader_readSum_62_c33 (N : Nat) (x3 : Int32) (z0 : Int32) (I : zI) (J : zJ) (Q : Int32 → zI → zJ → Prop) (Q' : Int32 → qH → Prop) (hQ : ∀ (r : Int32) (I : zI) (J : zJ), Q r I J → Q' r (zH I J)) (K11 : Int32 → Int32 → zI → zJ → Prop) (K11' : Nat → Nat → Int32 → Int32 → qH → Prop) (hK11 : ∀ (x2 : Int32) (x3 : Int32) (I : zI) (J : zJ), K11 x2 x3 I J → K11' 26 33 x2 x3 (zH I J)) (hv : v_Reader_readSum_62 N 33 x3 z0 I J Q K11) : w_Reader_readSum_62 N 26 33 x3 z0 (zH I J) Q' K11' := by
  unfold w_Reader_readSum_62
  unfold v_Reader_readSum_62 at hv
  refine ⟨fun q1 => ?_, fun q1 => ?_⟩
  · have hv := hv.1 q1
    exact hK11 z0 (x3 + (1 : Int32)) I J hv
  · have hv := hv.2 q1
    refine ⟨rfl, ?_⟩
    refine ⟨rfl, ?_⟩
    refine u_Waits_add_c33 N 33 (I 26 2) I J _ _ (fun I2 J2 hv => ?_) hv
    refine ⟨rfl, ?_⟩
    refine u_Reader_goOn N  I2 J2 _ _ (fun r3 I4 J4 hv => ?_) hv
    refine ⟨fun q5 => ?_, fun q5 => ?_⟩
    · have hv := hv.1 q5
      exact hK11 z0 (x3 + (1 : Int32)) I4 J4 hv
    · have hv := hv.2 q5
      exact ⟨Or.inl rfl, hQ _ _ _ hv⟩
theorem u_Reader_readSum_11_c33 (N k : Nat) (x2 : Int32) (x3 : Int32) (I : zI) (J : zJ) (Q : Int32 → zI → zJ → Prop) (Q' : Int32 → qH → Prop) (hQ : ∀ (r : Int32) (I : zI) (J : zJ), Q r I J → Q' r (zH I J)) (K94 : zI → zJ → Prop) (K94' : Nat → Nat → qH → Prop) (hK94 : ∀  (I : zI) (J : zJ), K94  I J → K94' 26 33 (zH I J)) (hv : v_Reader_readSum_11 N k 33 x2 x3 I J Q K94) : w_Reader_readSum_11 N k 26 33 x2 x3 (zH I J) Q' K94' := by
  induction k generalizing x2 x3 I J with
  | zero => exact hv.elim
  | succ k ih =>
    rw [w_Reader_readSum_11]
    rw [v_Reader_readSum_11] at hv
    refine ⟨fun q1 => ?_, fun q1 => ?_⟩
    · have hv := hv.1 q1
      exact hK94 I J hv
    · have hv := hv.2 q1
      refine ⟨fun q2 => ?_, fun q2 => ?_⟩
      · have hv := hv.1 q2
        exact hK94 I J hv
      · have hv := hv.2 q2
        refine ⟨rfl, ?_⟩
        refine u_Reader_readOpening N  I J _ _ (fun r3 I4 J4 hv => ?_) hv
        refine ⟨fun q5 => ?_, fun q5 => ?_⟩
        · have hv := hv.1 q5
          exact ⟨Or.inl rfl, hQ _ _ _ hv⟩
        · have hv := hv.2 q5
          refine ⟨rfl, ?_⟩
          refine u_Reader_readOperand_c33 N 33 I4 J4 _ _ (fun r6 I7 J7 hv => ?_) hv
          refine ⟨fun q8 => ?_, fun q8 => ?_⟩
          · have hv := hv.1 q8
            exact ⟨Or.inl rfl, hQ _ _ _ hv⟩
          · have hv := hv.2 q8
            refine ⟨rfl, ?_⟩
            refine u_Reader_readClosing_c33 N 33 I7 J7 _ _ (fun r9 I10 J10 hv => ?_) hv
            refine ⟨fun q11 => ?_, fun q11 => ?_⟩
            · have hv := hv.1 q11
              refine ⟨rfl, ?_⟩
              refine u_Waits_strengthOf N (I10 26 2) I10 J10 _ _ (fun r12 I13 J13 hv => ?_) hv
              refine ⟨fun q14 => ?_, fun q14 => ?_⟩
              · have hv := hv.1 q14
                exact u_Reader_readSum_62_c33 N x3 (0 : Int32) I13 J13 Q _ hQ _ _ (fun x2 x3 I J hv => ih x2 x3 I J hv)  hv
              · have hv := hv.2 q14
                exact u_Reader_readSum_62_c33 N x3 (1 : Int32) I13 J13 Q _ hQ _ _ (fun x2 x3 I J hv => ih x2 x3 I J hv)  hv
            · have hv := hv.2 q11
              exact ⟨Or.inl rfl, hQ _ _ _ hv⟩
theorem u_Reader_readSum_94_c33 (N : Nat)  (I : zI) (J : zJ) (Q : Int32 → zI → zJ → Prop) (Q' : Int32 → qH → Prop) (hQ : ∀ (r : Int32) (I : zI) (J : zJ), Q r I J → Q' r (zH I J)) (hv : v_Reader_readSum_94 N 33 I J Q ) : w_Reader_readSum_94 N 26 33 (zH I J) Q'  := by
  unfold w_Reader_readSum_94
  unfold v_Reader_readSum_94 at hv
  refine ⟨rfl, ?_⟩
  refine ⟨rfl, ?_⟩
  refine u_Waits_letGo_c33 N 33 (1 : Int32) I J _ _ (fun I1 J1 hv => ?_) hv
  refine ⟨rfl, ?_⟩
  refine ⟨rfl, ?_⟩
  refine ⟨fun q2 => ?_, fun q2 => ?_⟩
  · have hv := hv.1 q2
    exact ⟨Or.inr rfl, hQ _ _ _ hv⟩
  · have hv := hv.2 q2
    refine u_Reader_fails N (1 : Int32) I1 J1 _ _ (fun r3 I4 J4 hv => ?_) hv
    refine ⟨fun q5 => ?_, fun q5 => ?_⟩
    · have hv := hv.1 q5
      exact ⟨Or.inl rfl, hQ _ _ _ hv⟩
    · have hv := hv.2 q5
      exact ⟨Or.inr rfl, hQ _ _ _ hv⟩
theorem u_Reader_readSum_c33 (N : Nat) (_x1 : Nat) (I : zI) (J : zJ) (Q : Int32 → zI → zJ → Prop) (Q' : Int32 → qH → Prop) (hQ : ∀ (r : Int32) (I : zI) (J : zJ), Q r I J → Q' r (zH I J)) (hv : v_Reader_readSum N 33 I J Q) : w_Reader_readSum N 26 33 (zH I J) Q' := by
  unfold w_Reader_readSum
  unfold v_Reader_readSum at hv
  refine ⟨rfl, ?_⟩
  refine ⟨rfl, ?_⟩
  refine u_Waits_begin N  I J _ _ (fun I1 J1 hv => ?_) hv
  refine u_Reader_readSum_11_c33 N N (0 : Int32) (0 : Int32) I1 J1 Q _ hQ _ _ (fun I2 J2 hv => ?_)  hv
  exact u_Reader_readSum_94_c33 N  I2 J2 Q _ hQ   hv
theorem u_Reader_readSum_62_c36 (N : Nat) (x3 : Int32) (z0 : Int32) (I : zI) (J : zJ) (Q : Int32 → zI → zJ → Prop) (Q' : Int32 → qH → Prop) (hQ : ∀ (r : Int32) (I : zI) (J : zJ), Q r I J → Q' r (zH I J)) (K11 : Int32 → Int32 → zI → zJ → Prop) (K11' : Nat → Nat → Int32 → Int32 → qH → Prop) (hK11 : ∀ (x2 : Int32) (x3 : Int32) (I : zI) (J : zJ), K11 x2 x3 I J → K11' 26 36 x2 x3 (zH I J)) (hv : v_Reader_readSum_62 N 36 x3 z0 I J Q K11) : w_Reader_readSum_62 N 26 36 x3 z0 (zH I J) Q' K11' := by
  unfold w_Reader_readSum_62
  unfold v_Reader_readSum_62 at hv
  refine ⟨fun q1 => ?_, fun q1 => ?_⟩
  · have hv := hv.1 q1
    exact hK11 z0 (x3 + (1 : Int32)) I J hv
  · have hv := hv.2 q1
    refine ⟨rfl, ?_⟩
    refine ⟨rfl, ?_⟩
    refine u_Waits_add_c36 N 36 (I 26 2) I J _ _ (fun I2 J2 hv => ?_) hv
    refine ⟨rfl, ?_⟩
    refine u_Reader_goOn N  I2 J2 _ _ (fun r3 I4 J4 hv => ?_) hv
    refine ⟨fun q5 => ?_, fun q5 => ?_⟩
    · have hv := hv.1 q5
      exact hK11 z0 (x3 + (1 : Int32)) I4 J4 hv
    · have hv := hv.2 q5
      exact ⟨Or.inl rfl, hQ _ _ _ hv⟩
theorem u_Reader_readSum_11_c36 (N k : Nat) (x2 : Int32) (x3 : Int32) (I : zI) (J : zJ) (Q : Int32 → zI → zJ → Prop) (Q' : Int32 → qH → Prop) (hQ : ∀ (r : Int32) (I : zI) (J : zJ), Q r I J → Q' r (zH I J)) (K94 : zI → zJ → Prop) (K94' : Nat → Nat → qH → Prop) (hK94 : ∀  (I : zI) (J : zJ), K94  I J → K94' 26 36 (zH I J)) (hv : v_Reader_readSum_11 N k 36 x2 x3 I J Q K94) : w_Reader_readSum_11 N k 26 36 x2 x3 (zH I J) Q' K94' := by
  induction k generalizing x2 x3 I J with
  | zero => exact hv.elim
  | succ k ih =>
    rw [w_Reader_readSum_11]
    rw [v_Reader_readSum_11] at hv
    refine ⟨fun q1 => ?_, fun q1 => ?_⟩
    · have hv := hv.1 q1
      exact hK94 I J hv
    · have hv := hv.2 q1
      refine ⟨fun q2 => ?_, fun q2 => ?_⟩
      · have hv := hv.1 q2
        exact hK94 I J hv
      · have hv := hv.2 q2
        refine ⟨rfl, ?_⟩
        refine u_Reader_readOpening N  I J _ _ (fun r3 I4 J4 hv => ?_) hv
        refine ⟨fun q5 => ?_, fun q5 => ?_⟩
        · have hv := hv.1 q5
          exact ⟨Or.inl rfl, hQ _ _ _ hv⟩
        · have hv := hv.2 q5
          refine ⟨rfl, ?_⟩
          refine u_Reader_readOperand_c36 N 36 I4 J4 _ _ (fun r6 I7 J7 hv => ?_) hv
          refine ⟨fun q8 => ?_, fun q8 => ?_⟩
          · have hv := hv.1 q8
            exact ⟨Or.inl rfl, hQ _ _ _ hv⟩
          · have hv := hv.2 q8
            refine ⟨rfl, ?_⟩
            refine u_Reader_readClosing_c36 N 36 I7 J7 _ _ (fun r9 I10 J10 hv => ?_) hv
            refine ⟨fun q11 => ?_, fun q11 => ?_⟩
            · have hv := hv.1 q11
              refine ⟨rfl, ?_⟩
              refine u_Waits_strengthOf N (I10 26 2) I10 J10 _ _ (fun r12 I13 J13 hv => ?_) hv
              refine ⟨fun q14 => ?_, fun q14 => ?_⟩
              · have hv := hv.1 q14
                exact u_Reader_readSum_62_c36 N x3 (0 : Int32) I13 J13 Q _ hQ _ _ (fun x2 x3 I J hv => ih x2 x3 I J hv)  hv
              · have hv := hv.2 q14
                exact u_Reader_readSum_62_c36 N x3 (1 : Int32) I13 J13 Q _ hQ _ _ (fun x2 x3 I J hv => ih x2 x3 I J hv)  hv
            · have hv := hv.2 q11
              exact ⟨Or.inl rfl, hQ _ _ _ hv⟩
theorem u_Reader_readSum_94_c36 (N : Nat)  (I : zI) (J : zJ) (Q : Int32 → zI → zJ → Prop) (Q' : Int32 → qH → Prop) (hQ : ∀ (r : Int32) (I : zI) (J : zJ), Q r I J → Q' r (zH I J)) (hv : v_Reader_readSum_94 N 36 I J Q ) : w_Reader_readSum_94 N 26 36 (zH I J) Q'  := by
  unfold w_Reader_readSum_94
  unfold v_Reader_readSum_94 at hv
  refine ⟨rfl, ?_⟩
  refine ⟨rfl, ?_⟩
  refine u_Waits_letGo_c36 N 36 (1 : Int32) I J _ _ (fun I1 J1 hv => ?_) hv
  refine ⟨rfl, ?_⟩
  refine ⟨rfl, ?_⟩
  refine ⟨fun q2 => ?_, fun q2 => ?_⟩
  · have hv := hv.1 q2
    exact ⟨Or.inr rfl, hQ _ _ _ hv⟩
  · have hv := hv.2 q2
    refine u_Reader_fails N (1 : Int32) I1 J1 _ _ (fun r3 I4 J4 hv => ?_) hv
    refine ⟨fun q5 => ?_, fun q5 => ?_⟩
    · have hv := hv.1 q5
      exact ⟨Or.inl rfl, hQ _ _ _ hv⟩
    · have hv := hv.2 q5
      exact ⟨Or.inr rfl, hQ _ _ _ hv⟩
theorem u_Reader_readSum_c36 (N : Nat) (_x1 : Nat) (I : zI) (J : zJ) (Q : Int32 → zI → zJ → Prop) (Q' : Int32 → qH → Prop) (hQ : ∀ (r : Int32) (I : zI) (J : zJ), Q r I J → Q' r (zH I J)) (hv : v_Reader_readSum N 36 I J Q) : w_Reader_readSum N 26 36 (zH I J) Q' := by
  unfold w_Reader_readSum
  unfold v_Reader_readSum at hv
  refine ⟨rfl, ?_⟩
  refine ⟨rfl, ?_⟩
  refine u_Waits_begin N  I J _ _ (fun I1 J1 hv => ?_) hv
  refine u_Reader_readSum_11_c36 N N (0 : Int32) (0 : Int32) I1 J1 Q _ hQ _ _ (fun I2 J2 hv => ?_)  hv
  exact u_Reader_readSum_94_c36 N  I2 J2 Q _ hQ   hv
theorem u_Reader_readSum_62_c39 (N : Nat) (x3 : Int32) (z0 : Int32) (I : zI) (J : zJ) (Q : Int32 → zI → zJ → Prop) (Q' : Int32 → qH → Prop) (hQ : ∀ (r : Int32) (I : zI) (J : zJ), Q r I J → Q' r (zH I J)) (K11 : Int32 → Int32 → zI → zJ → Prop) (K11' : Nat → Nat → Int32 → Int32 → qH → Prop) (hK11 : ∀ (x2 : Int32) (x3 : Int32) (I : zI) (J : zJ), K11 x2 x3 I J → K11' 26 39 x2 x3 (zH I J)) (hv : v_Reader_readSum_62 N 39 x3 z0 I J Q K11) : w_Reader_readSum_62 N 26 39 x3 z0 (zH I J) Q' K11' := by
  unfold w_Reader_readSum_62
  unfold v_Reader_readSum_62 at hv
  refine ⟨fun q1 => ?_, fun q1 => ?_⟩
  · have hv := hv.1 q1
    exact hK11 z0 (x3 + (1 : Int32)) I J hv
  · have hv := hv.2 q1
    refine ⟨rfl, ?_⟩
    refine ⟨rfl, ?_⟩
    refine u_Waits_add_c39 N 39 (I 26 2) I J _ _ (fun I2 J2 hv => ?_) hv
    refine ⟨rfl, ?_⟩
    refine u_Reader_goOn N  I2 J2 _ _ (fun r3 I4 J4 hv => ?_) hv
    refine ⟨fun q5 => ?_, fun q5 => ?_⟩
    · have hv := hv.1 q5
      exact hK11 z0 (x3 + (1 : Int32)) I4 J4 hv
    · have hv := hv.2 q5
      exact ⟨Or.inl rfl, hQ _ _ _ hv⟩
theorem u_Reader_readSum_11_c39 (N k : Nat) (x2 : Int32) (x3 : Int32) (I : zI) (J : zJ) (Q : Int32 → zI → zJ → Prop) (Q' : Int32 → qH → Prop) (hQ : ∀ (r : Int32) (I : zI) (J : zJ), Q r I J → Q' r (zH I J)) (K94 : zI → zJ → Prop) (K94' : Nat → Nat → qH → Prop) (hK94 : ∀  (I : zI) (J : zJ), K94  I J → K94' 26 39 (zH I J)) (hv : v_Reader_readSum_11 N k 39 x2 x3 I J Q K94) : w_Reader_readSum_11 N k 26 39 x2 x3 (zH I J) Q' K94' := by
  induction k generalizing x2 x3 I J with
  | zero => exact hv.elim
  | succ k ih =>
    rw [w_Reader_readSum_11]
    rw [v_Reader_readSum_11] at hv
    refine ⟨fun q1 => ?_, fun q1 => ?_⟩
    · have hv := hv.1 q1
      exact hK94 I J hv
    · have hv := hv.2 q1
      refine ⟨fun q2 => ?_, fun q2 => ?_⟩
      · have hv := hv.1 q2
        exact hK94 I J hv
      · have hv := hv.2 q2
        refine ⟨rfl, ?_⟩
        refine u_Reader_readOpening N  I J _ _ (fun r3 I4 J4 hv => ?_) hv
        refine ⟨fun q5 => ?_, fun q5 => ?_⟩
        · have hv := hv.1 q5
          exact ⟨Or.inl rfl, hQ _ _ _ hv⟩
        · have hv := hv.2 q5
          refine ⟨rfl, ?_⟩
          refine u_Reader_readOperand_c39 N 39 I4 J4 _ _ (fun r6 I7 J7 hv => ?_) hv
          refine ⟨fun q8 => ?_, fun q8 => ?_⟩
          · have hv := hv.1 q8
            exact ⟨Or.inl rfl, hQ _ _ _ hv⟩
          · have hv := hv.2 q8
            refine ⟨rfl, ?_⟩
            refine u_Reader_readClosing_c39 N 39 I7 J7 _ _ (fun r9 I10 J10 hv => ?_) hv
            refine ⟨fun q11 => ?_, fun q11 => ?_⟩
            · have hv := hv.1 q11
              refine ⟨rfl, ?_⟩
              refine u_Waits_strengthOf N (I10 26 2) I10 J10 _ _ (fun r12 I13 J13 hv => ?_) hv
              refine ⟨fun q14 => ?_, fun q14 => ?_⟩
              · have hv := hv.1 q14
                exact u_Reader_readSum_62_c39 N x3 (0 : Int32) I13 J13 Q _ hQ _ _ (fun x2 x3 I J hv => ih x2 x3 I J hv)  hv
              · have hv := hv.2 q14
                exact u_Reader_readSum_62_c39 N x3 (1 : Int32) I13 J13 Q _ hQ _ _ (fun x2 x3 I J hv => ih x2 x3 I J hv)  hv
            · have hv := hv.2 q11
              exact ⟨Or.inl rfl, hQ _ _ _ hv⟩
theorem u_Reader_readSum_94_c39 (N : Nat)  (I : zI) (J : zJ) (Q : Int32 → zI → zJ → Prop) (Q' : Int32 → qH → Prop) (hQ : ∀ (r : Int32) (I : zI) (J : zJ), Q r I J → Q' r (zH I J)) (hv : v_Reader_readSum_94 N 39 I J Q ) : w_Reader_readSum_94 N 26 39 (zH I J) Q'  := by
  unfold w_Reader_readSum_94
  unfold v_Reader_readSum_94 at hv
  refine ⟨rfl, ?_⟩
  refine ⟨rfl, ?_⟩
  refine u_Waits_letGo_c39 N 39 (1 : Int32) I J _ _ (fun I1 J1 hv => ?_) hv
  refine ⟨rfl, ?_⟩
  refine ⟨rfl, ?_⟩
  refine ⟨fun q2 => ?_, fun q2 => ?_⟩
  · have hv := hv.1 q2
    exact ⟨Or.inr rfl, hQ _ _ _ hv⟩
  · have hv := hv.2 q2
    refine u_Reader_fails N (1 : Int32) I1 J1 _ _ (fun r3 I4 J4 hv => ?_) hv
    refine ⟨fun q5 => ?_, fun q5 => ?_⟩
    · have hv := hv.1 q5
      exact ⟨Or.inl rfl, hQ _ _ _ hv⟩
    · have hv := hv.2 q5
      exact ⟨Or.inr rfl, hQ _ _ _ hv⟩
theorem u_Reader_readSum_c39 (N : Nat) (_x1 : Nat) (I : zI) (J : zJ) (Q : Int32 → zI → zJ → Prop) (Q' : Int32 → qH → Prop) (hQ : ∀ (r : Int32) (I : zI) (J : zJ), Q r I J → Q' r (zH I J)) (hv : v_Reader_readSum N 39 I J Q) : w_Reader_readSum N 26 39 (zH I J) Q' := by
  unfold w_Reader_readSum
  unfold v_Reader_readSum at hv
  refine ⟨rfl, ?_⟩
  refine ⟨rfl, ?_⟩
  refine u_Waits_begin N  I J _ _ (fun I1 J1 hv => ?_) hv
  refine u_Reader_readSum_11_c39 N N (0 : Int32) (0 : Int32) I1 J1 Q _ hQ _ _ (fun I2 J2 hv => ?_)  hv
  exact u_Reader_readSum_94_c39 N  I2 J2 Q _ hQ   hv
theorem u_Reader_readSum_62_c42 (N : Nat) (x3 : Int32) (z0 : Int32) (I : zI) (J : zJ) (Q : Int32 → zI → zJ → Prop) (Q' : Int32 → qH → Prop) (hQ : ∀ (r : Int32) (I : zI) (J : zJ), Q r I J → Q' r (zH I J)) (K11 : Int32 → Int32 → zI → zJ → Prop) (K11' : Nat → Nat → Int32 → Int32 → qH → Prop) (hK11 : ∀ (x2 : Int32) (x3 : Int32) (I : zI) (J : zJ), K11 x2 x3 I J → K11' 26 42 x2 x3 (zH I J)) (hv : v_Reader_readSum_62 N 42 x3 z0 I J Q K11) : w_Reader_readSum_62 N 26 42 x3 z0 (zH I J) Q' K11' := by
  unfold w_Reader_readSum_62
  unfold v_Reader_readSum_62 at hv
  refine ⟨fun q1 => ?_, fun q1 => ?_⟩
  · have hv := hv.1 q1
    exact hK11 z0 (x3 + (1 : Int32)) I J hv
  · have hv := hv.2 q1
    refine ⟨rfl, ?_⟩
    refine ⟨rfl, ?_⟩
    refine u_Waits_add_c42 N 42 (I 26 2) I J _ _ (fun I2 J2 hv => ?_) hv
    refine ⟨rfl, ?_⟩
    refine u_Reader_goOn N  I2 J2 _ _ (fun r3 I4 J4 hv => ?_) hv
    refine ⟨fun q5 => ?_, fun q5 => ?_⟩
    · have hv := hv.1 q5
      exact hK11 z0 (x3 + (1 : Int32)) I4 J4 hv
    · have hv := hv.2 q5
      exact ⟨Or.inl rfl, hQ _ _ _ hv⟩
theorem u_Reader_readSum_11_c42 (N k : Nat) (x2 : Int32) (x3 : Int32) (I : zI) (J : zJ) (Q : Int32 → zI → zJ → Prop) (Q' : Int32 → qH → Prop) (hQ : ∀ (r : Int32) (I : zI) (J : zJ), Q r I J → Q' r (zH I J)) (K94 : zI → zJ → Prop) (K94' : Nat → Nat → qH → Prop) (hK94 : ∀  (I : zI) (J : zJ), K94  I J → K94' 26 42 (zH I J)) (hv : v_Reader_readSum_11 N k 42 x2 x3 I J Q K94) : w_Reader_readSum_11 N k 26 42 x2 x3 (zH I J) Q' K94' := by
  induction k generalizing x2 x3 I J with
  | zero => exact hv.elim
  | succ k ih =>
    rw [w_Reader_readSum_11]
    rw [v_Reader_readSum_11] at hv
    refine ⟨fun q1 => ?_, fun q1 => ?_⟩
    · have hv := hv.1 q1
      exact hK94 I J hv
    · have hv := hv.2 q1
      refine ⟨fun q2 => ?_, fun q2 => ?_⟩
      · have hv := hv.1 q2
        exact hK94 I J hv
      · have hv := hv.2 q2
        refine ⟨rfl, ?_⟩
        refine u_Reader_readOpening N  I J _ _ (fun r3 I4 J4 hv => ?_) hv
        refine ⟨fun q5 => ?_, fun q5 => ?_⟩
        · have hv := hv.1 q5
          exact ⟨Or.inl rfl, hQ _ _ _ hv⟩
        · have hv := hv.2 q5
          refine ⟨rfl, ?_⟩
          refine u_Reader_readOperand_c42 N 42 I4 J4 _ _ (fun r6 I7 J7 hv => ?_) hv
          refine ⟨fun q8 => ?_, fun q8 => ?_⟩
          · have hv := hv.1 q8
            exact ⟨Or.inl rfl, hQ _ _ _ hv⟩
          · have hv := hv.2 q8
            refine ⟨rfl, ?_⟩
            refine u_Reader_readClosing_c42 N 42 I7 J7 _ _ (fun r9 I10 J10 hv => ?_) hv
            refine ⟨fun q11 => ?_, fun q11 => ?_⟩
            · have hv := hv.1 q11
              refine ⟨rfl, ?_⟩
              refine u_Waits_strengthOf N (I10 26 2) I10 J10 _ _ (fun r12 I13 J13 hv => ?_) hv
              refine ⟨fun q14 => ?_, fun q14 => ?_⟩
              · have hv := hv.1 q14
                exact u_Reader_readSum_62_c42 N x3 (0 : Int32) I13 J13 Q _ hQ _ _ (fun x2 x3 I J hv => ih x2 x3 I J hv)  hv
              · have hv := hv.2 q14
                exact u_Reader_readSum_62_c42 N x3 (1 : Int32) I13 J13 Q _ hQ _ _ (fun x2 x3 I J hv => ih x2 x3 I J hv)  hv
            · have hv := hv.2 q11
              exact ⟨Or.inl rfl, hQ _ _ _ hv⟩
theorem u_Reader_readSum_94_c42 (N : Nat)  (I : zI) (J : zJ) (Q : Int32 → zI → zJ → Prop) (Q' : Int32 → qH → Prop) (hQ : ∀ (r : Int32) (I : zI) (J : zJ), Q r I J → Q' r (zH I J)) (hv : v_Reader_readSum_94 N 42 I J Q ) : w_Reader_readSum_94 N 26 42 (zH I J) Q'  := by
  unfold w_Reader_readSum_94
  unfold v_Reader_readSum_94 at hv
  refine ⟨rfl, ?_⟩
  refine ⟨rfl, ?_⟩
  refine u_Waits_letGo_c42 N 42 (1 : Int32) I J _ _ (fun I1 J1 hv => ?_) hv
  refine ⟨rfl, ?_⟩
  refine ⟨rfl, ?_⟩
  refine ⟨fun q2 => ?_, fun q2 => ?_⟩
  · have hv := hv.1 q2
    exact ⟨Or.inr rfl, hQ _ _ _ hv⟩
  · have hv := hv.2 q2
    refine u_Reader_fails N (1 : Int32) I1 J1 _ _ (fun r3 I4 J4 hv => ?_) hv
    refine ⟨fun q5 => ?_, fun q5 => ?_⟩
    · have hv := hv.1 q5
      exact ⟨Or.inl rfl, hQ _ _ _ hv⟩
    · have hv := hv.2 q5
      exact ⟨Or.inr rfl, hQ _ _ _ hv⟩
theorem u_Reader_readSum_c42 (N : Nat) (_x1 : Nat) (I : zI) (J : zJ) (Q : Int32 → zI → zJ → Prop) (Q' : Int32 → qH → Prop) (hQ : ∀ (r : Int32) (I : zI) (J : zJ), Q r I J → Q' r (zH I J)) (hv : v_Reader_readSum N 42 I J Q) : w_Reader_readSum N 26 42 (zH I J) Q' := by
  unfold w_Reader_readSum
  unfold v_Reader_readSum at hv
  refine ⟨rfl, ?_⟩
  refine ⟨rfl, ?_⟩
  refine u_Waits_begin N  I J _ _ (fun I1 J1 hv => ?_) hv
  refine u_Reader_readSum_11_c42 N N (0 : Int32) (0 : Int32) I1 J1 Q _ hQ _ _ (fun I2 J2 hv => ?_)  hv
  exact u_Reader_readSum_94_c42 N  I2 J2 Q _ hQ   hv
theorem u_Reader_readIf_c33 (N : Nat) (_x1 : Nat) (I : zI) (J : zJ) (Q : Int32 → zI → zJ → Prop) (Q' : Int32 → qH → Prop) (hQ : ∀ (r : Int32) (I : zI) (J : zJ), Q r I J → Q' r (zH I J)) (hv : v_Reader_readIf N 33 I J Q) : w_Reader_readIf N 26 33 (zH I J) Q' := by
  unfold w_Reader_readIf
  unfold v_Reader_readIf at hv
  refine ⟨rfl, ?_⟩
  refine u_Reader_goOn N  I J _ _ (fun r1 I2 J2 hv => ?_) hv
  refine ⟨fun q3 => ?_, fun q3 => ?_⟩
  · have hv := hv.1 q3
    exact ⟨Or.inl rfl, hQ _ _ _ hv⟩
  · have hv := hv.2 q3
    refine ⟨rfl, ?_⟩
    refine u_Reader_readSum_c33 N 33 I2 J2 _ _ (fun r4 I5 J5 hv => ?_) hv
    refine ⟨fun q6 => ?_, fun q6 => ?_⟩
    · have hv := hv.1 q6
      exact ⟨Or.inl rfl, hQ _ _ _ hv⟩
    · have hv := hv.2 q6
      refine ⟨rfl, ?_⟩
      refine u_Reader_pass N (60 : Int32) I5 J5 _ _ (fun r7 I8 J8 hv => ?_) hv
      refine ⟨fun q9 => ?_, fun q9 => ?_⟩
      · have hv := hv.1 q9
        refine ⟨rfl, ?_⟩
        refine u_Reader_readSum_c33 N 33 I8 J8 _ _ (fun r10 I11 J11 hv => ?_) hv
        refine ⟨fun q12 => ?_, fun q12 => ?_⟩
        · have hv := hv.1 q12
          exact ⟨Or.inl rfl, hQ _ _ _ hv⟩
        · have hv := hv.2 q12
          refine ⟨rfl, ?_⟩
          refine u_Reader_pass N (266 : Int32) I11 J11 _ _ (fun r13 I14 J14 hv => ?_) hv
          refine ⟨fun q15 => ?_, fun q15 => ?_⟩
          · have hv := hv.1 q15
            refine ⟨rfl, ?_⟩
            intro y16 ey16
            have hv := hv y16 ey16
            refine u_Law_add_c33 N 33 (3 : Int32) (0 : Int32) I14 J14 _ _ (fun I17 J17 hv => ?_) hv
            refine ⟨rfl, ?_⟩
            refine u_Reader_readSum_c33 N 33 I17 J17 _ _ (fun r18 I19 J19 hv => ?_) hv
            refine ⟨fun q20 => ?_, fun q20 => ?_⟩
            · have hv := hv.1 q20
              exact ⟨Or.inl rfl, hQ _ _ _ hv⟩
            · have hv := hv.2 q20
              refine ⟨rfl, ?_⟩
              refine u_Reader_pass N (267 : Int32) I19 J19 _ _ (fun r21 I22 J22 hv => ?_) hv
              refine ⟨fun q23 => ?_, fun q23 => ?_⟩
              · have hv := hv.1 q23
                refine ⟨rfl, ?_⟩
                refine u_Law_add_c33 N 33 (4 : Int32) (0 : Int32) I22 J22 _ _ (fun I24 J24 hv => ?_) hv
                refine ⟨rfl, ?_⟩
                refine u_Law_aimAtEnd_c33 N 33 y16 I24 J24 _ _ (fun I25 J25 hv => ?_) hv
                exact ⟨Or.inr rfl, hQ _ _ _ hv⟩
              · have hv := hv.2 q23
                exact ⟨Or.inl rfl, hQ _ _ _ hv⟩
          · have hv := hv.2 q15
            exact ⟨Or.inl rfl, hQ _ _ _ hv⟩
      · have hv := hv.2 q9
        exact ⟨Or.inl rfl, hQ _ _ _ hv⟩
theorem u_Reader_readIf_c36 (N : Nat) (_x1 : Nat) (I : zI) (J : zJ) (Q : Int32 → zI → zJ → Prop) (Q' : Int32 → qH → Prop) (hQ : ∀ (r : Int32) (I : zI) (J : zJ), Q r I J → Q' r (zH I J)) (hv : v_Reader_readIf N 36 I J Q) : w_Reader_readIf N 26 36 (zH I J) Q' := by
  unfold w_Reader_readIf
  unfold v_Reader_readIf at hv
  refine ⟨rfl, ?_⟩
  refine u_Reader_goOn N  I J _ _ (fun r1 I2 J2 hv => ?_) hv
  refine ⟨fun q3 => ?_, fun q3 => ?_⟩
  · have hv := hv.1 q3
    exact ⟨Or.inl rfl, hQ _ _ _ hv⟩
  · have hv := hv.2 q3
    refine ⟨rfl, ?_⟩
    refine u_Reader_readSum_c36 N 36 I2 J2 _ _ (fun r4 I5 J5 hv => ?_) hv
    refine ⟨fun q6 => ?_, fun q6 => ?_⟩
    · have hv := hv.1 q6
      exact ⟨Or.inl rfl, hQ _ _ _ hv⟩
    · have hv := hv.2 q6
      refine ⟨rfl, ?_⟩
      refine u_Reader_pass N (60 : Int32) I5 J5 _ _ (fun r7 I8 J8 hv => ?_) hv
      refine ⟨fun q9 => ?_, fun q9 => ?_⟩
      · have hv := hv.1 q9
        refine ⟨rfl, ?_⟩
        refine u_Reader_readSum_c36 N 36 I8 J8 _ _ (fun r10 I11 J11 hv => ?_) hv
        refine ⟨fun q12 => ?_, fun q12 => ?_⟩
        · have hv := hv.1 q12
          exact ⟨Or.inl rfl, hQ _ _ _ hv⟩
        · have hv := hv.2 q12
          refine ⟨rfl, ?_⟩
          refine u_Reader_pass N (266 : Int32) I11 J11 _ _ (fun r13 I14 J14 hv => ?_) hv
          refine ⟨fun q15 => ?_, fun q15 => ?_⟩
          · have hv := hv.1 q15
            refine ⟨rfl, ?_⟩
            intro y16 ey16
            have hv := hv y16 ey16
            refine u_Law_add_c36 N 36 (3 : Int32) (0 : Int32) I14 J14 _ _ (fun I17 J17 hv => ?_) hv
            refine ⟨rfl, ?_⟩
            refine u_Reader_readSum_c36 N 36 I17 J17 _ _ (fun r18 I19 J19 hv => ?_) hv
            refine ⟨fun q20 => ?_, fun q20 => ?_⟩
            · have hv := hv.1 q20
              exact ⟨Or.inl rfl, hQ _ _ _ hv⟩
            · have hv := hv.2 q20
              refine ⟨rfl, ?_⟩
              refine u_Reader_pass N (267 : Int32) I19 J19 _ _ (fun r21 I22 J22 hv => ?_) hv
              refine ⟨fun q23 => ?_, fun q23 => ?_⟩
              · have hv := hv.1 q23
                refine ⟨rfl, ?_⟩
                refine u_Law_add_c36 N 36 (4 : Int32) (0 : Int32) I22 J22 _ _ (fun I24 J24 hv => ?_) hv
                refine ⟨rfl, ?_⟩
                refine u_Law_aimAtEnd_c36 N 36 y16 I24 J24 _ _ (fun I25 J25 hv => ?_) hv
                exact ⟨Or.inr rfl, hQ _ _ _ hv⟩
              · have hv := hv.2 q23
                exact ⟨Or.inl rfl, hQ _ _ _ hv⟩
          · have hv := hv.2 q15
            exact ⟨Or.inl rfl, hQ _ _ _ hv⟩
      · have hv := hv.2 q9
        exact ⟨Or.inl rfl, hQ _ _ _ hv⟩
theorem u_Reader_readIf_c39 (N : Nat) (_x1 : Nat) (I : zI) (J : zJ) (Q : Int32 → zI → zJ → Prop) (Q' : Int32 → qH → Prop) (hQ : ∀ (r : Int32) (I : zI) (J : zJ), Q r I J → Q' r (zH I J)) (hv : v_Reader_readIf N 39 I J Q) : w_Reader_readIf N 26 39 (zH I J) Q' := by
  unfold w_Reader_readIf
  unfold v_Reader_readIf at hv
  refine ⟨rfl, ?_⟩
  refine u_Reader_goOn N  I J _ _ (fun r1 I2 J2 hv => ?_) hv
  refine ⟨fun q3 => ?_, fun q3 => ?_⟩
  · have hv := hv.1 q3
    exact ⟨Or.inl rfl, hQ _ _ _ hv⟩
  · have hv := hv.2 q3
    refine ⟨rfl, ?_⟩
    refine u_Reader_readSum_c39 N 39 I2 J2 _ _ (fun r4 I5 J5 hv => ?_) hv
    refine ⟨fun q6 => ?_, fun q6 => ?_⟩
    · have hv := hv.1 q6
      exact ⟨Or.inl rfl, hQ _ _ _ hv⟩
    · have hv := hv.2 q6
      refine ⟨rfl, ?_⟩
      refine u_Reader_pass N (60 : Int32) I5 J5 _ _ (fun r7 I8 J8 hv => ?_) hv
      refine ⟨fun q9 => ?_, fun q9 => ?_⟩
      · have hv := hv.1 q9
        refine ⟨rfl, ?_⟩
        refine u_Reader_readSum_c39 N 39 I8 J8 _ _ (fun r10 I11 J11 hv => ?_) hv
        refine ⟨fun q12 => ?_, fun q12 => ?_⟩
        · have hv := hv.1 q12
          exact ⟨Or.inl rfl, hQ _ _ _ hv⟩
        · have hv := hv.2 q12
          refine ⟨rfl, ?_⟩
          refine u_Reader_pass N (266 : Int32) I11 J11 _ _ (fun r13 I14 J14 hv => ?_) hv
          refine ⟨fun q15 => ?_, fun q15 => ?_⟩
          · have hv := hv.1 q15
            refine ⟨rfl, ?_⟩
            intro y16 ey16
            have hv := hv y16 ey16
            refine u_Law_add_c39 N 39 (3 : Int32) (0 : Int32) I14 J14 _ _ (fun I17 J17 hv => ?_) hv
            refine ⟨rfl, ?_⟩
            refine u_Reader_readSum_c39 N 39 I17 J17 _ _ (fun r18 I19 J19 hv => ?_) hv
            refine ⟨fun q20 => ?_, fun q20 => ?_⟩
            · have hv := hv.1 q20
              exact ⟨Or.inl rfl, hQ _ _ _ hv⟩
            · have hv := hv.2 q20
              refine ⟨rfl, ?_⟩
              refine u_Reader_pass N (267 : Int32) I19 J19 _ _ (fun r21 I22 J22 hv => ?_) hv
              refine ⟨fun q23 => ?_, fun q23 => ?_⟩
              · have hv := hv.1 q23
                refine ⟨rfl, ?_⟩
                refine u_Law_add_c39 N 39 (4 : Int32) (0 : Int32) I22 J22 _ _ (fun I24 J24 hv => ?_) hv
                refine ⟨rfl, ?_⟩
                refine u_Law_aimAtEnd_c39 N 39 y16 I24 J24 _ _ (fun I25 J25 hv => ?_) hv
                exact ⟨Or.inr rfl, hQ _ _ _ hv⟩
              · have hv := hv.2 q23
                exact ⟨Or.inl rfl, hQ _ _ _ hv⟩
          · have hv := hv.2 q15
            exact ⟨Or.inl rfl, hQ _ _ _ hv⟩
      · have hv := hv.2 q9
        exact ⟨Or.inl rfl, hQ _ _ _ hv⟩
theorem u_Reader_readIf_c42 (N : Nat) (_x1 : Nat) (I : zI) (J : zJ) (Q : Int32 → zI → zJ → Prop) (Q' : Int32 → qH → Prop) (hQ : ∀ (r : Int32) (I : zI) (J : zJ), Q r I J → Q' r (zH I J)) (hv : v_Reader_readIf N 42 I J Q) : w_Reader_readIf N 26 42 (zH I J) Q' := by
  unfold w_Reader_readIf
  unfold v_Reader_readIf at hv
  refine ⟨rfl, ?_⟩
  refine u_Reader_goOn N  I J _ _ (fun r1 I2 J2 hv => ?_) hv
  refine ⟨fun q3 => ?_, fun q3 => ?_⟩
  · have hv := hv.1 q3
    exact ⟨Or.inl rfl, hQ _ _ _ hv⟩
  · have hv := hv.2 q3
    refine ⟨rfl, ?_⟩
    refine u_Reader_readSum_c42 N 42 I2 J2 _ _ (fun r4 I5 J5 hv => ?_) hv
    refine ⟨fun q6 => ?_, fun q6 => ?_⟩
    · have hv := hv.1 q6
      exact ⟨Or.inl rfl, hQ _ _ _ hv⟩
    · have hv := hv.2 q6
      refine ⟨rfl, ?_⟩
      refine u_Reader_pass N (60 : Int32) I5 J5 _ _ (fun r7 I8 J8 hv => ?_) hv
      refine ⟨fun q9 => ?_, fun q9 => ?_⟩
      · have hv := hv.1 q9
        refine ⟨rfl, ?_⟩
        refine u_Reader_readSum_c42 N 42 I8 J8 _ _ (fun r10 I11 J11 hv => ?_) hv
        refine ⟨fun q12 => ?_, fun q12 => ?_⟩
        · have hv := hv.1 q12
          exact ⟨Or.inl rfl, hQ _ _ _ hv⟩
        · have hv := hv.2 q12
          refine ⟨rfl, ?_⟩
          refine u_Reader_pass N (266 : Int32) I11 J11 _ _ (fun r13 I14 J14 hv => ?_) hv
          refine ⟨fun q15 => ?_, fun q15 => ?_⟩
          · have hv := hv.1 q15
            refine ⟨rfl, ?_⟩
            intro y16 ey16
            have hv := hv y16 ey16
            refine u_Law_add_c42 N 42 (3 : Int32) (0 : Int32) I14 J14 _ _ (fun I17 J17 hv => ?_) hv
            refine ⟨rfl, ?_⟩
            refine u_Reader_readSum_c42 N 42 I17 J17 _ _ (fun r18 I19 J19 hv => ?_) hv
            refine ⟨fun q20 => ?_, fun q20 => ?_⟩
            · have hv := hv.1 q20
              exact ⟨Or.inl rfl, hQ _ _ _ hv⟩
            · have hv := hv.2 q20
              refine ⟨rfl, ?_⟩
              refine u_Reader_pass N (267 : Int32) I19 J19 _ _ (fun r21 I22 J22 hv => ?_) hv
              refine ⟨fun q23 => ?_, fun q23 => ?_⟩
              · have hv := hv.1 q23
                refine ⟨rfl, ?_⟩
                refine u_Law_add_c42 N 42 (4 : Int32) (0 : Int32) I22 J22 _ _ (fun I24 J24 hv => ?_) hv
                refine ⟨rfl, ?_⟩
                refine u_Law_aimAtEnd_c42 N 42 y16 I24 J24 _ _ (fun I25 J25 hv => ?_) hv
                exact ⟨Or.inr rfl, hQ _ _ _ hv⟩
              · have hv := hv.2 q23
                exact ⟨Or.inl rfl, hQ _ _ _ hv⟩
          · have hv := hv.2 q15
            exact ⟨Or.inl rfl, hQ _ _ _ hv⟩
      · have hv := hv.2 q9
        exact ⟨Or.inl rfl, hQ _ _ _ hv⟩
theorem u_Reader_readLaw_25_c33 (N k : Nat) (x2 : Int32) (I : zI) (J : zJ) (Q : Int32 → zI → zJ → Prop) (Q' : Int32 → qH → Prop) (hQ : ∀ (r : Int32) (I : zI) (J : zJ), Q r I J → Q' r (zH I J)) (K67 : zI → zJ → Prop) (K67' : Nat → Nat → qH → Prop) (hK67 : ∀  (I : zI) (J : zJ), K67  I J → K67' 26 33 (zH I J)) (hv : v_Reader_readLaw_25 N k 33 x2 I J Q K67) : w_Reader_readLaw_25 N k 26 33 x2 (zH I J) Q' K67' := by
  induction k generalizing x2 I J with
  | zero => exact hv.elim
  | succ k ih =>
    rw [w_Reader_readLaw_25]
    rw [v_Reader_readLaw_25] at hv
    refine ⟨fun q1 => ?_, fun q1 => ?_⟩
    · have hv := hv.1 q1
      exact hK67 I J hv
    · have hv := hv.2 q1
      refine ⟨rfl, ?_⟩
      refine ⟨fun q2 => ?_, fun q2 => ?_⟩
      · have hv := hv.1 q2
        exact hK67 I J hv
      · have hv := hv.2 q2
        refine ⟨fun q3 => ?_, fun q3 => ?_⟩
        · have hv := hv.1 q3
          refine u_Reader_readIf_c33 N 33 I J _ _ (fun r4 I5 J5 hv => ?_) hv
          refine ⟨fun q6 => ?_, fun q6 => ?_⟩
          · have hv := hv.1 q6
            exact ih (x2 + (1 : Int32)) I5 J5 hv
          · have hv := hv.2 q6
            exact ⟨Or.inl rfl, hQ _ _ _ hv⟩
        · have hv := hv.2 q3
          refine u_Reader_fails N (2 : Int32) I J _ _ (fun r7 I8 J8 hv => ?_) hv
          exact ⟨hv.1, hQ _ _ _ hv.2⟩
theorem u_Reader_readLaw_67_c33 (N : Nat)  (I : zI) (J : zJ) (Q : Int32 → zI → zJ → Prop) (Q' : Int32 → qH → Prop) (hQ : ∀ (r : Int32) (I : zI) (J : zJ), Q r I J → Q' r (zH I J)) (hv : v_Reader_readLaw_67 N 33 I J Q ) : w_Reader_readLaw_67 N 26 33 (zH I J) Q'  := by
  unfold w_Reader_readLaw_67
  unfold v_Reader_readLaw_67 at hv
  refine ⟨rfl, ?_⟩
  refine u_Reader_readSum_c33 N 33 I J _ _ (fun r1 I2 J2 hv => ?_) hv
  refine ⟨fun q3 => ?_, fun q3 => ?_⟩
  · have hv := hv.1 q3
    refine ⟨rfl, ?_⟩
    refine u_Law_add_c33 N 33 (4 : Int32) (0 : Int32) I2 J2 _ _ (fun I4 J4 hv => ?_) hv
    refine ⟨rfl, ?_⟩
    refine u_Reader_pass N (59 : Int32) I4 J4 _ _ (fun r5 I6 J6 hv => ?_) hv
    exact ⟨hv.1, hQ _ _ _ hv.2⟩
  · have hv := hv.2 q3
    exact ⟨Or.inl rfl, hQ _ _ _ hv⟩
theorem u_Reader_readLaw_c33 (N : Nat) (_x1 : Nat) (I : zI) (J : zJ) (Q : Int32 → zI → zJ → Prop) (Q' : Int32 → qH → Prop) (hQ : ∀ (r : Int32) (I : zI) (J : zJ), Q r I J → Q' r (zH I J)) (hv : v_Reader_readLaw N 33 I J Q) : w_Reader_readLaw N 26 33 (zH I J) Q' := by
  unfold w_Reader_readLaw
  unfold v_Reader_readLaw at hv
  refine ⟨rfl, ?_⟩
  obtain ⟨I1, eI1⟩ : ∃ z, z = qu I 33 2 (0 : Int32) := ⟨_, rfl⟩
  have hv := hv I1 eI1
  intro h1 eh1
  have eh1 : h1 = zH I1 J := by rw [eh1, eI1]; rfl
  subst eh1
  refine ⟨rfl, ?_⟩
  refine u_Reader_goOn N  I1 J _ _ (fun r2 I3 J3 hv => ?_) hv
  refine ⟨fun q4 => ?_, fun q4 => ?_⟩
  · have hv := hv.1 q4
    exact ⟨Or.inl rfl, hQ _ _ _ hv⟩
  · have hv := hv.2 q4
    refine ⟨rfl, ?_⟩
    refine u_Reader_pass N (61 : Int32) I3 J3 _ _ (fun r5 I6 J6 hv => ?_) hv
    refine ⟨fun q7 => ?_, fun q7 => ?_⟩
    · have hv := hv.1 q7
      refine u_Reader_readLaw_25_c33 N N (0 : Int32) I6 J6 Q _ hQ _ _ (fun I8 J8 hv => ?_)  hv
      exact u_Reader_readLaw_67_c33 N  I8 J8 Q _ hQ   hv
    · have hv := hv.2 q7
      exact ⟨Or.inl rfl, hQ _ _ _ hv⟩
theorem u_Reader_readLaw_25_c36 (N k : Nat) (x2 : Int32) (I : zI) (J : zJ) (Q : Int32 → zI → zJ → Prop) (Q' : Int32 → qH → Prop) (hQ : ∀ (r : Int32) (I : zI) (J : zJ), Q r I J → Q' r (zH I J)) (K67 : zI → zJ → Prop) (K67' : Nat → Nat → qH → Prop) (hK67 : ∀  (I : zI) (J : zJ), K67  I J → K67' 26 36 (zH I J)) (hv : v_Reader_readLaw_25 N k 36 x2 I J Q K67) : w_Reader_readLaw_25 N k 26 36 x2 (zH I J) Q' K67' := by
  induction k generalizing x2 I J with
  | zero => exact hv.elim
  | succ k ih =>
    rw [w_Reader_readLaw_25]
    rw [v_Reader_readLaw_25] at hv
    refine ⟨fun q1 => ?_, fun q1 => ?_⟩
    · have hv := hv.1 q1
      exact hK67 I J hv
    · have hv := hv.2 q1
      refine ⟨rfl, ?_⟩
      refine ⟨fun q2 => ?_, fun q2 => ?_⟩
      · have hv := hv.1 q2
        exact hK67 I J hv
      · have hv := hv.2 q2
        refine ⟨fun q3 => ?_, fun q3 => ?_⟩
        · have hv := hv.1 q3
          refine u_Reader_readIf_c36 N 36 I J _ _ (fun r4 I5 J5 hv => ?_) hv
          refine ⟨fun q6 => ?_, fun q6 => ?_⟩
          · have hv := hv.1 q6
            exact ih (x2 + (1 : Int32)) I5 J5 hv
          · have hv := hv.2 q6
            exact ⟨Or.inl rfl, hQ _ _ _ hv⟩
        · have hv := hv.2 q3
          refine u_Reader_fails N (2 : Int32) I J _ _ (fun r7 I8 J8 hv => ?_) hv
          exact ⟨hv.1, hQ _ _ _ hv.2⟩
theorem u_Reader_readLaw_67_c36 (N : Nat)  (I : zI) (J : zJ) (Q : Int32 → zI → zJ → Prop) (Q' : Int32 → qH → Prop) (hQ : ∀ (r : Int32) (I : zI) (J : zJ), Q r I J → Q' r (zH I J)) (hv : v_Reader_readLaw_67 N 36 I J Q ) : w_Reader_readLaw_67 N 26 36 (zH I J) Q'  := by
  unfold w_Reader_readLaw_67
  unfold v_Reader_readLaw_67 at hv
  refine ⟨rfl, ?_⟩
  refine u_Reader_readSum_c36 N 36 I J _ _ (fun r1 I2 J2 hv => ?_) hv
  refine ⟨fun q3 => ?_, fun q3 => ?_⟩
  · have hv := hv.1 q3
    refine ⟨rfl, ?_⟩
    refine u_Law_add_c36 N 36 (4 : Int32) (0 : Int32) I2 J2 _ _ (fun I4 J4 hv => ?_) hv
    refine ⟨rfl, ?_⟩
    refine u_Reader_pass N (59 : Int32) I4 J4 _ _ (fun r5 I6 J6 hv => ?_) hv
    exact ⟨hv.1, hQ _ _ _ hv.2⟩
  · have hv := hv.2 q3
    exact ⟨Or.inl rfl, hQ _ _ _ hv⟩
theorem u_Reader_readLaw_c36 (N : Nat) (_x1 : Nat) (I : zI) (J : zJ) (Q : Int32 → zI → zJ → Prop) (Q' : Int32 → qH → Prop) (hQ : ∀ (r : Int32) (I : zI) (J : zJ), Q r I J → Q' r (zH I J)) (hv : v_Reader_readLaw N 36 I J Q) : w_Reader_readLaw N 26 36 (zH I J) Q' := by
  unfold w_Reader_readLaw
  unfold v_Reader_readLaw at hv
  refine ⟨rfl, ?_⟩
  obtain ⟨I1, eI1⟩ : ∃ z, z = qu I 36 2 (0 : Int32) := ⟨_, rfl⟩
  have hv := hv I1 eI1
  intro h1 eh1
  have eh1 : h1 = zH I1 J := by rw [eh1, eI1]; rfl
  subst eh1
  refine ⟨rfl, ?_⟩
  refine u_Reader_goOn N  I1 J _ _ (fun r2 I3 J3 hv => ?_) hv
  refine ⟨fun q4 => ?_, fun q4 => ?_⟩
  · have hv := hv.1 q4
    exact ⟨Or.inl rfl, hQ _ _ _ hv⟩
  · have hv := hv.2 q4
    refine ⟨rfl, ?_⟩
    refine u_Reader_pass N (61 : Int32) I3 J3 _ _ (fun r5 I6 J6 hv => ?_) hv
    refine ⟨fun q7 => ?_, fun q7 => ?_⟩
    · have hv := hv.1 q7
      refine u_Reader_readLaw_25_c36 N N (0 : Int32) I6 J6 Q _ hQ _ _ (fun I8 J8 hv => ?_)  hv
      exact u_Reader_readLaw_67_c36 N  I8 J8 Q _ hQ   hv
    · have hv := hv.2 q7
      exact ⟨Or.inl rfl, hQ _ _ _ hv⟩
theorem u_Reader_readLaw_25_c39 (N k : Nat) (x2 : Int32) (I : zI) (J : zJ) (Q : Int32 → zI → zJ → Prop) (Q' : Int32 → qH → Prop) (hQ : ∀ (r : Int32) (I : zI) (J : zJ), Q r I J → Q' r (zH I J)) (K67 : zI → zJ → Prop) (K67' : Nat → Nat → qH → Prop) (hK67 : ∀  (I : zI) (J : zJ), K67  I J → K67' 26 39 (zH I J)) (hv : v_Reader_readLaw_25 N k 39 x2 I J Q K67) : w_Reader_readLaw_25 N k 26 39 x2 (zH I J) Q' K67' := by
  induction k generalizing x2 I J with
  | zero => exact hv.elim
  | succ k ih =>
    rw [w_Reader_readLaw_25]
    rw [v_Reader_readLaw_25] at hv
    refine ⟨fun q1 => ?_, fun q1 => ?_⟩
    · have hv := hv.1 q1
      exact hK67 I J hv
    · have hv := hv.2 q1
      refine ⟨rfl, ?_⟩
      refine ⟨fun q2 => ?_, fun q2 => ?_⟩
      · have hv := hv.1 q2
        exact hK67 I J hv
      · have hv := hv.2 q2
        refine ⟨fun q3 => ?_, fun q3 => ?_⟩
        · have hv := hv.1 q3
          refine u_Reader_readIf_c39 N 39 I J _ _ (fun r4 I5 J5 hv => ?_) hv
          refine ⟨fun q6 => ?_, fun q6 => ?_⟩
          · have hv := hv.1 q6
            exact ih (x2 + (1 : Int32)) I5 J5 hv
          · have hv := hv.2 q6
            exact ⟨Or.inl rfl, hQ _ _ _ hv⟩
        · have hv := hv.2 q3
          refine u_Reader_fails N (2 : Int32) I J _ _ (fun r7 I8 J8 hv => ?_) hv
          exact ⟨hv.1, hQ _ _ _ hv.2⟩
theorem u_Reader_readLaw_67_c39 (N : Nat)  (I : zI) (J : zJ) (Q : Int32 → zI → zJ → Prop) (Q' : Int32 → qH → Prop) (hQ : ∀ (r : Int32) (I : zI) (J : zJ), Q r I J → Q' r (zH I J)) (hv : v_Reader_readLaw_67 N 39 I J Q ) : w_Reader_readLaw_67 N 26 39 (zH I J) Q'  := by
  unfold w_Reader_readLaw_67
  unfold v_Reader_readLaw_67 at hv
  refine ⟨rfl, ?_⟩
  refine u_Reader_readSum_c39 N 39 I J _ _ (fun r1 I2 J2 hv => ?_) hv
  refine ⟨fun q3 => ?_, fun q3 => ?_⟩
  · have hv := hv.1 q3
    refine ⟨rfl, ?_⟩
    refine u_Law_add_c39 N 39 (4 : Int32) (0 : Int32) I2 J2 _ _ (fun I4 J4 hv => ?_) hv
    refine ⟨rfl, ?_⟩
    refine u_Reader_pass N (59 : Int32) I4 J4 _ _ (fun r5 I6 J6 hv => ?_) hv
    exact ⟨hv.1, hQ _ _ _ hv.2⟩
  · have hv := hv.2 q3
    exact ⟨Or.inl rfl, hQ _ _ _ hv⟩
theorem u_Reader_readLaw_c39 (N : Nat) (_x1 : Nat) (I : zI) (J : zJ) (Q : Int32 → zI → zJ → Prop) (Q' : Int32 → qH → Prop) (hQ : ∀ (r : Int32) (I : zI) (J : zJ), Q r I J → Q' r (zH I J)) (hv : v_Reader_readLaw N 39 I J Q) : w_Reader_readLaw N 26 39 (zH I J) Q' := by
  unfold w_Reader_readLaw
  unfold v_Reader_readLaw at hv
  refine ⟨rfl, ?_⟩
  obtain ⟨I1, eI1⟩ : ∃ z, z = qu I 39 2 (0 : Int32) := ⟨_, rfl⟩
  have hv := hv I1 eI1
  intro h1 eh1
  have eh1 : h1 = zH I1 J := by rw [eh1, eI1]; rfl
  subst eh1
  refine ⟨rfl, ?_⟩
  refine u_Reader_goOn N  I1 J _ _ (fun r2 I3 J3 hv => ?_) hv
  refine ⟨fun q4 => ?_, fun q4 => ?_⟩
  · have hv := hv.1 q4
    exact ⟨Or.inl rfl, hQ _ _ _ hv⟩
  · have hv := hv.2 q4
    refine ⟨rfl, ?_⟩
    refine u_Reader_pass N (61 : Int32) I3 J3 _ _ (fun r5 I6 J6 hv => ?_) hv
    refine ⟨fun q7 => ?_, fun q7 => ?_⟩
    · have hv := hv.1 q7
      refine u_Reader_readLaw_25_c39 N N (0 : Int32) I6 J6 Q _ hQ _ _ (fun I8 J8 hv => ?_)  hv
      exact u_Reader_readLaw_67_c39 N  I8 J8 Q _ hQ   hv
    · have hv := hv.2 q7
      exact ⟨Or.inl rfl, hQ _ _ _ hv⟩
theorem u_Reader_readLaw_25_c42 (N k : Nat) (x2 : Int32) (I : zI) (J : zJ) (Q : Int32 → zI → zJ → Prop) (Q' : Int32 → qH → Prop) (hQ : ∀ (r : Int32) (I : zI) (J : zJ), Q r I J → Q' r (zH I J)) (K67 : zI → zJ → Prop) (K67' : Nat → Nat → qH → Prop) (hK67 : ∀  (I : zI) (J : zJ), K67  I J → K67' 26 42 (zH I J)) (hv : v_Reader_readLaw_25 N k 42 x2 I J Q K67) : w_Reader_readLaw_25 N k 26 42 x2 (zH I J) Q' K67' := by
  induction k generalizing x2 I J with
  | zero => exact hv.elim
  | succ k ih =>
    rw [w_Reader_readLaw_25]
    rw [v_Reader_readLaw_25] at hv
    refine ⟨fun q1 => ?_, fun q1 => ?_⟩
    · have hv := hv.1 q1
      exact hK67 I J hv
    · have hv := hv.2 q1
      refine ⟨rfl, ?_⟩
      refine ⟨fun q2 => ?_, fun q2 => ?_⟩
      · have hv := hv.1 q2
        exact hK67 I J hv
      · have hv := hv.2 q2
        refine ⟨fun q3 => ?_, fun q3 => ?_⟩
        · have hv := hv.1 q3
          refine u_Reader_readIf_c42 N 42 I J _ _ (fun r4 I5 J5 hv => ?_) hv
          refine ⟨fun q6 => ?_, fun q6 => ?_⟩
          · have hv := hv.1 q6
            exact ih (x2 + (1 : Int32)) I5 J5 hv
          · have hv := hv.2 q6
            exact ⟨Or.inl rfl, hQ _ _ _ hv⟩
        · have hv := hv.2 q3
          refine u_Reader_fails N (2 : Int32) I J _ _ (fun r7 I8 J8 hv => ?_) hv
          exact ⟨hv.1, hQ _ _ _ hv.2⟩
theorem u_Reader_readLaw_67_c42 (N : Nat)  (I : zI) (J : zJ) (Q : Int32 → zI → zJ → Prop) (Q' : Int32 → qH → Prop) (hQ : ∀ (r : Int32) (I : zI) (J : zJ), Q r I J → Q' r (zH I J)) (hv : v_Reader_readLaw_67 N 42 I J Q ) : w_Reader_readLaw_67 N 26 42 (zH I J) Q'  := by
  unfold w_Reader_readLaw_67
  unfold v_Reader_readLaw_67 at hv
  refine ⟨rfl, ?_⟩
  refine u_Reader_readSum_c42 N 42 I J _ _ (fun r1 I2 J2 hv => ?_) hv
  refine ⟨fun q3 => ?_, fun q3 => ?_⟩
  · have hv := hv.1 q3
    refine ⟨rfl, ?_⟩
    refine u_Law_add_c42 N 42 (4 : Int32) (0 : Int32) I2 J2 _ _ (fun I4 J4 hv => ?_) hv
    refine ⟨rfl, ?_⟩
    refine u_Reader_pass N (59 : Int32) I4 J4 _ _ (fun r5 I6 J6 hv => ?_) hv
    exact ⟨hv.1, hQ _ _ _ hv.2⟩
  · have hv := hv.2 q3
    exact ⟨Or.inl rfl, hQ _ _ _ hv⟩
theorem u_Reader_readLaw_c42 (N : Nat) (_x1 : Nat) (I : zI) (J : zJ) (Q : Int32 → zI → zJ → Prop) (Q' : Int32 → qH → Prop) (hQ : ∀ (r : Int32) (I : zI) (J : zJ), Q r I J → Q' r (zH I J)) (hv : v_Reader_readLaw N 42 I J Q) : w_Reader_readLaw N 26 42 (zH I J) Q' := by
  unfold w_Reader_readLaw
  unfold v_Reader_readLaw at hv
  refine ⟨rfl, ?_⟩
  obtain ⟨I1, eI1⟩ : ∃ z, z = qu I 42 2 (0 : Int32) := ⟨_, rfl⟩
  have hv := hv I1 eI1
  intro h1 eh1
  have eh1 : h1 = zH I1 J := by rw [eh1, eI1]; rfl
  subst eh1
  refine ⟨rfl, ?_⟩
  refine u_Reader_goOn N  I1 J _ _ (fun r2 I3 J3 hv => ?_) hv
  refine ⟨fun q4 => ?_, fun q4 => ?_⟩
  · have hv := hv.1 q4
    exact ⟨Or.inl rfl, hQ _ _ _ hv⟩
  · have hv := hv.2 q4
    refine ⟨rfl, ?_⟩
    refine u_Reader_pass N (61 : Int32) I3 J3 _ _ (fun r5 I6 J6 hv => ?_) hv
    refine ⟨fun q7 => ?_, fun q7 => ?_⟩
    · have hv := hv.1 q7
      refine u_Reader_readLaw_25_c42 N N (0 : Int32) I6 J6 Q _ hQ _ _ (fun I8 J8 hv => ?_)  hv
      exact u_Reader_readLaw_67_c42 N  I8 J8 Q _ hQ   hv
    · have hv := hv.2 q7
      exact ⟨Or.inl rfl, hQ _ _ _ hv⟩
theorem u_Reader_indexOf_2_c45 (N k : Nat) (x2 : Int32) (x3 : Int32) (I : zI) (J : zJ) (Q : Int32 → zI → zJ → Prop) (Q' : Int32 → qH → Prop) (hQ : ∀ (r : Int32) (I : zI) (J : zJ), Q r I J → Q' r (zH I J)) (hv : v_Reader_indexOf_2 N k 45 x2 x3 I J Q ) : w_Reader_indexOf_2 N k 26 45 x2 x3 (zH I J) Q'  := by
  induction k generalizing x2 x3 I J with
  | zero => exact hv.elim
  | succ k ih =>
    rw [w_Reader_indexOf_2]
    rw [v_Reader_indexOf_2] at hv
    refine ⟨fun q1 => ?_, fun q1 => ?_⟩
    · have hv := hv.1 q1
      exact hQ _ _ _ hv
    · have hv := hv.2 q1
      refine ⟨7, rfl, ?_⟩
      refine ⟨fun q4 => ?_, fun q4 => ?_⟩
      · have hv := hv.1 q4
        exact hQ _ _ _ hv
      · have hv := hv.2 q4
        obtain ⟨g5, hv⟩ := hv
        refine ⟨qok_mk rfl g5, ?_⟩
        refine ⟨rfl, ?_⟩
        refine ⟨fun q6 => ?_, fun q6 => ?_⟩
        · have hv := hv.1 q6
          exact ih x2 (x3 + (1 : Int32)) I J hv
        · have hv := hv.2 q6
          exact hQ _ _ _ hv
theorem u_Reader_indexOf_c45 (N : Nat) (_x1 : Nat) (x2 : Int32) (I : zI) (J : zJ) (Q : Int32 → zI → zJ → Prop) (Q' : Int32 → qH → Prop) (hQ : ∀ (r : Int32) (I : zI) (J : zJ), Q r I J → Q' r (zH I J)) (hv : v_Reader_indexOf N 45 x2 I J Q) : w_Reader_indexOf N 26 45 x2 (zH I J) Q' := by
  unfold w_Reader_indexOf
  unfold v_Reader_indexOf at hv
  exact u_Reader_indexOf_2_c45 N N x2 (0 : Int32) I J Q _ hQ   hv
theorem u_Reader_indexOf_2_c46 (N k : Nat) (x2 : Int32) (x3 : Int32) (I : zI) (J : zJ) (Q : Int32 → zI → zJ → Prop) (Q' : Int32 → qH → Prop) (hQ : ∀ (r : Int32) (I : zI) (J : zJ), Q r I J → Q' r (zH I J)) (hv : v_Reader_indexOf_2 N k 46 x2 x3 I J Q ) : w_Reader_indexOf_2 N k 26 46 x2 x3 (zH I J) Q'  := by
  induction k generalizing x2 x3 I J with
  | zero => exact hv.elim
  | succ k ih =>
    rw [w_Reader_indexOf_2]
    rw [v_Reader_indexOf_2] at hv
    refine ⟨fun q1 => ?_, fun q1 => ?_⟩
    · have hv := hv.1 q1
      exact hQ _ _ _ hv
    · have hv := hv.2 q1
      refine ⟨6, rfl, ?_⟩
      refine ⟨fun q4 => ?_, fun q4 => ?_⟩
      · have hv := hv.1 q4
        exact hQ _ _ _ hv
      · have hv := hv.2 q4
        obtain ⟨g5, hv⟩ := hv
        refine ⟨qok_mk rfl g5, ?_⟩
        refine ⟨rfl, ?_⟩
        refine ⟨fun q6 => ?_, fun q6 => ?_⟩
        · have hv := hv.1 q6
          exact ih x2 (x3 + (1 : Int32)) I J hv
        · have hv := hv.2 q6
          exact hQ _ _ _ hv
theorem u_Reader_indexOf_c46 (N : Nat) (_x1 : Nat) (x2 : Int32) (I : zI) (J : zJ) (Q : Int32 → zI → zJ → Prop) (Q' : Int32 → qH → Prop) (hQ : ∀ (r : Int32) (I : zI) (J : zJ), Q r I J → Q' r (zH I J)) (hv : v_Reader_indexOf N 46 x2 I J Q) : w_Reader_indexOf N 26 46 x2 (zH I J) Q' := by
  unfold w_Reader_indexOf
  unfold v_Reader_indexOf at hv
  exact u_Reader_indexOf_2_c46 N N x2 (0 : Int32) I J Q _ hQ   hv
theorem u_Reader_isNameTold (N : Nat)  (I : zI) (J : zJ) (Q : Int32 → zI → zJ → Prop) (Q' : Int32 → qH → Prop) (hQ : ∀ (r : Int32) (I : zI) (J : zJ), Q r I J → Q' r (zH I J)) (hv : v_Reader_isNameTold N  I J Q) : w_Reader_isNameTold N 26 (zH I J) Q' := by
  unfold w_Reader_isNameTold
  unfold v_Reader_isNameTold at hv
  refine ⟨rfl, ?_⟩
  refine ⟨rfl, ?_⟩
  refine u_Reader_indexOf_c45 N 45 (I 27 0) I J _ _ (fun r1 I2 J2 hv => ?_) hv
  refine ⟨fun q3 => ?_, fun q3 => ?_⟩
  · have hv := hv.1 q3
    exact ⟨Or.inr rfl, hQ _ _ _ hv⟩
  · have hv := hv.2 q3
    refine ⟨rfl, ?_⟩
    refine ⟨rfl, ?_⟩
    refine u_Reader_indexOf_c46 N 46 (I2 27 3) I2 J2 _ _ (fun r4 I5 J5 hv => ?_) hv
    refine ⟨fun q6 => ?_, fun q6 => ?_⟩
    · have hv := hv.1 q6
      exact ⟨Or.inl rfl, hQ _ _ _ hv⟩
    · have hv := hv.2 q6
      exact ⟨Or.inr rfl, hQ _ _ _ hv⟩
theorem u_Reader_keepFault (N : Nat) (x1 : Int32) (I : zI) (J : zJ) (Q : zI → zJ → Prop) (Q' : qH → Prop) (hQ : ∀ (I : zI) (J : zJ), Q I J → Q' (zH I J)) (hv : v_Reader_keepFault N x1 I J Q) : w_Reader_keepFault N 26 x1 (zH I J) Q' := by
  unfold w_Reader_keepFault
  unfold v_Reader_keepFault at hv
  refine ⟨rfl, ?_⟩
  refine ⟨fun q1 => ?_, fun q1 => ?_⟩
  · have hv := hv.1 q1
    exact hQ _ _ hv
  · have hv := hv.2 q1
    obtain ⟨I2, eI2⟩ : ∃ z, z = qu I 26 10 x1 := ⟨_, rfl⟩
    have hv := hv I2 eI2
    intro h2 eh2
    have eh2 : h2 = zH I2 J := by rw [eh2, eI2]; rfl
    subst eh2
    refine ⟨rfl, ?_⟩
    refine ⟨rfl, ?_⟩
    obtain ⟨g3, hv⟩ := hv
    refine ⟨qok_mk rfl g3, ?_⟩
    obtain ⟨I4, eI4⟩ : ∃ z, z = qu I2 26 11 (I2 6 ((I2 26 1)).toNatClampNeg) := ⟨_, rfl⟩
    have hv := hv I4 eI4
    intro h4 eh4
    have eh4 : h4 = zH I4 J := by rw [eh4, eI4]; rfl
    subst eh4
    exact hQ _ _ hv
theorem u_Reader_readNewName_20_c45 (N : Nat) (x2 : Int32) (I : zI) (J : zJ) (Q : Int32 → zI → zJ → Prop) (Q' : Int32 → qH → Prop) (hQ : ∀ (r : Int32) (I : zI) (J : zJ), Q r I J → Q' r (zH I J)) (hv : v_Reader_readNewName_20 N 45 x2 I J Q ) : w_Reader_readNewName_20 N 26 45 x2 (zH I J) Q'  := by
  unfold w_Reader_readNewName_20
  unfold v_Reader_readNewName_20 at hv
  refine ⟨fun q1 => ?_, fun q1 => ?_⟩
  · have hv := hv.1 q1
    refine ⟨rfl, ?_⟩
    refine u_Reader_pass N (3 : Int32) I J _ _ (fun r2 I3 J3 hv => ?_) hv
    exact ⟨hv.1, hQ _ _ _ hv.2⟩
  · have hv := hv.2 q1
    refine ⟨7, rfl, ?_⟩
    refine ⟨fun q6 => ?_, fun q6 => ?_⟩
    · have hv := hv.1 q6
      refine ⟨rfl, ?_⟩
      refine u_Reader_pass N (3 : Int32) I J _ _ (fun r7 I8 J8 hv => ?_) hv
      exact ⟨hv.1, hQ _ _ _ hv.2⟩
    · have hv := hv.2 q6
      refine ⟨rfl, ?_⟩
      obtain ⟨g9, hv⟩ := hv
      refine ⟨qok_mk rfl g9, ?_⟩
      obtain ⟨J10, eJ10⟩ : ∃ z, z = qu J 45 (x2).toNatClampNeg (J 26 3) := ⟨_, rfl⟩
      have hv := hv J10 eJ10
      intro h10 eh10
      have eh10 : h10 = zH I J10 := by rw [eh10, eJ10]; rfl
      subst eh10
      refine ⟨rfl, ?_⟩
      refine u_Reader_pass N (3 : Int32) I J10 _ _ (fun r11 I12 J12 hv => ?_) hv
      exact ⟨hv.1, hQ _ _ _ hv.2⟩
theorem u_Reader_readNewName_c45 (N : Nat) (_x1 : Nat) (x2 : Int32) (I : zI) (J : zJ) (Q : Int32 → zI → zJ → Prop) (Q' : Int32 → qH → Prop) (hQ : ∀ (r : Int32) (I : zI) (J : zJ), Q r I J → Q' r (zH I J)) (hv : v_Reader_readNewName N 45 x2 I J Q) : w_Reader_readNewName N 26 45 x2 (zH I J) Q' := by
  unfold w_Reader_readNewName
  unfold v_Reader_readNewName at hv
  refine ⟨rfl, ?_⟩
  refine ⟨fun q1 => ?_, fun q1 => ?_⟩
  · have hv := hv.1 q1
    exact u_Reader_readNewName_20_c45 N x2 I J Q _ hQ   hv
  · have hv := hv.2 q1
    refine u_Reader_isNameTold N  I J _ _ (fun r2 I3 J3 hv => ?_) hv
    refine ⟨fun q4 => ?_, fun q4 => ?_⟩
    · have hv := hv.1 q4
      exact u_Reader_readNewName_20_c45 N x2 I3 J3 Q _ hQ   hv
    · have hv := hv.2 q4
      refine ⟨rfl, ?_⟩
      refine u_Reader_keepFault N (3 : Int32) I3 J3 _ _ (fun I5 J5 hv => ?_) hv
      exact u_Reader_readNewName_20_c45 N x2 I5 J5 Q _ hQ   hv
theorem u_Reader_readNewName_20_c46 (N : Nat) (x2 : Int32) (I : zI) (J : zJ) (Q : Int32 → zI → zJ → Prop) (Q' : Int32 → qH → Prop) (hQ : ∀ (r : Int32) (I : zI) (J : zJ), Q r I J → Q' r (zH I J)) (hv : v_Reader_readNewName_20 N 46 x2 I J Q ) : w_Reader_readNewName_20 N 26 46 x2 (zH I J) Q'  := by
  unfold w_Reader_readNewName_20
  unfold v_Reader_readNewName_20 at hv
  refine ⟨fun q1 => ?_, fun q1 => ?_⟩
  · have hv := hv.1 q1
    refine ⟨rfl, ?_⟩
    refine u_Reader_pass N (3 : Int32) I J _ _ (fun r2 I3 J3 hv => ?_) hv
    exact ⟨hv.1, hQ _ _ _ hv.2⟩
  · have hv := hv.2 q1
    refine ⟨6, rfl, ?_⟩
    refine ⟨fun q6 => ?_, fun q6 => ?_⟩
    · have hv := hv.1 q6
      refine ⟨rfl, ?_⟩
      refine u_Reader_pass N (3 : Int32) I J _ _ (fun r7 I8 J8 hv => ?_) hv
      exact ⟨hv.1, hQ _ _ _ hv.2⟩
    · have hv := hv.2 q6
      refine ⟨rfl, ?_⟩
      obtain ⟨g9, hv⟩ := hv
      refine ⟨qok_mk rfl g9, ?_⟩
      obtain ⟨J10, eJ10⟩ : ∃ z, z = qu J 46 (x2).toNatClampNeg (J 26 3) := ⟨_, rfl⟩
      have hv := hv J10 eJ10
      intro h10 eh10
      have eh10 : h10 = zH I J10 := by rw [eh10, eJ10]; rfl
      subst eh10
      refine ⟨rfl, ?_⟩
      refine u_Reader_pass N (3 : Int32) I J10 _ _ (fun r11 I12 J12 hv => ?_) hv
      exact ⟨hv.1, hQ _ _ _ hv.2⟩
theorem u_Reader_readNewName_c46 (N : Nat) (_x1 : Nat) (x2 : Int32) (I : zI) (J : zJ) (Q : Int32 → zI → zJ → Prop) (Q' : Int32 → qH → Prop) (hQ : ∀ (r : Int32) (I : zI) (J : zJ), Q r I J → Q' r (zH I J)) (hv : v_Reader_readNewName N 46 x2 I J Q) : w_Reader_readNewName N 26 46 x2 (zH I J) Q' := by
  unfold w_Reader_readNewName
  unfold v_Reader_readNewName at hv
  refine ⟨rfl, ?_⟩
  refine ⟨fun q1 => ?_, fun q1 => ?_⟩
  · have hv := hv.1 q1
    exact u_Reader_readNewName_20_c46 N x2 I J Q _ hQ   hv
  · have hv := hv.2 q1
    refine u_Reader_isNameTold N  I J _ _ (fun r2 I3 J3 hv => ?_) hv
    refine ⟨fun q4 => ?_, fun q4 => ?_⟩
    · have hv := hv.1 q4
      exact u_Reader_readNewName_20_c46 N x2 I3 J3 Q _ hQ   hv
    · have hv := hv.2 q4
      refine ⟨rfl, ?_⟩
      refine u_Reader_keepFault N (3 : Int32) I3 J3 _ _ (fun I5 J5 hv => ?_) hv
      exact u_Reader_readNewName_20_c46 N x2 I5 J5 Q _ hQ   hv
theorem u_Reader_readNumber (N : Nat) (x1 : Int32) (I : zI) (J : zJ) (Q : Int32 → zI → zJ → Prop) (Q' : Int32 → qH → Prop) (hQ : ∀ (r : Int32) (I : zI) (J : zJ), Q r I J → Q' r (zH I J)) (hv : v_Reader_readNumber N x1 I J Q) : w_Reader_readNumber N 26 x1 (zH I J) Q' := by
  unfold w_Reader_readNumber
  unfold v_Reader_readNumber at hv
  refine ⟨rfl, ?_⟩
  refine ⟨fun q1 => ?_, fun q1 => ?_⟩
  · have hv := hv.1 q1
    obtain ⟨I2, eI2⟩ : ∃ z, z = qu I 26 4 (((J 26 3)).toInt32) := ⟨_, rfl⟩
    have hv := hv I2 eI2
    intro h2 eh2
    have eh2 : h2 = zH I2 J := by rw [eh2, eI2]; rfl
    subst eh2
    refine ⟨rfl, ?_⟩
    refine u_Reader_pass N (4 : Int32) I2 J _ _ (fun r3 I4 J4 hv => ?_) hv
    exact ⟨hv.1, hQ _ _ _ hv.2⟩
  · have hv := hv.2 q1
    refine ⟨fun q5 => ?_, fun q5 => ?_⟩
    · have hv := hv.1 q5
      obtain ⟨I6, eI6⟩ : ∃ z, z = qu I 26 4 (((J 26 3)).toInt32) := ⟨_, rfl⟩
      have hv := hv I6 eI6
      intro h6 eh6
      have eh6 : h6 = zH I6 J := by rw [eh6, eI6]; rfl
      subst eh6
      refine ⟨rfl, ?_⟩
      refine u_Reader_pass N (4 : Int32) I6 J _ _ (fun r7 I8 J8 hv => ?_) hv
      exact ⟨hv.1, hQ _ _ _ hv.2⟩
    · have hv := hv.2 q5
      refine u_Reader_keepFault N (5 : Int32) I J _ _ (fun I9 J9 hv => ?_) hv
      refine ⟨rfl, ?_⟩
      obtain ⟨I10, eI10⟩ : ∃ z, z = qu I9 26 4 (((J9 26 3)).toInt32) := ⟨_, rfl⟩
      have hv := hv I10 eI10
      intro h10 eh10
      have eh10 : h10 = zH I10 J9 := by rw [eh10, eI10]; rfl
      subst eh10
      refine ⟨rfl, ?_⟩
      refine u_Reader_pass N (4 : Int32) I10 J9 _ _ (fun r11 I12 J12 hv => ?_) hv
      exact ⟨hv.1, hQ _ _ _ hv.2⟩
theorem u_Reader_readHanger (N : Nat)  (I : zI) (J : zJ) (Q : Int32 → zI → zJ → Prop) (Q' : Int32 → qH → Prop) (hQ : ∀ (r : Int32) (I : zI) (J : zJ), Q r I J → Q' r (zH I J)) (hv : v_Reader_readHanger N  I J Q) : w_Reader_readHanger N 26 (zH I J) Q' := by
  unfold w_Reader_readHanger
  unfold v_Reader_readHanger at hv
  refine ⟨rfl, ?_⟩
  refine ⟨rfl, ?_⟩
  intro y1 ey1
  have hv := hv y1 ey1
  refine ⟨fun q2 => ?_, fun q2 => ?_⟩
  · have hv := hv.1 q2
    refine u_Reader_goOn N  I J _ _ (fun r3 I4 J4 hv => ?_) hv
    refine ⟨fun q5 => ?_, fun q5 => ?_⟩
    · have hv := hv.1 q5
      exact ⟨Or.inl rfl, hQ _ _ _ hv⟩
    · have hv := hv.2 q5
      refine ⟨rfl, ?_⟩
      refine u_Reader_readNewName_c45 N 45 y1 I4 J4 _ _ (fun r6 I7 J7 hv => ?_) hv
      refine ⟨fun q8 => ?_, fun q8 => ?_⟩
      · have hv := hv.1 q8
        exact ⟨Or.inl rfl, hQ _ _ _ hv⟩
      · have hv := hv.2 q8
        refine ⟨rfl, ?_⟩
        refine u_Reader_readNumber N (4 : Int32) I7 J7 _ _ (fun r9 I10 J10 hv => ?_) hv
        refine ⟨fun q11 => ?_, fun q11 => ?_⟩
        · have hv := hv.1 q11
          refine ⟨rfl, ?_⟩
          refine ⟨rfl, ?_⟩
          obtain ⟨g12, hv⟩ := hv
          refine ⟨qok_mk rfl g12, ?_⟩
          obtain ⟨I13, eI13⟩ : ∃ z, z = qu I10 28 (y1).toNatClampNeg (I10 26 4) := ⟨_, rfl⟩
          have hv := hv I13 eI13
          intro h13 eh13
          have eh13 : h13 = zH I13 J10 := by rw [eh13, eI13]; rfl
          subst eh13
          refine ⟨rfl, ?_⟩
          refine u_Reader_readNumber N (99 : Int32) I13 J10 _ _ (fun r14 I15 J15 hv => ?_) hv
          refine ⟨fun q16 => ?_, fun q16 => ?_⟩
          · have hv := hv.1 q16
            refine ⟨rfl, ?_⟩
            refine ⟨rfl, ?_⟩
            obtain ⟨g17, hv⟩ := hv
            refine ⟨qok_mk rfl g17, ?_⟩
            obtain ⟨I18, eI18⟩ : ∃ z, z = qu I15 29 (y1).toNatClampNeg (I15 26 4) := ⟨_, rfl⟩
            have hv := hv I18 eI18
            intro h18 eh18
            have eh18 : h18 = zH I18 J15 := by rw [eh18, eI18]; rfl
            subst eh18
            refine ⟨rfl, ?_⟩
            refine ⟨rfl, ?_⟩
            obtain ⟨I19, eI19⟩ : ∃ z, z = qu I18 27 0 ((I18 27 0) + (1 : Int32)) := ⟨_, rfl⟩
            have hv := hv I19 eI19
            intro h19 eh19
            have eh19 : h19 = zH I19 J15 := by rw [eh19, eI19]; rfl
            subst eh19
            refine ⟨rfl, ?_⟩
            refine u_Reader_pass N (59 : Int32) I19 J15 _ _ (fun r20 I21 J21 hv => ?_) hv
            exact ⟨hv.1, hQ _ _ _ hv.2⟩
          · have hv := hv.2 q16
            exact ⟨Or.inl rfl, hQ _ _ _ hv⟩
        · have hv := hv.2 q11
          exact ⟨Or.inl rfl, hQ _ _ _ hv⟩
  · have hv := hv.2 q2
    refine u_Reader_fails N (2 : Int32) I J _ _ (fun r22 I23 J23 hv => ?_) hv
    exact ⟨hv.1, hQ _ _ _ hv.2⟩
theorem u_Reader_hangerNamed (N : Nat)  (I : zI) (J : zJ) (Q : Int32 → zI → zJ → Prop) (Q' : Int32 → qH → Prop) (hQ : ∀ (r : Int32) (I : zI) (J : zJ), Q r I J → Q' r (zH I J)) (hv : v_Reader_hangerNamed N  I J Q) : w_Reader_hangerNamed N 26 (zH I J) Q' := by
  unfold w_Reader_hangerNamed
  unfold v_Reader_hangerNamed at hv
  refine ⟨rfl, ?_⟩
  refine ⟨rfl, ?_⟩
  refine u_Reader_indexOf_c45 N 45 (I 27 0) I J _ _ (fun r1 I2 J2 hv => ?_) hv
  refine ⟨fun q3 => ?_, fun q3 => ?_⟩
  · have hv := hv.1 q3
    refine ⟨rfl, ?_⟩
    refine ⟨rfl, ?_⟩
    refine u_Text_isFirstTaken_c27 N 27 r1 I2 J2 _ _ (fun r4 I5 J5 hv => ?_) hv
    refine ⟨fun q6 => ?_, fun q6 => ?_⟩
    · have hv := hv.1 q6
      exact hQ _ _ _ hv
    · have hv := hv.2 q6
      refine ⟨rfl, ?_⟩
      refine u_Reader_keepFault N (3 : Int32) I5 J5 _ _ (fun I7 J7 hv => ?_) hv
      exact hQ _ _ _ hv
  · have hv := hv.2 q3
    refine ⟨rfl, ?_⟩
    refine u_Reader_keepFault N (4 : Int32) I2 J2 _ _ (fun I8 J8 hv => ?_) hv
    exact hQ _ _ _ hv
theorem u_Reader_personNamed (N : Nat)  (I : zI) (J : zJ) (Q : Int32 → zI → zJ → Prop) (Q' : Int32 → qH → Prop) (hQ : ∀ (r : Int32) (I : zI) (J : zJ), Q r I J → Q' r (zH I J)) (hv : v_Reader_personNamed N  I J Q) : w_Reader_personNamed N 26 (zH I J) Q' := by
  unfold w_Reader_personNamed
  unfold v_Reader_personNamed at hv
  refine ⟨rfl, ?_⟩
  refine ⟨rfl, ?_⟩
  refine u_Reader_indexOf_c46 N 46 (I 27 3) I J _ _ (fun r1 I2 J2 hv => ?_) hv
  refine ⟨fun q3 => ?_, fun q3 => ?_⟩
  · have hv := hv.1 q3
    refine ⟨rfl, ?_⟩
    refine ⟨rfl, ?_⟩
    obtain ⟨g4, hv⟩ := hv
    refine ⟨qok_mk rfl g4, ?_⟩
    refine ⟨fun q5 => ?_, fun q5 => ?_⟩
    · have hv := hv.1 q5
      exact hQ _ _ _ hv
    · have hv := hv.2 q5
      refine u_Reader_keepFault N (3 : Int32) I2 J2 _ _ (fun I6 J6 hv => ?_) hv
      exact hQ _ _ _ hv
  · have hv := hv.2 q3
    refine ⟨rfl, ?_⟩
    refine u_Reader_keepFault N (4 : Int32) I2 J2 _ _ (fun I7 J7 hv => ?_) hv
    exact hQ _ _ _ hv
theorem u_Reader_readHangs (N : Nat)  (I : zI) (J : zJ) (Q : Int32 → zI → zJ → Prop) (Q' : Int32 → qH → Prop) (hQ : ∀ (r : Int32) (I : zI) (J : zJ), Q r I J → Q' r (zH I J)) (hv : v_Reader_readHangs N  I J Q) : w_Reader_readHangs N 26 (zH I J) Q' := by
  unfold w_Reader_readHangs
  unfold v_Reader_readHangs at hv
  refine ⟨rfl, ?_⟩
  refine ⟨fun q1 => ?_, fun q1 => ?_⟩
  · have hv := hv.1 q1
    obtain ⟨I2, eI2⟩ : ∃ z, z = qu I 26 8 ((I 26 8) + (1 : Int32)) := ⟨_, rfl⟩
    have hv := hv I2 eI2
    intro h2 eh2
    have eh2 : h2 = zH I2 J := by rw [eh2, eI2]; rfl
    subst eh2
    refine ⟨rfl, ?_⟩
    refine u_Reader_goOn N  I2 J _ _ (fun r3 I4 J4 hv => ?_) hv
    refine ⟨fun q5 => ?_, fun q5 => ?_⟩
    · have hv := hv.1 q5
      refine ⟨rfl, ?_⟩
      refine u_Reader_personNamed N  I4 J4 _ _ (fun r6 I7 J7 hv => ?_) hv
      refine ⟨rfl, ?_⟩
      refine u_Reader_pass N (3 : Int32) I7 J7 _ _ (fun r8 I9 J9 hv => ?_) hv
      refine ⟨fun q10 => ?_, fun q10 => ?_⟩
      · have hv := hv.1 q10
        refine ⟨rfl, ?_⟩
        refine u_Reader_hangerNamed N  I9 J9 _ _ (fun r11 I12 J12 hv => ?_) hv
        refine ⟨rfl, ?_⟩
        refine u_Reader_pass N (3 : Int32) I12 J12 _ _ (fun r13 I14 J14 hv => ?_) hv
        refine ⟨fun q15 => ?_, fun q15 => ?_⟩
        · have hv := hv.1 q15
          refine ⟨fun q16 => ?_, fun q16 => ?_⟩
          · have hv := hv.1 q16
            refine ⟨rfl, ?_⟩
            refine u_Reader_pass N (59 : Int32) I14 J14 _ _ (fun r17 I18 J18 hv => ?_) hv
            exact ⟨hv.1, hQ _ _ _ hv.2⟩
          · have hv := hv.2 q16
            refine ⟨fun q19 => ?_, fun q19 => ?_⟩
            · have hv := hv.1 q19
              refine ⟨rfl, ?_⟩
              refine u_Reader_pass N (59 : Int32) I14 J14 _ _ (fun r20 I21 J21 hv => ?_) hv
              exact ⟨hv.1, hQ _ _ _ hv.2⟩
            · have hv := hv.2 q19
              refine ⟨rfl, ?_⟩
              refine ⟨rfl, ?_⟩
              obtain ⟨g22, hv⟩ := hv
              refine ⟨qok_mk rfl g22, ?_⟩
              obtain ⟨I23, eI23⟩ : ∃ z, z = qu I14 32 (r6).toNatClampNeg r11 := ⟨_, rfl⟩
              have hv := hv I23 eI23
              intro h23 eh23
              have eh23 : h23 = zH I23 J14 := by rw [eh23, eI23]; rfl
              subst eh23
              refine ⟨rfl, ?_⟩
              refine u_Reader_pass N (59 : Int32) I23 J14 _ _ (fun r24 I25 J25 hv => ?_) hv
              exact ⟨hv.1, hQ _ _ _ hv.2⟩
        · have hv := hv.2 q15
          exact ⟨Or.inl rfl, hQ _ _ _ hv⟩
      · have hv := hv.2 q10
        exact ⟨Or.inl rfl, hQ _ _ _ hv⟩
    · have hv := hv.2 q5
      exact ⟨Or.inl rfl, hQ _ _ _ hv⟩
  · have hv := hv.2 q1
    refine u_Reader_fails N (2 : Int32) I J _ _ (fun r26 I27 J27 hv => ?_) hv
    exact ⟨hv.1, hQ _ _ _ hv.2⟩
theorem u_Reader_readMoth (N : Nat)  (I : zI) (J : zJ) (Q : Int32 → zI → zJ → Prop) (Q' : Int32 → qH → Prop) (hQ : ∀ (r : Int32) (I : zI) (J : zJ), Q r I J → Q' r (zH I J)) (hv : v_Reader_readMoth N  I J Q) : w_Reader_readMoth N 26 (zH I J) Q' := by
  unfold w_Reader_readMoth
  unfold v_Reader_readMoth at hv
  refine ⟨rfl, ?_⟩
  refine u_Reader_goOn N  I J _ _ (fun r1 I2 J2 hv => ?_) hv
  refine ⟨fun q3 => ?_, fun q3 => ?_⟩
  · have hv := hv.1 q3
    exact ⟨Or.inl rfl, hQ _ _ _ hv⟩
  · have hv := hv.2 q3
    refine ⟨rfl, ?_⟩
    refine u_Reader_readNumber N (100 : Int32) I2 J2 _ _ (fun r4 I5 J5 hv => ?_) hv
    refine ⟨fun q6 => ?_, fun q6 => ?_⟩
    · have hv := hv.1 q6
      refine ⟨rfl, ?_⟩
      refine ⟨rfl, ?_⟩
      obtain ⟨I7, eI7⟩ : ∃ z, z = qu I5 27 11 (I5 26 4) := ⟨_, rfl⟩
      have hv := hv I7 eI7
      intro h7 eh7
      have eh7 : h7 = zH I7 J5 := by rw [eh7, eI7]; rfl
      subst eh7
      refine ⟨rfl, ?_⟩
      refine u_Reader_pass N (59 : Int32) I7 J5 _ _ (fun r8 I9 J9 hv => ?_) hv
      exact ⟨hv.1, hQ _ _ _ hv.2⟩
    · have hv := hv.2 q6
      exact ⟨Or.inl rfl, hQ _ _ _ hv⟩
theorem u_Reader_readPerson (N : Nat)  (I : zI) (J : zJ) (Q : Int32 → zI → zJ → Prop) (Q' : Int32 → qH → Prop) (hQ : ∀ (r : Int32) (I : zI) (J : zJ), Q r I J → Q' r (zH I J)) (hv : v_Reader_readPerson N  I J Q) : w_Reader_readPerson N 26 (zH I J) Q' := by
  unfold w_Reader_readPerson
  unfold v_Reader_readPerson at hv
  refine ⟨rfl, ?_⟩
  refine ⟨rfl, ?_⟩
  intro y1 ey1
  have hv := hv y1 ey1
  refine ⟨fun q2 => ?_, fun q2 => ?_⟩
  · have hv := hv.1 q2
    refine u_Reader_goOn N  I J _ _ (fun r3 I4 J4 hv => ?_) hv
    refine ⟨fun q5 => ?_, fun q5 => ?_⟩
    · have hv := hv.1 q5
      exact ⟨Or.inl rfl, hQ _ _ _ hv⟩
    · have hv := hv.2 q5
      refine ⟨rfl, ?_⟩
      refine u_Reader_readNewName_c46 N 46 y1 I4 J4 _ _ (fun r6 I7 J7 hv => ?_) hv
      refine ⟨fun q8 => ?_, fun q8 => ?_⟩
      · have hv := hv.1 q8
        exact ⟨Or.inl rfl, hQ _ _ _ hv⟩
      · have hv := hv.2 q8
        refine ⟨rfl, ?_⟩
        refine u_Reader_readNumber N (99 : Int32) I7 J7 _ _ (fun r9 I10 J10 hv => ?_) hv
        refine ⟨fun q11 => ?_, fun q11 => ?_⟩
        · have hv := hv.1 q11
          refine ⟨rfl, ?_⟩
          refine ⟨rfl, ?_⟩
          obtain ⟨g12, hv⟩ := hv
          refine ⟨qok_mk rfl g12, ?_⟩
          obtain ⟨I13, eI13⟩ : ∃ z, z = qu I10 30 (y1).toNatClampNeg (I10 26 4) := ⟨_, rfl⟩
          have hv := hv I13 eI13
          intro h13 eh13
          have eh13 : h13 = zH I13 J10 := by rw [eh13, eI13]; rfl
          subst eh13
          refine ⟨rfl, ?_⟩
          refine u_Reader_readNumber N (9 : Int32) I13 J10 _ _ (fun r14 I15 J15 hv => ?_) hv
          refine ⟨fun q16 => ?_, fun q16 => ?_⟩
          · have hv := hv.1 q16
            refine ⟨rfl, ?_⟩
            refine ⟨rfl, ?_⟩
            obtain ⟨g17, hv⟩ := hv
            refine ⟨qok_mk rfl g17, ?_⟩
            obtain ⟨I18, eI18⟩ : ∃ z, z = qu I15 31 (y1).toNatClampNeg (I15 26 4) := ⟨_, rfl⟩
            have hv := hv I18 eI18
            intro h18 eh18
            have eh18 : h18 = zH I18 J15 := by rw [eh18, eI18]; rfl
            subst eh18
            refine ⟨rfl, ?_⟩
            refine ⟨rfl, ?_⟩
            obtain ⟨I19, eI19⟩ : ∃ z, z = qu I18 27 3 ((I18 27 3) + (1 : Int32)) := ⟨_, rfl⟩
            have hv := hv I19 eI19
            intro h19 eh19
            have eh19 : h19 = zH I19 J15 := by rw [eh19, eI19]; rfl
            subst eh19
            refine ⟨rfl, ?_⟩
            refine u_Reader_pass N (59 : Int32) I19 J15 _ _ (fun r20 I21 J21 hv => ?_) hv
            exact ⟨hv.1, hQ _ _ _ hv.2⟩
          · have hv := hv.2 q16
            exact ⟨Or.inl rfl, hQ _ _ _ hv⟩
        · have hv := hv.2 q11
          exact ⟨Or.inl rfl, hQ _ _ _ hv⟩
  · have hv := hv.2 q2
    refine u_Reader_fails N (2 : Int32) I J _ _ (fun r22 I23 J23 hv => ?_) hv
    exact ⟨hv.1, hQ _ _ _ hv.2⟩
theorem u_Reader_readSeed (N : Nat)  (I : zI) (J : zJ) (Q : Int32 → zI → zJ → Prop) (Q' : Int32 → qH → Prop) (hQ : ∀ (r : Int32) (I : zI) (J : zJ), Q r I J → Q' r (zH I J)) (hv : v_Reader_readSeed N  I J Q) : w_Reader_readSeed N 26 (zH I J) Q' := by
  unfold w_Reader_readSeed
  unfold v_Reader_readSeed at hv
  refine ⟨rfl, ?_⟩
  refine u_Reader_goOn N  I J _ _ (fun r1 I2 J2 hv => ?_) hv
  refine ⟨fun q3 => ?_, fun q3 => ?_⟩
  · have hv := hv.1 q3
    exact ⟨Or.inl rfl, hQ _ _ _ hv⟩
  · have hv := hv.2 q3
    refine ⟨rfl, ?_⟩
    refine u_Reader_readNumber N (9999 : Int32) I2 J2 _ _ (fun r4 I5 J5 hv => ?_) hv
    refine ⟨fun q6 => ?_, fun q6 => ?_⟩
    · have hv := hv.1 q6
      refine ⟨rfl, ?_⟩
      refine ⟨rfl, ?_⟩
      obtain ⟨I7, eI7⟩ : ∃ z, z = qu I5 27 12 (I5 26 4) := ⟨_, rfl⟩
      have hv := hv I7 eI7
      intro h7 eh7
      have eh7 : h7 = zH I7 J5 := by rw [eh7, eI7]; rfl
      subst eh7
      refine ⟨rfl, ?_⟩
      refine u_Reader_pass N (59 : Int32) I7 J5 _ _ (fun r8 I9 J9 hv => ?_) hv
      exact ⟨hv.1, hQ _ _ _ hv.2⟩
    · have hv := hv.2 q6
      exact ⟨Or.inl rfl, hQ _ _ _ hv⟩
theorem u_Reader_readTell (N : Nat)  (I : zI) (J : zJ) (Q : Int32 → zI → zJ → Prop) (Q' : Int32 → qH → Prop) (hQ : ∀ (r : Int32) (I : zI) (J : zJ), Q r I J → Q' r (zH I J)) (hv : v_Reader_readTell N  I J Q) : w_Reader_readTell N 26 (zH I J) Q' := by
  unfold w_Reader_readTell
  unfold v_Reader_readTell at hv
  refine ⟨rfl, ?_⟩
  intro y1 ey1
  have hv := hv y1 ey1
  refine ⟨fun q2 => ?_, fun q2 => ?_⟩
  · have hv := hv.1 q2
    refine u_Reader_readHanger N  I J _ _ (fun r3 I4 J4 hv => ?_) hv
    exact ⟨hv.1, hQ _ _ _ hv.2⟩
  · have hv := hv.2 q2
    refine ⟨fun q5 => ?_, fun q5 => ?_⟩
    · have hv := hv.1 q5
      refine u_Reader_readPerson N  I J _ _ (fun r6 I7 J7 hv => ?_) hv
      exact ⟨hv.1, hQ _ _ _ hv.2⟩
    · have hv := hv.2 q5
      refine ⟨fun q8 => ?_, fun q8 => ?_⟩
      · have hv := hv.1 q8
        refine u_Reader_readHangs N  I J _ _ (fun r9 I10 J10 hv => ?_) hv
        exact ⟨hv.1, hQ _ _ _ hv.2⟩
      · have hv := hv.2 q8
        refine ⟨fun q11 => ?_, fun q11 => ?_⟩
        · have hv := hv.1 q11
          refine u_Reader_fails N (1 : Int32) I J _ _ (fun r12 I13 J13 hv => ?_) hv
          exact ⟨hv.1, hQ _ _ _ hv.2⟩
        · have hv := hv.2 q11
          refine ⟨fun q14 => ?_, fun q14 => ?_⟩
          · have hv := hv.1 q14
            refine u_Reader_fails N (1 : Int32) I J _ _ (fun r15 I16 J16 hv => ?_) hv
            exact ⟨hv.1, hQ _ _ _ hv.2⟩
          · have hv := hv.2 q14
            refine ⟨fun q17 => ?_, fun q17 => ?_⟩
            · have hv := hv.1 q17
              refine u_Reader_fails N (1 : Int32) I J _ _ (fun r18 I19 J19 hv => ?_) hv
              exact ⟨hv.1, hQ _ _ _ hv.2⟩
            · have hv := hv.2 q17
              refine ⟨fun q20 => ?_, fun q20 => ?_⟩
              · have hv := hv.1 q20
                refine u_Reader_fails N (1 : Int32) I J _ _ (fun r21 I22 J22 hv => ?_) hv
                exact ⟨hv.1, hQ _ _ _ hv.2⟩
              · have hv := hv.2 q20
                refine ⟨fun q23 => ?_, fun q23 => ?_⟩
                · have hv := hv.1 q23
                  refine u_Reader_readMoth N  I J _ _ (fun r24 I25 J25 hv => ?_) hv
                  exact ⟨hv.1, hQ _ _ _ hv.2⟩
                · have hv := hv.2 q23
                  refine ⟨fun q26 => ?_, fun q26 => ?_⟩
                  · have hv := hv.1 q26
                    refine u_Reader_readSeed N  I J _ _ (fun r27 I28 J28 hv => ?_) hv
                    exact ⟨hv.1, hQ _ _ _ hv.2⟩
                  · have hv := hv.2 q26
                    refine u_Reader_fails N (1 : Int32) I J _ _ (fun r29 I30 J30 hv => ?_) hv
                    exact ⟨hv.1, hQ _ _ _ hv.2⟩
theorem u_Reader_readAll_87 (N : Nat) (hN : 20 ≤ N) (x2 : Int32) (z0 : Int32) (I : zI) (J : zJ) (Q : Int32 → zI → zJ → Prop) (Q' : Int32 → qH → Prop) (hQ : ∀ (r : Int32) (I : zI) (J : zJ), Q r I J → Q' r (zH I J)) (K43 : Int32 → Int32 → zI → zJ → Prop) (K43' : Nat → Int32 → Int32 → qH → Prop) (hK43 : ∀ (x1 : Int32) (x2 : Int32) (I : zI) (J : zJ), K43 x1 x2 I J → K43' 26 x1 x2 (zH I J)) (hv : v_Reader_readAll_87 N x2 z0 I J Q K43) : w_Reader_readAll_87 N 26 x2 z0 (zH I J) Q' K43' := by
  unfold w_Reader_readAll_87
  unfold v_Reader_readAll_87 at hv
  refine ⟨fun q1 => ?_, fun q1 => ?_⟩
  · have hv := hv.1 q1
    refine ⟨rfl, ?_⟩
    refine u_Reader_readTell N  I J _ _ (fun r2 I3 J3 hv => ?_) hv
    exact hK43 r2 (x2 + (1 : Int32)) I3 J3 hv
  · have hv := hv.2 q1
    refine ⟨rfl, ?_⟩
    refine ⟨rfl, ?_⟩
    unfold w_Text_law
    refine ⟨fun q0 => ?_, fun q0 => ⟨fun q1 => ?_, fun q1 => ⟨fun q2 => ?_, fun q2 => ?_⟩⟩⟩
    · have hv := hv.1 q0
      refine ⟨rfl, ?_⟩
      refine ⟨rfl, ?_⟩
      refine u_Reader_readLaw_c33 N 33 I J _ _ (fun r6 I7 J7 hv => ?_) hv
      exact hK43 r6 (x2 + (1 : Int32)) I7 J7 hv
    · have hv := (hv.2 q0).1 q1
      refine ⟨rfl, ?_⟩
      refine ⟨rfl, ?_⟩
      refine u_Reader_readLaw_c36 N 36 I J _ _ (fun r8 I9 J9 hv => ?_) hv
      exact hK43 r8 (x2 + (1 : Int32)) I9 J9 hv
    · have hv := ((hv.2 q0).2 q1).1 q2
      refine ⟨rfl, ?_⟩
      refine ⟨rfl, ?_⟩
      refine u_Reader_readLaw_c39 N 39 I J _ _ (fun r10 I11 J11 hv => ?_) hv
      exact hK43 r10 (x2 + (1 : Int32)) I11 J11 hv
    · have hv := ((hv.2 q0).2 q1).2 q2
      refine ⟨rfl, ?_⟩
      refine ⟨rfl, ?_⟩
      refine u_Reader_readLaw_c42 N 42 I J _ _ (fun r12 I13 J13 hv => ?_) hv
      exact hK43 r12 (x2 + (1 : Int32)) I13 J13 hv
theorem u_Reader_readAll_86 (N : Nat) (hN : 20 ≤ N) (x2 : Int32) (I : zI) (J : zJ) (Q : Int32 → zI → zJ → Prop) (Q' : Int32 → qH → Prop) (hQ : ∀ (r : Int32) (I : zI) (J : zJ), Q r I J → Q' r (zH I J)) (K43 : Int32 → Int32 → zI → zJ → Prop) (K43' : Nat → Int32 → Int32 → qH → Prop) (hK43 : ∀ (x1 : Int32) (x2 : Int32) (I : zI) (J : zJ), K43 x1 x2 I J → K43' 26 x1 x2 (zH I J)) (hv : v_Reader_readAll_86 N x2 I J Q K43) : w_Reader_readAll_86 N 26 x2 (zH I J) Q' K43' := by
  unfold w_Reader_readAll_86
  unfold v_Reader_readAll_86 at hv
  exact u_Reader_readAll_87 N hN x2 (0 : Int32) I J Q _ hQ _ _ (fun x1 x2 I J hv => hK43 x1 x2 I J hv)  hv
theorem u_Reader_readAll_43 (N k : Nat) (hN : 20 ≤ N) (x1 : Int32) (x2 : Int32) (I : zI) (J : zJ) (Q : Int32 → zI → zJ → Prop) (Q' : Int32 → qH → Prop) (hQ : ∀ (r : Int32) (I : zI) (J : zJ), Q r I J → Q' r (zH I J)) (K125 : zI → zJ → Prop) (K125' : Nat → qH → Prop) (hK125 : ∀  (I : zI) (J : zJ), K125  I J → K125' 26 (zH I J)) (hv : v_Reader_readAll_43 N k x1 x2 I J Q K125) : w_Reader_readAll_43 N k 26 x1 x2 (zH I J) Q' K125' := by
  induction k generalizing x1 x2 I J with
  | zero => exact hv.elim
  | succ k ih =>
    rw [w_Reader_readAll_43]
    rw [v_Reader_readAll_43] at hv
    refine ⟨fun q1 => ?_, fun q1 => ?_⟩
    · have hv := hv.1 q1
      exact hK125 I J hv
    · have hv := hv.2 q1
      refine ⟨fun q2 => ?_, fun q2 => ?_⟩
      · have hv := hv.1 q2
        exact hK125 I J hv
      · have hv := hv.2 q2
        refine ⟨rfl, ?_⟩
        refine ⟨fun q3 => ?_, fun q3 => ?_⟩
        · have hv := hv.1 q3
          exact hK125 I J hv
        · have hv := hv.2 q3
          refine ⟨fun q4 => ?_, fun q4 => ?_⟩
          · have hv := hv.1 q4
            exact u_Reader_readAll_86 N hN x2 I J Q _ hQ _ _ (fun x1 x2 I J hv => ih x1 x2 I J hv)  hv
          · have hv := hv.2 q4
            refine ⟨fun q5 => ?_, fun q5 => ?_⟩
            · have hv := hv.1 q5
              exact u_Reader_readAll_86 N hN x2 I J Q _ hQ _ _ (fun x1 x2 I J hv => ih x1 x2 I J hv)  hv
            · have hv := hv.2 q5
              exact u_Reader_readAll_87 N hN x2 (1 : Int32) I J Q _ hQ _ _ (fun x1 x2 I J hv => ih x1 x2 I J hv)  hv
theorem u_Reader_readAll_125 (N : Nat) (hN : 20 ≤ N)  (I : zI) (J : zJ) (Q : Int32 → zI → zJ → Prop) (Q' : Int32 → qH → Prop) (hQ : ∀ (r : Int32) (I : zI) (J : zJ), Q r I J → Q' r (zH I J)) (hv : v_Reader_readAll_125 N  I J Q ) : w_Reader_readAll_125 N 26 (zH I J) Q'  := by
  unfold w_Reader_readAll_125
  unfold v_Reader_readAll_125 at hv
  refine ⟨rfl, ?_⟩
  refine ⟨fun q1 => ?_, fun q1 => ?_⟩
  · have hv := hv.1 q1
    exact hQ _ _ _ hv
  · have hv := hv.2 q1
    refine ⟨fun q2 => ?_, fun q2 => ?_⟩
    · have hv := hv.1 q2
      exact hQ _ _ _ hv
    · have hv := hv.2 q2
      obtain ⟨I3, eI3⟩ : ∃ z, z = qu I 26 12 (I 26 10) := ⟨_, rfl⟩
      have hv := hv I3 eI3
      intro h3 eh3
      have eh3 : h3 = zH I3 J := by rw [eh3, eI3]; rfl
      subst eh3
      refine ⟨rfl, ?_⟩
      obtain ⟨I4, eI4⟩ : ∃ z, z = qu I3 26 13 (I3 26 11) := ⟨_, rfl⟩
      have hv := hv I4 eI4
      intro h4 eh4
      have eh4 : h4 = zH I4 J := by rw [eh4, eI4]; rfl
      subst eh4
      refine ⟨rfl, ?_⟩
      exact hQ _ _ _ hv
theorem u_Reader_readAll (N : Nat) (hN : 20 ≤ N)  (I : zI) (J : zJ) (Q : Int32 → zI → zJ → Prop) (Q' : Int32 → qH → Prop) (hQ : ∀ (r : Int32) (I : zI) (J : zJ), Q r I J → Q' r (zH I J)) (hv : v_Reader_readAll N  I J Q) : w_Reader_readAll N 26 (zH I J) Q' := by
  unfold w_Reader_readAll
  unfold v_Reader_readAll at hv
  refine ⟨rfl, ?_⟩
  obtain ⟨I1, eI1⟩ : ∃ z, z = qu I 26 12 (0 : Int32) := ⟨_, rfl⟩
  have hv := hv I1 eI1
  intro h1 eh1
  have eh1 : h1 = zH I1 J := by rw [eh1, eI1]; rfl
  subst eh1
  refine ⟨rfl, ?_⟩
  obtain ⟨I2, eI2⟩ : ∃ z, z = qu I1 26 13 (-1 : Int32) := ⟨_, rfl⟩
  have hv := hv I2 eI2
  intro h2 eh2
  have eh2 : h2 = zH I2 J := by rw [eh2, eI2]; rfl
  subst eh2
  refine ⟨rfl, ?_⟩
  obtain ⟨I3, eI3⟩ : ∃ z, z = qu I2 26 10 (0 : Int32) := ⟨_, rfl⟩
  have hv := hv I3 eI3
  intro h3 eh3
  have eh3 : h3 = zH I3 J := by rw [eh3, eI3]; rfl
  subst eh3
  refine ⟨rfl, ?_⟩
  obtain ⟨I4, eI4⟩ : ∃ z, z = qu I3 26 8 (0 : Int32) := ⟨_, rfl⟩
  have hv := hv I4 eI4
  intro h4 eh4
  have eh4 : h4 = zH I4 J := by rw [eh4, eI4]; rfl
  subst eh4
  refine ⟨rfl, ?_⟩
  refine ⟨rfl, ?_⟩
  refine u_Text_clear_c27 N 27 I4 J _ _ (fun I5 J5 hv => ?_) hv
  refine ⟨rfl, ?_⟩
  refine ⟨rfl, ?_⟩
  refine u_Tape_split N hN  I5 J5 _ _ (fun I6 J6 hv => ?_) hv
  refine ⟨rfl, ?_⟩
  refine u_Reader_lookAt N (0 : Int32) I6 J6 _ _ (fun I7 J7 hv => ?_) hv
  refine u_Reader_readAll_43 N N hN (1 : Int32) (0 : Int32) I7 J7 Q _ hQ _ _ (fun I8 J8 hv => ?_)  hv
  exact u_Reader_readAll_125 N hN  I8 J8 Q _ hQ   hv
