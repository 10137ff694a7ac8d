/-! over the layout: written by wip/whole/emitv.py -/
def v_M_straighten (N : Nat) (x1 : Int32) (I : zI) (J : zJ) (Q : Int32 → zI → zJ → Prop) : Prop := (v_M_isHanger N x1 I J (fun r1 I2 J2 => ((r1 = 0 → Q (0 : Int32) I2 J2) ∧ (¬ r1 = 0 → (vp_in ((24 : Int32) + x1) 32 ∧ ((¬ (I2 393 (((24 : Int32) + x1)).toNatClampNeg) = 0 → (v_M_copies N  I2 J2 (fun I6 J6 => (v_M_whoIsOn N x1 I6 J6 (fun r7 I8 J8 => ((r7 < 0 → (v_M_does N ((24 : Int32) + x1) (0 : Int32) I8 J8 (fun I10 J10 => Q (1 : Int32) I10 J10))) ∧ (¬ r7 < 0 → Q (0 : Int32) I8 J8))))))) ∧ ((I2 393 (((24 : Int32) + x1)).toNatClampNeg) = 0 → Q (0 : Int32) I2 J2)))))))
def v_M_isLong (N : Nat) (x0 : Int32) (I : zI) (J : zJ) (Q : Int32 → zI → zJ → Prop) : Prop := (v_M_in N x0 (0 : Int32) (60 : Int32) I J (fun r1 I2 J2 => (qzb r1 ∧ Q r1 I2 J2)))
def v_M_nights (N : Nat) (x1 : Int32) (I : zI) (J : zJ) (Q : Int32 → zI → zJ → Prop) : Prop := (v_M_isLong N x1 I J (fun r1 I2 J2 => ((¬ r1 = 0 → ((¬ x1 = 0 → (v_M_copies N  I2 J2 (fun I5 J5 => (v_M_goes N x1 I5 J5 (fun I6 J6 => (v_M_records N  I6 J6 (fun I7 J7 => (vp_in (31 : Int32) 32 ∧ Q (I7 393 ((31 : Int32)).toNatClampNeg) I7 J7)))))))) ∧ (x1 = 0 → (vp_in (31 : Int32) 32 ∧ Q (I2 393 ((31 : Int32)).toNatClampNeg) I2 J2)))) ∧ (r1 = 0 → Q (-1 : Int32) I2 J2))))
def v_M_undo_21 (N : Nat) : Nat → Int32 → zI → zJ → (Int32 → zI → zJ → Prop) → Prop
  | 0 => fun _ _ _ _ => False
  | k + 1 => fun x1 I J Q  => (((32 : Int32) ≤ x1 → Q (1 : Int32) I J) ∧ (¬ (32 : Int32) ≤ x1 → (vp_in (((32 : Int32) * (I 361 57)) + x1) 1280 ∧ (vp_in x1 32 ∧ ∀ I4 : zI, I4 = qu I 393 (x1).toNatClampNeg (I 399 ((((32 : Int32) * (I 361 57)) + x1)).toNatClampNeg) → (v_M_undo_21 N k (x1 + (1 : Int32)) I4 J Q)))))
def v_M_undo (N : Nat)  (I : zI) (J : zJ) (Q : Int32 → zI → zJ → Prop) : Prop := ((¬ (I 361 57) = 0 → (∀ I2 : zI, I2 = qu I 361 57 ((I 361 57) - (1 : Int32)) → (v_M_undo_21 N N (0 : Int32) I2 J Q ))) ∧ ((I 361 57) = 0 → Q (0 : Int32) I J))
def v_M_fillsTable_21 (N : Nat) : Nat → Int32 → Int32 → zI → zJ → (zI → zJ → Prop) → (Int32 → zI → zJ → Prop) → Prop
  | 0 => fun _ _ _ _ _ _ => False
  | k + 1 => fun x1 x2 I J Q K57 => (vp_in (I 361 18) 2 ∧ (((I 371 ((I 361 18)).toNatClampNeg) ≤ x2 → (K57 x1 I J)) ∧ (¬ (I 371 ((I 361 18)).toNatClampNeg) ≤ x2 → (v_M_costsAt N x1 x2 I J (fun r3 I4 J4 => (vp_in (((7 : Int32) * x1) + x2) 42 ∧ ∀ I6 : zI, I6 = qu I4 401 ((((7 : Int32) * x1) + x2)).toNatClampNeg r3 → (v_M_fillsTable_21 N k x1 (x2 + (1 : Int32)) I6 J4 Q K57)))))))
def v_M_fillsTable_6 (N : Nat) : Nat → Int32 → zI → zJ → (zI → zJ → Prop) → Prop
  | 0 => fun _ _ _ _ => False
  | k + 1 => fun x1 I J Q  => (vp_in (I 361 18) 2 ∧ (((I 374 ((I 361 18)).toNatClampNeg) ≤ x1 → Q I J) ∧ (¬ (I 374 ((I 361 18)).toNatClampNeg) ≤ x1 → (v_M_fillsTable_21 N N x1 (0 : Int32) I J Q (fun w3 I4 J4 => (v_M_fillsTable_6 N k (w3 + (1 : Int32)) I4 J4 Q))))))
def v_M_fillsTable (N : Nat)  (I : zI) (J : zJ) (Q : zI → zJ → Prop) : Prop := (v_M_copies N  I J (fun I1 J1 => (v_M_fillsTable_6 N N (0 : Int32) I1 J1 Q )))
def v_M_bitOf (N : Nat) (x1 : Int32) (I : zI) (J : zJ) (Q : Int32 → zI → zJ → Prop) : Prop := (((I 361 61) = 0 → Q ((1 : Int32) <<< (x1 &&& 31)) I J) ∧ (¬ (I 361 61) = 0 → (v_M_nailAt N x1 I J (fun r2 I3 J3 => Q ((1 : Int32) <<< (r2 &&& 31)) I3 J3))))
def v_M_with (N : Nat) (x1 : Int32) (x2 : Int32) (x3 : Int32) (I : zI) (J : zJ) (Q : Int32 → zI → zJ → Prop) : Prop := (vp_in (((7 : Int32) * x1) + x2) 42 ∧ (v_M_bitOf N x2 I J (fun r2 I3 J3 => (vp_in ((((128 : Int32) * x1) + (128 : Int32)) + (x3 ||| r2)) 896 ∧ Q (((I 401 ((((7 : Int32) * x1) + x2)).toNatClampNeg) - (10000 : Int32)) + (I3 400 (((((128 : Int32) * x1) + (128 : Int32)) + (x3 ||| r2))).toNatClampNeg)) I3 J3))))
def v_M_fillsLeast_11 (N : Nat) : Nat → Int32 → zI → zJ → (zI → zJ → Prop) → (zI → zJ → Prop) → Prop
  | 0 => fun _ _ _ _ _ => False
  | k + 1 => fun x2 I J Q K45 => (((128 : Int32) ≤ x2 → (K45 I J)) ∧ (¬ (128 : Int32) ≤ x2 → (vp_in (I 361 18) 2 ∧ (vp_in (((128 : Int32) * (I 374 ((I 361 18)).toNatClampNeg)) + x2) 896 ∧ ∀ I4 : zI, I4 = qu I 400 ((((128 : Int32) * (I 374 ((I 361 18)).toNatClampNeg)) + x2)).toNatClampNeg (0 : Int32) → (v_M_fillsLeast_11 N k (x2 + (1 : Int32)) I4 J Q K45)))))
def v_M_fillsLeast_91 (N : Nat) : Nat → Int32 → Int32 → Int32 → Int32 → zI → zJ → (zI → zJ → Prop) → (Int32 → Int32 → Int32 → zI → zJ → Prop) → Prop
  | 0 => fun _ _ _ _ _ _ _ _ => False
  | k + 1 => fun x2 x3 x4 x5 I J Q K145 => (vp_in (I 361 18) 2 ∧ (((I 371 ((I 361 18)).toNatClampNeg) ≤ x5 → (K145 x2 x3 x4 I J)) ∧ (¬ (I 371 ((I 361 18)).toNatClampNeg) ≤ x5 → (v_M_bitOf N x5 I J (fun r3 I4 J4 => ((¬ (x3 &&& r3) = 0 → (v_M_fillsLeast_91 N k x2 x3 x4 (x5 + (1 : Int32)) I4 J4 Q K145)) ∧ ((x3 &&& r3) = 0 → (v_M_with N x2 x5 x3 I4 J4 (fun r6 I7 J7 => ((x4 ≤ r6 → (v_M_fillsLeast_91 N k x2 x3 x4 (x5 + (1 : Int32)) I7 J7 Q K145)) ∧ (¬ x4 ≤ r6 → (v_M_with N x2 x5 x3 I7 J7 (fun r9 I10 J10 => (v_M_fillsLeast_91 N k x2 x3 r9 (x5 + (1 : Int32)) I10 J10 Q K145))))))))))))))
def v_M_fillsLeast_63 (N : Nat) : Nat → Int32 → Int32 → zI → zJ → (zI → zJ → Prop) → (Int32 → zI → zJ → Prop) → Prop
  | 0 => fun _ _ _ _ _ _ => False
  | k + 1 => fun x2 x3 I J Q K165 => (((128 : Int32) ≤ x3 → (K165 x2 I J)) ∧ (¬ (128 : Int32) ≤ x3 → (vp_in ((((128 : Int32) * x2) + (128 : Int32)) + x3) 896 ∧ (∀ y3 : Int32, y3 = (I 400 (((((128 : Int32) * x2) + (128 : Int32)) + x3)).toNatClampNeg) → (v_M_fillsLeast_91 N N x2 x3 y3 (0 : Int32) I J Q (fun w4 w5 w6 I7 J7 => (vp_in (((128 : Int32) * w4) + w5) 896 ∧ ∀ I9 : zI, I9 = qu I7 400 ((((128 : Int32) * w4) + w5)).toNatClampNeg w6 → (v_M_fillsLeast_63 N k w4 (w5 + (1 : Int32)) I9 J7 Q K165))))))))
def v_M_fillsLeast_57 (N : Nat) : Nat → Int32 → zI → zJ → (zI → zJ → Prop) → Prop
  | 0 => fun _ _ _ _ => False
  | k + 1 => fun x2 I J Q  => ((x2 < 0 → Q I J) ∧ (¬ x2 < 0 → (v_M_fillsLeast_63 N N x2 (0 : Int32) I J Q (fun w2 I3 J3 => (v_M_fillsLeast_57 N k (w2 + (-1 : Int32)) I3 J3 Q)))))
def v_M_fillsLeast (N : Nat) (x1 : Int32) (I : zI) (J : zJ) (Q : zI → zJ → Prop) : Prop := (qzb x1 ∧ ∀ I2 : zI, I2 = qu I 361 61 x1 → (v_M_fillsTable N  I2 J (fun I3 J3 => (v_M_fillsLeast_11 N N (0 : Int32) I3 J3 Q (fun I4 J4 => (vp_in (I4 361 18) 2 ∧ (∀ y6 : Int32, y6 = ((I4 374 ((I4 361 18)).toNatClampNeg) - (1 : Int32)) → (v_M_fillsLeast_57 N N y6 I4 J4 Q ))))))))
def v_M_lowestFor_2 (N : Nat) : Nat → Int32 → Int32 → Int32 → zI → zJ → (Int32 → zI → zJ → Prop) → Prop
  | 0 => fun _ _ _ _ _ _ => False
  | k + 1 => fun x1 x2 x3 I J Q  => (vp_in (I 361 18) 2 ∧ (((I 371 ((I 361 18)).toNatClampNeg) ≤ x3 → Q (-2 : Int32) I J) ∧ (¬ (I 371 ((I 361 18)).toNatClampNeg) ≤ x3 → (v_M_bitOf N x3 I J (fun r3 I4 J4 => ((¬ (x2 &&& r3) = 0 → (v_M_lowestFor_2 N k x1 x2 (x3 + (1 : Int32)) I4 J4 Q)) ∧ ((x2 &&& r3) = 0 → (v_M_with N x1 x3 x2 I4 J4 (fun r6 I7 J7 => (vp_in (((128 : Int32) * x1) + x2) 896 ∧ ((¬ r6 = (I7 400 ((((128 : Int32) * x1) + x2)).toNatClampNeg) → (v_M_lowestFor_2 N k x1 x2 (x3 + (1 : Int32)) I7 J7 Q)) ∧ (r6 = (I7 400 ((((128 : Int32) * x1) + x2)).toNatClampNeg) → Q x3 I7 J7))))))))))))
def v_M_lowestFor (N : Nat) (x1 : Int32) (x2 : Int32) (I : zI) (J : zJ) (Q : Int32 → zI → zJ → Prop) : Prop := (v_M_lowestFor_2 N N x1 x2 (0 : Int32) I J Q )
def v_M_costOf_2 (N : Nat) : Nat → Int32 → zI → zJ → (Int32 → zI → zJ → Prop) → Prop
  | 0 => fun _ _ _ _ => False
  | k + 1 => fun x1 I J Q  => ((0 ≤ x1 → Q x1 I J) ∧ (¬ 0 ≤ x1 → (v_M_costOf_2 N k (x1 + (10000 : Int32)) I J Q)))
def v_M_costOf (N : Nat) (x0 : Int32) (I : zI) (J : zJ) (Q : Int32 → zI → zJ → Prop) : Prop := (v_M_costOf_2 N N x0 I J Q )
def v_M_hangs_40 (N : Nat) : Nat → Int32 → Int32 → Int32 → zI → zJ → (Int32 → zI → zJ → Prop) → Prop
  | 0 => fun _ _ _ _ _ _ => False
  | k + 1 => fun x1 x3 x4 I J Q  => ((x1 ≤ x4 → (v_M_lowestFor N x1 x3 I J (fun r2 I3 J3 => Q r2 I3 J3))) ∧ (¬ x1 ≤ x4 → (v_M_lowestFor N x4 x3 I J (fun r4 I5 J5 => ((r4 < 0 → (v_M_hangs_40 N k x1 x3 (x4 + (1 : Int32)) I5 J5 Q)) ∧ (¬ r4 < 0 → (v_M_bitOf N r4 I5 J5 (fun r7 I8 J8 => (∀ y9 : Int32, y9 = (x3 ||| r7) → (v_M_hangs_40 N k x1 y9 (x4 + (1 : Int32)) I8 J8 Q))))))))))
def v_M_hangs_15 (N : Nat) (x1 : Int32) (x2 : Int32) (I : zI) (J : zJ) (Q : Int32 → zI → zJ → Prop)  : Prop := (v_M_fillsLeast N x2 I J (fun I1 J1 => ((¬ x1 = (-1 : Int32) → (v_M_hangs_40 N N x1 (0 : Int32) (0 : Int32) I1 J1 Q )) ∧ (x1 = (-1 : Int32) → (vp_in (0 : Int32) 896 ∧ (v_M_costOf N (I1 400 ((0 : Int32)).toNatClampNeg) I1 J1 (fun r4 I5 J5 => Q r4 I5 J5)))))))
def v_M_hangs (N : Nat) (x1 : Int32) (x2 : Int32) (I : zI) (J : zJ) (Q : Int32 → zI → zJ → Prop) : Prop := ((x1 = (-1 : Int32) → (v_M_hangs_15 N x1 x2 I J Q )) ∧ (¬ x1 = (-1 : Int32) → (v_M_isPerson N x1 I J (fun r2 I3 J3 => ((¬ r2 = 0 → (v_M_hangs_15 N x1 x2 I3 J3 Q )) ∧ (r2 = 0 → Q (-1 : Int32) I3 J3))))))
def v_M_hanging (N : Nat) (x1 : Int32) (I : zI) (J : zJ) (Q : Int32 → zI → zJ → Prop) : Prop := (v_M_hangs N x1 (0 : Int32) I J (fun r1 I2 J2 => Q r1 I2 J2))
def v_M_apart (N : Nat) (x1 : Int32) (I : zI) (J : zJ) (Q : Int32 → zI → zJ → Prop) : Prop := (v_M_hangs N x1 (1 : Int32) I J (fun r1 I2 J2 => Q r1 I2 J2))
def v_M_missed_25 (N : Nat) : Nat → Int32 → Int32 → Int32 → Int32 → zI → zJ → (Int32 → zI → zJ → Prop) → Prop
  | 0 => fun _ _ _ _ _ _ _ => False
  | k + 1 => fun x1 x2 x3 x4 I J Q  => (vp_in (I 361 18) 2 ∧ (((I 371 ((I 361 18)).toNatClampNeg) ≤ x4 → ((¬ x1 = 0 → Q x3 I J) ∧ (x1 = 0 → Q x2 I J))) ∧ (¬ (I 371 ((I 361 18)).toNatClampNeg) ≤ x4 → (vp_in ((1 : Int32) <<< (x4 &&& 31)) 896 ∧ (v_M_costOf N (I 400 (((1 : Int32) <<< (x4 &&& 31))).toNatClampNeg) I J (fun r5 I6 J6 => ((x3 < r5 → (v_M_missed_25 N k x1 x4 r5 (x4 + (1 : Int32)) I6 J6 Q)) ∧ (¬ x3 < r5 → (v_M_missed_25 N k x1 x2 x3 (x4 + (1 : Int32)) I6 J6 Q)))))))))
def v_M_missed (N : Nat) (x1 : Int32) (I : zI) (J : zJ) (Q : Int32 → zI → zJ → Prop) : Prop := (v_M_in N x1 (0 : Int32) (1 : Int32) I J (fun r1 I2 J2 => ((¬ r1 = 0 → (v_M_fillsLeast N (0 : Int32) I2 J2 (fun I4 J4 => (v_M_missed_25 N N x1 (-2 : Int32) (-2 : Int32) (0 : Int32) I4 J4 Q )))) ∧ (r1 = 0 → Q (-1 : Int32) I2 J2))))
def v_M_ways_18 (N : Nat) : Nat → Int32 → Int32 → zI → zJ → (Int32 → zI → zJ → Prop) → (Int32 → zI → zJ → Prop) → Prop
  | 0 => fun _ _ _ _ _ _ => False
  | k + 1 => fun x1 x2 I J Q K50 => (((32 : Int32) ≤ x2 → (K50 x1 I J)) ∧ (¬ (32 : Int32) ≤ x2 → (vp_in (I 361 18) 2 ∧ (vp_in (((32 : Int32) * (I 374 ((I 361 18)).toNatClampNeg)) + x2) 224 ∧ ∀ I4 : zI, I4 = qu I 402 ((((32 : Int32) * (I 374 ((I 361 18)).toNatClampNeg)) + x2)).toNatClampNeg (1 : Int32) → (v_M_ways_18 N k x1 (x2 + (1 : Int32)) I4 J Q K50)))))
def v_M_ways_80 (N : Nat) : Nat → Int32 → Int32 → Int32 → Int32 → Int32 → zI → zJ → (Int32 → zI → zJ → Prop) → (Int32 → Int32 → Int32 → Int32 → zI → zJ → Prop) → Prop
  | 0 => fun _ _ _ _ _ _ _ _ _ => False
  | k + 1 => fun x1 x2 x3 x4 x5 I J Q K155 => (vp_in (I 361 18) 2 ∧ (((I 371 ((I 361 18)).toNatClampNeg) ≤ x5 → (K155 x1 x2 x3 x4 I J)) ∧ (¬ (I 371 ((I 361 18)).toNatClampNeg) ≤ x5 → (v_M_nailAt N x5 I J (fun r3 I4 J4 => (∀ y5 : Int32, y5 = ((1 : Int32) <<< (r3 &&& 31)) → ((¬ (x3 &&& y5) = 0 → (v_M_ways_80 N k x1 x2 x3 x4 (x5 + (1 : Int32)) I4 J4 Q K155)) ∧ ((x3 &&& y5) = 0 → (vp_in (((7 : Int32) * x2) + x5) 42 ∧ ((x1 < (I4 401 ((((7 : Int32) * x2) + x5)).toNatClampNeg) → (v_M_ways_80 N k x1 x2 x3 x4 (x5 + (1 : Int32)) I4 J4 Q K155)) ∧ (¬ x1 < (I4 401 ((((7 : Int32) * x2) + x5)).toNatClampNeg) → (vp_in ((((32 : Int32) * x2) + (32 : Int32)) + (x3 ||| y5)) 224 ∧ (∀ y10 : Int32, y10 = (x4 + (I4 402 (((((32 : Int32) * x2) + (32 : Int32)) + (x3 ||| y5))).toNatClampNeg)) → (v_M_ways_80 N k x1 x2 x3 y10 (x5 + (1 : Int32)) I4 J4 Q K155))))))))))))))
def v_M_ways_68 (N : Nat) : Nat → Int32 → Int32 → Int32 → zI → zJ → (Int32 → zI → zJ → Prop) → (Int32 → Int32 → zI → zJ → Prop) → Prop
  | 0 => fun _ _ _ _ _ _ _ => False
  | k + 1 => fun x1 x2 x3 I J Q K174 => (((32 : Int32) ≤ x3 → (K174 x1 x2 I J)) ∧ (¬ (32 : Int32) ≤ x3 → (v_M_ways_80 N N x1 x2 x3 (0 : Int32) (0 : Int32) I J Q (fun w2 w3 w4 w5 I6 J6 => (vp_in (((32 : Int32) * w3) + w4) 224 ∧ ∀ I8 : zI, I8 = qu I6 402 ((((32 : Int32) * w3) + w4)).toNatClampNeg w5 → (v_M_ways_68 N k w2 w3 (w4 + (1 : Int32)) I8 J6 Q K174))))))
def v_M_ways_62 (N : Nat) : Nat → Int32 → Int32 → zI → zJ → (Int32 → zI → zJ → Prop) → Prop
  | 0 => fun _ _ _ _ _ => False
  | k + 1 => fun x1 x2 I J Q  => ((x2 < 0 → (vp_in (0 : Int32) 224 ∧ Q (I 402 ((0 : Int32)).toNatClampNeg) I J)) ∧ (¬ x2 < 0 → (v_M_ways_68 N N x1 x2 (0 : Int32) I J Q (fun w3 w4 I5 J5 => (v_M_ways_62 N k w3 (w4 + (-1 : Int32)) I5 J5 Q)))))
def v_M_ways (N : Nat) (x1 : Int32) (I : zI) (J : zJ) (Q : Int32 → zI → zJ → Prop) : Prop := (v_M_in N x1 (0 : Int32) (99 : Int32) I J (fun r1 I2 J2 => ((¬ r1 = 0 → (v_M_fillsTable N  I2 J2 (fun I4 J4 => (v_M_ways_18 N N x1 (0 : Int32) I4 J4 Q (fun w5 I6 J6 => (vp_in (I6 361 18) 2 ∧ (∀ y8 : Int32, y8 = ((I6 374 ((I6 361 18)).toNatClampNeg) - (1 : Int32)) → (v_M_ways_62 N N w5 y8 I6 J6 Q )))))))) ∧ (r1 = 0 → Q (-1 : Int32) I2 J2))))
def v_M_sets_37 (N : Nat) : Nat → Int32 → Int32 → Int32 → Int32 → zI → zJ → (Int32 → zI → zJ → Prop) → (Int32 → Int32 → Int32 → zI → zJ → Prop) → Prop
  | 0 => fun _ _ _ _ _ _ _ _ => False
  | k + 1 => fun x1 x2 x3 x4 I J Q K68 => ((¬ ((x1 >>> (x4 &&& 31)) &&& (1 : Int32)) = 0 → (K68 x1 x2 x3 I J)) ∧ (((x1 >>> (x4 &&& 31)) &&& (1 : Int32)) = 0 → (∀ y2 : Int32, y2 = (x1 ||| ((1 : Int32) <<< (x4 &&& 31))) → (vp_in ((12 : Int32) + x4) 32 ∧ (∀ y4 : Int32, y4 = (I 393 (((12 : Int32) + x4)).toNatClampNeg) → (v_M_sets_37 N k y2 x2 x3 y4 I J Q K68))))))
def v_M_sets_6 (N : Nat) : Nat → Int32 → Int32 → Int32 → zI → zJ → (Int32 → zI → zJ → Prop) → Prop
  | 0 => fun _ _ _ _ _ _ => False
  | k + 1 => fun x1 x2 x3 I J Q  => (vp_in (I 361 18) 2 ∧ (((I 374 ((I 361 18)).toNatClampNeg) ≤ x3 → Q x2 I J) ∧ (¬ (I 374 ((I 361 18)).toNatClampNeg) ≤ x3 → ((¬ ((x1 >>> (x3 &&& 31)) &&& (1 : Int32)) = (1 : Int32) → (v_M_sets_37 N N x1 (x2 + (1 : Int32)) x3 x3 I J Q (fun w4 w5 w6 I7 J7 => (v_M_sets_6 N k w4 w5 (w6 + (1 : Int32)) I7 J7 Q)))) ∧ (((x1 >>> (x3 &&& 31)) &&& (1 : Int32)) = (1 : Int32) → (v_M_sets_6 N k x1 x2 (x3 + (1 : Int32)) I J Q))))))
def v_M_sets (N : Nat)  (I : zI) (J : zJ) (Q : Int32 → zI → zJ → Prop) : Prop := (v_M_sets_6 N N (0 : Int32) (0 : Int32) (0 : Int32) I J Q )
def v_M_changes (N : Nat)  (I : zI) (J : zJ) (Q : Int32 → zI → zJ → Prop) : Prop := (vp_in (I 361 18) 2 ∧ (v_M_sets N  I J (fun r2 I3 J3 => Q ((I 374 ((I 361 18)).toNatClampNeg) - r2) I3 J3)))
def v_M_ownBits_4 (N : Nat) : Nat → Int32 → Int32 → zI → zJ → (Int32 → zI → zJ → Prop) → Prop
  | 0 => fun _ _ _ _ _ => False
  | k + 1 => fun x1 x2 I J Q  => (vp_in (I 361 18) 2 ∧ (((I 374 ((I 361 18)).toNatClampNeg) ≤ x2 → Q x1 I J) ∧ (¬ (I 374 ((I 361 18)).toNatClampNeg) ≤ x2 → (vp_in ((12 : Int32) + x2) 32 ∧ ((¬ (I 394 (((12 : Int32) + x2)).toNatClampNeg) = x2 → (v_M_ownBits_4 N k x1 (x2 + (1 : Int32)) I J Q)) ∧ ((I 394 (((12 : Int32) + x2)).toNatClampNeg) = x2 → (∀ y5 : Int32, y5 = (x1 ||| ((1 : Int32) <<< (x2 &&& 31))) → (v_M_ownBits_4 N k y5 (x2 + (1 : Int32)) I J Q))))))))
def v_M_ownBits (N : Nat)  (I : zI) (J : zJ) (Q : Int32 → zI → zJ → Prop) : Prop := (v_M_ownBits_4 N N (0 : Int32) (0 : Int32) I J Q )
def v_M_themselves_6 (N : Nat) : Nat → Int32 → zI → zJ → (Int32 → zI → zJ → Prop) → Prop
  | 0 => fun _ _ _ _ => False
  | k + 1 => fun x1 I J Q  => (((240 : Int32) < x1 → Q (-2 : Int32) I J) ∧ (¬ (240 : Int32) < x1 → (v_M_ownBits N  I J (fun r2 I3 J3 => (vp_in (I3 361 18) 2 ∧ ((¬ r2 = (((1 : Int32) <<< ((I3 374 ((I3 361 18)).toNatClampNeg) &&& 31)) - (1 : Int32)) → (v_M_nightGoes N  I3 J3 (fun I6 J6 => (v_M_themselves_6 N k (x1 + (1 : Int32)) I6 J6 Q)))) ∧ (r2 = (((1 : Int32) <<< ((I3 374 ((I3 361 18)).toNatClampNeg) &&& 31)) - (1 : Int32)) → Q x1 I3 J3)))))))
def v_M_themselves (N : Nat)  (I : zI) (J : zJ) (Q : Int32 → zI → zJ → Prop) : Prop := (v_M_copiesStill N  I J (fun I1 J1 => (v_M_themselves_6 N N (0 : Int32) I1 J1 Q )))
def v_M_day_16 (N : Nat) : Nat → Int32 → Int32 → zI → zJ → (Int32 → zI → zJ → Prop) → Prop
  | 0 => fun _ _ _ _ _ => False
  | k + 1 => fun x1 x2 I J Q  => (((240 : Int32) < x2 → Q (-2 : Int32) I J) ∧ (¬ (240 : Int32) < x2 → (vp_in ((12 : Int32) + x1) 32 ∧ ((¬ (I 394 (((12 : Int32) + x1)).toNatClampNeg) = x1 → (v_M_nightGoes N  I J (fun I4 J4 => (v_M_day_16 N k x1 (x2 + (1 : Int32)) I4 J4 Q)))) ∧ ((I 394 (((12 : Int32) + x1)).toNatClampNeg) = x1 → Q x2 I J)))))
def v_M_day (N : Nat) (x1 : Int32) (I : zI) (J : zJ) (Q : Int32 → zI → zJ → Prop) : Prop := (v_M_isPerson N x1 I J (fun r1 I2 J2 => ((¬ r1 = 0 → (v_M_copiesStill N  I2 J2 (fun I4 J4 => (v_M_day_16 N N x1 (0 : Int32) I4 J4 Q )))) ∧ (r1 = 0 → Q (-1 : Int32) I2 J2))))
def v_M_areAsNow_2 (N : Nat) : Nat → Int32 → zI → zJ → (Int32 → zI → zJ → Prop) → Prop
  | 0 => fun _ _ _ _ => False
  | k + 1 => fun x1 I J Q  => (vp_in (I 361 18) 2 ∧ (((I 374 ((I 361 18)).toNatClampNeg) ≤ x1 → Q (1 : Int32) I J) ∧ (¬ (I 374 ((I 361 18)).toNatClampNeg) ≤ x1 → (vp_in ((12 : Int32) + x1) 32 ∧ (vp_in ((12 : Int32) + x1) 32 ∧ (((I 394 (((12 : Int32) + x1)).toNatClampNeg) = (I 393 (((12 : Int32) + x1)).toNatClampNeg) → (v_M_areAsNow_2 N k (x1 + (1 : Int32)) I J Q)) ∧ (¬ (I 394 (((12 : Int32) + x1)).toNatClampNeg) = (I 393 (((12 : Int32) + x1)).toNatClampNeg) → Q (0 : Int32) I J)))))))
def v_M_areAsNow (N : Nat)  (I : zI) (J : zJ) (Q : Int32 → zI → zJ → Prop) : Prop := (v_M_areAsNow_2 N N (0 : Int32) I J Q )
def v_M_round_6 (N : Nat) : Nat → Int32 → zI → zJ → (Int32 → zI → zJ → Prop) → Prop
  | 0 => fun _ _ _ _ => False
  | k + 1 => fun x1 I J Q  => (((240 : Int32) < x1 → Q (-2 : Int32) I J) ∧ (¬ (240 : Int32) < x1 → (v_M_nightGoes N  I J (fun I2 J2 => (v_M_areAsNow N  I2 J2 (fun r3 I4 J4 => ((r3 = 0 → (v_M_round_6 N k (x1 + (1 : Int32)) I4 J4 Q)) ∧ (¬ r3 = 0 → Q x1 I4 J4))))))))
def v_M_round (N : Nat)  (I : zI) (J : zJ) (Q : Int32 → zI → zJ → Prop) : Prop := (v_M_copiesStill N  I J (fun I1 J1 => (v_M_round_6 N N (1 : Int32) I1 J1 Q )))
def v_M_crossed_39 (N : Nat) : Nat → Int32 → Int32 → Int32 → Int32 → Int32 → zI → zJ → (Int32 → zI → zJ → Prop) → (Int32 → Int32 → Int32 → Int32 → zI → zJ → Prop) → Prop
  | 0 => fun _ _ _ _ _ _ _ _ _ => False
  | k + 1 => fun x1 x2 x3 x4 x5 I J Q K108 => (vp_in (I 361 18) 2 ∧ (((I 374 ((I 361 18)).toNatClampNeg) ≤ x5 → (K108 x1 x2 x3 x4 I J)) ∧ (¬ (I 374 ((I 361 18)).toNatClampNeg) ≤ x5 → (vp_in ((12 : Int32) + x4) 32 ∧ ((¬ (I 393 (((12 : Int32) + x4)).toNatClampNeg) = x5 → (v_M_crossed_39 N k x1 x2 x3 x4 (x5 + (1 : Int32)) I J Q K108)) ∧ ((I 393 (((12 : Int32) + x4)).toNatClampNeg) = x5 → (vp_in ((12 : Int32) + x5) 32 ∧ (((I 393 (((12 : Int32) + x5)).toNatClampNeg) = x4 → ((¬ x2 = 0 → (v_M_crossed_39 N k x1 (x2 + (1 : Int32)) x3 x4 (x5 + (1 : Int32)) I J Q K108)) ∧ (x2 = 0 → (∀ y8 : Int32, y8 = (((10 : Int32) * x4) + x5) → (v_M_crossed_39 N k x1 (x2 + (1 : Int32)) y8 x4 (x5 + (1 : Int32)) I J Q K108))))) ∧ (¬ (I 393 (((12 : Int32) + x5)).toNatClampNeg) = x4 → (v_M_crossed_39 N k x1 x2 x3 x4 (x5 + (1 : Int32)) I J Q K108))))))))))
def v_M_crossed_19 (N : Nat) : Nat → Int32 → Int32 → Int32 → Int32 → zI → zJ → (Int32 → zI → zJ → Prop) → Prop
  | 0 => fun _ _ _ _ _ _ _ => False
  | k + 1 => fun x1 x2 x3 x4 I J Q  => (vp_in (I 361 18) 2 ∧ (((I 374 ((I 361 18)).toNatClampNeg) ≤ x4 → ((¬ x1 = 0 → Q x3 I J) ∧ (x1 = 0 → Q x2 I J))) ∧ (¬ (I 374 ((I 361 18)).toNatClampNeg) ≤ x4 → (∀ y4 : Int32, y4 = (x4 + (1 : Int32)) → (v_M_crossed_39 N N x1 x2 x3 x4 y4 I J Q (fun w5 w6 w7 w8 I9 J9 => (v_M_crossed_19 N k w5 w6 w7 (w8 + (1 : Int32)) I9 J9 Q)))))))
def v_M_crossed (N : Nat) (x1 : Int32) (I : zI) (J : zJ) (Q : Int32 → zI → zJ → Prop) : Prop := (v_M_in N x1 (0 : Int32) (1 : Int32) I J (fun r1 I2 J2 => ((¬ r1 = 0 → (v_M_crossed_19 N N x1 (0 : Int32) (-2 : Int32) (0 : Int32) I2 J2 Q )) ∧ (r1 = 0 → Q (-1 : Int32) I2 J2))))
def v_M_holder_12 (N : Nat) : Nat → Int32 → Int32 → zI → zJ → (Int32 → zI → zJ → Prop) → Prop
  | 0 => fun _ _ _ _ _ => False
  | k + 1 => fun x1 x2 I J Q  => (vp_in (I 361 18) 2 ∧ (((I 374 ((I 361 18)).toNatClampNeg) ≤ x2 → Q (-1 : Int32) I J) ∧ (¬ (I 374 ((I 361 18)).toNatClampNeg) ≤ x2 → (vp_in ((12 : Int32) + x2) 32 ∧ ((¬ (I 393 (((12 : Int32) + x2)).toNatClampNeg) = x1 → (v_M_holder_12 N k x1 (x2 + (1 : Int32)) I J Q)) ∧ ((I 393 (((12 : Int32) + x2)).toNatClampNeg) = x1 → Q x2 I J))))))
def v_M_holder (N : Nat) (x1 : Int32) (I : zI) (J : zJ) (Q : Int32 → zI → zJ → Prop) : Prop := (v_M_isPerson N x1 I J (fun r1 I2 J2 => ((¬ r1 = 0 → (v_M_holder_12 N N x1 (0 : Int32) I2 J2 Q )) ∧ (r1 = 0 → Q (-1 : Int32) I2 J2))))
def v_M_fit_29 (N : Nat) : Nat → Int32 → Int32 → Int32 → Int32 → zI → zJ → (Int32 → zI → zJ → Prop) → (Int32 → Int32 → Int32 → zI → zJ → Prop) → Prop
  | 0 => fun _ _ _ _ _ _ _ _ => False
  | k + 1 => fun x1 x2 x3 x4 I J Q K72 => (vp_in (I 361 18) 2 ∧ (((I 371 ((I 361 18)).toNatClampNeg) ≤ x4 → (K72 x1 x2 x3 I J)) ∧ (¬ (I 371 ((I 361 18)).toNatClampNeg) ≤ x4 → ((x3 < 0 → (v_M_fit_29 N k x1 x2 x4 (x4 + (1 : Int32)) I J Q K72)) ∧ (¬ x3 < 0 → (v_M_costsAt N x1 x4 I J (fun r4 I5 J5 => (v_M_costsAt N x1 x3 I5 J5 (fun r6 I7 J7 => ((r6 ≤ r4 → (v_M_fit_29 N k x1 x2 x3 (x4 + (1 : Int32)) I7 J7 Q K72)) ∧ (¬ r6 ≤ r4 → (v_M_fit_29 N k x1 x2 x4 (x4 + (1 : Int32)) I7 J7 Q K72))))))))))))
def v_M_fit (N : Nat) (x1 : Int32) (x2 : Int32) (I : zI) (J : zJ) (Q : Int32 → zI → zJ → Prop) : Prop := (v_M_isPerson N x1 I J (fun r1 I2 J2 => ((r1 = 0 → Q (-1 : Int32) I2 J2) ∧ (¬ r1 = 0 → (v_M_in N x2 (0 : Int32) (1 : Int32) I2 J2 (fun r4 I5 J5 => ((¬ r4 = 0 → (v_M_copies N  I5 J5 (fun I7 J7 => (v_M_fit_29 N N x1 x2 (-2 : Int32) (0 : Int32) I7 J7 Q (fun w8 w9 w10 I11 J11 => ((w10 < 0 → Q w10 I11 J11) ∧ (¬ w10 < 0 → ((¬ w9 = 0 → (v_M_costsAt N w8 w10 I11 J11 (fun r14 I15 J15 => Q r14 I15 J15))) ∧ (w9 = 0 → Q w10 I11 J11))))))))) ∧ (r4 = 0 → Q (-1 : Int32) I5 J5))))))))
def v_M_crowded_19 (N : Nat) : Nat → Int32 → Int32 → Int32 → zI → zJ → (Int32 → zI → zJ → Prop) → Prop
  | 0 => fun _ _ _ _ _ _ => False
  | k + 1 => fun x1 x2 x3 I J Q  => (((5 : Int32) ≤ x3 → ((¬ x1 = 0 → (v_M_manyOn N x2 I J (fun r3 I4 J4 => Q r3 I4 J4))) ∧ (x1 = 0 → Q x2 I J))) ∧ (¬ (5 : Int32) ≤ x3 → (v_M_manyOn N x3 I J (fun r5 I6 J6 => (v_M_manyOn N x2 I6 J6 (fun r7 I8 J8 => ((r5 ≤ r7 → (v_M_crowded_19 N k x1 x2 (x3 + (1 : Int32)) I8 J8 Q)) ∧ (¬ r5 ≤ r7 → (v_M_crowded_19 N k x1 x3 (x3 + (1 : Int32)) I8 J8 Q)))))))))
def v_M_crowded (N : Nat) (x1 : Int32) (I : zI) (J : zJ) (Q : Int32 → zI → zJ → Prop) : Prop := (v_M_in N x1 (0 : Int32) (1 : Int32) I J (fun r1 I2 J2 => ((¬ r1 = 0 → (v_M_copies N  I2 J2 (fun I4 J4 => (v_M_crowded_19 N N x1 (0 : Int32) (1 : Int32) I4 J4 Q )))) ∧ (r1 = 0 → Q (-1 : Int32) I2 J2))))
def v_M_straight_5 (N : Nat) : Nat → Int32 → Int32 → zI → zJ → (Int32 → zI → zJ → Prop) → Prop
  | 0 => fun _ _ _ _ _ => False
  | k + 1 => fun x1 x2 I J Q  => (vp_in (I 361 18) 2 ∧ (((I 374 ((I 361 18)).toNatClampNeg) ≤ x2 → Q x1 I J) ∧ (¬ (I 374 ((I 361 18)).toNatClampNeg) ≤ x2 → (vp_in ((6 : Int32) + x2) 32 ∧ (((I 393 (((6 : Int32) + x2)).toNatClampNeg) < 0 → (v_M_straight_5 N k x1 (x2 + (1 : Int32)) I J Q)) ∧ (¬ (I 393 (((6 : Int32) + x2)).toNatClampNeg) < 0 → ((x1 < 0 → (v_M_straight_5 N k x2 (x2 + (1 : Int32)) I J Q)) ∧ (¬ x1 < 0 → (vp_in ((18 : Int32) + x2) 32 ∧ (vp_in ((18 : Int32) + x1) 32 ∧ (((I 393 (((18 : Int32) + x1)).toNatClampNeg) ≤ (I 393 (((18 : Int32) + x2)).toNatClampNeg) → (v_M_straight_5 N k x1 (x2 + (1 : Int32)) I J Q)) ∧ (¬ (I 393 (((18 : Int32) + x1)).toNatClampNeg) ≤ (I 393 (((18 : Int32) + x2)).toNatClampNeg) → (v_M_straight_5 N k x2 (x2 + (1 : Int32)) I J Q)))))))))))))
def v_M_straight (N : Nat)  (I : zI) (J : zJ) (Q : Int32 → zI → zJ → Prop) : Prop := (v_M_straight_5 N N (-2 : Int32) (0 : Int32) I J Q )
def v_M_bill_17 (N : Nat) : Nat → Int32 → Int32 → Int32 → zI → zJ → (Int32 → zI → zJ → Prop) → Prop
  | 0 => fun _ _ _ _ _ _ => False
  | k + 1 => fun x1 x2 x3 I J Q  => ((x1 ≤ x3 → Q x2 I J) ∧ (¬ x1 ≤ x3 → (v_M_costsAll N  I J (fun r2 I3 J3 => (∀ y4 : Int32, y4 = (x2 + r2) → (v_M_nightGoes N  I3 J3 (fun I5 J5 => (v_M_bill_17 N k x1 y4 (x3 + (1 : Int32)) I5 J5 Q))))))))
def v_M_bill (N : Nat) (x1 : Int32) (I : zI) (J : zJ) (Q : Int32 → zI → zJ → Prop) : Prop := (v_M_isLong N x1 I J (fun r1 I2 J2 => ((¬ r1 = 0 → (v_M_copiesStill N  I2 J2 (fun I4 J4 => (v_M_bill_17 N N x1 (0 : Int32) (0 : Int32) I4 J4 Q )))) ∧ (r1 = 0 → Q (-1 : Int32) I2 J2))))
def v_M_swap_49 (N : Nat) : Nat → Int32 → Int32 → Int32 → Int32 → Int32 → Int32 → zI → zJ → (Int32 → zI → zJ → Prop) → (Int32 → Int32 → Int32 → Int32 → Int32 → zI → zJ → Prop) → Prop
  | 0 => fun _ _ _ _ _ _ _ _ _ _ => False
  | k + 1 => fun x1 x2 x3 x4 x5 x6 I J Q K122 => (vp_in (I 361 18) 2 ∧ (((I 374 ((I 361 18)).toNatClampNeg) ≤ x6 → (K122 x1 x2 x3 x4 x5 I J)) ∧ (¬ (I 374 ((I 361 18)).toNatClampNeg) ≤ x6 → (v_M_areUp N x5 x6 I J (fun r3 I4 J4 => ((¬ r3 = 0 → (v_M_changesFor N x5 x6 I4 J4 (fun I6 J6 => (v_M_costsAll N  I6 J6 (fun r7 I8 J8 => (∀ y9 : Int32, y9 = (x2 - r7) → ((x4 < y9 → (∀ y11 : Int32, y11 = (((10 : Int32) * x5) + x6) → (v_M_swap_49 N k x1 x2 y11 y9 x5 (x6 + (1 : Int32)) I8 J8 Q K122))) ∧ (¬ x4 < y9 → (v_M_swap_49 N k x1 x2 x3 x4 x5 (x6 + (1 : Int32)) I8 J8 Q K122))))))))) ∧ (r3 = 0 → (v_M_swap_49 N k x1 x2 x3 x4 x5 (x6 + (1 : Int32)) I4 J4 Q K122))))))))
def v_M_swap_29 (N : Nat) : Nat → Int32 → Int32 → Int32 → Int32 → Int32 → zI → zJ → (Int32 → zI → zJ → Prop) → Prop
  | 0 => fun _ _ _ _ _ _ _ _ => False
  | k + 1 => fun x1 x2 x3 x4 x5 I J Q  => (vp_in (I 361 18) 2 ∧ (((I 374 ((I 361 18)).toNatClampNeg) ≤ x5 → ((x3 < 0 → Q x3 I J) ∧ (¬ x3 < 0 → ((¬ x1 = 0 → Q x4 I J) ∧ (x1 = 0 → Q x3 I J))))) ∧ (¬ (I 374 ((I 361 18)).toNatClampNeg) ≤ x5 → (∀ y5 : Int32, y5 = (x5 + (1 : Int32)) → (v_M_swap_49 N N x1 x2 x3 x4 x5 y5 I J Q (fun w6 w7 w8 w9 w10 I11 J11 => (v_M_swap_29 N k w6 w7 w8 w9 (w10 + (1 : Int32)) I11 J11 Q)))))))
def v_M_swap (N : Nat) (x1 : Int32) (I : zI) (J : zJ) (Q : Int32 → zI → zJ → Prop) : Prop := (v_M_in N x1 (0 : Int32) (1 : Int32) I J (fun r1 I2 J2 => ((¬ r1 = 0 → (v_M_copies N  I2 J2 (fun I4 J4 => (v_M_costsAll N  I4 J4 (fun r5 I6 J6 => (v_M_swap_29 N N x1 r5 (-2 : Int32) (0 : Int32) (0 : Int32) I6 J6 Q )))))) ∧ (r1 = 0 → Q (-1 : Int32) I2 J2))))
def v_M_upright_34 (N : Nat) : Nat → Int32 → Int32 → Int32 → zI → zJ → (Int32 → zI → zJ → Prop) → Prop
  | 0 => fun _ _ _ _ _ _ => False
  | k + 1 => fun x2 x3 x4 I J Q  => (vp_in (I 361 18) 2 ∧ (((I 374 ((I 361 18)).toNatClampNeg) ≤ x4 → Q x3 I J) ∧ (¬ (I 374 ((I 361 18)).toNatClampNeg) ≤ x4 → (vp_in ((18 : Int32) + x4) 32 ∧ ((x2 ≤ (I 394 (((18 : Int32) + x4)).toNatClampNeg) → (v_M_upright_34 N k x2 x3 (x4 + (1 : Int32)) I J Q)) ∧ (¬ x2 ≤ (I 394 (((18 : Int32) + x4)).toNatClampNeg) → (∀ y5 : Int32, y5 = (x3 ||| ((1 : Int32) <<< (x4 &&& 31))) → (v_M_upright_34 N k x2 y5 (x4 + (1 : Int32)) I J Q))))))))
def v_M_upright (N : Nat) (x1 : Int32) (x2 : Int32) (I : zI) (J : zJ) (Q : Int32 → zI → zJ → Prop) : Prop := (v_M_isLong N x1 I J (fun r1 I2 J2 => ((r1 = 0 → Q (-1 : Int32) I2 J2) ∧ (¬ r1 = 0 → (v_M_in N x2 (1 : Int32) (999 : Int32) I2 J2 (fun r4 I5 J5 => ((¬ r4 = 0 → (v_M_copiesStill N  I5 J5 (fun I7 J7 => (v_M_goes N x1 I7 J7 (fun I8 J8 => (v_M_upright_34 N N x2 (0 : Int32) (0 : Int32) I8 J8 Q )))))) ∧ (r4 = 0 → Q (-1 : Int32) I5 J5))))))))
def v_M_free_20 (N : Nat) : Nat → Int32 → Int32 → Int32 → zI → zJ → (Int32 → zI → zJ → Prop) → (Int32 → Int32 → zI → zJ → Prop) → Prop
  | 0 => fun _ _ _ _ _ _ _ => False
  | k + 1 => fun x1 x2 x3 I J Q K84 => (vp_in (I 361 18) 2 ∧ (((I 371 ((I 361 18)).toNatClampNeg) ≤ x3 → (K84 x1 x2 I J)) ∧ (¬ (I 371 ((I 361 18)).toNatClampNeg) ≤ x3 → (v_M_whoIsOn N x3 I J (fun r3 I4 J4 => ((0 ≤ r3 → (v_M_free_20 N k x1 x2 (x3 + (1 : Int32)) I4 J4 Q K84)) ∧ (¬ 0 ≤ r3 → ((x2 < 0 → (v_M_free_20 N k x1 x3 (x3 + (1 : Int32)) I4 J4 Q K84)) ∧ (¬ x2 < 0 → (vp_in (((7 : Int32) * (I4 361 18)) + x3) 14 ∧ (vp_in (((7 : Int32) * (I4 361 18)) + x2) 14 ∧ (((I4 373 ((((7 : Int32) * (I4 361 18)) + x3)).toNatClampNeg) ≤ (I4 373 ((((7 : Int32) * (I4 361 18)) + x2)).toNatClampNeg) → (v_M_free_20 N k x1 x2 (x3 + (1 : Int32)) I4 J4 Q K84)) ∧ (¬ (I4 373 ((((7 : Int32) * (I4 361 18)) + x3)).toNatClampNeg) ≤ (I4 373 ((((7 : Int32) * (I4 361 18)) + x2)).toNatClampNeg) → (v_M_free_20 N k x1 x3 (x3 + (1 : Int32)) I4 J4 Q K84))))))))))))))
def v_M_free (N : Nat) (x1 : Int32) (I : zI) (J : zJ) (Q : Int32 → zI → zJ → Prop) : Prop := (v_M_in N x1 (0 : Int32) (1 : Int32) I J (fun r1 I2 J2 => ((¬ r1 = 0 → (v_M_copies N  I2 J2 (fun I4 J4 => (v_M_free_20 N N x1 (-2 : Int32) (0 : Int32) I4 J4 Q (fun w5 w6 I7 J7 => ((w6 < 0 → Q w6 I7 J7) ∧ (¬ w6 < 0 → ((¬ w5 = 0 → (vp_in (((7 : Int32) * (I7 361 18)) + w6) 14 ∧ Q (I7 373 ((((7 : Int32) * (I7 361 18)) + w6)).toNatClampNeg) I7 J7)) ∧ (w5 = 0 → Q w6 I7 J7))))))))) ∧ (r1 = 0 → Q (-1 : Int32) I2 J2))))
def v_M_then (N : Nat) (x1 : Int32) (x2 : Int32) (x3 : Int32) (I : zI) (J : zJ) (Q : Int32 → zI → zJ → Prop) : Prop := (v_M_isPerson N x1 I J (fun r1 I2 J2 => ((r1 = 0 → Q (-1 : Int32) I2 J2) ∧ (¬ r1 = 0 → (v_M_isLong N x2 I2 J2 (fun r4 I5 J5 => ((r4 = 0 → Q (-1 : Int32) I5 J5) ∧ (¬ r4 = 0 → (v_M_in N x3 (0 : Int32) (2 : Int32) I5 J5 (fun r7 I8 J8 => ((¬ r7 = 0 → (v_M_copies N  I8 J8 (fun I10 J10 => (v_M_goes N x2 I10 J10 (fun I11 J11 => ((¬ x3 = 0 → ((¬ x3 = (1 : Int32) → (vp_in ((6 : Int32) + x1) 32 ∧ Q (I11 394 (((6 : Int32) + x1)).toNatClampNeg) I11 J11)) ∧ (x3 = (1 : Int32) → (vp_in ((18 : Int32) + x1) 32 ∧ Q (I11 394 (((18 : Int32) + x1)).toNatClampNeg) I11 J11)))) ∧ (x3 = 0 → (vp_in ((12 : Int32) + x1) 32 ∧ Q (I11 394 (((12 : Int32) + x1)).toNatClampNeg) I11 J11)))))))) ∧ (r7 = 0 → Q (-1 : Int32) I8 J8))))))))))))
def v_M_bentIn (N : Nat) (x1 : Int32) (x2 : Int32) (I : zI) (J : zJ) (Q : Int32 → zI → zJ → Prop) : Prop := (v_M_isHanger N x1 I J (fun r1 I2 J2 => ((r1 = 0 → Q (-1 : Int32) I2 J2) ∧ (¬ r1 = 0 → (v_M_isLong N x2 I2 J2 (fun r4 I5 J5 => ((¬ r4 = 0 → (v_M_copies N  I5 J5 (fun I7 J7 => (v_M_goes N x2 I7 J7 (fun I8 J8 => (vp_in ((24 : Int32) + x1) 32 ∧ Q (I8 394 (((24 : Int32) + x1)).toNatClampNeg) I8 J8)))))) ∧ (r4 = 0 → Q (-1 : Int32) I5 J5))))))))
def v_M_year_33 (N : Nat) : Nat → Int32 → Int32 → Int32 → Int32 → Int32 → zI → zJ → (Int32 → zI → zJ → Prop) → Prop
  | 0 => fun _ _ _ _ _ _ _ _ => False
  | k + 1 => fun x1 x2 x3 x4 x5 I J Q  => ((x3 ≤ x5 → Q x4 I J) ∧ (¬ x3 ≤ x5 → (v_M_copies N  I J (fun I2 J2 => (∀ I3 : zI, I3 = qu I2 361 51 ((I2 361 51) + x5) → (v_M_goes N x2 I3 J2 (fun I4 J4 => (v_M_isUp N x1 I4 J4 (fun r5 I6 J6 => ((r5 = 0 → (v_M_year_33 N k x1 x2 x3 x4 (x5 + (1 : Int32)) I6 J6 Q)) ∧ (¬ r5 = 0 → (v_M_year_33 N k x1 x2 x3 (x4 + (1 : Int32)) (x5 + (1 : Int32)) I6 J6 Q))))))))))))
def v_M_year (N : Nat) (x1 : Int32) (x2 : Int32) (x3 : Int32) (I : zI) (J : zJ) (Q : Int32 → zI → zJ → Prop) : Prop := (v_M_isPerson N x1 I J (fun r1 I2 J2 => ((r1 = 0 → Q (-1 : Int32) I2 J2) ∧ (¬ r1 = 0 → (v_M_isLong N x2 I2 J2 (fun r4 I5 J5 => ((r4 = 0 → Q (-1 : Int32) I5 J5) ∧ (¬ r4 = 0 → (v_M_in N x3 (1 : Int32) (20 : Int32) I5 J5 (fun r7 I8 J8 => ((¬ r7 = 0 → (v_M_year_33 N N x1 x2 x3 (0 : Int32) (0 : Int32) I8 J8 Q )) ∧ (r7 = 0 → Q (-1 : Int32) I8 J8))))))))))))
def v_M_tell (N : Nat) (x1 : Int32) (x2 : Int32) (x3 : Int32) (I : zI) (J : zJ) (Q : Int32 → zI → zJ → Prop) : Prop := (((I 361 63) = (20 : Int32) → Q (-1 : Int32) I J) ∧ (¬ (I 361 63) = (20 : Int32) → (v_M_isPerson N x1 I J (fun r2 I3 J3 => ((r2 = 0 → Q (-1 : Int32) I3 J3) ∧ (¬ r2 = 0 → (v_M_isPerson N x2 I3 J3 (fun r5 I6 J6 => ((¬ r5 = 0 → (vp_in (I6 361 63) 20 ∧ ∀ I9 : zI, I9 = qu I6 403 ((I6 361 63)).toNatClampNeg x1 → (vp_in (I9 361 63) 20 ∧ ∀ I11 : zI, I11 = qu I9 404 ((I9 361 63)).toNatClampNeg x2 → (vp_in (I11 361 63) 20 ∧ ∀ I13 : zI, I13 = qu I11 405 ((I11 361 63)).toNatClampNeg (vp_nar .boolean x3) → (∀ I14 : zI, I14 = qu I13 361 63 ((I13 361 63) + (1 : Int32)) → Q ((I14 361 63) - (1 : Int32)) I14 J6))))) ∧ (r5 = 0 → Q (-1 : Int32) I6 J6))))))))))
def v_M_forget (N : Nat)  (I : zI) (J : zJ) (Q : Int32 → zI → zJ → Prop) : Prop := (∀ y1 : Int32, y1 = (I 361 63) → (∀ I2 : zI, I2 = qu I 361 63 (0 : Int32) → Q y1 I2 J))
def v_M_fillsPairs_78 (N : Nat) : Nat → Int32 → Int32 → Int32 → Int32 → zI → zJ → (Int32 → zI → zJ → Prop) → (Int32 → Int32 → Int32 → zI → zJ → Prop) → Prop
  | 0 => fun _ _ _ _ _ _ _ _ => False
  | k + 1 => fun x1 x2 x3 x6 I J Q K113 => (((6 : Int32) ≤ x6 → (K113 x1 x2 x3 I J)) ∧ (¬ (6 : Int32) ≤ x6 → (vp_in ((12 : Int32) + x6) 32 ∧ (vp_in (((6 : Int32) * x3) + x6) 216 ∧ ∀ I4 : zI, I4 = qu I 407 ((((6 : Int32) * x3) + x6)).toNatClampNeg (I 394 (((12 : Int32) + x6)).toNatClampNeg) → (v_M_fillsPairs_78 N k x1 x2 x3 (x6 + (1 : Int32)) I4 J Q K113)))))
def v_M_fillsPairs_152 (N : Nat) (x1 : Int32) (x2 : Int32) (x3 : Int32) (x6 : Int32) (z0 : Int32) (I : zI) (J : zJ) (Q : Int32 → zI → zJ → Prop) (K116 : Int32 → Int32 → Int32 → Int32 → zI → zJ → Prop) : Prop := (vp_in x6 20 ∧ ((z0 = (I 405 (x6).toNatClampNeg) → (K116 x1 x2 x3 (x6 + (1 : Int32)) I J)) ∧ (¬ z0 = (I 405 (x6).toNatClampNeg) → (vp_in x3 36 ∧ ∀ I4 : zI, I4 = qu I 406 (x3).toNatClampNeg (vp_nar .boolean (0 : Int32)) → (K116 x1 x2 x3 (x6 + (1 : Int32)) I4 J)))))
def v_M_fillsPairs_116 (N : Nat) : Nat → Int32 → Int32 → Int32 → Int32 → zI → zJ → (Int32 → zI → zJ → Prop) → (Int32 → Int32 → Int32 → zI → zJ → Prop) → Prop
  | 0 => fun _ _ _ _ _ _ _ _ => False
  | k + 1 => fun x1 x2 x3 x6 I J Q K175 => ((x1 ≤ x6 → (K175 x1 x2 x3 I J)) ∧ (¬ x1 ≤ x6 → (vp_in x6 20 ∧ (vp_in ((12 : Int32) + (I 403 (x6).toNatClampNeg)) 32 ∧ (vp_in x6 20 ∧ ((¬ (I 394 (((12 : Int32) + (I 403 (x6).toNatClampNeg))).toNatClampNeg) = (I 404 (x6).toNatClampNeg) → (v_M_fillsPairs_152 N x1 x2 x3 x6 (0 : Int32) I J Q (fun x1 x2 x3 x6 I J => v_M_fillsPairs_116 N k x1 x2 x3 x6 I J Q K175))) ∧ ((I 394 (((12 : Int32) + (I 403 (x6).toNatClampNeg))).toNatClampNeg) = (I 404 (x6).toNatClampNeg) → (v_M_fillsPairs_152 N x1 x2 x3 x6 (1 : Int32) I J Q (fun x1 x2 x3 x6 I J => v_M_fillsPairs_116 N k x1 x2 x3 x6 I J Q K175)))))))))
def v_M_fillsPairs_50 (N : Nat) (x1 : Int32) (x2 : Int32) (x3 : Int32) (x4 : Int32) (x5 : Int32) (z0 : Int32) (z1 : Int32) (I : zI) (J : zJ) (Q : Int32 → zI → zJ → Prop) (K4 : Int32 → Int32 → Int32 → zI → zJ → Prop) : Prop := (vp_in z1 36 ∧ ∀ I2 : zI, I2 = qu I 406 (z1).toNatClampNeg (vp_nar .boolean z0) → (vp_in x3 36 ∧ ((¬ (I2 406 (x3).toNatClampNeg) = 0 → (v_M_changesFor N x4 x5 I2 J (fun I5 J5 => (v_M_nightGoes N  I5 J5 (fun I6 J6 => (v_M_fillsPairs_78 N N x1 x2 x3 (0 : Int32) I6 J6 Q (fun w7 w8 w9 I10 J10 => (v_M_fillsPairs_116 N N w7 w8 w9 (0 : Int32) I10 J10 Q (fun w11 w12 w13 I14 J14 => (vp_in w13 36 ∧ (((I14 406 (w13).toNatClampNeg) = 0 → (K4 w11 w12 (w13 + (1 : Int32)) I14 J14)) ∧ (¬ (I14 406 (w13).toNatClampNeg) = 0 → (K4 w11 (w12 + (1 : Int32)) (w13 + (1 : Int32)) I14 J14))))))))))))) ∧ ((I2 406 (x3).toNatClampNeg) = 0 → (K4 x1 x2 (x3 + (1 : Int32)) I2 J)))))
def v_M_fillsPairs_49 (N : Nat) (x1 : Int32) (x2 : Int32) (x3 : Int32) (x4 : Int32) (x5 : Int32) (z0 : Int32) (I : zI) (J : zJ) (Q : Int32 → zI → zJ → Prop) (K4 : Int32 → Int32 → Int32 → zI → zJ → Prop) : Prop := (v_M_fillsPairs_50 N x1 x2 x3 x4 x5 (0 : Int32) z0 I J Q K4)
def v_M_fillsPairs_4 (N : Nat) : Nat → Int32 → Int32 → Int32 → zI → zJ → (Int32 → zI → zJ → Prop) → Prop
  | 0 => fun _ _ _ _ _ _ => False
  | k + 1 => fun x1 x2 x3 I J Q  => (((36 : Int32) ≤ x3 → Q x2 I J) ∧ (¬ (36 : Int32) ≤ x3 → (¬ (6 : Int32) = 0 ∧ (∀ y3 : Int32, y3 = (x3 / (6 : Int32)) → (¬ (6 : Int32) = 0 ∧ (∀ y5 : Int32, y5 = (x3 - x3 / (6 : Int32) * (6 : Int32)) → ((y5 ≤ y3 → (v_M_fillsPairs_49 N x1 x2 x3 y3 y5 x3 I J Q (fun x1 x2 x3 I J => v_M_fillsPairs_4 N k x1 x2 x3 I J Q))) ∧ (¬ y5 ≤ y3 → (v_M_areUp N y3 y5 I J (fun r7 I8 J8 => ((r7 = 0 → (v_M_fillsPairs_49 N x1 x2 x3 y3 y5 x3 I8 J8 Q (fun x1 x2 x3 I J => v_M_fillsPairs_4 N k x1 x2 x3 I J Q))) ∧ (¬ r7 = 0 → (v_M_fillsPairs_50 N x1 x2 x3 y3 y5 (1 : Int32) x3 I8 J8 Q (fun x1 x2 x3 I J => v_M_fillsPairs_4 N k x1 x2 x3 I J Q))))))))))))))
def v_M_fillsPairs (N : Nat) (x1 : Int32) (I : zI) (J : zJ) (Q : Int32 → zI → zJ → Prop) : Prop := (v_M_fillsPairs_4 N N x1 (0 : Int32) (0 : Int32) I J Q )
theorem u_M_straighten (N : Nat) (x1 : Int32) (I : zI) (J : zJ) (Q : Int32 → zI → zJ → Prop) (Q' : Int32 → qH → Prop) (hQ : ∀ (r : Int32) (I : zI) (J : zJ), Q r I J → Q' r (zH I J)) (hv : v_M_straighten N x1 I J Q) : w_M_straighten N 361 x1 (zH I J) Q' := by
  unfold w_M_straighten
  unfold v_M_straighten at hv
  refine ⟨rfl, ?_⟩
  refine u_M_isHanger N x1 I J _ _ (fun r1 I2 J2 hv => ?_) hv
  refine ⟨fun q3 => ?_, fun q3 => ?_⟩
  · have hv := hv.1 q3
    exact ⟨Or.inl rfl, hQ _ _ _ hv⟩
  · have hv := hv.2 q3
    refine ⟨rfl, ?_⟩
    obtain ⟨g4, hv⟩ := hv
    refine ⟨qok_mk rfl g4, ?_⟩
    refine ⟨fun q5 => ?_, fun q5 => ?_⟩
    · have hv := hv.1 q5
      refine u_M_copies N  I2 J2 _ _ (fun I6 J6 hv => ?_) hv
      refine ⟨rfl, ?_⟩
      refine u_M_whoIsOn N x1 I6 J6 _ _ (fun r7 I8 J8 hv => ?_) hv
      refine ⟨fun q9 => ?_, fun q9 => ?_⟩
      · have hv := hv.1 q9
        refine ⟨rfl, ?_⟩
        refine u_M_does N ((24 : Int32) + x1) (0 : Int32) I8 J8 _ _ (fun I10 J10 hv => ?_) hv
        exact ⟨Or.inr rfl, hQ _ _ _ hv⟩
      · have hv := hv.2 q9
        exact ⟨Or.inl rfl, hQ _ _ _ hv⟩
    · have hv := hv.2 q5
      exact ⟨Or.inl rfl, hQ _ _ _ hv⟩
theorem u_M_isLong (N : Nat) (x0 : Int32) (I : zI) (J : zJ) (Q : Int32 → zI → zJ → Prop) (Q' : Int32 → qH → Prop) (hQ : ∀ (r : Int32) (I : zI) (J : zJ), Q r I J → Q' r (zH I J)) (hv : v_M_isLong N x0 I J Q) : w_M_isLong N x0 (zH I J) Q' := by
  unfold w_M_isLong
  unfold v_M_isLong at hv
  refine u_M_in N x0 (0 : Int32) (60 : Int32) I J _ _ (fun r1 I2 J2 hv => ?_) hv
  exact ⟨hv.1, hQ _ _ _ hv.2⟩
theorem u_M_nights (N : Nat) (x1 : Int32) (I : zI) (J : zJ) (Q : Int32 → zI → zJ → Prop) (Q' : Int32 → qH → Prop) (hQ : ∀ (r : Int32) (I : zI) (J : zJ), Q r I J → Q' r (zH I J)) (hv : v_M_nights N x1 I J Q) : w_M_nights N 361 x1 (zH I J) Q' := by
  unfold w_M_nights
  unfold v_M_nights at hv
  refine u_M_isLong N x1 I J _ _ (fun r1 I2 J2 hv => ?_) hv
  refine ⟨fun q3 => ?_, fun q3 => ?_⟩
  · have hv := hv.1 q3
    refine ⟨fun q4 => ?_, fun q4 => ?_⟩
    · have hv := hv.1 q4
      refine ⟨rfl, ?_⟩
      refine u_M_copies N  I2 J2 _ _ (fun I5 J5 hv => ?_) hv
      refine ⟨rfl, ?_⟩
      refine u_M_goes N x1 I5 J5 _ _ (fun I6 J6 hv => ?_) hv
      refine ⟨rfl, ?_⟩
      refine u_M_records N  I6 J6 _ _ (fun I7 J7 hv => ?_) hv
      refine ⟨rfl, ?_⟩
      obtain ⟨g8, hv⟩ := hv
      refine ⟨qok_mk rfl g8, ?_⟩
      exact hQ _ _ _ hv
    · have hv := hv.2 q4
      refine ⟨rfl, ?_⟩
      obtain ⟨g9, hv⟩ := hv
      refine ⟨qok_mk rfl g9, ?_⟩
      exact hQ _ _ _ hv
  · have hv := hv.2 q3
    exact hQ _ _ _ hv
theorem u_M_undo_21 (N k : Nat) (x1 : Int32) (I : zI) (J : zJ) (Q : Int32 → zI → zJ → Prop) (Q' : Int32 → qH → Prop) (hQ : ∀ (r : Int32) (I : zI) (J : zJ), Q r I J → Q' r (zH I J)) (hv : v_M_undo_21 N k x1 I J Q ) : w_M_undo_21 N k 361 x1 (zH I J) Q'  := by
  induction k generalizing x1 I J with
  | zero => exact hv.elim
  | succ k ih =>
    rw [w_M_undo_21]
    rw [v_M_undo_21] at hv
    refine ⟨fun q1 => ?_, fun q1 => ?_⟩
    · have hv := hv.1 q1
      exact ⟨Or.inr rfl, hQ _ _ _ hv⟩
    · have hv := hv.2 q1
      refine ⟨rfl, ?_⟩
      obtain ⟨g2, hv⟩ := hv
      refine ⟨qok_mk rfl g2, ?_⟩
      obtain ⟨g3, hv⟩ := hv
      refine ⟨qok_mk rfl g3, ?_⟩
      obtain ⟨I4, eI4⟩ : ∃ z, z = qu I 393 (x1).toNatClampNeg (I 399 ((((32 : Int32) * (I 361 57)) + x1)).toNatClampNeg) := ⟨_, rfl⟩
      have hv := hv I4 eI4
      intro h4 eh4
      have eh4 : h4 = zH I4 J := by rw [eh4, eI4]; rfl
      subst eh4
      exact ih (x1 + (1 : Int32)) I4 J hv
theorem u_M_undo (N : Nat)  (I : zI) (J : zJ) (Q : Int32 → zI → zJ → Prop) (Q' : Int32 → qH → Prop) (hQ : ∀ (r : Int32) (I : zI) (J : zJ), Q r I J → Q' r (zH I J)) (hv : v_M_undo N  I J Q) : w_M_undo N 361 (zH I J) Q' := by
  unfold w_M_undo
  unfold v_M_undo at hv
  refine ⟨rfl, ?_⟩
  refine ⟨fun q1 => ?_, fun q1 => ?_⟩
  · have hv := hv.1 q1
    obtain ⟨I2, eI2⟩ : ∃ z, z = qu I 361 57 ((I 361 57) - (1 : Int32)) := ⟨_, rfl⟩
    have hv := hv I2 eI2
    intro h2 eh2
    have eh2 : h2 = zH I2 J := by rw [eh2, eI2]; rfl
    subst eh2
    exact u_M_undo_21 N N (0 : Int32) I2 J Q _ hQ   hv
  · have hv := hv.2 q1
    exact ⟨Or.inl rfl, hQ _ _ _ hv⟩
theorem u_M_fillsTable_21 (N k : Nat) (x1 : Int32) (x2 : Int32) (I : zI) (J : zJ) (Q : zI → zJ → Prop) (Q' : qH → Prop) (hQ : ∀ (I : zI) (J : zJ), Q I J → Q' (zH I J)) (K57 : Int32 → zI → zJ → Prop) (K57' : Nat → Int32 → qH → Prop) (hK57 : ∀ (x1 : Int32) (I : zI) (J : zJ), K57 x1 I J → K57' 361 x1 (zH I J)) (hv : v_M_fillsTable_21 N k x1 x2 I J Q K57) : w_M_fillsTable_21 N k 361 x1 x2 (zH I J) Q' K57' := by
  induction k generalizing x1 x2 I J with
  | zero => exact hv.elim
  | succ k ih =>
    rw [w_M_fillsTable_21]
    rw [v_M_fillsTable_21] at hv
    refine ⟨rfl, ?_⟩
    obtain ⟨g1, hv⟩ := hv
    refine ⟨qok_mk rfl g1, ?_⟩
    refine ⟨fun q2 => ?_, fun q2 => ?_⟩
    · have hv := hv.1 q2
      exact hK57 x1 I J hv
    · have hv := hv.2 q2
      refine u_M_costsAt N x1 x2 I J _ _ (fun r3 I4 J4 hv => ?_) hv
      obtain ⟨g5, hv⟩ := hv
      refine ⟨qok_mk rfl g5, ?_⟩
      obtain ⟨I6, eI6⟩ : ∃ z, z = qu I4 401 ((((7 : Int32) * x1) + x2)).toNatClampNeg r3 := ⟨_, rfl⟩
      have hv := hv I6 eI6
      intro h6 eh6
      have eh6 : h6 = zH I6 J4 := by rw [eh6, eI6]; rfl
      subst eh6
      exact ih x1 (x2 + (1 : Int32)) I6 J4 hv
theorem u_M_fillsTable_6 (N k : Nat) (x1 : Int32) (I : zI) (J : zJ) (Q : zI → zJ → Prop) (Q' : qH → Prop) (hQ : ∀ (I : zI) (J : zJ), Q I J → Q' (zH I J)) (hv : v_M_fillsTable_6 N k x1 I J Q ) : w_M_fillsTable_6 N k 361 x1 (zH I J) Q'  := by
  induction k generalizing x1 I J with
  | zero => exact hv.elim
  | succ k ih =>
    rw [w_M_fillsTable_6]
    rw [v_M_fillsTable_6] at hv
    refine ⟨rfl, ?_⟩
    obtain ⟨g1, hv⟩ := hv
    refine ⟨qok_mk rfl g1, ?_⟩
    refine ⟨fun q2 => ?_, fun q2 => ?_⟩
    · have hv := hv.1 q2
      exact hQ _ _ hv
    · have hv := hv.2 q2
      refine u_M_fillsTable_21 N N x1 (0 : Int32) I J Q _ hQ _ _ (fun w3 I4 J4 hv => ?_)  hv
      exact ih (w3 + (1 : Int32)) I4 J4 hv
theorem u_M_fillsTable (N : Nat)  (I : zI) (J : zJ) (Q : zI → zJ → Prop) (Q' : qH → Prop) (hQ : ∀ (I : zI) (J : zJ), Q I J → Q' (zH I J)) (hv : v_M_fillsTable N  I J Q) : w_M_fillsTable N 361 (zH I J) Q' := by
  unfold w_M_fillsTable
  unfold v_M_fillsTable at hv
  refine ⟨rfl, ?_⟩
  refine u_M_copies N  I J _ _ (fun I1 J1 hv => ?_) hv
  exact u_M_fillsTable_6 N N (0 : Int32) I1 J1 Q _ hQ   hv
theorem u_M_bitOf (N : Nat) (x1 : Int32) (I : zI) (J : zJ) (Q : Int32 → zI → zJ → Prop) (Q' : Int32 → qH → Prop) (hQ : ∀ (r : Int32) (I : zI) (J : zJ), Q r I J → Q' r (zH I J)) (hv : v_M_bitOf N x1 I J Q) : w_M_bitOf N 361 x1 (zH I J) Q' := by
  unfold w_M_bitOf
  unfold v_M_bitOf at hv
  refine ⟨rfl, ?_⟩
  refine ⟨fun q1 => ?_, fun q1 => ?_⟩
  · have hv := hv.1 q1
    exact hQ _ _ _ hv
  · have hv := hv.2 q1
    refine u_M_nailAt N x1 I J _ _ (fun r2 I3 J3 hv => ?_) hv
    exact hQ _ _ _ hv
theorem u_M_with (N : Nat) (x1 : Int32) (x2 : Int32) (x3 : Int32) (I : zI) (J : zJ) (Q : Int32 → zI → zJ → Prop) (Q' : Int32 → qH → Prop) (hQ : ∀ (r : Int32) (I : zI) (J : zJ), Q r I J → Q' r (zH I J)) (hv : v_M_with N x1 x2 x3 I J Q) : w_M_with N 361 x1 x2 x3 (zH I J) Q' := by
  unfold w_M_with
  unfold v_M_with at hv
  refine ⟨rfl, ?_⟩
  obtain ⟨g1, hv⟩ := hv
  refine ⟨qok_mk rfl g1, ?_⟩
  refine u_M_bitOf N x2 I J _ _ (fun r2 I3 J3 hv => ?_) hv
  obtain ⟨g4, hv⟩ := hv
  refine ⟨qok_mk rfl g4, ?_⟩
  exact hQ _ _ _ hv
theorem u_M_fillsLeast_11 (N k : Nat) (x2 : Int32) (I : zI) (J : zJ) (Q : zI → zJ → Prop) (Q' : qH → Prop) (hQ : ∀ (I : zI) (J : zJ), Q I J → Q' (zH I J)) (K45 : zI → zJ → Prop) (K45' : Nat → qH → Prop) (hK45 : ∀  (I : zI) (J : zJ), K45  I J → K45' 361 (zH I J)) (hv : v_M_fillsLeast_11 N k x2 I J Q K45) : w_M_fillsLeast_11 N k 361 x2 (zH I J) Q' K45' := by
  induction k generalizing x2 I J with
  | zero => exact hv.elim
  | succ k ih =>
    rw [w_M_fillsLeast_11]
    rw [v_M_fillsLeast_11] at hv
    refine ⟨fun q1 => ?_, fun q1 => ?_⟩
    · have hv := hv.1 q1
      exact hK45 I J hv
    · have hv := hv.2 q1
      refine ⟨rfl, ?_⟩
      obtain ⟨g2, hv⟩ := hv
      refine ⟨qok_mk rfl g2, ?_⟩
      obtain ⟨g3, hv⟩ := hv
      refine ⟨qok_mk rfl g3, ?_⟩
      obtain ⟨I4, eI4⟩ : ∃ z, z = qu I 400 ((((128 : Int32) * (I 374 ((I 361 18)).toNatClampNeg)) + x2)).toNatClampNeg (0 : Int32) := ⟨_, rfl⟩
      have hv := hv I4 eI4
      intro h4 eh4
      have eh4 : h4 = zH I4 J := by rw [eh4, eI4]; rfl
      subst eh4
      exact ih (x2 + (1 : Int32)) I4 J hv
theorem u_M_fillsLeast_91 (N k : Nat) (x2 : Int32) (x3 : Int32) (x4 : Int32) (x5 : Int32) (I : zI) (J : zJ) (Q : zI → zJ → Prop) (Q' : qH → Prop) (hQ : ∀ (I : zI) (J : zJ), Q I J → Q' (zH I J)) (K145 : Int32 → Int32 → Int32 → zI → zJ → Prop) (K145' : Nat → Int32 → Int32 → Int32 → qH → Prop) (hK145 : ∀ (x2 : Int32) (x3 : Int32) (x4 : Int32) (I : zI) (J : zJ), K145 x2 x3 x4 I J → K145' 361 x2 x3 x4 (zH I J)) (hv : v_M_fillsLeast_91 N k x2 x3 x4 x5 I J Q K145) : w_M_fillsLeast_91 N k 361 x2 x3 x4 x5 (zH I J) Q' K145' := by
  induction k generalizing x2 x3 x4 x5 I J with
  | zero => exact hv.elim
  | succ k ih =>
    rw [w_M_fillsLeast_91]
    rw [v_M_fillsLeast_91] at hv
    refine ⟨rfl, ?_⟩
    obtain ⟨g1, hv⟩ := hv
    refine ⟨qok_mk rfl g1, ?_⟩
    refine ⟨fun q2 => ?_, fun q2 => ?_⟩
    · have hv := hv.1 q2
      exact hK145 x2 x3 x4 I J hv
    · have hv := hv.2 q2
      refine u_M_bitOf N x5 I J _ _ (fun r3 I4 J4 hv => ?_) hv
      refine ⟨fun q5 => ?_, fun q5 => ?_⟩
      · have hv := hv.1 q5
        exact ih x2 x3 x4 (x5 + (1 : Int32)) I4 J4 hv
      · have hv := hv.2 q5
        refine ⟨rfl, ?_⟩
        refine u_M_with N x2 x5 x3 I4 J4 _ _ (fun r6 I7 J7 hv => ?_) hv
        refine ⟨fun q8 => ?_, fun q8 => ?_⟩
        · have hv := hv.1 q8
          exact ih x2 x3 x4 (x5 + (1 : Int32)) I7 J7 hv
        · have hv := hv.2 q8
          refine ⟨rfl, ?_⟩
          refine u_M_with N x2 x5 x3 I7 J7 _ _ (fun r9 I10 J10 hv => ?_) hv
          exact ih x2 x3 r9 (x5 + (1 : Int32)) I10 J10 hv
theorem u_M_fillsLeast_63 (N k : Nat) (x2 : Int32) (x3 : Int32) (I : zI) (J : zJ) (Q : zI → zJ → Prop) (Q' : qH → Prop) (hQ : ∀ (I : zI) (J : zJ), Q I J → Q' (zH I J)) (K165 : Int32 → zI → zJ → Prop) (K165' : Nat → Int32 → qH → Prop) (hK165 : ∀ (x2 : Int32) (I : zI) (J : zJ), K165 x2 I J → K165' 361 x2 (zH I J)) (hv : v_M_fillsLeast_63 N k x2 x3 I J Q K165) : w_M_fillsLeast_63 N k 361 x2 x3 (zH I J) Q' K165' := by
  induction k generalizing x2 x3 I J with
  | zero => exact hv.elim
  | succ k ih =>
    rw [w_M_fillsLeast_63]
    rw [v_M_fillsLeast_63] at hv
    refine ⟨fun q1 => ?_, fun q1 => ?_⟩
    · have hv := hv.1 q1
      exact hK165 x2 I J hv
    · have hv := hv.2 q1
      refine ⟨rfl, ?_⟩
      obtain ⟨g2, hv⟩ := hv
      refine ⟨qok_mk rfl g2, ?_⟩
      intro y3 ey3
      have hv := hv y3 ey3
      refine u_M_fillsLeast_91 N N x2 x3 y3 (0 : Int32) I J Q _ hQ _ _ (fun w4 w5 w6 I7 J7 hv => ?_)  hv
      refine ⟨rfl, ?_⟩
      obtain ⟨g8, hv⟩ := hv
      refine ⟨qok_mk rfl g8, ?_⟩
      obtain ⟨I9, eI9⟩ : ∃ z, z = qu I7 400 ((((128 : Int32) * w4) + w5)).toNatClampNeg w6 := ⟨_, rfl⟩
      have hv := hv I9 eI9
      intro h9 eh9
      have eh9 : h9 = zH I9 J7 := by rw [eh9, eI9]; rfl
      subst eh9
      exact ih w4 (w5 + (1 : Int32)) I9 J7 hv
theorem u_M_fillsLeast_57 (N k : Nat) (x2 : Int32) (I : zI) (J : zJ) (Q : zI → zJ → Prop) (Q' : qH → Prop) (hQ : ∀ (I : zI) (J : zJ), Q I J → Q' (zH I J)) (hv : v_M_fillsLeast_57 N k x2 I J Q ) : w_M_fillsLeast_57 N k 361 x2 (zH I J) Q'  := by
  induction k generalizing x2 I J with
  | zero => exact hv.elim
  | succ k ih =>
    rw [w_M_fillsLeast_57]
    rw [v_M_fillsLeast_57] at hv
    refine ⟨fun q1 => ?_, fun q1 => ?_⟩
    · have hv := hv.1 q1
      exact hQ _ _ hv
    · have hv := hv.2 q1
      refine u_M_fillsLeast_63 N N x2 (0 : Int32) I J Q _ hQ _ _ (fun w2 I3 J3 hv => ?_)  hv
      exact ih (w2 + (-1 : Int32)) I3 J3 hv
theorem u_M_fillsLeast (N : Nat) (x1 : Int32) (I : zI) (J : zJ) (Q : zI → zJ → Prop) (Q' : qH → Prop) (hQ : ∀ (I : zI) (J : zJ), Q I J → Q' (zH I J)) (hv : v_M_fillsLeast N x1 I J Q) : w_M_fillsLeast N 361 x1 (zH I J) Q' := by
  unfold w_M_fillsLeast
  unfold v_M_fillsLeast at hv
  refine ⟨rfl, ?_⟩
  obtain ⟨g1, hv⟩ := hv
  refine ⟨g1, ?_⟩
  obtain ⟨I2, eI2⟩ : ∃ z, z = qu I 361 61 x1 := ⟨_, rfl⟩
  have hv := hv I2 eI2
  intro h2 eh2
  have eh2 : h2 = zH I2 J := by rw [eh2, eI2]; rfl
  subst eh2
  refine ⟨rfl, ?_⟩
  refine u_M_fillsTable N  I2 J _ _ (fun I3 J3 hv => ?_) hv
  refine u_M_fillsLeast_11 N N (0 : Int32) I3 J3 Q _ hQ _ _ (fun I4 J4 hv => ?_)  hv
  refine ⟨rfl, ?_⟩
  obtain ⟨g5, hv⟩ := hv
  refine ⟨qok_mk rfl g5, ?_⟩
  intro y6 ey6
  have hv := hv y6 ey6
  exact u_M_fillsLeast_57 N N y6 I4 J4 Q _ hQ   hv
theorem u_M_lowestFor_2 (N k : Nat) (x1 : Int32) (x2 : Int32) (x3 : Int32) (I : zI) (J : zJ) (Q : Int32 → zI → zJ → Prop) (Q' : Int32 → qH → Prop) (hQ : ∀ (r : Int32) (I : zI) (J : zJ), Q r I J → Q' r (zH I J)) (hv : v_M_lowestFor_2 N k x1 x2 x3 I J Q ) : w_M_lowestFor_2 N k 361 x1 x2 x3 (zH I J) Q'  := by
  induction k generalizing x1 x2 x3 I J with
  | zero => exact hv.elim
  | succ k ih =>
    rw [w_M_lowestFor_2]
    rw [v_M_lowestFor_2] at hv
    refine ⟨rfl, ?_⟩
    obtain ⟨g1, hv⟩ := hv
    refine ⟨qok_mk rfl g1, ?_⟩
    refine ⟨fun q2 => ?_, fun q2 => ?_⟩
    · have hv := hv.1 q2
      exact hQ _ _ _ hv
    · have hv := hv.2 q2
      refine u_M_bitOf N x3 I J _ _ (fun r3 I4 J4 hv => ?_) hv
      refine ⟨fun q5 => ?_, fun q5 => ?_⟩
      · have hv := hv.1 q5
        exact ih x1 x2 (x3 + (1 : Int32)) I4 J4 hv
      · have hv := hv.2 q5
        refine ⟨rfl, ?_⟩
        refine u_M_with N x1 x3 x2 I4 J4 _ _ (fun r6 I7 J7 hv => ?_) hv
        refine ⟨rfl, ?_⟩
        obtain ⟨g8, hv⟩ := hv
        refine ⟨qok_mk rfl g8, ?_⟩
        refine ⟨fun q9 => ?_, fun q9 => ?_⟩
        · have hv := hv.1 q9
          exact ih x1 x2 (x3 + (1 : Int32)) I7 J7 hv
        · have hv := hv.2 q9
          exact hQ _ _ _ hv
theorem u_M_lowestFor (N : Nat) (x1 : Int32) (x2 : Int32) (I : zI) (J : zJ) (Q : Int32 → zI → zJ → Prop) (Q' : Int32 → qH → Prop) (hQ : ∀ (r : Int32) (I : zI) (J : zJ), Q r I J → Q' r (zH I J)) (hv : v_M_lowestFor N x1 x2 I J Q) : w_M_lowestFor N 361 x1 x2 (zH I J) Q' := by
  unfold w_M_lowestFor
  unfold v_M_lowestFor at hv
  exact u_M_lowestFor_2 N N x1 x2 (0 : Int32) I J Q _ hQ   hv
theorem u_M_costOf_2 (N k : Nat) (x1 : Int32) (I : zI) (J : zJ) (Q : Int32 → zI → zJ → Prop) (Q' : Int32 → qH → Prop) (hQ : ∀ (r : Int32) (I : zI) (J : zJ), Q r I J → Q' r (zH I J)) (hv : v_M_costOf_2 N k x1 I J Q ) : w_M_costOf_2 N k x1 (zH I J) Q'  := by
  induction k generalizing x1 I J with
  | zero => exact hv.elim
  | succ k ih =>
    rw [w_M_costOf_2]
    rw [v_M_costOf_2] at hv
    refine ⟨fun q1 => ?_, fun q1 => ?_⟩
    · have hv := hv.1 q1
      exact hQ _ _ _ hv
    · have hv := hv.2 q1
      exact ih (x1 + (10000 : Int32)) I J hv
theorem u_M_costOf (N : Nat) (x0 : Int32) (I : zI) (J : zJ) (Q : Int32 → zI → zJ → Prop) (Q' : Int32 → qH → Prop) (hQ : ∀ (r : Int32) (I : zI) (J : zJ), Q r I J → Q' r (zH I J)) (hv : v_M_costOf N x0 I J Q) : w_M_costOf N x0 (zH I J) Q' := by
  unfold w_M_costOf
  unfold v_M_costOf at hv
  exact u_M_costOf_2 N N x0 I J Q _ hQ   hv
theorem u_M_hangs_40 (N k : Nat) (x1 : Int32) (x3 : Int32) (x4 : Int32) (I : zI) (J : zJ) (Q : Int32 → zI → zJ → Prop) (Q' : Int32 → qH → Prop) (hQ : ∀ (r : Int32) (I : zI) (J : zJ), Q r I J → Q' r (zH I J)) (hv : v_M_hangs_40 N k x1 x3 x4 I J Q ) : w_M_hangs_40 N k 361 x1 x3 x4 (zH I J) Q'  := by
  induction k generalizing x1 x3 x4 I J with
  | zero => exact hv.elim
  | succ k ih =>
    rw [w_M_hangs_40]
    rw [v_M_hangs_40] at hv
    refine ⟨fun q1 => ?_, fun q1 => ?_⟩
    · have hv := hv.1 q1
      refine ⟨rfl, ?_⟩
      refine u_M_lowestFor N x1 x3 I J _ _ (fun r2 I3 J3 hv => ?_) hv
      exact hQ _ _ _ hv
    · have hv := hv.2 q1
      refine ⟨rfl, ?_⟩
      refine u_M_lowestFor N x4 x3 I J _ _ (fun r4 I5 J5 hv => ?_) hv
      refine ⟨fun q6 => ?_, fun q6 => ?_⟩
      · have hv := hv.1 q6
        exact ih x1 x3 (x4 + (1 : Int32)) I5 J5 hv
      · have hv := hv.2 q6
        refine ⟨rfl, ?_⟩
        refine u_M_bitOf N r4 I5 J5 _ _ (fun r7 I8 J8 hv => ?_) hv
        intro y9 ey9
        have hv := hv y9 ey9
        exact ih x1 y9 (x4 + (1 : Int32)) I8 J8 hv
theorem u_M_hangs_15 (N : Nat) (x1 : Int32) (x2 : Int32) (I : zI) (J : zJ) (Q : Int32 → zI → zJ → Prop) (Q' : Int32 → qH → Prop) (hQ : ∀ (r : Int32) (I : zI) (J : zJ), Q r I J → Q' r (zH I J)) (hv : v_M_hangs_15 N x1 x2 I J Q ) : w_M_hangs_15 N 361 x1 x2 (zH I J) Q'  := by
  unfold w_M_hangs_15
  unfold v_M_hangs_15 at hv
  refine ⟨rfl, ?_⟩
  refine u_M_fillsLeast N x2 I J _ _ (fun I1 J1 hv => ?_) hv
  refine ⟨fun q2 => ?_, fun q2 => ?_⟩
  · have hv := hv.1 q2
    exact u_M_hangs_40 N N x1 (0 : Int32) (0 : Int32) I1 J1 Q _ hQ   hv
  · have hv := hv.2 q2
    refine ⟨rfl, ?_⟩
    obtain ⟨g3, hv⟩ := hv
    refine ⟨qok_mk rfl g3, ?_⟩
    refine u_M_costOf N (I1 400 ((0 : Int32)).toNatClampNeg) I1 J1 _ _ (fun r4 I5 J5 hv => ?_) hv
    exact hQ _ _ _ hv
theorem u_M_hangs (N : Nat) (x1 : Int32) (x2 : Int32) (I : zI) (J : zJ) (Q : Int32 → zI → zJ → Prop) (Q' : Int32 → qH → Prop) (hQ : ∀ (r : Int32) (I : zI) (J : zJ), Q r I J → Q' r (zH I J)) (hv : v_M_hangs N x1 x2 I J Q) : w_M_hangs N 361 x1 x2 (zH I J) Q' := by
  unfold w_M_hangs
  unfold v_M_hangs at hv
  refine ⟨fun q1 => ?_, fun q1 => ?_⟩
  · have hv := hv.1 q1
    exact u_M_hangs_15 N x1 x2 I J Q _ hQ   hv
  · have hv := hv.2 q1
    refine ⟨rfl, ?_⟩
    refine u_M_isPerson N x1 I J _ _ (fun r2 I3 J3 hv => ?_) hv
    refine ⟨fun q4 => ?_, fun q4 => ?_⟩
    · have hv := hv.1 q4
      exact u_M_hangs_15 N x1 x2 I3 J3 Q _ hQ   hv
    · have hv := hv.2 q4
      exact hQ _ _ _ hv
theorem u_M_hanging (N : Nat) (x1 : Int32) (I : zI) (J : zJ) (Q : Int32 → zI → zJ → Prop) (Q' : Int32 → qH → Prop) (hQ : ∀ (r : Int32) (I : zI) (J : zJ), Q r I J → Q' r (zH I J)) (hv : v_M_hanging N x1 I J Q) : w_M_hanging N 361 x1 (zH I J) Q' := by
  unfold w_M_hanging
  unfold v_M_hanging at hv
  refine ⟨rfl, ?_⟩
  refine u_M_hangs N x1 (0 : Int32) I J _ _ (fun r1 I2 J2 hv => ?_) hv
  exact hQ _ _ _ hv
theorem u_M_apart (N : Nat) (x1 : Int32) (I : zI) (J : zJ) (Q : Int32 → zI → zJ → Prop) (Q' : Int32 → qH → Prop) (hQ : ∀ (r : Int32) (I : zI) (J : zJ), Q r I J → Q' r (zH I J)) (hv : v_M_apart N x1 I J Q) : w_M_apart N 361 x1 (zH I J) Q' := by
  unfold w_M_apart
  unfold v_M_apart at hv
  refine ⟨rfl, ?_⟩
  refine u_M_hangs N x1 (1 : Int32) I J _ _ (fun r1 I2 J2 hv => ?_) hv
  exact hQ _ _ _ hv
theorem u_M_missed_25 (N k : Nat) (x1 : Int32) (x2 : Int32) (x3 : Int32) (x4 : Int32) (I : zI) (J : zJ) (Q : Int32 → zI → zJ → Prop) (Q' : Int32 → qH → Prop) (hQ : ∀ (r : Int32) (I : zI) (J : zJ), Q r I J → Q' r (zH I J)) (hv : v_M_missed_25 N k x1 x2 x3 x4 I J Q ) : w_M_missed_25 N k 361 x1 x2 x3 x4 (zH I J) Q'  := by
  induction k generalizing x1 x2 x3 x4 I J with
  | zero => exact hv.elim
  | succ k ih =>
    rw [w_M_missed_25]
    rw [v_M_missed_25] at hv
    refine ⟨rfl, ?_⟩
    obtain ⟨g1, hv⟩ := hv
    refine ⟨qok_mk rfl g1, ?_⟩
    refine ⟨fun q2 => ?_, fun q2 => ?_⟩
    · have hv := hv.1 q2
      refine ⟨fun q3 => ?_, fun q3 => ?_⟩
      · have hv := hv.1 q3
        exact hQ _ _ _ hv
      · have hv := hv.2 q3
        exact hQ _ _ _ hv
    · have hv := hv.2 q2
      obtain ⟨g4, hv⟩ := hv
      refine ⟨qok_mk rfl g4, ?_⟩
      refine u_M_costOf N (I 400 (((1 : Int32) <<< (x4 &&& 31))).toNatClampNeg) I J _ _ (fun r5 I6 J6 hv => ?_) hv
      refine ⟨fun q7 => ?_, fun q7 => ?_⟩
      · have hv := hv.1 q7
        exact ih x1 x4 r5 (x4 + (1 : Int32)) I6 J6 hv
      · have hv := hv.2 q7
        exact ih x1 x2 x3 (x4 + (1 : Int32)) I6 J6 hv
theorem u_M_missed (N : Nat) (x1 : Int32) (I : zI) (J : zJ) (Q : Int32 → zI → zJ → Prop) (Q' : Int32 → qH → Prop) (hQ : ∀ (r : Int32) (I : zI) (J : zJ), Q r I J → Q' r (zH I J)) (hv : v_M_missed N x1 I J Q) : w_M_missed N 361 x1 (zH I J) Q' := by
  unfold w_M_missed
  unfold v_M_missed at hv
  refine u_M_in N x1 (0 : Int32) (1 : Int32) I J _ _ (fun r1 I2 J2 hv => ?_) hv
  refine ⟨fun q3 => ?_, fun q3 => ?_⟩
  · have hv := hv.1 q3
    refine ⟨rfl, ?_⟩
    refine u_M_fillsLeast N (0 : Int32) I2 J2 _ _ (fun I4 J4 hv => ?_) hv
    exact u_M_missed_25 N N x1 (-2 : Int32) (-2 : Int32) (0 : Int32) I4 J4 Q _ hQ   hv
  · have hv := hv.2 q3
    exact hQ _ _ _ hv
theorem u_M_ways_18 (N k : Nat) (x1 : Int32) (x2 : Int32) (I : zI) (J : zJ) (Q : Int32 → zI → zJ → Prop) (Q' : Int32 → qH → Prop) (hQ : ∀ (r : Int32) (I : zI) (J : zJ), Q r I J → Q' r (zH I J)) (K50 : Int32 → zI → zJ → Prop) (K50' : Nat → Int32 → qH → Prop) (hK50 : ∀ (x1 : Int32) (I : zI) (J : zJ), K50 x1 I J → K50' 361 x1 (zH I J)) (hv : v_M_ways_18 N k x1 x2 I J Q K50) : w_M_ways_18 N k 361 x1 x2 (zH I J) Q' K50' := by
  induction k generalizing x1 x2 I J with
  | zero => exact hv.elim
  | succ k ih =>
    rw [w_M_ways_18]
    rw [v_M_ways_18] at hv
    refine ⟨fun q1 => ?_, fun q1 => ?_⟩
    · have hv := hv.1 q1
      exact hK50 x1 I J hv
    · have hv := hv.2 q1
      refine ⟨rfl, ?_⟩
      obtain ⟨g2, hv⟩ := hv
      refine ⟨qok_mk rfl g2, ?_⟩
      obtain ⟨g3, hv⟩ := hv
      refine ⟨qok_mk rfl g3, ?_⟩
      obtain ⟨I4, eI4⟩ : ∃ z, z = qu I 402 ((((32 : Int32) * (I 374 ((I 361 18)).toNatClampNeg)) + x2)).toNatClampNeg (1 : Int32) := ⟨_, rfl⟩
      have hv := hv I4 eI4
      intro h4 eh4
      have eh4 : h4 = zH I4 J := by rw [eh4, eI4]; rfl
      subst eh4
      exact ih x1 (x2 + (1 : Int32)) I4 J hv
theorem u_M_ways_80 (N k : Nat) (x1 : Int32) (x2 : Int32) (x3 : Int32) (x4 : Int32) (x5 : Int32) (I : zI) (J : zJ) (Q : Int32 → zI → zJ → Prop) (Q' : Int32 → qH → Prop) (hQ : ∀ (r : Int32) (I : zI) (J : zJ), Q r I J → Q' r (zH I J)) (K155 : Int32 → Int32 → Int32 → Int32 → zI → zJ → Prop) (K155' : Nat → Int32 → Int32 → Int32 → Int32 → qH → Prop) (hK155 : ∀ (x1 : Int32) (x2 : Int32) (x3 : Int32) (x4 : Int32) (I : zI) (J : zJ), K155 x1 x2 x3 x4 I J → K155' 361 x1 x2 x3 x4 (zH I J)) (hv : v_M_ways_80 N k x1 x2 x3 x4 x5 I J Q K155) : w_M_ways_80 N k 361 x1 x2 x3 x4 x5 (zH I J) Q' K155' := by
  induction k generalizing x1 x2 x3 x4 x5 I J with
  | zero => exact hv.elim
  | succ k ih =>
    rw [w_M_ways_80]
    rw [v_M_ways_80] at hv
    refine ⟨rfl, ?_⟩
    obtain ⟨g1, hv⟩ := hv
    refine ⟨qok_mk rfl g1, ?_⟩
    refine ⟨fun q2 => ?_, fun q2 => ?_⟩
    · have hv := hv.1 q2
      exact hK155 x1 x2 x3 x4 I J hv
    · have hv := hv.2 q2
      refine u_M_nailAt N x5 I J _ _ (fun r3 I4 J4 hv => ?_) hv
      intro y5 ey5
      have hv := hv y5 ey5
      refine ⟨fun q6 => ?_, fun q6 => ?_⟩
      · have hv := hv.1 q6
        exact ih x1 x2 x3 x4 (x5 + (1 : Int32)) I4 J4 hv
      · have hv := hv.2 q6
        refine ⟨rfl, ?_⟩
        obtain ⟨g7, hv⟩ := hv
        refine ⟨qok_mk rfl g7, ?_⟩
        refine ⟨fun q8 => ?_, fun q8 => ?_⟩
        · have hv := hv.1 q8
          exact ih x1 x2 x3 x4 (x5 + (1 : Int32)) I4 J4 hv
        · have hv := hv.2 q8
          obtain ⟨g9, hv⟩ := hv
          refine ⟨qok_mk rfl g9, ?_⟩
          intro y10 ey10
          have hv := hv y10 ey10
          exact ih x1 x2 x3 y10 (x5 + (1 : Int32)) I4 J4 hv
theorem u_M_ways_68 (N k : Nat) (x1 : Int32) (x2 : Int32) (x3 : Int32) (I : zI) (J : zJ) (Q : Int32 → zI → zJ → Prop) (Q' : Int32 → qH → Prop) (hQ : ∀ (r : Int32) (I : zI) (J : zJ), Q r I J → Q' r (zH I J)) (K174 : Int32 → Int32 → zI → zJ → Prop) (K174' : Nat → Int32 → Int32 → qH → Prop) (hK174 : ∀ (x1 : Int32) (x2 : Int32) (I : zI) (J : zJ), K174 x1 x2 I J → K174' 361 x1 x2 (zH I J)) (hv : v_M_ways_68 N k x1 x2 x3 I J Q K174) : w_M_ways_68 N k 361 x1 x2 x3 (zH I J) Q' K174' := by
  induction k generalizing x1 x2 x3 I J with
  | zero => exact hv.elim
  | succ k ih =>
    rw [w_M_ways_68]
    rw [v_M_ways_68] at hv
    refine ⟨fun q1 => ?_, fun q1 => ?_⟩
    · have hv := hv.1 q1
      exact hK174 x1 x2 I J hv
    · have hv := hv.2 q1
      refine u_M_ways_80 N N x1 x2 x3 (0 : Int32) (0 : Int32) I J Q _ hQ _ _ (fun w2 w3 w4 w5 I6 J6 hv => ?_)  hv
      refine ⟨rfl, ?_⟩
      obtain ⟨g7, hv⟩ := hv
      refine ⟨qok_mk rfl g7, ?_⟩
      obtain ⟨I8, eI8⟩ : ∃ z, z = qu I6 402 ((((32 : Int32) * w3) + w4)).toNatClampNeg w5 := ⟨_, rfl⟩
      have hv := hv I8 eI8
      intro h8 eh8
      have eh8 : h8 = zH I8 J6 := by rw [eh8, eI8]; rfl
      subst eh8
      exact ih w2 w3 (w4 + (1 : Int32)) I8 J6 hv
theorem u_M_ways_62 (N k : Nat) (x1 : Int32) (x2 : Int32) (I : zI) (J : zJ) (Q : Int32 → zI → zJ → Prop) (Q' : Int32 → qH → Prop) (hQ : ∀ (r : Int32) (I : zI) (J : zJ), Q r I J → Q' r (zH I J)) (hv : v_M_ways_62 N k x1 x2 I J Q ) : w_M_ways_62 N k 361 x1 x2 (zH I J) Q'  := by
  induction k generalizing x1 x2 I J with
  | zero => exact hv.elim
  | succ k ih =>
    rw [w_M_ways_62]
    rw [v_M_ways_62] at hv
    refine ⟨fun q1 => ?_, fun q1 => ?_⟩
    · have hv := hv.1 q1
      refine ⟨rfl, ?_⟩
      obtain ⟨g2, hv⟩ := hv
      refine ⟨qok_mk rfl g2, ?_⟩
      exact hQ _ _ _ hv
    · have hv := hv.2 q1
      refine u_M_ways_68 N N x1 x2 (0 : Int32) I J Q _ hQ _ _ (fun w3 w4 I5 J5 hv => ?_)  hv
      exact ih w3 (w4 + (-1 : Int32)) I5 J5 hv
theorem u_M_ways (N : Nat) (x1 : Int32) (I : zI) (J : zJ) (Q : Int32 → zI → zJ → Prop) (Q' : Int32 → qH → Prop) (hQ : ∀ (r : Int32) (I : zI) (J : zJ), Q r I J → Q' r (zH I J)) (hv : v_M_ways N x1 I J Q) : w_M_ways N 361 x1 (zH I J) Q' := by
  unfold w_M_ways
  unfold v_M_ways at hv
  refine u_M_in N x1 (0 : Int32) (99 : Int32) I J _ _ (fun r1 I2 J2 hv => ?_) hv
  refine ⟨fun q3 => ?_, fun q3 => ?_⟩
  · have hv := hv.1 q3
    refine ⟨rfl, ?_⟩
    refine u_M_fillsTable N  I2 J2 _ _ (fun I4 J4 hv => ?_) hv
    refine u_M_ways_18 N N x1 (0 : Int32) I4 J4 Q _ hQ _ _ (fun w5 I6 J6 hv => ?_)  hv
    refine ⟨rfl, ?_⟩
    obtain ⟨g7, hv⟩ := hv
    refine ⟨qok_mk rfl g7, ?_⟩
    intro y8 ey8
    have hv := hv y8 ey8
    exact u_M_ways_62 N N w5 y8 I6 J6 Q _ hQ   hv
  · have hv := hv.2 q3
    exact hQ _ _ _ hv
theorem u_M_sets_37 (N k : Nat) (x1 : Int32) (x2 : Int32) (x3 : Int32) (x4 : Int32) (I : zI) (J : zJ) (Q : Int32 → zI → zJ → Prop) (Q' : Int32 → qH → Prop) (hQ : ∀ (r : Int32) (I : zI) (J : zJ), Q r I J → Q' r (zH I J)) (K68 : Int32 → Int32 → Int32 → zI → zJ → Prop) (K68' : Nat → Int32 → Int32 → Int32 → qH → Prop) (hK68 : ∀ (x1 : Int32) (x2 : Int32) (x3 : Int32) (I : zI) (J : zJ), K68 x1 x2 x3 I J → K68' 361 x1 x2 x3 (zH I J)) (hv : v_M_sets_37 N k x1 x2 x3 x4 I J Q K68) : w_M_sets_37 N k 361 x1 x2 x3 x4 (zH I J) Q' K68' := by
  induction k generalizing x1 x2 x3 x4 I J with
  | zero => exact hv.elim
  | succ k ih =>
    rw [w_M_sets_37]
    rw [v_M_sets_37] at hv
    refine ⟨fun q1 => ?_, fun q1 => ?_⟩
    · have hv := hv.1 q1
      exact hK68 x1 x2 x3 I J hv
    · have hv := hv.2 q1
      intro y2 ey2
      have hv := hv y2 ey2
      refine ⟨rfl, ?_⟩
      obtain ⟨g3, hv⟩ := hv
      refine ⟨qok_mk rfl g3, ?_⟩
      intro y4 ey4
      have hv := hv y4 ey4
      exact ih y2 x2 x3 y4 I J hv
theorem u_M_sets_6 (N k : Nat) (x1 : Int32) (x2 : Int32) (x3 : Int32) (I : zI) (J : zJ) (Q : Int32 → zI → zJ → Prop) (Q' : Int32 → qH → Prop) (hQ : ∀ (r : Int32) (I : zI) (J : zJ), Q r I J → Q' r (zH I J)) (hv : v_M_sets_6 N k x1 x2 x3 I J Q ) : w_M_sets_6 N k 361 x1 x2 x3 (zH I J) Q'  := by
  induction k generalizing x1 x2 x3 I J with
  | zero => exact hv.elim
  | succ k ih =>
    rw [w_M_sets_6]
    rw [v_M_sets_6] at hv
    refine ⟨rfl, ?_⟩
    obtain ⟨g1, hv⟩ := hv
    refine ⟨qok_mk rfl g1, ?_⟩
    refine ⟨fun q2 => ?_, fun q2 => ?_⟩
    · have hv := hv.1 q2
      exact hQ _ _ _ hv
    · have hv := hv.2 q2
      refine ⟨fun q3 => ?_, fun q3 => ?_⟩
      · have hv := hv.1 q3
        refine u_M_sets_37 N N x1 (x2 + (1 : Int32)) x3 x3 I J Q _ hQ _ _ (fun w4 w5 w6 I7 J7 hv => ?_)  hv
        exact ih w4 w5 (w6 + (1 : Int32)) I7 J7 hv
      · have hv := hv.2 q3
        exact ih x1 x2 (x3 + (1 : Int32)) I J hv
theorem u_M_sets (N : Nat)  (I : zI) (J : zJ) (Q : Int32 → zI → zJ → Prop) (Q' : Int32 → qH → Prop) (hQ : ∀ (r : Int32) (I : zI) (J : zJ), Q r I J → Q' r (zH I J)) (hv : v_M_sets N  I J Q) : w_M_sets N 361 (zH I J) Q' := by
  unfold w_M_sets
  unfold v_M_sets at hv
  exact u_M_sets_6 N N (0 : Int32) (0 : Int32) (0 : Int32) I J Q _ hQ   hv
theorem u_M_changes (N : Nat)  (I : zI) (J : zJ) (Q : Int32 → zI → zJ → Prop) (Q' : Int32 → qH → Prop) (hQ : ∀ (r : Int32) (I : zI) (J : zJ), Q r I J → Q' r (zH I J)) (hv : v_M_changes N  I J Q) : w_M_changes N 361 (zH I J) Q' := by
  unfold w_M_changes
  unfold v_M_changes at hv
  refine ⟨rfl, ?_⟩
  obtain ⟨g1, hv⟩ := hv
  refine ⟨qok_mk rfl g1, ?_⟩
  refine u_M_sets N  I J _ _ (fun r2 I3 J3 hv => ?_) hv
  exact hQ _ _ _ hv
theorem u_M_ownBits_4 (N k : Nat) (x1 : Int32) (x2 : Int32) (I : zI) (J : zJ) (Q : Int32 → zI → zJ → Prop) (Q' : Int32 → qH → Prop) (hQ : ∀ (r : Int32) (I : zI) (J : zJ), Q r I J → Q' r (zH I J)) (hv : v_M_ownBits_4 N k x1 x2 I J Q ) : w_M_ownBits_4 N k 361 x1 x2 (zH I J) Q'  := by
  induction k generalizing x1 x2 I J with
  | zero => exact hv.elim
  | succ k ih =>
    rw [w_M_ownBits_4]
    rw [v_M_ownBits_4] at hv
    refine ⟨rfl, ?_⟩
    obtain ⟨g1, hv⟩ := hv
    refine ⟨qok_mk rfl g1, ?_⟩
    refine ⟨fun q2 => ?_, fun q2 => ?_⟩
    · have hv := hv.1 q2
      exact hQ _ _ _ hv
    · have hv := hv.2 q2
      obtain ⟨g3, hv⟩ := hv
      refine ⟨qok_mk rfl g3, ?_⟩
      refine ⟨fun q4 => ?_, fun q4 => ?_⟩
      · have hv := hv.1 q4
        exact ih x1 (x2 + (1 : Int32)) I J hv
      · have hv := hv.2 q4
        intro y5 ey5
        have hv := hv y5 ey5
        exact ih y5 (x2 + (1 : Int32)) I J hv
theorem u_M_ownBits (N : Nat)  (I : zI) (J : zJ) (Q : Int32 → zI → zJ → Prop) (Q' : Int32 → qH → Prop) (hQ : ∀ (r : Int32) (I : zI) (J : zJ), Q r I J → Q' r (zH I J)) (hv : v_M_ownBits N  I J Q) : w_M_ownBits N 361 (zH I J) Q' := by
  unfold w_M_ownBits
  unfold v_M_ownBits at hv
  exact u_M_ownBits_4 N N (0 : Int32) (0 : Int32) I J Q _ hQ   hv
theorem u_M_themselves_6 (N k : Nat) (x1 : Int32) (I : zI) (J : zJ) (Q : Int32 → zI → zJ → Prop) (Q' : Int32 → qH → Prop) (hQ : ∀ (r : Int32) (I : zI) (J : zJ), Q r I J → Q' r (zH I J)) (hv : v_M_themselves_6 N k x1 I J Q ) : w_M_themselves_6 N k 361 x1 (zH I J) Q'  := by
  induction k generalizing x1 I J with
  | zero => exact hv.elim
  | succ k ih =>
    rw [w_M_themselves_6]
    rw [v_M_themselves_6] at hv
    refine ⟨fun q1 => ?_, fun q1 => ?_⟩
    · have hv := hv.1 q1
      exact hQ _ _ _ hv
    · have hv := hv.2 q1
      refine ⟨rfl, ?_⟩
      refine u_M_ownBits N  I J _ _ (fun r2 I3 J3 hv => ?_) hv
      refine ⟨rfl, ?_⟩
      obtain ⟨g4, hv⟩ := hv
      refine ⟨qok_mk rfl g4, ?_⟩
      refine ⟨fun q5 => ?_, fun q5 => ?_⟩
      · have hv := hv.1 q5
        refine u_M_nightGoes N  I3 J3 _ _ (fun I6 J6 hv => ?_) hv
        exact ih (x1 + (1 : Int32)) I6 J6 hv
      · have hv := hv.2 q5
        exact hQ _ _ _ hv
theorem u_M_themselves (N : Nat)  (I : zI) (J : zJ) (Q : Int32 → zI → zJ → Prop) (Q' : Int32 → qH → Prop) (hQ : ∀ (r : Int32) (I : zI) (J : zJ), Q r I J → Q' r (zH I J)) (hv : v_M_themselves N  I J Q) : w_M_themselves N 361 (zH I J) Q' := by
  unfold w_M_themselves
  unfold v_M_themselves at hv
  refine ⟨rfl, ?_⟩
  refine u_M_copiesStill N  I J _ _ (fun I1 J1 hv => ?_) hv
  exact u_M_themselves_6 N N (0 : Int32) I1 J1 Q _ hQ   hv
theorem u_M_day_16 (N k : Nat) (x1 : Int32) (x2 : Int32) (I : zI) (J : zJ) (Q : Int32 → zI → zJ → Prop) (Q' : Int32 → qH → Prop) (hQ : ∀ (r : Int32) (I : zI) (J : zJ), Q r I J → Q' r (zH I J)) (hv : v_M_day_16 N k x1 x2 I J Q ) : w_M_day_16 N k 361 x1 x2 (zH I J) Q'  := by
  induction k generalizing x1 x2 I J with
  | zero => exact hv.elim
  | succ k ih =>
    rw [w_M_day_16]
    rw [v_M_day_16] at hv
    refine ⟨fun q1 => ?_, fun q1 => ?_⟩
    · have hv := hv.1 q1
      exact hQ _ _ _ hv
    · have hv := hv.2 q1
      refine ⟨rfl, ?_⟩
      obtain ⟨g2, hv⟩ := hv
      refine ⟨qok_mk rfl g2, ?_⟩
      refine ⟨fun q3 => ?_, fun q3 => ?_⟩
      · have hv := hv.1 q3
        refine u_M_nightGoes N  I J _ _ (fun I4 J4 hv => ?_) hv
        exact ih x1 (x2 + (1 : Int32)) I4 J4 hv
      · have hv := hv.2 q3
        exact hQ _ _ _ hv
theorem u_M_day (N : Nat) (x1 : Int32) (I : zI) (J : zJ) (Q : Int32 → zI → zJ → Prop) (Q' : Int32 → qH → Prop) (hQ : ∀ (r : Int32) (I : zI) (J : zJ), Q r I J → Q' r (zH I J)) (hv : v_M_day N x1 I J Q) : w_M_day N 361 x1 (zH I J) Q' := by
  unfold w_M_day
  unfold v_M_day at hv
  refine ⟨rfl, ?_⟩
  refine u_M_isPerson N x1 I J _ _ (fun r1 I2 J2 hv => ?_) hv
  refine ⟨fun q3 => ?_, fun q3 => ?_⟩
  · have hv := hv.1 q3
    refine ⟨rfl, ?_⟩
    refine u_M_copiesStill N  I2 J2 _ _ (fun I4 J4 hv => ?_) hv
    exact u_M_day_16 N N x1 (0 : Int32) I4 J4 Q _ hQ   hv
  · have hv := hv.2 q3
    exact hQ _ _ _ hv
theorem u_M_areAsNow_2 (N k : Nat) (x1 : Int32) (I : zI) (J : zJ) (Q : Int32 → zI → zJ → Prop) (Q' : Int32 → qH → Prop) (hQ : ∀ (r : Int32) (I : zI) (J : zJ), Q r I J → Q' r (zH I J)) (hv : v_M_areAsNow_2 N k x1 I J Q ) : w_M_areAsNow_2 N k 361 x1 (zH I J) Q'  := by
  induction k generalizing x1 I J with
  | zero => exact hv.elim
  | succ k ih =>
    rw [w_M_areAsNow_2]
    rw [v_M_areAsNow_2] at hv
    refine ⟨rfl, ?_⟩
    obtain ⟨g1, hv⟩ := hv
    refine ⟨qok_mk rfl g1, ?_⟩
    refine ⟨fun q2 => ?_, fun q2 => ?_⟩
    · have hv := hv.1 q2
      exact ⟨Or.inr rfl, hQ _ _ _ hv⟩
    · have hv := hv.2 q2
      obtain ⟨g3, hv⟩ := hv
      refine ⟨qok_mk rfl g3, ?_⟩
      obtain ⟨g4, hv⟩ := hv
      refine ⟨qok_mk rfl g4, ?_⟩
      refine ⟨fun q5 => ?_, fun q5 => ?_⟩
      · have hv := hv.1 q5
        exact ih (x1 + (1 : Int32)) I J hv
      · have hv := hv.2 q5
        exact ⟨Or.inl rfl, hQ _ _ _ hv⟩
theorem u_M_areAsNow (N : Nat)  (I : zI) (J : zJ) (Q : Int32 → zI → zJ → Prop) (Q' : Int32 → qH → Prop) (hQ : ∀ (r : Int32) (I : zI) (J : zJ), Q r I J → Q' r (zH I J)) (hv : v_M_areAsNow N  I J Q) : w_M_areAsNow N 361 (zH I J) Q' := by
  unfold w_M_areAsNow
  unfold v_M_areAsNow at hv
  exact u_M_areAsNow_2 N N (0 : Int32) I J Q _ hQ   hv
theorem u_M_round_6 (N k : Nat) (x1 : Int32) (I : zI) (J : zJ) (Q : Int32 → zI → zJ → Prop) (Q' : Int32 → qH → Prop) (hQ : ∀ (r : Int32) (I : zI) (J : zJ), Q r I J → Q' r (zH I J)) (hv : v_M_round_6 N k x1 I J Q ) : w_M_round_6 N k 361 x1 (zH I J) Q'  := by
  induction k generalizing x1 I J with
  | zero => exact hv.elim
  | succ k ih =>
    rw [w_M_round_6]
    rw [v_M_round_6] at hv
    refine ⟨fun q1 => ?_, fun q1 => ?_⟩
    · have hv := hv.1 q1
      exact hQ _ _ _ hv
    · have hv := hv.2 q1
      refine ⟨rfl, ?_⟩
      refine u_M_nightGoes N  I J _ _ (fun I2 J2 hv => ?_) hv
      refine ⟨rfl, ?_⟩
      refine u_M_areAsNow N  I2 J2 _ _ (fun r3 I4 J4 hv => ?_) hv
      refine ⟨fun q5 => ?_, fun q5 => ?_⟩
      · have hv := hv.1 q5
        exact ih (x1 + (1 : Int32)) I4 J4 hv
      · have hv := hv.2 q5
        exact hQ _ _ _ hv
theorem u_M_round (N : Nat)  (I : zI) (J : zJ) (Q : Int32 → zI → zJ → Prop) (Q' : Int32 → qH → Prop) (hQ : ∀ (r : Int32) (I : zI) (J : zJ), Q r I J → Q' r (zH I J)) (hv : v_M_round N  I J Q) : w_M_round N 361 (zH I J) Q' := by
  unfold w_M_round
  unfold v_M_round at hv
  refine ⟨rfl, ?_⟩
  refine u_M_copiesStill N  I J _ _ (fun I1 J1 hv => ?_) hv
  exact u_M_round_6 N N (1 : Int32) I1 J1 Q _ hQ   hv
theorem u_M_crossed_39 (N k : Nat) (x1 : Int32) (x2 : Int32) (x3 : Int32) (x4 : Int32) (x5 : Int32) (I : zI) (J : zJ) (Q : Int32 → zI → zJ → Prop) (Q' : Int32 → qH → Prop) (hQ : ∀ (r : Int32) (I : zI) (J : zJ), Q r I J → Q' r (zH I J)) (K108 : Int32 → Int32 → Int32 → Int32 → zI → zJ → Prop) (K108' : Nat → Int32 → Int32 → Int32 → Int32 → qH → Prop) (hK108 : ∀ (x1 : Int32) (x2 : Int32) (x3 : Int32) (x4 : Int32) (I : zI) (J : zJ), K108 x1 x2 x3 x4 I J → K108' 361 x1 x2 x3 x4 (zH I J)) (hv : v_M_crossed_39 N k x1 x2 x3 x4 x5 I J Q K108) : w_M_crossed_39 N k 361 x1 x2 x3 x4 x5 (zH I J) Q' K108' := by
  induction k generalizing x1 x2 x3 x4 x5 I J with
  | zero => exact hv.elim
  | succ k ih =>
    rw [w_M_crossed_39]
    rw [v_M_crossed_39] at hv
    refine ⟨rfl, ?_⟩
    obtain ⟨g1, hv⟩ := hv
    refine ⟨qok_mk rfl g1, ?_⟩
    refine ⟨fun q2 => ?_, fun q2 => ?_⟩
    · have hv := hv.1 q2
      exact hK108 x1 x2 x3 x4 I J hv
    · have hv := hv.2 q2
      obtain ⟨g3, hv⟩ := hv
      refine ⟨qok_mk rfl g3, ?_⟩
      refine ⟨fun q4 => ?_, fun q4 => ?_⟩
      · have hv := hv.1 q4
        exact ih x1 x2 x3 x4 (x5 + (1 : Int32)) I J hv
      · have hv := hv.2 q4
        obtain ⟨g5, hv⟩ := hv
        refine ⟨qok_mk rfl g5, ?_⟩
        refine ⟨fun q6 => ?_, fun q6 => ?_⟩
        · have hv := hv.1 q6
          refine ⟨fun q7 => ?_, fun q7 => ?_⟩
          · have hv := hv.1 q7
            exact ih x1 (x2 + (1 : Int32)) x3 x4 (x5 + (1 : Int32)) I J hv
          · have hv := hv.2 q7
            intro y8 ey8
            have hv := hv y8 ey8
            exact ih x1 (x2 + (1 : Int32)) y8 x4 (x5 + (1 : Int32)) I J hv
        · have hv := hv.2 q6
          exact ih x1 x2 x3 x4 (x5 + (1 : Int32)) I J hv
theorem u_M_crossed_19 (N k : Nat) (x1 : Int32) (x2 : Int32) (x3 : Int32) (x4 : Int32) (I : zI) (J : zJ) (Q : Int32 → zI → zJ → Prop) (Q' : Int32 → qH → Prop) (hQ : ∀ (r : Int32) (I : zI) (J : zJ), Q r I J → Q' r (zH I J)) (hv : v_M_crossed_19 N k x1 x2 x3 x4 I J Q ) : w_M_crossed_19 N k 361 x1 x2 x3 x4 (zH I J) Q'  := by
  induction k generalizing x1 x2 x3 x4 I J with
  | zero => exact hv.elim
  | succ k ih =>
    rw [w_M_crossed_19]
    rw [v_M_crossed_19] at hv
    refine ⟨rfl, ?_⟩
    obtain ⟨g1, hv⟩ := hv
    refine ⟨qok_mk rfl g1, ?_⟩
    refine ⟨fun q2 => ?_, fun q2 => ?_⟩
    · have hv := hv.1 q2
      refine ⟨fun q3 => ?_, fun q3 => ?_⟩
      · have hv := hv.1 q3
        exact hQ _ _ _ hv
      · have hv := hv.2 q3
        exact hQ _ _ _ hv
    · have hv := hv.2 q2
      intro y4 ey4
      have hv := hv y4 ey4
      refine u_M_crossed_39 N N x1 x2 x3 x4 y4 I J Q _ hQ _ _ (fun w5 w6 w7 w8 I9 J9 hv => ?_)  hv
      exact ih w5 w6 w7 (w8 + (1 : Int32)) I9 J9 hv
theorem u_M_crossed (N : Nat) (x1 : Int32) (I : zI) (J : zJ) (Q : Int32 → zI → zJ → Prop) (Q' : Int32 → qH → Prop) (hQ : ∀ (r : Int32) (I : zI) (J : zJ), Q r I J → Q' r (zH I J)) (hv : v_M_crossed N x1 I J Q) : w_M_crossed N 361 x1 (zH I J) Q' := by
  unfold w_M_crossed
  unfold v_M_crossed at hv
  refine u_M_in N x1 (0 : Int32) (1 : Int32) I J _ _ (fun r1 I2 J2 hv => ?_) hv
  refine ⟨fun q3 => ?_, fun q3 => ?_⟩
  · have hv := hv.1 q3
    exact u_M_crossed_19 N N x1 (0 : Int32) (-2 : Int32) (0 : Int32) I2 J2 Q _ hQ   hv
  · have hv := hv.2 q3
    exact hQ _ _ _ hv
theorem u_M_holder_12 (N k : Nat) (x1 : Int32) (x2 : Int32) (I : zI) (J : zJ) (Q : Int32 → zI → zJ → Prop) (Q' : Int32 → qH → Prop) (hQ : ∀ (r : Int32) (I : zI) (J : zJ), Q r I J → Q' r (zH I J)) (hv : v_M_holder_12 N k x1 x2 I J Q ) : w_M_holder_12 N k 361 x1 x2 (zH I J) Q'  := by
  induction k generalizing x1 x2 I J with
  | zero => exact hv.elim
  | succ k ih =>
    rw [w_M_holder_12]
    rw [v_M_holder_12] at hv
    refine ⟨rfl, ?_⟩
    obtain ⟨g1, hv⟩ := hv
    refine ⟨qok_mk rfl g1, ?_⟩
    refine ⟨fun q2 => ?_, fun q2 => ?_⟩
    · have hv := hv.1 q2
      exact hQ _ _ _ hv
    · have hv := hv.2 q2
      obtain ⟨g3, hv⟩ := hv
      refine ⟨qok_mk rfl g3, ?_⟩
      refine ⟨fun q4 => ?_, fun q4 => ?_⟩
      · have hv := hv.1 q4
        exact ih x1 (x2 + (1 : Int32)) I J hv
      · have hv := hv.2 q4
        exact hQ _ _ _ hv
theorem u_M_holder (N : Nat) (x1 : Int32) (I : zI) (J : zJ) (Q : Int32 → zI → zJ → Prop) (Q' : Int32 → qH → Prop) (hQ : ∀ (r : Int32) (I : zI) (J : zJ), Q r I J → Q' r (zH I J)) (hv : v_M_holder N x1 I J Q) : w_M_holder N 361 x1 (zH I J) Q' := by
  unfold w_M_holder
  unfold v_M_holder at hv
  refine ⟨rfl, ?_⟩
  refine u_M_isPerson N x1 I J _ _ (fun r1 I2 J2 hv => ?_) hv
  refine ⟨fun q3 => ?_, fun q3 => ?_⟩
  · have hv := hv.1 q3
    exact u_M_holder_12 N N x1 (0 : Int32) I2 J2 Q _ hQ   hv
  · have hv := hv.2 q3
    exact hQ _ _ _ hv
theorem u_M_fit_29 (N k : Nat) (x1 : Int32) (x2 : Int32) (x3 : Int32) (x4 : Int32) (I : zI) (J : zJ) (Q : Int32 → zI → zJ → Prop) (Q' : Int32 → qH → Prop) (hQ : ∀ (r : Int32) (I : zI) (J : zJ), Q r I J → Q' r (zH I J)) (K72 : Int32 → Int32 → Int32 → zI → zJ → Prop) (K72' : Nat → Int32 → Int32 → Int32 → qH → Prop) (hK72 : ∀ (x1 : Int32) (x2 : Int32) (x3 : Int32) (I : zI) (J : zJ), K72 x1 x2 x3 I J → K72' 361 x1 x2 x3 (zH I J)) (hv : v_M_fit_29 N k x1 x2 x3 x4 I J Q K72) : w_M_fit_29 N k 361 x1 x2 x3 x4 (zH I J) Q' K72' := by
  induction k generalizing x1 x2 x3 x4 I J with
  | zero => exact hv.elim
  | succ k ih =>
    rw [w_M_fit_29]
    rw [v_M_fit_29] at hv
    refine ⟨rfl, ?_⟩
    obtain ⟨g1, hv⟩ := hv
    refine ⟨qok_mk rfl g1, ?_⟩
    refine ⟨fun q2 => ?_, fun q2 => ?_⟩
    · have hv := hv.1 q2
      exact hK72 x1 x2 x3 I J hv
    · have hv := hv.2 q2
      refine ⟨fun q3 => ?_, fun q3 => ?_⟩
      · have hv := hv.1 q3
        exact ih x1 x2 x4 (x4 + (1 : Int32)) I J hv
      · have hv := hv.2 q3
        refine u_M_costsAt N x1 x4 I J _ _ (fun r4 I5 J5 hv => ?_) hv
        refine ⟨rfl, ?_⟩
        refine u_M_costsAt N x1 x3 I5 J5 _ _ (fun r6 I7 J7 hv => ?_) hv
        refine ⟨fun q8 => ?_, fun q8 => ?_⟩
        · have hv := hv.1 q8
          exact ih x1 x2 x3 (x4 + (1 : Int32)) I7 J7 hv
        · have hv := hv.2 q8
          exact ih x1 x2 x4 (x4 + (1 : Int32)) I7 J7 hv
theorem u_M_fit (N : Nat) (x1 : Int32) (x2 : Int32) (I : zI) (J : zJ) (Q : Int32 → zI → zJ → Prop) (Q' : Int32 → qH → Prop) (hQ : ∀ (r : Int32) (I : zI) (J : zJ), Q r I J → Q' r (zH I J)) (hv : v_M_fit N x1 x2 I J Q) : w_M_fit N 361 x1 x2 (zH I J) Q' := by
  unfold w_M_fit
  unfold v_M_fit at hv
  refine ⟨rfl, ?_⟩
  refine u_M_isPerson N x1 I J _ _ (fun r1 I2 J2 hv => ?_) hv
  refine ⟨fun q3 => ?_, fun q3 => ?_⟩
  · have hv := hv.1 q3
    exact hQ _ _ _ hv
  · have hv := hv.2 q3
    refine u_M_in N x2 (0 : Int32) (1 : Int32) I2 J2 _ _ (fun r4 I5 J5 hv => ?_) hv
    refine ⟨fun q6 => ?_, fun q6 => ?_⟩
    · have hv := hv.1 q6
      refine ⟨rfl, ?_⟩
      refine u_M_copies N  I5 J5 _ _ (fun I7 J7 hv => ?_) hv
      refine u_M_fit_29 N N x1 x2 (-2 : Int32) (0 : Int32) I7 J7 Q _ hQ _ _ (fun w8 w9 w10 I11 J11 hv => ?_)  hv
      refine ⟨fun q12 => ?_, fun q12 => ?_⟩
      · have hv := hv.1 q12
        exact hQ _ _ _ hv
      · have hv := hv.2 q12
        refine ⟨fun q13 => ?_, fun q13 => ?_⟩
        · have hv := hv.1 q13
          refine ⟨rfl, ?_⟩
          refine u_M_costsAt N w8 w10 I11 J11 _ _ (fun r14 I15 J15 hv => ?_) hv
          exact hQ _ _ _ hv
        · have hv := hv.2 q13
          exact hQ _ _ _ hv
    · have hv := hv.2 q6
      exact hQ _ _ _ hv
theorem u_M_crowded_19 (N k : Nat) (x1 : Int32) (x2 : Int32) (x3 : Int32) (I : zI) (J : zJ) (Q : Int32 → zI → zJ → Prop) (Q' : Int32 → qH → Prop) (hQ : ∀ (r : Int32) (I : zI) (J : zJ), Q r I J → Q' r (zH I J)) (hv : v_M_crowded_19 N k x1 x2 x3 I J Q ) : w_M_crowded_19 N k 361 x1 x2 x3 (zH I J) Q'  := by
  induction k generalizing x1 x2 x3 I J with
  | zero => exact hv.elim
  | succ k ih =>
    rw [w_M_crowded_19]
    rw [v_M_crowded_19] at hv
    refine ⟨fun q1 => ?_, fun q1 => ?_⟩
    · have hv := hv.1 q1
      refine ⟨fun q2 => ?_, fun q2 => ?_⟩
      · have hv := hv.1 q2
        refine ⟨rfl, ?_⟩
        refine u_M_manyOn N x2 I J _ _ (fun r3 I4 J4 hv => ?_) hv
        exact hQ _ _ _ hv
      · have hv := hv.2 q2
        exact hQ _ _ _ hv
    · have hv := hv.2 q1
      refine ⟨rfl, ?_⟩
      refine u_M_manyOn N x3 I J _ _ (fun r5 I6 J6 hv => ?_) hv
      refine ⟨rfl, ?_⟩
      refine u_M_manyOn N x2 I6 J6 _ _ (fun r7 I8 J8 hv => ?_) hv
      refine ⟨fun q9 => ?_, fun q9 => ?_⟩
      · have hv := hv.1 q9
        exact ih x1 x2 (x3 + (1 : Int32)) I8 J8 hv
      · have hv := hv.2 q9
        exact ih x1 x3 (x3 + (1 : Int32)) I8 J8 hv
theorem u_M_crowded (N : Nat) (x1 : Int32) (I : zI) (J : zJ) (Q : Int32 → zI → zJ → Prop) (Q' : Int32 → qH → Prop) (hQ : ∀ (r : Int32) (I : zI) (J : zJ), Q r I J → Q' r (zH I J)) (hv : v_M_crowded N x1 I J Q) : w_M_crowded N 361 x1 (zH I J) Q' := by
  unfold w_M_crowded
  unfold v_M_crowded at hv
  refine u_M_in N x1 (0 : Int32) (1 : Int32) I J _ _ (fun r1 I2 J2 hv => ?_) hv
  refine ⟨fun q3 => ?_, fun q3 => ?_⟩
  · have hv := hv.1 q3
    refine ⟨rfl, ?_⟩
    refine u_M_copies N  I2 J2 _ _ (fun I4 J4 hv => ?_) hv
    exact u_M_crowded_19 N N x1 (0 : Int32) (1 : Int32) I4 J4 Q _ hQ   hv
  · have hv := hv.2 q3
    exact hQ _ _ _ hv
theorem u_M_straight_5 (N k : Nat) (x1 : Int32) (x2 : Int32) (I : zI) (J : zJ) (Q : Int32 → zI → zJ → Prop) (Q' : Int32 → qH → Prop) (hQ : ∀ (r : Int32) (I : zI) (J : zJ), Q r I J → Q' r (zH I J)) (hv : v_M_straight_5 N k x1 x2 I J Q ) : w_M_straight_5 N k 361 x1 x2 (zH I J) Q'  := by
  induction k generalizing x1 x2 I J with
  | zero => exact hv.elim
  | succ k ih =>
    rw [w_M_straight_5]
    rw [v_M_straight_5] at hv
    refine ⟨rfl, ?_⟩
    obtain ⟨g1, hv⟩ := hv
    refine ⟨qok_mk rfl g1, ?_⟩
    refine ⟨fun q2 => ?_, fun q2 => ?_⟩
    · have hv := hv.1 q2
      exact hQ _ _ _ hv
    · have hv := hv.2 q2
      obtain ⟨g3, hv⟩ := hv
      refine ⟨qok_mk rfl g3, ?_⟩
      refine ⟨fun q4 => ?_, fun q4 => ?_⟩
      · have hv := hv.1 q4
        exact ih x1 (x2 + (1 : Int32)) I J hv
      · have hv := hv.2 q4
        refine ⟨fun q5 => ?_, fun q5 => ?_⟩
        · have hv := hv.1 q5
          exact ih x2 (x2 + (1 : Int32)) I J hv
        · have hv := hv.2 q5
          obtain ⟨g6, hv⟩ := hv
          refine ⟨qok_mk rfl g6, ?_⟩
          obtain ⟨g7, hv⟩ := hv
          refine ⟨qok_mk rfl g7, ?_⟩
          refine ⟨fun q8 => ?_, fun q8 => ?_⟩
          · have hv := hv.1 q8
            exact ih x1 (x2 + (1 : Int32)) I J hv
          · have hv := hv.2 q8
            exact ih x2 (x2 + (1 : Int32)) I J hv
theorem u_M_straight (N : Nat)  (I : zI) (J : zJ) (Q : Int32 → zI → zJ → Prop) (Q' : Int32 → qH → Prop) (hQ : ∀ (r : Int32) (I : zI) (J : zJ), Q r I J → Q' r (zH I J)) (hv : v_M_straight N  I J Q) : w_M_straight N 361 (zH I J) Q' := by
  unfold w_M_straight
  unfold v_M_straight at hv
  exact u_M_straight_5 N N (-2 : Int32) (0 : Int32) I J Q _ hQ   hv
theorem u_M_bill_17 (N k : Nat) (x1 : Int32) (x2 : Int32) (x3 : Int32) (I : zI) (J : zJ) (Q : Int32 → zI → zJ → Prop) (Q' : Int32 → qH → Prop) (hQ : ∀ (r : Int32) (I : zI) (J : zJ), Q r I J → Q' r (zH I J)) (hv : v_M_bill_17 N k x1 x2 x3 I J Q ) : w_M_bill_17 N k 361 x1 x2 x3 (zH I J) Q'  := by
  induction k generalizing x1 x2 x3 I J with
  | zero => exact hv.elim
  | succ k ih =>
    rw [w_M_bill_17]
    rw [v_M_bill_17] at hv
    refine ⟨fun q1 => ?_, fun q1 => ?_⟩
    · have hv := hv.1 q1
      exact hQ _ _ _ hv
    · have hv := hv.2 q1
      refine ⟨rfl, ?_⟩
      refine u_M_costsAll N  I J _ _ (fun r2 I3 J3 hv => ?_) hv
      intro y4 ey4
      have hv := hv y4 ey4
      refine ⟨rfl, ?_⟩
      refine u_M_nightGoes N  I3 J3 _ _ (fun I5 J5 hv => ?_) hv
      exact ih x1 y4 (x3 + (1 : Int32)) I5 J5 hv
theorem u_M_bill (N : Nat) (x1 : Int32) (I : zI) (J : zJ) (Q : Int32 → zI → zJ → Prop) (Q' : Int32 → qH → Prop) (hQ : ∀ (r : Int32) (I : zI) (J : zJ), Q r I J → Q' r (zH I J)) (hv : v_M_bill N x1 I J Q) : w_M_bill N 361 x1 (zH I J) Q' := by
  unfold w_M_bill
  unfold v_M_bill at hv
  refine u_M_isLong N x1 I J _ _ (fun r1 I2 J2 hv => ?_) hv
  refine ⟨fun q3 => ?_, fun q3 => ?_⟩
  · have hv := hv.1 q3
    refine ⟨rfl, ?_⟩
    refine u_M_copiesStill N  I2 J2 _ _ (fun I4 J4 hv => ?_) hv
    exact u_M_bill_17 N N x1 (0 : Int32) (0 : Int32) I4 J4 Q _ hQ   hv
  · have hv := hv.2 q3
    exact hQ _ _ _ hv
theorem u_M_swap_49 (N k : Nat) (x1 : Int32) (x2 : Int32) (x3 : Int32) (x4 : Int32) (x5 : Int32) (x6 : Int32) (I : zI) (J : zJ) (Q : Int32 → zI → zJ → Prop) (Q' : Int32 → qH → Prop) (hQ : ∀ (r : Int32) (I : zI) (J : zJ), Q r I J → Q' r (zH I J)) (K122 : Int32 → Int32 → Int32 → Int32 → Int32 → zI → zJ → Prop) (K122' : Nat → Int32 → Int32 → Int32 → Int32 → Int32 → qH → Prop) (hK122 : ∀ (x1 : Int32) (x2 : Int32) (x3 : Int32) (x4 : Int32) (x5 : Int32) (I : zI) (J : zJ), K122 x1 x2 x3 x4 x5 I J → K122' 361 x1 x2 x3 x4 x5 (zH I J)) (hv : v_M_swap_49 N k x1 x2 x3 x4 x5 x6 I J Q K122) : w_M_swap_49 N k 361 x1 x2 x3 x4 x5 x6 (zH I J) Q' K122' := by
  induction k generalizing x1 x2 x3 x4 x5 x6 I J with
  | zero => exact hv.elim
  | succ k ih =>
    rw [w_M_swap_49]
    rw [v_M_swap_49] at hv
    refine ⟨rfl, ?_⟩
    obtain ⟨g1, hv⟩ := hv
    refine ⟨qok_mk rfl g1, ?_⟩
    refine ⟨fun q2 => ?_, fun q2 => ?_⟩
    · have hv := hv.1 q2
      exact hK122 x1 x2 x3 x4 x5 I J hv
    · have hv := hv.2 q2
      refine u_M_areUp N x5 x6 I J _ _ (fun r3 I4 J4 hv => ?_) hv
      refine ⟨fun q5 => ?_, fun q5 => ?_⟩
      · have hv := hv.1 q5
        refine ⟨rfl, ?_⟩
        refine u_M_changesFor N x5 x6 I4 J4 _ _ (fun I6 J6 hv => ?_) hv
        refine ⟨rfl, ?_⟩
        refine u_M_costsAll N  I6 J6 _ _ (fun r7 I8 J8 hv => ?_) hv
        intro y9 ey9
        have hv := hv y9 ey9
        refine ⟨fun q10 => ?_, fun q10 => ?_⟩
        · have hv := hv.1 q10
          intro y11 ey11
          have hv := hv y11 ey11
          exact ih x1 x2 y11 y9 x5 (x6 + (1 : Int32)) I8 J8 hv
        · have hv := hv.2 q10
          exact ih x1 x2 x3 x4 x5 (x6 + (1 : Int32)) I8 J8 hv
      · have hv := hv.2 q5
        exact ih x1 x2 x3 x4 x5 (x6 + (1 : Int32)) I4 J4 hv
theorem u_M_swap_29 (N k : Nat) (x1 : Int32) (x2 : Int32) (x3 : Int32) (x4 : Int32) (x5 : Int32) (I : zI) (J : zJ) (Q : Int32 → zI → zJ → Prop) (Q' : Int32 → qH → Prop) (hQ : ∀ (r : Int32) (I : zI) (J : zJ), Q r I J → Q' r (zH I J)) (hv : v_M_swap_29 N k x1 x2 x3 x4 x5 I J Q ) : w_M_swap_29 N k 361 x1 x2 x3 x4 x5 (zH I J) Q'  := by
  induction k generalizing x1 x2 x3 x4 x5 I J with
  | zero => exact hv.elim
  | succ k ih =>
    rw [w_M_swap_29]
    rw [v_M_swap_29] at hv
    refine ⟨rfl, ?_⟩
    obtain ⟨g1, hv⟩ := hv
    refine ⟨qok_mk rfl g1, ?_⟩
    refine ⟨fun q2 => ?_, fun q2 => ?_⟩
    · have hv := hv.1 q2
      refine ⟨fun q3 => ?_, fun q3 => ?_⟩
      · have hv := hv.1 q3
        exact hQ _ _ _ hv
      · have hv := hv.2 q3
        refine ⟨fun q4 => ?_, fun q4 => ?_⟩
        · have hv := hv.1 q4
          exact hQ _ _ _ hv
        · have hv := hv.2 q4
          exact hQ _ _ _ hv
    · have hv := hv.2 q2
      intro y5 ey5
      have hv := hv y5 ey5
      refine u_M_swap_49 N N x1 x2 x3 x4 x5 y5 I J Q _ hQ _ _ (fun w6 w7 w8 w9 w10 I11 J11 hv => ?_)  hv
      exact ih w6 w7 w8 w9 (w10 + (1 : Int32)) I11 J11 hv
theorem u_M_swap (N : Nat) (x1 : Int32) (I : zI) (J : zJ) (Q : Int32 → zI → zJ → Prop) (Q' : Int32 → qH → Prop) (hQ : ∀ (r : Int32) (I : zI) (J : zJ), Q r I J → Q' r (zH I J)) (hv : v_M_swap N x1 I J Q) : w_M_swap N 361 x1 (zH I J) Q' := by
  unfold w_M_swap
  unfold v_M_swap at hv
  refine u_M_in N x1 (0 : Int32) (1 : Int32) I J _ _ (fun r1 I2 J2 hv => ?_) hv
  refine ⟨fun q3 => ?_, fun q3 => ?_⟩
  · have hv := hv.1 q3
    refine ⟨rfl, ?_⟩
    refine u_M_copies N  I2 J2 _ _ (fun I4 J4 hv => ?_) hv
    refine ⟨rfl, ?_⟩
    refine u_M_costsAll N  I4 J4 _ _ (fun r5 I6 J6 hv => ?_) hv
    exact u_M_swap_29 N N x1 r5 (-2 : Int32) (0 : Int32) (0 : Int32) I6 J6 Q _ hQ   hv
  · have hv := hv.2 q3
    exact hQ _ _ _ hv
theorem u_M_upright_34 (N k : Nat) (x2 : Int32) (x3 : Int32) (x4 : Int32) (I : zI) (J : zJ) (Q : Int32 → zI → zJ → Prop) (Q' : Int32 → qH → Prop) (hQ : ∀ (r : Int32) (I : zI) (J : zJ), Q r I J → Q' r (zH I J)) (hv : v_M_upright_34 N k x2 x3 x4 I J Q ) : w_M_upright_34 N k 361 x2 x3 x4 (zH I J) Q'  := by
  induction k generalizing x2 x3 x4 I J with
  | zero => exact hv.elim
  | succ k ih =>
    rw [w_M_upright_34]
    rw [v_M_upright_34] at hv
    refine ⟨rfl, ?_⟩
    obtain ⟨g1, hv⟩ := hv
    refine ⟨qok_mk rfl g1, ?_⟩
    refine ⟨fun q2 => ?_, fun q2 => ?_⟩
    · have hv := hv.1 q2
      exact hQ _ _ _ hv
    · have hv := hv.2 q2
      obtain ⟨g3, hv⟩ := hv
      refine ⟨qok_mk rfl g3, ?_⟩
      refine ⟨fun q4 => ?_, fun q4 => ?_⟩
      · have hv := hv.1 q4
        exact ih x2 x3 (x4 + (1 : Int32)) I J hv
      · have hv := hv.2 q4
        intro y5 ey5
        have hv := hv y5 ey5
        exact ih x2 y5 (x4 + (1 : Int32)) I J hv
theorem u_M_upright (N : Nat) (x1 : Int32) (x2 : Int32) (I : zI) (J : zJ) (Q : Int32 → zI → zJ → Prop) (Q' : Int32 → qH → Prop) (hQ : ∀ (r : Int32) (I : zI) (J : zJ), Q r I J → Q' r (zH I J)) (hv : v_M_upright N x1 x2 I J Q) : w_M_upright N 361 x1 x2 (zH I J) Q' := by
  unfold w_M_upright
  unfold v_M_upright at hv
  refine u_M_isLong N x1 I J _ _ (fun r1 I2 J2 hv => ?_) hv
  refine ⟨fun q3 => ?_, fun q3 => ?_⟩
  · have hv := hv.1 q3
    exact hQ _ _ _ hv
  · have hv := hv.2 q3
    refine u_M_in N x2 (1 : Int32) (999 : Int32) I2 J2 _ _ (fun r4 I5 J5 hv => ?_) hv
    refine ⟨fun q6 => ?_, fun q6 => ?_⟩
    · have hv := hv.1 q6
      refine ⟨rfl, ?_⟩
      refine u_M_copiesStill N  I5 J5 _ _ (fun I7 J7 hv => ?_) hv
      refine ⟨rfl, ?_⟩
      refine u_M_goes N x1 I7 J7 _ _ (fun I8 J8 hv => ?_) hv
      exact u_M_upright_34 N N x2 (0 : Int32) (0 : Int32) I8 J8 Q _ hQ   hv
    · have hv := hv.2 q6
      exact hQ _ _ _ hv
theorem u_M_free_20 (N k : Nat) (x1 : Int32) (x2 : Int32) (x3 : Int32) (I : zI) (J : zJ) (Q : Int32 → zI → zJ → Prop) (Q' : Int32 → qH → Prop) (hQ : ∀ (r : Int32) (I : zI) (J : zJ), Q r I J → Q' r (zH I J)) (K84 : Int32 → Int32 → zI → zJ → Prop) (K84' : Nat → Int32 → Int32 → qH → Prop) (hK84 : ∀ (x1 : Int32) (x2 : Int32) (I : zI) (J : zJ), K84 x1 x2 I J → K84' 361 x1 x2 (zH I J)) (hv : v_M_free_20 N k x1 x2 x3 I J Q K84) : w_M_free_20 N k 361 x1 x2 x3 (zH I J) Q' K84' := by
  induction k generalizing x1 x2 x3 I J with
  | zero => exact hv.elim
  | succ k ih =>
    rw [w_M_free_20]
    rw [v_M_free_20] at hv
    refine ⟨rfl, ?_⟩
    obtain ⟨g1, hv⟩ := hv
    refine ⟨qok_mk rfl g1, ?_⟩
    refine ⟨fun q2 => ?_, fun q2 => ?_⟩
    · have hv := hv.1 q2
      exact hK84 x1 x2 I J hv
    · have hv := hv.2 q2
      refine u_M_whoIsOn N x3 I J _ _ (fun r3 I4 J4 hv => ?_) hv
      refine ⟨fun q5 => ?_, fun q5 => ?_⟩
      · have hv := hv.1 q5
        exact ih x1 x2 (x3 + (1 : Int32)) I4 J4 hv
      · have hv := hv.2 q5
        refine ⟨fun q6 => ?_, fun q6 => ?_⟩
        · have hv := hv.1 q6
          exact ih x1 x3 (x3 + (1 : Int32)) I4 J4 hv
        · have hv := hv.2 q6
          refine ⟨rfl, ?_⟩
          obtain ⟨g7, hv⟩ := hv
          refine ⟨qok_mk rfl g7, ?_⟩
          obtain ⟨g8, hv⟩ := hv
          refine ⟨qok_mk rfl g8, ?_⟩
          refine ⟨fun q9 => ?_, fun q9 => ?_⟩
          · have hv := hv.1 q9
            exact ih x1 x2 (x3 + (1 : Int32)) I4 J4 hv
          · have hv := hv.2 q9
            exact ih x1 x3 (x3 + (1 : Int32)) I4 J4 hv
theorem u_M_free (N : Nat) (x1 : Int32) (I : zI) (J : zJ) (Q : Int32 → zI → zJ → Prop) (Q' : Int32 → qH → Prop) (hQ : ∀ (r : Int32) (I : zI) (J : zJ), Q r I J → Q' r (zH I J)) (hv : v_M_free N x1 I J Q) : w_M_free N 361 x1 (zH I J) Q' := by
  unfold w_M_free
  unfold v_M_free at hv
  refine u_M_in N x1 (0 : Int32) (1 : Int32) I J _ _ (fun r1 I2 J2 hv => ?_) hv
  refine ⟨fun q3 => ?_, fun q3 => ?_⟩
  · have hv := hv.1 q3
    refine ⟨rfl, ?_⟩
    refine u_M_copies N  I2 J2 _ _ (fun I4 J4 hv => ?_) hv
    refine u_M_free_20 N N x1 (-2 : Int32) (0 : Int32) I4 J4 Q _ hQ _ _ (fun w5 w6 I7 J7 hv => ?_)  hv
    refine ⟨fun q8 => ?_, fun q8 => ?_⟩
    · have hv := hv.1 q8
      exact hQ _ _ _ hv
    · have hv := hv.2 q8
      refine ⟨fun q9 => ?_, fun q9 => ?_⟩
      · have hv := hv.1 q9
        refine ⟨rfl, ?_⟩
        obtain ⟨g10, hv⟩ := hv
        refine ⟨qok_mk rfl g10, ?_⟩
        exact hQ _ _ _ hv
      · have hv := hv.2 q9
        exact hQ _ _ _ hv
  · have hv := hv.2 q3
    exact hQ _ _ _ hv
theorem u_M_then (N : Nat) (x1 : Int32) (x2 : Int32) (x3 : Int32) (I : zI) (J : zJ) (Q : Int32 → zI → zJ → Prop) (Q' : Int32 → qH → Prop) (hQ : ∀ (r : Int32) (I : zI) (J : zJ), Q r I J → Q' r (zH I J)) (hv : v_M_then N x1 x2 x3 I J Q) : w_M_then N 361 x1 x2 x3 (zH I J) Q' := by
  unfold w_M_then
  unfold v_M_then at hv
  refine ⟨rfl, ?_⟩
  refine u_M_isPerson N x1 I J _ _ (fun r1 I2 J2 hv => ?_) hv
  refine ⟨fun q3 => ?_, fun q3 => ?_⟩
  · have hv := hv.1 q3
    exact hQ _ _ _ hv
  · have hv := hv.2 q3
    refine u_M_isLong N x2 I2 J2 _ _ (fun r4 I5 J5 hv => ?_) hv
    refine ⟨fun q6 => ?_, fun q6 => ?_⟩
    · have hv := hv.1 q6
      exact hQ _ _ _ hv
    · have hv := hv.2 q6
      refine u_M_in N x3 (0 : Int32) (2 : Int32) I5 J5 _ _ (fun r7 I8 J8 hv => ?_) hv
      refine ⟨fun q9 => ?_, fun q9 => ?_⟩
      · have hv := hv.1 q9
        refine ⟨rfl, ?_⟩
        refine u_M_copies N  I8 J8 _ _ (fun I10 J10 hv => ?_) hv
        refine ⟨rfl, ?_⟩
        refine u_M_goes N x2 I10 J10 _ _ (fun I11 J11 hv => ?_) hv
        refine ⟨fun q12 => ?_, fun q12 => ?_⟩
        · have hv := hv.1 q12
          refine ⟨fun q13 => ?_, fun q13 => ?_⟩
          · have hv := hv.1 q13
            refine ⟨rfl, ?_⟩
            obtain ⟨g14, hv⟩ := hv
            refine ⟨qok_mk rfl g14, ?_⟩
            exact hQ _ _ _ hv
          · have hv := hv.2 q13
            refine ⟨rfl, ?_⟩
            obtain ⟨g15, hv⟩ := hv
            refine ⟨qok_mk rfl g15, ?_⟩
            exact hQ _ _ _ hv
        · have hv := hv.2 q12
          refine ⟨rfl, ?_⟩
          obtain ⟨g16, hv⟩ := hv
          refine ⟨qok_mk rfl g16, ?_⟩
          exact hQ _ _ _ hv
      · have hv := hv.2 q9
        exact hQ _ _ _ hv
theorem u_M_bentIn (N : Nat) (x1 : Int32) (x2 : Int32) (I : zI) (J : zJ) (Q : Int32 → zI → zJ → Prop) (Q' : Int32 → qH → Prop) (hQ : ∀ (r : Int32) (I : zI) (J : zJ), Q r I J → Q' r (zH I J)) (hv : v_M_bentIn N x1 x2 I J Q) : w_M_bentIn N 361 x1 x2 (zH I J) Q' := by
  unfold w_M_bentIn
  unfold v_M_bentIn at hv
  refine ⟨rfl, ?_⟩
  refine u_M_isHanger N x1 I J _ _ (fun r1 I2 J2 hv => ?_) hv
  refine ⟨fun q3 => ?_, fun q3 => ?_⟩
  · have hv := hv.1 q3
    exact hQ _ _ _ hv
  · have hv := hv.2 q3
    refine u_M_isLong N x2 I2 J2 _ _ (fun r4 I5 J5 hv => ?_) hv
    refine ⟨fun q6 => ?_, fun q6 => ?_⟩
    · have hv := hv.1 q6
      refine ⟨rfl, ?_⟩
      refine u_M_copies N  I5 J5 _ _ (fun I7 J7 hv => ?_) hv
      refine ⟨rfl, ?_⟩
      refine u_M_goes N x2 I7 J7 _ _ (fun I8 J8 hv => ?_) hv
      refine ⟨rfl, ?_⟩
      obtain ⟨g9, hv⟩ := hv
      refine ⟨qok_mk rfl g9, ?_⟩
      exact hQ _ _ _ hv
    · have hv := hv.2 q6
      exact hQ _ _ _ hv
theorem u_M_year_33 (N k : Nat) (x1 : Int32) (x2 : Int32) (x3 : Int32) (x4 : Int32) (x5 : Int32) (I : zI) (J : zJ) (Q : Int32 → zI → zJ → Prop) (Q' : Int32 → qH → Prop) (hQ : ∀ (r : Int32) (I : zI) (J : zJ), Q r I J → Q' r (zH I J)) (hv : v_M_year_33 N k x1 x2 x3 x4 x5 I J Q ) : w_M_year_33 N k 361 x1 x2 x3 x4 x5 (zH I J) Q'  := by
  induction k generalizing x1 x2 x3 x4 x5 I J with
  | zero => exact hv.elim
  | succ k ih =>
    rw [w_M_year_33]
    rw [v_M_year_33] at hv
    refine ⟨fun q1 => ?_, fun q1 => ?_⟩
    · have hv := hv.1 q1
      exact hQ _ _ _ hv
    · have hv := hv.2 q1
      refine ⟨rfl, ?_⟩
      refine u_M_copies N  I J _ _ (fun I2 J2 hv => ?_) hv
      refine ⟨rfl, ?_⟩
      obtain ⟨I3, eI3⟩ : ∃ z, z = qu I2 361 51 ((I2 361 51) + x5) := ⟨_, rfl⟩
      have hv := hv I3 eI3
      intro h3 eh3
      have eh3 : h3 = zH I3 J2 := by rw [eh3, eI3]; rfl
      subst eh3
      refine ⟨rfl, ?_⟩
      refine u_M_goes N x2 I3 J2 _ _ (fun I4 J4 hv => ?_) hv
      refine ⟨rfl, ?_⟩
      refine u_M_isUp N x1 I4 J4 _ _ (fun r5 I6 J6 hv => ?_) hv
      refine ⟨fun q7 => ?_, fun q7 => ?_⟩
      · have hv := hv.1 q7
        exact ih x1 x2 x3 x4 (x5 + (1 : Int32)) I6 J6 hv
      · have hv := hv.2 q7
        exact ih x1 x2 x3 (x4 + (1 : Int32)) (x5 + (1 : Int32)) I6 J6 hv
theorem u_M_year (N : Nat) (x1 : Int32) (x2 : Int32) (x3 : Int32) (I : zI) (J : zJ) (Q : Int32 → zI → zJ → Prop) (Q' : Int32 → qH → Prop) (hQ : ∀ (r : Int32) (I : zI) (J : zJ), Q r I J → Q' r (zH I J)) (hv : v_M_year N x1 x2 x3 I J Q) : w_M_year N 361 x1 x2 x3 (zH I J) Q' := by
  unfold w_M_year
  unfold v_M_year at hv
  refine ⟨rfl, ?_⟩
  refine u_M_isPerson N x1 I J _ _ (fun r1 I2 J2 hv => ?_) hv
  refine ⟨fun q3 => ?_, fun q3 => ?_⟩
  · have hv := hv.1 q3
    exact hQ _ _ _ hv
  · have hv := hv.2 q3
    refine u_M_isLong N x2 I2 J2 _ _ (fun r4 I5 J5 hv => ?_) hv
    refine ⟨fun q6 => ?_, fun q6 => ?_⟩
    · have hv := hv.1 q6
      exact hQ _ _ _ hv
    · have hv := hv.2 q6
      refine u_M_in N x3 (1 : Int32) (20 : Int32) I5 J5 _ _ (fun r7 I8 J8 hv => ?_) hv
      refine ⟨fun q9 => ?_, fun q9 => ?_⟩
      · have hv := hv.1 q9
        exact u_M_year_33 N N x1 x2 x3 (0 : Int32) (0 : Int32) I8 J8 Q _ hQ   hv
      · have hv := hv.2 q9
        exact hQ _ _ _ hv
theorem u_M_tell (N : Nat) (x1 : Int32) (x2 : Int32) (x3 : Int32) (I : zI) (J : zJ) (Q : Int32 → zI → zJ → Prop) (Q' : Int32 → qH → Prop) (hQ : ∀ (r : Int32) (I : zI) (J : zJ), Q r I J → Q' r (zH I J)) (hv : v_M_tell N x1 x2 x3 I J Q) : w_M_tell N 361 x1 x2 x3 (zH I J) Q' := by
  unfold w_M_tell
  unfold v_M_tell at hv
  refine ⟨rfl, ?_⟩
  refine ⟨fun q1 => ?_, fun q1 => ?_⟩
  · have hv := hv.1 q1
    exact hQ _ _ _ hv
  · have hv := hv.2 q1
    refine u_M_isPerson N x1 I J _ _ (fun r2 I3 J3 hv => ?_) hv
    refine ⟨fun q4 => ?_, fun q4 => ?_⟩
    · have hv := hv.1 q4
      exact hQ _ _ _ hv
    · have hv := hv.2 q4
      refine ⟨rfl, ?_⟩
      refine u_M_isPerson N x2 I3 J3 _ _ (fun r5 I6 J6 hv => ?_) hv
      refine ⟨fun q7 => ?_, fun q7 => ?_⟩
      · have hv := hv.1 q7
        refine ⟨rfl, ?_⟩
        obtain ⟨g8, hv⟩ := hv
        refine ⟨qok_mk rfl g8, ?_⟩
        obtain ⟨I9, eI9⟩ : ∃ z, z = qu I6 403 ((I6 361 63)).toNatClampNeg x1 := ⟨_, rfl⟩
        have hv := hv I9 eI9
        intro h9 eh9
        have eh9 : h9 = zH I9 J6 := by rw [eh9, eI9]; rfl
        subst eh9
        refine ⟨rfl, ?_⟩
        obtain ⟨g10, hv⟩ := hv
        refine ⟨qok_mk rfl g10, ?_⟩
        obtain ⟨I11, eI11⟩ : ∃ z, z = qu I9 404 ((I9 361 63)).toNatClampNeg x2 := ⟨_, rfl⟩
        have hv := hv I11 eI11
        intro h11 eh11
        have eh11 : h11 = zH I11 J6 := by rw [eh11, eI11]; rfl
        subst eh11
        refine ⟨rfl, ?_⟩
        obtain ⟨g12, hv⟩ := hv
        refine ⟨qok_mk rfl g12, ?_⟩
        obtain ⟨I13, eI13⟩ : ∃ z, z = qu I11 405 ((I11 361 63)).toNatClampNeg (vp_nar .boolean x3) := ⟨_, rfl⟩
        have hv := hv I13 eI13
        intro h13 eh13
        have eh13 : h13 = zH I13 J6 := by rw [eh13, eI13]; rfl
        subst eh13
        refine ⟨rfl, ?_⟩
        obtain ⟨I14, eI14⟩ : ∃ z, z = qu I13 361 63 ((I13 361 63) + (1 : Int32)) := ⟨_, rfl⟩
        have hv := hv I14 eI14
        intro h14 eh14
        have eh14 : h14 = zH I14 J6 := by rw [eh14, eI14]; rfl
        subst eh14
        refine ⟨rfl, ?_⟩
        exact hQ _ _ _ hv
      · have hv := hv.2 q7
        exact hQ _ _ _ hv
theorem u_M_forget (N : Nat)  (I : zI) (J : zJ) (Q : Int32 → zI → zJ → Prop) (Q' : Int32 → qH → Prop) (hQ : ∀ (r : Int32) (I : zI) (J : zJ), Q r I J → Q' r (zH I J)) (hv : v_M_forget N  I J Q) : w_M_forget N 361 (zH I J) Q' := by
  unfold w_M_forget
  unfold v_M_forget at hv
  refine ⟨rfl, ?_⟩
  intro y1 ey1
  have hv := hv y1 ey1
  obtain ⟨I2, eI2⟩ : ∃ z, z = qu I 361 63 (0 : Int32) := ⟨_, rfl⟩
  have hv := hv I2 eI2
  intro h2 eh2
  have eh2 : h2 = zH I2 J := by rw [eh2, eI2]; rfl
  subst eh2
  exact hQ _ _ _ hv
theorem u_M_fillsPairs_78 (N k : Nat) (x1 : Int32) (x2 : Int32) (x3 : Int32) (x6 : Int32) (I : zI) (J : zJ) (Q : Int32 → zI → zJ → Prop) (Q' : Int32 → qH → Prop) (hQ : ∀ (r : Int32) (I : zI) (J : zJ), Q r I J → Q' r (zH I J)) (K113 : Int32 → Int32 → Int32 → zI → zJ → Prop) (K113' : Nat → Int32 → Int32 → Int32 → qH → Prop) (hK113 : ∀ (x1 : Int32) (x2 : Int32) (x3 : Int32) (I : zI) (J : zJ), K113 x1 x2 x3 I J → K113' 361 x1 x2 x3 (zH I J)) (hv : v_M_fillsPairs_78 N k x1 x2 x3 x6 I J Q K113) : w_M_fillsPairs_78 N k 361 x1 x2 x3 x6 (zH I J) Q' K113' := by
  induction k generalizing x1 x2 x3 x6 I J with
  | zero => exact hv.elim
  | succ k ih =>
    rw [w_M_fillsPairs_78]
    rw [v_M_fillsPairs_78] at hv
    refine ⟨fun q1 => ?_, fun q1 => ?_⟩
    · have hv := hv.1 q1
      exact hK113 x1 x2 x3 I J hv
    · have hv := hv.2 q1
      refine ⟨rfl, ?_⟩
      obtain ⟨g2, hv⟩ := hv
      refine ⟨qok_mk rfl g2, ?_⟩
      obtain ⟨g3, hv⟩ := hv
      refine ⟨qok_mk rfl g3, ?_⟩
      obtain ⟨I4, eI4⟩ : ∃ z, z = qu I 407 ((((6 : Int32) * x3) + x6)).toNatClampNeg (I 394 (((12 : Int32) + x6)).toNatClampNeg) := ⟨_, rfl⟩
      have hv := hv I4 eI4
      intro h4 eh4
      have eh4 : h4 = zH I4 J := by rw [eh4, eI4]; rfl
      subst eh4
      exact ih x1 x2 x3 (x6 + (1 : Int32)) I4 J hv
theorem u_M_fillsPairs_152 (N : Nat) (x1 : Int32) (x2 : Int32) (x3 : Int32) (x6 : Int32) (z0 : Int32) (I : zI) (J : zJ) (Q : Int32 → zI → zJ → Prop) (Q' : Int32 → qH → Prop) (hQ : ∀ (r : Int32) (I : zI) (J : zJ), Q r I J → Q' r (zH I J)) (K116 : Int32 → Int32 → Int32 → Int32 → zI → zJ → Prop) (K116' : Nat → Int32 → Int32 → Int32 → Int32 → qH → Prop) (hK116 : ∀ (x1 : Int32) (x2 : Int32) (x3 : Int32) (x6 : Int32) (I : zI) (J : zJ), K116 x1 x2 x3 x6 I J → K116' 361 x1 x2 x3 x6 (zH I J)) (hv : v_M_fillsPairs_152 N x1 x2 x3 x6 z0 I J Q K116) : w_M_fillsPairs_152 N 361 x1 x2 x3 x6 z0 (zH I J) Q' K116' := by
  unfold w_M_fillsPairs_152
  unfold v_M_fillsPairs_152 at hv
  refine ⟨rfl, ?_⟩
  obtain ⟨g1, hv⟩ := hv
  refine ⟨qok_mk rfl g1, ?_⟩
  refine ⟨fun q2 => ?_, fun q2 => ?_⟩
  · have hv := hv.1 q2
    exact hK116 x1 x2 x3 (x6 + (1 : Int32)) I J hv
  · have hv := hv.2 q2
    obtain ⟨g3, hv⟩ := hv
    refine ⟨qok_mk rfl g3, ?_⟩
    obtain ⟨I4, eI4⟩ : ∃ z, z = qu I 406 (x3).toNatClampNeg (vp_nar .boolean (0 : Int32)) := ⟨_, rfl⟩
    have hv := hv I4 eI4
    intro h4 eh4
    have eh4 : h4 = zH I4 J := by rw [eh4, eI4]; rfl
    subst eh4
    exact hK116 x1 x2 x3 (x6 + (1 : Int32)) I4 J hv
theorem u_M_fillsPairs_116 (N k : Nat) (x1 : Int32) (x2 : Int32) (x3 : Int32) (x6 : Int32) (I : zI) (J : zJ) (Q : Int32 → zI → zJ → Prop) (Q' : Int32 → qH → Prop) (hQ : ∀ (r : Int32) (I : zI) (J : zJ), Q r I J → Q' r (zH I J)) (K175 : Int32 → Int32 → Int32 → zI → zJ → Prop) (K175' : Nat → Int32 → Int32 → Int32 → qH → Prop) (hK175 : ∀ (x1 : Int32) (x2 : Int32) (x3 : Int32) (I : zI) (J : zJ), K175 x1 x2 x3 I J → K175' 361 x1 x2 x3 (zH I J)) (hv : v_M_fillsPairs_116 N k x1 x2 x3 x6 I J Q K175) : w_M_fillsPairs_116 N k 361 x1 x2 x3 x6 (zH I J) Q' K175' := by
  induction k generalizing x1 x2 x3 x6 I J with
  | zero => exact hv.elim
  | succ k ih =>
    rw [w_M_fillsPairs_116]
    rw [v_M_fillsPairs_116] at hv
    refine ⟨fun q1 => ?_, fun q1 => ?_⟩
    · have hv := hv.1 q1
      exact hK175 x1 x2 x3 I J hv
    · have hv := hv.2 q1
      refine ⟨rfl, ?_⟩
      obtain ⟨g2, hv⟩ := hv
      refine ⟨qok_mk rfl g2, ?_⟩
      obtain ⟨g3, hv⟩ := hv
      refine ⟨qok_mk rfl g3, ?_⟩
      obtain ⟨g4, hv⟩ := hv
      refine ⟨qok_mk rfl g4, ?_⟩
      refine ⟨fun q5 => ?_, fun q5 => ?_⟩
      · have hv := hv.1 q5
        exact u_M_fillsPairs_152 N x1 x2 x3 x6 (0 : Int32) I J Q _ hQ _ _ (fun x1 x2 x3 x6 I J hv => ih x1 x2 x3 x6 I J hv)  hv
      · have hv := hv.2 q5
        exact u_M_fillsPairs_152 N x1 x2 x3 x6 (1 : Int32) I J Q _ hQ _ _ (fun x1 x2 x3 x6 I J hv => ih x1 x2 x3 x6 I J hv)  hv
theorem u_M_fillsPairs_50 (N : Nat) (x1 : Int32) (x2 : Int32) (x3 : Int32) (x4 : Int32) (x5 : Int32) (z0 : Int32) (z1 : Int32) (I : zI) (J : zJ) (Q : Int32 → zI → zJ → Prop) (Q' : Int32 → qH → Prop) (hQ : ∀ (r : Int32) (I : zI) (J : zJ), Q r I J → Q' r (zH I J)) (K4 : Int32 → Int32 → Int32 → zI → zJ → Prop) (K4' : Nat → Int32 → Int32 → Int32 → qH → Prop) (hK4 : ∀ (x1 : Int32) (x2 : Int32) (x3 : Int32) (I : zI) (J : zJ), K4 x1 x2 x3 I J → K4' 361 x1 x2 x3 (zH I J)) (hv : v_M_fillsPairs_50 N x1 x2 x3 x4 x5 z0 z1 I J Q K4) : w_M_fillsPairs_50 N 361 x1 x2 x3 x4 x5 z0 z1 406 (zH I J) Q' K4' := by
  unfold w_M_fillsPairs_50
  unfold v_M_fillsPairs_50 at hv
  obtain ⟨g1, hv⟩ := hv
  refine ⟨qok_mk rfl g1, ?_⟩
  obtain ⟨I2, eI2⟩ : ∃ z, z = qu I 406 (z1).toNatClampNeg (vp_nar .boolean z0) := ⟨_, rfl⟩
  have hv := hv I2 eI2
  intro h2 eh2
  have eh2 : h2 = zH I2 J := by rw [eh2, eI2]; rfl
  subst eh2
  refine ⟨rfl, ?_⟩
  obtain ⟨g3, hv⟩ := hv
  refine ⟨qok_mk rfl g3, ?_⟩
  refine ⟨fun q4 => ?_, fun q4 => ?_⟩
  · have hv := hv.1 q4
    refine u_M_changesFor N x4 x5 I2 J _ _ (fun I5 J5 hv => ?_) hv
    refine ⟨rfl, ?_⟩
    refine u_M_nightGoes N  I5 J5 _ _ (fun I6 J6 hv => ?_) hv
    refine u_M_fillsPairs_78 N N x1 x2 x3 (0 : Int32) I6 J6 Q _ hQ _ _ (fun w7 w8 w9 I10 J10 hv => ?_)  hv
    refine u_M_fillsPairs_116 N N w7 w8 w9 (0 : Int32) I10 J10 Q _ hQ _ _ (fun w11 w12 w13 I14 J14 hv => ?_)  hv
    refine ⟨rfl, ?_⟩
    obtain ⟨g15, hv⟩ := hv
    refine ⟨qok_mk rfl g15, ?_⟩
    refine ⟨fun q16 => ?_, fun q16 => ?_⟩
    · have hv := hv.1 q16
      exact hK4 w11 w12 (w13 + (1 : Int32)) I14 J14 hv
    · have hv := hv.2 q16
      exact hK4 w11 (w12 + (1 : Int32)) (w13 + (1 : Int32)) I14 J14 hv
  · have hv := hv.2 q4
    exact hK4 x1 x2 (x3 + (1 : Int32)) I2 J hv
theorem u_M_fillsPairs_49 (N : Nat) (x1 : Int32) (x2 : Int32) (x3 : Int32) (x4 : Int32) (x5 : Int32) (z0 : Int32) (I : zI) (J : zJ) (Q : Int32 → zI → zJ → Prop) (Q' : Int32 → qH → Prop) (hQ : ∀ (r : Int32) (I : zI) (J : zJ), Q r I J → Q' r (zH I J)) (K4 : Int32 → Int32 → Int32 → zI → zJ → Prop) (K4' : Nat → Int32 → Int32 → Int32 → qH → Prop) (hK4 : ∀ (x1 : Int32) (x2 : Int32) (x3 : Int32) (I : zI) (J : zJ), K4 x1 x2 x3 I J → K4' 361 x1 x2 x3 (zH I J)) (hv : v_M_fillsPairs_49 N x1 x2 x3 x4 x5 z0 I J Q K4) : w_M_fillsPairs_49 N 361 x1 x2 x3 x4 x5 z0 406 (zH I J) Q' K4' := by
  unfold w_M_fillsPairs_49
  unfold v_M_fillsPairs_49 at hv
  exact u_M_fillsPairs_50 N x1 x2 x3 x4 x5 (0 : Int32) z0 I J Q _ hQ _ _ (fun x1 x2 x3 I J hv => hK4 x1 x2 x3 I J hv)  hv
theorem u_M_fillsPairs_4 (N k : Nat) (x1 : Int32) (x2 : Int32) (x3 : Int32) (I : zI) (J : zJ) (Q : Int32 → zI → zJ → Prop) (Q' : Int32 → qH → Prop) (hQ : ∀ (r : Int32) (I : zI) (J : zJ), Q r I J → Q' r (zH I J)) (hv : v_M_fillsPairs_4 N k x1 x2 x3 I J Q ) : w_M_fillsPairs_4 N k 361 x1 x2 x3 (zH I J) Q'  := by
  induction k generalizing x1 x2 x3 I J with
  | zero => exact hv.elim
  | succ k ih =>
    rw [w_M_fillsPairs_4]
    rw [v_M_fillsPairs_4] at hv
    refine ⟨fun q1 => ?_, fun q1 => ?_⟩
    · have hv := hv.1 q1
      exact hQ _ _ _ hv
    · have hv := hv.2 q1
      obtain ⟨g2, hv⟩ := hv
      refine ⟨g2, ?_⟩
      intro y3 ey3
      have hv := hv y3 ey3
      obtain ⟨g4, hv⟩ := hv
      refine ⟨g4, ?_⟩
      intro y5 ey5
      have hv := hv y5 ey5
      refine ⟨rfl, ?_⟩
      refine ⟨fun q6 => ?_, fun q6 => ?_⟩
      · have hv := hv.1 q6
        exact u_M_fillsPairs_49 N x1 x2 x3 y3 y5 x3 I J Q _ hQ _ _ (fun x1 x2 x3 I J hv => ih x1 x2 x3 I J hv)  hv
      · have hv := hv.2 q6
        refine u_M_areUp N y3 y5 I J _ _ (fun r7 I8 J8 hv => ?_) hv
        refine ⟨fun q9 => ?_, fun q9 => ?_⟩
        · have hv := hv.1 q9
          exact u_M_fillsPairs_49 N x1 x2 x3 y3 y5 x3 I8 J8 Q _ hQ _ _ (fun x1 x2 x3 I J hv => ih x1 x2 x3 I J hv)  hv
        · have hv := hv.2 q9
          exact u_M_fillsPairs_50 N x1 x2 x3 y3 y5 (1 : Int32) x3 I8 J8 Q _ hQ _ _ (fun x1 x2 x3 I J hv => ih x1 x2 x3 I J hv)  hv
theorem u_M_fillsPairs (N : Nat) (x1 : Int32) (I : zI) (J : zJ) (Q : Int32 → zI → zJ → Prop) (Q' : Int32 → qH → Prop) (hQ : ∀ (r : Int32) (I : zI) (J : zJ), Q r I J → Q' r (zH I J)) (hv : v_M_fillsPairs N x1 I J Q) : w_M_fillsPairs N 361 x1 (zH I J) Q' := by
  unfold w_M_fillsPairs
  unfold v_M_fillsPairs at hv
  exact u_M_fillsPairs_4 N N x1 (0 : Int32) (0 : Int32) I J Q _ hQ   hv
