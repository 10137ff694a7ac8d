/-! over the layout: written by wip/whole/emitv.py -/
def v_Reck_joined (N : Nat) (x0 : Int32) (x1 : Int32) (x2 : Int32) (I : zI) (J : zJ) (Q : Int32 → zI → zJ → Prop) : Prop := ((x0 = (42 : Int32) → Q (x1 * x2) I J) ∧ (¬ x0 = (42 : Int32) → ((x0 = (43 : Int32) → Q (x1 + x2) I J) ∧ (¬ x0 = (43 : Int32) → ((x0 = (44 : Int32) → ((¬ x2 = 0 → (¬ x2 = 0 ∧ Q (x1 / x2) I J)) ∧ (x2 = 0 → Q (0 : Int32) I J))) ∧ (¬ x0 = (44 : Int32) → ((x0 = (45 : Int32) → Q (x1 - x2) I J) ∧ (¬ x0 = (45 : Int32) → ((¬ x2 = 0 → (¬ x2 = 0 ∧ Q (x1 / x2) I J)) ∧ (x2 = 0 → Q (0 : Int32) I J))))))))))
def v_Reck_varOf (N : Nat) (x1 : Int32) (I : zI) (J : zJ) (Q : Int32 → zI → zJ → Prop) : Prop := ((x1 < 0 → Q (0 : Int32) I J) ∧ (¬ x1 < 0 → (((9 : Int32) ≤ x1 → Q (0 : Int32) I J) ∧ (¬ (9 : Int32) ≤ x1 → (vp_in x1 9 ∧ Q (I 62 (x1).toNatClampNeg) I J)))))
def v_Reck_valueOf_43 (N : Nat) (x1 : Nat) (x2 : Int32) (x3 : Int32) (x4 : Int32) (x5 : Int32) (I : zI) (J : zJ) (Q : Int32 → zI → zJ → Prop) (K4 : Int32 → Int32 → zI → zJ → Prop) : Prop := ((x2 < (32 : Int32) → ((¬ x4 = (1 : Int32) → (v_Reck_varOf N x5 I J (fun r3 I4 J4 => (vp_in x2 32 ∧ ∀ I6 : zI, I6 = qu I4 63 (x2).toNatClampNeg r3 → (K4 (x2 + (1 : Int32)) x3 I6 J4))))) ∧ (x4 = (1 : Int32) → (vp_in x2 32 ∧ ∀ I8 : zI, I8 = qu I 63 (x2).toNatClampNeg x5 → (K4 (x2 + (1 : Int32)) x3 I8 J))))) ∧ (¬ x2 < (32 : Int32) → Q (0 : Int32) I J))
def v_Reck_valueOf_128 (N : Nat) (x1 : Nat) (x2 : Int32) (x3 : Int32) (x4 : Int32) (x5 : Int32) (I : zI) (J : zJ) (Q : Int32 → zI → zJ → Prop) (K4 : Int32 → Int32 → zI → zJ → Prop) : Prop := ((x4 = (3 : Int32) → (vp_in (x2 + (-2 : Int32)) 32 ∧ (vp_in ((x2 + (-2 : Int32)) + (1 : Int32)) 32 ∧ (((I 63 ((x2 + (-2 : Int32))).toNatClampNeg) < (I 63 (((x2 + (-2 : Int32)) + (1 : Int32))).toNatClampNeg) → (K4 (x2 + (-2 : Int32)) x3 I J)) ∧ (¬ (I 63 ((x2 + (-2 : Int32))).toNatClampNeg) < (I 63 (((x2 + (-2 : Int32)) + (1 : Int32))).toNatClampNeg) → (∀ y5 : Int32, y5 = (if x3 < x5 then x5 else x3) → (K4 (x2 + (-2 : Int32)) y5 I J))))))) ∧ (¬ x4 = (3 : Int32) → (vp_in (x2 + (-2 : Int32)) 32 ∧ (vp_in ((x2 + (-2 : Int32)) + (1 : Int32)) 32 ∧ (v_Reck_joined N x4 (I 63 ((x2 + (-2 : Int32))).toNatClampNeg) (I 63 (((x2 + (-2 : Int32)) + (1 : Int32))).toNatClampNeg) I J (fun r8 I9 J9 => (vp_in (x2 + (-2 : Int32)) 32 ∧ ∀ I11 : zI, I11 = qu I9 63 ((x2 + (-2 : Int32))).toNatClampNeg r8 → (K4 ((x2 + (-2 : Int32)) + (1 : Int32)) x3 I11 J9))))))))
def v_Reck_valueOf_4 (N : Nat) : Nat → Nat → Int32 → Int32 → zI → zJ → (Int32 → zI → zJ → Prop) → (Int32 → zI → zJ → Prop) → Prop
  | 0 => fun _ _ _ _ _ _ _ => False
  | k + 1 => fun x1 x2 x3 I J Q K86 => (((I x1 2) ≤ x3 → Q (0 : Int32) I J) ∧ (¬ (I x1 2) ≤ x3 → (vp_in x3 400 ∧ (∀ y3 : Int32, y3 = (I (x1 + 1) (x3).toNatClampNeg) → (vp_in x3 400 ∧ (∀ y5 : Int32, y5 = (I (x1 + 2) (x3).toNatClampNeg) → ((y3 = (1 : Int32) → (v_Reck_valueOf_43 N x1 x2 (x3 + (1 : Int32)) y3 y5 I J Q (fun x2 x3 I J => v_Reck_valueOf_4 N k x1 x2 x3 I J Q K86))) ∧ (¬ y3 = (1 : Int32) → ((¬ y3 = (2 : Int32) → ((¬ y3 = (4 : Int32) → ((x2 < (2 : Int32) → Q (0 : Int32) I J) ∧ (¬ x2 < (2 : Int32) → ((¬ y3 = (47 : Int32) → (v_Reck_valueOf_128 N x1 x2 (x3 + (1 : Int32)) y3 y5 I J Q (fun x2 x3 I J => v_Reck_valueOf_4 N k x1 x2 x3 I J Q K86))) ∧ (y3 = (47 : Int32) → (vp_in (x2 - (1 : Int32)) 32 ∧ ((¬ (I 63 ((x2 - (1 : Int32))).toNatClampNeg) = 0 → (v_Reck_valueOf_128 N x1 x2 (x3 + (1 : Int32)) y3 y5 I J Q (fun x2 x3 I J => v_Reck_valueOf_4 N k x1 x2 x3 I J Q K86))) ∧ ((I 63 ((x2 - (1 : Int32))).toNatClampNeg) = 0 → Q (0 : Int32) I J)))))))) ∧ (y3 = (4 : Int32) → (K86 x2 I J)))) ∧ (y3 = (2 : Int32) → (v_Reck_valueOf_43 N x1 x2 (x3 + (1 : Int32)) y3 y5 I J Q (fun x2 x3 I J => v_Reck_valueOf_4 N k x1 x2 x3 I J Q K86))))))))))))
def v_Reck_valueOf (N : Nat) (x1 : Nat) (I : zI) (J : zJ) (Q : Int32 → zI → zJ → Prop) : Prop := (v_Reck_valueOf_4 N N x1 (0 : Int32) (0 : Int32) I J Q (fun w1 I2 J2 => ((w1 ≤ 0 → Q (0 : Int32) I2 J2) ∧ (¬ w1 ≤ 0 → (vp_in (w1 - (1 : Int32)) 32 ∧ Q (I2 63 ((w1 - (1 : Int32))).toNatClampNeg) I2 J2)))))
def v_Reck_lawTells_12 (N : Nat) (x1 : Int32) (z0 : Int32) (I : zI) (J : zJ) (Q : Int32 → zI → zJ → Prop)  : Prop := ((x1 = (0 : Int32) → (v_Reck_valueOf N 14 I J (fun r3 I4 J4 => Q (if (0 : Int32) < (if r3 < z0 then r3 else z0) then (if r3 < z0 then r3 else z0) else (0 : Int32)) I4 J4))) ∧ (¬ x1 = (0 : Int32) → ((x1 = (1 : Int32) → (v_Reck_valueOf N 17 I J (fun r5 I6 J6 => Q (if (0 : Int32) < (if r5 < z0 then r5 else z0) then (if r5 < z0 then r5 else z0) else (0 : Int32)) I6 J6))) ∧ (¬ x1 = (1 : Int32) → ((x1 = (2 : Int32) → (v_Reck_valueOf N 20 I J (fun r7 I8 J8 => Q (if (0 : Int32) < (if r7 < z0 then r7 else z0) then (if r7 < z0 then r7 else z0) else (0 : Int32)) I8 J8))) ∧ (¬ x1 = (2 : Int32) → (v_Reck_valueOf N 23 I J (fun r9 I10 J10 => Q (if (0 : Int32) < (if r9 < z0 then r9 else z0) then (if r9 < z0 then r9 else z0) else (0 : Int32)) I10 J10))))))))
def v_Reck_lawTells (N : Nat) (x1 : Int32) (I : zI) (J : zJ) (Q : Int32 → zI → zJ → Prop) : Prop := ((¬ x1 = (2 : Int32) → (v_Reck_lawTells_12 N x1 (99 : Int32) I J Q )) ∧ (x1 = (2 : Int32) → (v_Reck_lawTells_12 N x1 (100 : Int32) I J Q )))
def v_Reck_lookAt (N : Nat) (x1 : Nat) (x2 : Int32) (x3 : Int32) (x4 : Int32) (I : zI) (J : zJ) (Q : zI → zJ → Prop) : Prop := (vp_in x3 7 ∧ (∀ y2 : Int32, y2 = (I (x1 + 5) (x3).toNatClampNeg) → (vp_in x2 6 ∧ (∀ y4 : Int32, y4 = (I (x1 + 1) (x2).toNatClampNeg) → (vp_in x3 7 ∧ (vp_in (0 : Int32) 9 ∧ ∀ I7 : zI, I7 = qu I 62 ((0 : Int32)).toNatClampNeg ((if 0 ≤ (y4 - (I 10 (x3).toNatClampNeg)) then (y4 - (I 10 (x3).toNatClampNeg)) else 0 - (y4 - (I 10 (x3).toNatClampNeg))) + y2) → (vp_in (1 : Int32) 9 ∧ ∀ I9 : zI, I9 = qu I7 62 ((1 : Int32)).toNatClampNeg y2 → (vp_in (2 : Int32) 9 ∧ ∀ I11 : zI, I11 = qu I9 62 ((2 : Int32)).toNatClampNeg y4 → (vp_in x2 6 ∧ (vp_in (3 : Int32) 9 ∧ ∀ I14 : zI, I14 = qu I11 62 ((3 : Int32)).toNatClampNeg (I11 12 (x2).toNatClampNeg) → (vp_in (4 : Int32) 9 ∧ ∀ I16 : zI, I16 = qu I14 62 ((4 : Int32)).toNatClampNeg (I14 x1 1) → (vp_in x2 6 ∧ (vp_in (5 : Int32) 9 ∧ ∀ I19 : zI, I19 = qu I16 62 ((5 : Int32)).toNatClampNeg (I16 (x1 + 4) (x2).toNatClampNeg) → (vp_in (6 : Int32) 9 ∧ ∀ I21 : zI, I21 = qu I19 62 ((6 : Int32)).toNatClampNeg x4 → (vp_in (7 : Int32) 9 ∧ ∀ I23 : zI, I23 = qu I21 62 ((7 : Int32)).toNatClampNeg x2 → (vp_in x3 7 ∧ (vp_in (8 : Int32) 9 ∧ ∀ I26 : zI, I26 = qu I23 62 ((8 : Int32)).toNatClampNeg (I23 9 (x3).toNatClampNeg) → Q I26 J)))))))))))))))))
def v_Reck_costAlone (N : Nat) (x1 : Nat) (x2 : Int32) (x3 : Int32) (I : zI) (J : zJ) (Q : Int32 → zI → zJ → Prop) : Prop := (v_Reck_lookAt N x1 x2 x3 (0 : Int32) I J (fun I1 J1 => (v_Reck_lawTells N (3 : Int32) I1 J1 (fun r2 I3 J3 => Q r2 I3 J3))))
def v_Reck_lookAtHung (N : Nat) (x1 : Nat) (x2 : Int32) (I : zI) (J : zJ) (Q : zI → zJ → Prop) : Prop := (v_State_isHung N x1 x2 I J (fun r1 I2 J2 => ((r1 = 0 → Q I2 J2) ∧ (¬ r1 = 0 → (vp_in x2 6 ∧ (v_State_othersBeside N x1 x2 I2 J2 (fun r5 I6 J6 => (v_Reck_lookAt N x1 x2 (I2 (x1 + 2) (x2).toNatClampNeg) r5 I6 J6 (fun I7 J7 => Q I7 J7)))))))))
def v_Reck_costOfAll_4 (N : Nat) : Nat → Nat → Int32 → Int32 → zI → zJ → (Int32 → zI → zJ → Prop) → Prop
  | 0 => fun _ _ _ _ _ _ => False
  | k + 1 => fun x1 x2 x3 I J Q  => (((I 8 3) ≤ x3 → Q x2 I J) ∧ (¬ (I 8 3) ≤ x3 → (v_State_isHung N x1 x3 I J (fun r2 I3 J3 => ((r2 = 0 → (v_Reck_costOfAll_4 N k x1 x2 (x3 + (1 : Int32)) I3 J3 Q)) ∧ (¬ r2 = 0 → (v_Reck_lookAtHung N x1 x3 I3 J3 (fun I5 J5 => (v_Reck_lawTells N (3 : Int32) I5 J5 (fun r6 I7 J7 => (∀ y8 : Int32, y8 = (x2 + r6) → (v_Reck_costOfAll_4 N k x1 y8 (x3 + (1 : Int32)) I7 J7 Q))))))))))))
def v_Reck_costOfAll (N : Nat) (x1 : Nat) (I : zI) (J : zJ) (Q : Int32 → zI → zJ → Prop) : Prop := (v_Reck_costOfAll_4 N N x1 (0 : Int32) (0 : Int32) I J Q )
def v_Night_crook (N : Nat) (x1 : Nat) (x2 : Int32) (I : zI) (J : zJ) (Q : zI → zJ → Prop) : Prop := (v_State_isHung N x1 x2 I J (fun r1 I2 J2 => ((¬ r1 = 0 → (vp_in x2 6 ∧ (∀ y5 : Int32, y5 = (I2 (x1 + 2) (x2).toNatClampNeg) → (v_State_othersBeside N x1 x2 I2 J2 (fun r6 I7 J7 => (v_Reck_lookAt N x1 x2 y5 r6 I7 J7 (fun I8 J8 => (v_Reck_lawTells N (2 : Int32) I8 J8 (fun r9 I10 J10 => (vp_in x2 6 ∧ ∀ I12 : zI, I12 = qu I10 65 (x2).toNatClampNeg r9 → (vp_in x2 6 ∧ (v_Reck_lawTells N (0 : Int32) I12 J10 (fun r14 I15 J15 => (vp_in x2 6 ∧ ∀ I17 : zI, I17 = qu I15 (x1 + 4) (x2).toNatClampNeg (if ((I12 (x1 + 4) (x2).toNatClampNeg) + r14) < (999 : Int32) then ((I12 (x1 + 4) (x2).toNatClampNeg) + r14) else (999 : Int32)) → (vp_in y5 7 ∧ (v_Reck_lawTells N (1 : Int32) I17 J15 (fun r19 I20 J20 => (vp_in y5 7 ∧ ∀ I22 : zI, I22 = qu I20 (x1 + 5) (y5).toNatClampNeg (if ((I17 (x1 + 5) (y5).toNatClampNeg) + r19) < (99 : Int32) then ((I17 (x1 + 5) (y5).toNatClampNeg) + r19) else (99 : Int32)) → Q I22 J20)))))))))))))))))) ∧ (r1 = 0 → (vp_in x2 6 ∧ ∀ I24 : zI, I24 = qu I2 (x1 + 4) (x2).toNatClampNeg (0 : Int32) → (vp_in x2 6 ∧ ∀ I26 : zI, I26 = qu I24 65 (x2).toNatClampNeg (0 : Int32) → Q I26 J2))))))
def v_Night_mixed (N : Nat) (x0 : Int32) (x1 : Int32) (I : zI) (J : zJ) (Q : Int32 → zI → zJ → Prop) : Prop := (∀ y1 : Int32, y1 = (((x0 ^^^ x1) * (1103515245 : Int32)) + (12345 : Int32)) → Q (y1 ^^^ ((y1).toUInt32 >>> (((15 : Int32)).toUInt32 &&& Int32.toUInt32 31)).toInt32) I J)
def v_Night_lot (N : Nat) (x0 : Int32) (x1 : Int32) (x2 : Int32) (I : zI) (J : zJ) (Q : Int32 → zI → zJ → Prop) : Prop := (v_Night_mixed N x1 (159 : Int32) I J (fun r1 I2 J2 => (v_Night_mixed N r1 x2 I2 J2 (fun r3 I4 J4 => ((x0 ≤ 0 → Q (0 : Int32) I4 J4) ∧ (¬ x0 ≤ 0 → (¬ x0 = 0 ∧ Q (((r3).toUInt32 >>> (((1 : Int32)).toUInt32 &&& Int32.toUInt32 31)).toInt32 - ((r3).toUInt32 >>> (((1 : Int32)).toUInt32 &&& Int32.toUInt32 31)).toInt32 / x0 * x0) I4 J4)))))))
def v_Night_hasMoth (N : Nat) (x1 : Int32) (x2 : Int32) (I : zI) (J : zJ) (Q : Int32 → zI → zJ → Prop) : Prop := (v_Night_lot N (100 : Int32) x1 (((16 : Int32) * x2) + (8 : Int32)) I J (fun r1 I2 J2 => (((I2 8 11) ≤ r1 → Q (0 : Int32) I2 J2) ∧ (¬ (I2 8 11) ≤ r1 → Q (1 : Int32) I2 J2))))
def v_Night_letMothEat (N : Nat) (x1 : Nat) (x2 : Int32) (I : zI) (J : zJ) (Q : zI → zJ → Prop) : Prop := (((I 8 3) ≤ 0 → Q I J) ∧ (¬ (I 8 3) ≤ 0 → (v_Night_hasMoth N x2 (I x1 1) I J (fun r2 I3 J3 => ((r2 = 0 → Q I3 J3) ∧ (¬ r2 = 0 → (v_Night_lot N (I3 8 3) x2 (((16 : Int32) * (I3 x1 1)) + (9 : Int32)) I3 J3 (fun r5 I6 J6 => (vp_in r5 6 ∧ (∀ I8 : zI, I8 = qu I6 (x1 + 1) (r5).toNatClampNeg (if (0 : Int32) < ((I6 (x1 + 1) (r5).toNatClampNeg) - (1 : Int32)) then ((I6 (x1 + 1) (r5).toNatClampNeg) - (1 : Int32)) else (0 : Int32)) → Q I8 J6))))))))))
def v_Night_letSlip_2 (N : Nat) : Nat → Nat → Int32 → Int32 → zI → zJ → (zI → zJ → Prop) → Prop
  | 0 => fun _ _ _ _ _ _ => False
  | k + 1 => fun x1 x2 x3 I J Q  => (((I 8 3) ≤ x3 → Q I J) ∧ (¬ (I 8 3) ≤ x3 → (v_Night_lot N (100 : Int32) x2 (((16 : Int32) * (I x1 1)) + x3) I J (fun r2 I3 J3 => (vp_in x3 6 ∧ (((I3 65 (x3).toNatClampNeg) ≤ r2 → (v_Night_letSlip_2 N k x1 x2 (x3 + (1 : Int32)) I3 J3 Q)) ∧ (¬ (I3 65 (x3).toNatClampNeg) ≤ r2 → (vp_in x3 6 ∧ ∀ I7 : zI, I7 = qu I3 (x1 + 2) (x3).toNatClampNeg (-2 : Int32) → (v_Night_letSlip_2 N k x1 x2 (x3 + (1 : Int32)) I7 J3 Q)))))))))
def v_Night_letSlip (N : Nat) (x1 : Nat) (x2 : Int32) (I : zI) (J : zJ) (Q : zI → zJ → Prop) : Prop := (v_Night_letSlip_2 N N x1 x2 (0 : Int32) I J Q )
def v_Night_wakeOnNail_10 (N : Nat) : Nat → Nat → Int32 → Int32 → Int32 → Int32 → zI → zJ → (zI → zJ → Prop) → (Int32 → Int32 → zI → zJ → Prop) → Prop
  | 0 => fun _ _ _ _ _ _ _ _ _ => False
  | k + 1 => fun x1 x2 x3 x4 x5 I J Q K72 => (((I 8 3) ≤ x5 → (K72 x3 x4 I J)) ∧ (¬ (I 8 3) ≤ x5 → (v_State_nailOf N x1 x5 I J (fun r2 I3 J3 => ((¬ r2 = x2 → (v_Night_wakeOnNail_10 N k x1 x2 x3 x4 (x5 + (1 : Int32)) I3 J3 Q K72)) ∧ (r2 = x2 → ((¬ x3 = (-2 : Int32) → (vp_in x5 6 ∧ (vp_in x3 6 ∧ ∀ I8 : zI, I8 = qu I3 (x1 + 3) (x3).toNatClampNeg (I3 (x1 + 3) (x5).toNatClampNeg) → (v_Night_wakeOnNail_10 N k x1 x2 x5 x4 (x5 + (1 : Int32)) I8 J3 Q K72)))) ∧ (x3 = (-2 : Int32) → (vp_in x5 6 ∧ (∀ y10 : Int32, y10 = (I3 (x1 + 3) (x5).toNatClampNeg) → (v_Night_wakeOnNail_10 N k x1 x2 x5 y10 (x5 + (1 : Int32)) I3 J3 Q K72)))))))))))
def v_Night_wakeOnNail (N : Nat) (x1 : Nat) (x2 : Int32) (I : zI) (J : zJ) (Q : zI → zJ → Prop) : Prop := (v_Night_wakeOnNail_10 N N x1 x2 (-2 : Int32) (-2 : Int32) (0 : Int32) I J Q (fun w1 w2 I3 J3 => ((w1 = (-2 : Int32) → Q I3 J3) ∧ (¬ w1 = (-2 : Int32) → (vp_in w1 6 ∧ ∀ I6 : zI, I6 = qu I3 (x1 + 3) (w1).toNatClampNeg w2 → Q I6 J3)))))
def v_Night_wakeAll_2 (N : Nat) : Nat → Nat → Int32 → zI → zJ → (zI → zJ → Prop) → Prop
  | 0 => fun _ _ _ _ _ => False
  | k + 1 => fun x1 x2 I J Q  => (((5 : Int32) ≤ x2 → Q I J) ∧ (¬ (5 : Int32) ≤ x2 → (v_Night_wakeOnNail N x1 x2 I J (fun I2 J2 => (v_Night_wakeAll_2 N k x1 (x2 + (1 : Int32)) I2 J2 Q)))))
def v_Night_wakeAll (N : Nat) (x1 : Nat) (I : zI) (J : zJ) (Q : zI → zJ → Prop) : Prop := (v_Night_wakeAll_2 N N x1 (0 : Int32) I J Q )
def v_Night_goByOnce_2 (N : Nat) : Nat → Nat → Int32 → Int32 → zI → zJ → (zI → zJ → Prop) → (Int32 → zI → zJ → Prop) → Prop
  | 0 => fun _ _ _ _ _ _ _ => False
  | k + 1 => fun x1 x2 x3 I J Q K25 => (((I 8 3) ≤ x3 → (K25 x2 I J)) ∧ (¬ (I 8 3) ≤ x3 → (v_Night_crook N x1 x3 I J (fun I2 J2 => (v_Night_goByOnce_2 N k x1 x2 (x3 + (1 : Int32)) I2 J2 Q K25)))))
def v_Night_goByOnce (N : Nat) (x1 : Nat) (x2 : Int32) (I : zI) (J : zJ) (Q : zI → zJ → Prop) : Prop := (v_Night_goByOnce_2 N N x1 x2 (0 : Int32) I J Q (fun w1 I2 J2 => (v_Night_wakeAll N x1 I2 J2 (fun I3 J3 => (v_Night_letSlip N x1 w1 I3 J3 (fun I4 J4 => (v_Night_letMothEat N x1 w1 I4 J4 (fun I5 J5 => (∀ I6 : zI, I6 = qu I5 x1 1 ((I5 x1 1) + (1 : Int32)) → Q I6 J5)))))))))
def v_Night_goByWithAll_3 (N : Nat) : Nat → Nat → Int32 → Int32 → Int32 → zI → zJ → (zI → zJ → Prop) → Prop
  | 0 => fun _ _ _ _ _ _ _ => False
  | k + 1 => fun x1 x2 x3 x4 I J Q  => ((x2 ≤ x4 → Q I J) ∧ (¬ x2 ≤ x4 → (v_Night_goByOnce N x1 x3 I J (fun I2 J2 => (v_Night_goByWithAll_3 N k x1 x2 x3 (x4 + (1 : Int32)) I2 J2 Q)))))
def v_Night_goByWithAll (N : Nat) (x1 : Nat) (x2 : Int32) (x3 : Int32) (I : zI) (J : zJ) (Q : zI → zJ → Prop) : Prop := (v_Night_goByWithAll_3 N N x1 x2 x3 (0 : Int32) I J Q )
def v_Night_staysHung_3 (N : Nat) : Nat → Nat → Int32 → Int32 → Int32 → Int32 → zI → zJ → (Int32 → zI → zJ → Prop) → Prop
  | 0 => fun _ _ _ _ _ _ _ _ => False
  | k + 1 => fun x1 x2 x3 x4 x5 I J Q  => ((x2 ≤ x5 → (v_State_isHung N x1 x4 I J (fun r2 I3 J3 => (qzb r2 ∧ Q r2 I3 J3)))) ∧ (¬ x2 ≤ x5 → (v_State_isHung N x1 x4 I J (fun r4 I5 J5 => ((r4 = 0 → (v_State_isHung N x1 x4 I5 J5 (fun r7 I8 J8 => (qzb r7 ∧ Q r7 I8 J8)))) ∧ (¬ r4 = 0 → (v_Night_goByOnce N x1 x3 I5 J5 (fun I9 J9 => (v_Night_staysHung_3 N k x1 x2 x3 x4 (x5 + (1 : Int32)) I9 J9 Q)))))))))
def v_Night_staysHung (N : Nat) (x1 : Nat) (x2 : Int32) (x3 : Int32) (x4 : Int32) (I : zI) (J : zJ) (Q : Int32 → zI → zJ → Prop) : Prop := (v_Night_staysHung_3 N N x1 x2 x3 x4 (0 : Int32) I J Q )
def v_Night_goByQuietly_2 (N : Nat) : Nat → Nat → Int32 → zI → zJ → (zI → zJ → Prop) → (zI → zJ → Prop) → Prop
  | 0 => fun _ _ _ _ _ _ => False
  | k + 1 => fun x1 x2 I J Q K25 => (((I 8 3) ≤ x2 → (K25 I J)) ∧ (¬ (I 8 3) ≤ x2 → (v_Night_crook N x1 x2 I J (fun I2 J2 => (v_Night_goByQuietly_2 N k x1 (x2 + (1 : Int32)) I2 J2 Q K25)))))
def v_Night_goByQuietly (N : Nat) (x1 : Nat) (I : zI) (J : zJ) (Q : zI → zJ → Prop) : Prop := (v_Night_goByQuietly_2 N N x1 (0 : Int32) I J Q (fun I1 J1 => (v_Night_wakeAll N x1 I1 J1 (fun I2 J2 => (∀ I3 : zI, I3 = qu I2 x1 1 ((I2 x1 1) + (1 : Int32)) → Q I3 J2)))))
def v_Plan_lookAtCosts_15 (N : Nat) : Nat → Nat → Int32 → Int32 → zI → zJ → (zI → zJ → Prop) → (Int32 → zI → zJ → Prop) → Prop
  | 0 => fun _ _ _ _ _ _ _ => False
  | k + 1 => fun x1 x2 x3 I J Q K50 => (((I 8 0) ≤ x3 → (K50 x2 I J)) ∧ (¬ (I 8 0) ≤ x3 → (vp_in x2 6 ∧ (v_Reck_costAlone N x1 x2 x3 I J (fun r4 I5 J5 => (vp_in x3 7 ∧ ∀ I7 : zI, I7 = qu I5 (68 + (x2).toNatClampNeg) (x3).toNatClampNeg r4 → (v_Plan_lookAtCosts_15 N k x1 x2 (x3 + (1 : Int32)) I7 J5 Q K50)))))))
def v_Plan_lookAtCosts_2 (N : Nat) : Nat → Nat → Int32 → zI → zJ → (zI → zJ → Prop) → Prop
  | 0 => fun _ _ _ _ _ => False
  | k + 1 => fun x1 x2 I J Q  => (((I 8 3) ≤ x2 → Q I J) ∧ (¬ (I 8 3) ≤ x2 → (v_Plan_lookAtCosts_15 N N x1 x2 (0 : Int32) I J Q (fun w2 I3 J3 => (v_Plan_lookAtCosts_2 N k x1 (w2 + (1 : Int32)) I3 J3 Q)))))
def v_Plan_lookAtCosts (N : Nat) (x1 : Nat) (I : zI) (J : zJ) (Q : zI → zJ → Prop) : Prop := (v_Plan_lookAtCosts_2 N N x1 (0 : Int32) I J Q )
def v_Plan_clearLast_15 (N : Nat) : Nat → Int32 → Nat → Int32 → zI → zJ → (zI → zJ → Prop) → Prop
  | 0 => fun _ _ _ _ _ _ => False
  | k + 1 => fun x1 x2 x3 I J Q  => (((nI 128) ≤ x3 → Q I J) ∧ (¬ (nI 128) ≤ x3 → (vp_in x3 128 ∧ ∀ I5 : zI, I5 = qu I x2 (x3).toNatClampNeg x1 → (v_Plan_clearLast_15 N k x1 x2 (x3 + (1 : Int32)) I5 J Q))))
def v_Plan_clearLast (N : Nat) (x1 : Int32) (I : zI) (J : zJ) (Q : zI → zJ → Prop) : Prop := (vp_in (I 8 3) 7 ∧ (v_Plan_clearLast_15 N N x1 (76 + ((I 8 3)).toNatClampNeg) (0 : Int32) I J Q ))
def v_Plan_worthOf (N : Nat) (x1 : Int32) (x2 : Int32) (x3 : Int32) (I : zI) (J : zJ) (Q : Int32 → zI → zJ → Prop) : Prop := (vp_in x1 6 ∧ (vp_in x3 7 ∧ (vp_in (x1 + (1 : Int32)) 7 ∧ (vp_in x3 7 ∧ (vp_in (x2 ||| (I 74 (x3).toNatClampNeg)) 128 ∧ Q (((I (68 + (x1).toNatClampNeg) (x3).toNatClampNeg) - (1000 : Int32)) + (I (76 + ((x1 + (1 : Int32))).toNatClampNeg) ((x2 ||| (I 74 (x3).toNatClampNeg))).toNatClampNeg)) I J)))))
def v_Plan_leastFrom_15 (N : Nat) : Nat → Int32 → Int32 → Int32 → Int32 → Int32 → zI → zJ → (Int32 → zI → zJ → Prop) → Prop
  | 0 => fun _ _ _ _ _ _ _ _ => False
  | k + 1 => fun x1 x2 x3 x4 x5 I J Q  => (((I 8 0) ≤ x5 → Q x4 I J) ∧ (¬ (I 8 0) ≤ x5 → ((x5 = x3 → (v_Plan_leastFrom_15 N k x1 x2 x3 x4 (x5 + (1 : Int32)) I J Q)) ∧ (¬ x5 = x3 → (vp_in x5 7 ∧ ((¬ (x2 &&& (I 74 (x5).toNatClampNeg)) = 0 → (v_Plan_leastFrom_15 N k x1 x2 x3 x4 (x5 + (1 : Int32)) I J Q)) ∧ ((x2 &&& (I 74 (x5).toNatClampNeg)) = 0 → (v_Plan_worthOf N x1 x2 x5 I J (fun r5 I6 J6 => (∀ y7 : Int32, y7 = (if r5 < x4 then r5 else x4) → (v_Plan_leastFrom_15 N k x1 x2 x3 y7 (x5 + (1 : Int32)) I6 J6 Q)))))))))))
def v_Plan_leastFrom (N : Nat) (x1 : Int32) (x2 : Int32) (x3 : Int32) (I : zI) (J : zJ) (Q : Int32 → zI → zJ → Prop) : Prop := (vp_in (x1 + (1 : Int32)) 7 ∧ (vp_in x2 128 ∧ (∀ y4 : Int32, y4 = (I (76 + ((x1 + (1 : Int32))).toNatClampNeg) (x2).toNatClampNeg) → (v_Plan_leastFrom_15 N N x1 x2 x3 y4 (0 : Int32) I J Q ))))
def v_Plan_letTake_2 (N : Nat) : Nat → Int32 → Int32 → zI → zJ → (zI → zJ → Prop) → Prop
  | 0 => fun _ _ _ _ _ => False
  | k + 1 => fun x1 x2 I J Q  => (((I 8 0) ≤ x2 → Q I J) ∧ (¬ (I 8 0) ≤ x2 → ((x1 = 0 → (vp_in x2 7 ∧ ∀ I4 : zI, I4 = qu I 74 (x2).toNatClampNeg ((1 : Int32) <<< (x2 &&& 31)) → (v_Plan_letTake_2 N k x1 (x2 + (1 : Int32)) I4 J Q))) ∧ (¬ x1 = 0 → (vp_in x2 7 ∧ (vp_in x2 7 ∧ ∀ I7 : zI, I7 = qu I 74 (x2).toNatClampNeg ((1 : Int32) <<< ((I 9 (x2).toNatClampNeg) &&& 31)) → (v_Plan_letTake_2 N k x1 (x2 + (1 : Int32)) I7 J Q)))))))
def v_Plan_letTake (N : Nat) (x1 : Int32) (I : zI) (J : zJ) (Q : zI → zJ → Prop) : Prop := (v_Plan_letTake_2 N N x1 (0 : Int32) I J Q )
def v_Plan_findBest_27 (N : Nat) : Nat → Int32 → Int32 → Int32 → zI → zJ → (Int32 → zI → zJ → Prop) → (Int32 → Int32 → zI → zJ → Prop) → Prop
  | 0 => fun _ _ _ _ _ _ _ => False
  | k + 1 => fun x2 x3 x4 I J Q K71 => (vp_in x3 7 ∧ (((nI 128) ≤ x4 → (K71 x2 x3 I J)) ∧ (¬ (nI 128) ≤ x4 → (v_Integer_bitCount N x4 I J (fun r6 I7 J7 => ((x3 < r6 → (v_Plan_findBest_27 N k x2 x3 (x4 + (1 : Int32)) I7 J7 Q K71)) ∧ (¬ x3 < r6 → (vp_in x3 7 ∧ (v_Plan_leastFrom N x3 x4 x2 I7 J7 (fun r11 I12 J12 => (vp_in x4 128 ∧ ∀ I14 : zI, I14 = qu I12 (76 + (x3).toNatClampNeg) (x4).toNatClampNeg r11 → (v_Plan_findBest_27 N k x2 x3 (x4 + (1 : Int32)) I14 J12 Q K71))))))))))))
def v_Plan_findBest_20 (N : Nat) : Nat → Int32 → Int32 → zI → zJ → (Int32 → zI → zJ → Prop) → Prop
  | 0 => fun _ _ _ _ _ => False
  | k + 1 => fun x2 x3 I J Q  => ((x3 < 0 → (vp_in (0 : Int32) 7 ∧ (vp_in (0 : Int32) 128 ∧ Q (I (76 + ((0 : Int32)).toNatClampNeg) ((0 : Int32)).toNatClampNeg) I J))) ∧ (¬ x3 < 0 → (v_Plan_findBest_27 N N x2 x3 (0 : Int32) I J Q (fun w5 w6 I7 J7 => (v_Plan_findBest_20 N k w5 (w6 + (-1 : Int32)) I7 J7 Q)))))
def v_Plan_findBest (N : Nat) (x1 : Int32) (x2 : Int32) (I : zI) (J : zJ) (Q : Int32 → zI → zJ → Prop) : Prop := (v_Plan_letTake N x1 I J (fun I1 J1 => (v_Plan_clearLast N (0 : Int32) I1 J1 (fun I2 J2 => (∀ y3 : Int32, y3 = ((I2 8 3) - (1 : Int32)) → (v_Plan_findBest_20 N N x2 y3 I2 J2 Q ))))))
def v_Plan_costOf (N : Nat) (x1 : Int32) (I : zI) (J : zJ) (Q : Int32 → zI → zJ → Prop) : Prop := (v_Math_floorMod N x1 (1000 : Int32) I J (fun r1 I2 J2 => Q r1 I2 J2))
def v_Plan_firstBest_38 (N : Nat) (x1 : Int32) (x2 : Int32) (x3 : Int32) (x4 : Int32) (z0 : Int32) (I : zI) (J : zJ) (Q : Int32 → zI → zJ → Prop) (K3 : Int32 → Int32 → Int32 → Int32 → zI → zJ → Prop) : Prop := ((z0 = 0 → (K3 x1 x2 x3 (x4 + (1 : Int32)) I J)) ∧ (¬ z0 = 0 → (v_Plan_worthOf N x1 x2 x4 I J (fun r2 I3 J3 => (vp_in x1 7 ∧ (vp_in x2 128 ∧ ((¬ r2 = (I3 (76 + (x1).toNatClampNeg) (x2).toNatClampNeg) → (K3 x1 x2 x3 (x4 + (1 : Int32)) I3 J3)) ∧ (r2 = (I3 (76 + (x1).toNatClampNeg) (x2).toNatClampNeg) → Q x4 I3 J3))))))))
def v_Plan_firstBest_37 (N : Nat) (x1 : Int32) (x2 : Int32) (x3 : Int32) (x4 : Int32) (I : zI) (J : zJ) (Q : Int32 → zI → zJ → Prop) (K3 : Int32 → Int32 → Int32 → Int32 → zI → zJ → Prop) : Prop := (v_Plan_firstBest_38 N x1 x2 x3 x4 (0 : Int32) I J Q K3)
def v_Plan_firstBest_3 (N : Nat) : Nat → Int32 → Int32 → Int32 → Int32 → zI → zJ → (Int32 → zI → zJ → Prop) → Prop
  | 0 => fun _ _ _ _ _ _ _ => False
  | k + 1 => fun x1 x2 x3 x4 I J Q  => (((I 8 0) ≤ x4 → Q (-2 : Int32) I J) ∧ (¬ (I 8 0) ≤ x4 → ((x4 = x3 → (v_Plan_firstBest_37 N x1 x2 x3 x4 I J Q (fun x1 x2 x3 x4 I J => v_Plan_firstBest_3 N k x1 x2 x3 x4 I J Q))) ∧ (¬ x4 = x3 → (vp_in x4 7 ∧ ((¬ (x2 &&& (I 74 (x4).toNatClampNeg)) = 0 → (v_Plan_firstBest_37 N x1 x2 x3 x4 I J Q (fun x1 x2 x3 x4 I J => v_Plan_firstBest_3 N k x1 x2 x3 x4 I J Q))) ∧ ((x2 &&& (I 74 (x4).toNatClampNeg)) = 0 → (v_Plan_firstBest_38 N x1 x2 x3 x4 (1 : Int32) I J Q (fun x1 x2 x3 x4 I J => v_Plan_firstBest_3 N k x1 x2 x3 x4 I J Q)))))))))
def v_Plan_firstBest (N : Nat) (x1 : Int32) (x2 : Int32) (x3 : Int32) (I : zI) (J : zJ) (Q : Int32 → zI → zJ → Prop) : Prop := (v_Plan_firstBest_3 N N x1 x2 x3 (0 : Int32) I J Q )
def v_Plan_hangerFor_9 (N : Nat) : Nat → Int32 → Int32 → Int32 → Int32 → Int32 → zI → zJ → (Int32 → zI → zJ → Prop) → Prop
  | 0 => fun _ _ _ _ _ _ _ _ => False
  | k + 1 => fun x1 x2 x3 x4 x5 I J Q  => ((x1 < x5 → Q x4 I J) ∧ (¬ x1 < x5 → (((I 8 3) ≤ x5 → Q x4 I J) ∧ (¬ (I 8 3) ≤ x5 → (v_Plan_firstBest N x5 x3 x2 I J (fun r3 I4 J4 => ((r3 < 0 → (∀ y6 : Int32, y6 = (x3 ||| (0 : Int32)) → (v_Plan_hangerFor_9 N k x1 x2 y6 r3 (x5 + (1 : Int32)) I4 J4 Q))) ∧ (¬ r3 < 0 → (vp_in r3 7 ∧ (∀ y8 : Int32, y8 = (x3 ||| (I4 74 (r3).toNatClampNeg)) → (v_Plan_hangerFor_9 N k x1 x2 y8 r3 (x5 + (1 : Int32)) I4 J4 Q)))))))))))
def v_Plan_hangerFor (N : Nat) (x1 : Int32) (x2 : Int32) (I : zI) (J : zJ) (Q : Int32 → zI → zJ → Prop) : Prop := (v_Plan_hangerFor_9 N N x1 x2 (0 : Int32) (-2 : Int32) (0 : Int32) I J Q )
def v_Plan_waysFrom_6 (N : Nat) : Nat → Int32 → Int32 → Int32 → Int32 → Int32 → zI → zJ → (Int32 → zI → zJ → Prop) → Prop
  | 0 => fun _ _ _ _ _ _ _ _ => False
  | k + 1 => fun x1 x2 x3 x4 x5 I J Q  => (((I 8 0) ≤ x5 → Q x4 I J) ∧ (¬ (I 8 0) ≤ x5 → (vp_in x1 6 ∧ (vp_in x5 7 ∧ ((x3 < (I (68 + (x1).toNatClampNeg) (x5).toNatClampNeg) → (v_Plan_waysFrom_6 N k x1 x2 x3 x4 (x5 + (1 : Int32)) I J Q)) ∧ (¬ x3 < (I (68 + (x1).toNatClampNeg) (x5).toNatClampNeg) → (vp_in x5 7 ∧ ((¬ (x2 &&& (I 74 (x5).toNatClampNeg)) = 0 → (v_Plan_waysFrom_6 N k x1 x2 x3 x4 (x5 + (1 : Int32)) I J Q)) ∧ ((x2 &&& (I 74 (x5).toNatClampNeg)) = 0 → (vp_in (x1 + (1 : Int32)) 7 ∧ (vp_in (x2 ||| (I 74 (x5).toNatClampNeg)) 128 ∧ (∀ y11 : Int32, y11 = (x4 + (I (76 + ((x1 + (1 : Int32))).toNatClampNeg) ((x2 ||| (I 74 (x5).toNatClampNeg))).toNatClampNeg)) → (v_Plan_waysFrom_6 N k x1 x2 x3 y11 (x5 + (1 : Int32)) I J Q)))))))))))))
def v_Plan_waysFrom (N : Nat) (x1 : Int32) (x2 : Int32) (x3 : Int32) (I : zI) (J : zJ) (Q : Int32 → zI → zJ → Prop) : Prop := (v_Plan_waysFrom_6 N N x1 x2 x3 (0 : Int32) (0 : Int32) I J Q )
def v_Plan_waysWithin_26 (N : Nat) : Nat → Int32 → Int32 → Int32 → zI → zJ → (Int32 → zI → zJ → Prop) → (Int32 → Int32 → zI → zJ → Prop) → Prop
  | 0 => fun _ _ _ _ _ _ _ => False
  | k + 1 => fun x1 x2 x3 I J Q K53 => (((32 : Int32) ≤ x3 → (K53 x1 x2 I J)) ∧ (¬ (32 : Int32) ≤ x3 → (vp_in x2 7 ∧ (v_Plan_waysFrom N x2 x3 x1 I J (fun r4 I5 J5 => (vp_in x3 128 ∧ ∀ I7 : zI, I7 = qu I5 (76 + (x2).toNatClampNeg) (x3).toNatClampNeg r4 → (v_Plan_waysWithin_26 N k x1 x2 (x3 + (1 : Int32)) I7 J5 Q K53)))))))
def v_Plan_waysWithin_20 (N : Nat) : Nat → Int32 → Int32 → zI → zJ → (Int32 → zI → zJ → Prop) → Prop
  | 0 => fun _ _ _ _ _ => False
  | k + 1 => fun x1 x2 I J Q  => ((x2 < 0 → (vp_in (0 : Int32) 7 ∧ (vp_in (0 : Int32) 128 ∧ Q (I (76 + ((0 : Int32)).toNatClampNeg) ((0 : Int32)).toNatClampNeg) I J))) ∧ (¬ x2 < 0 → (v_Plan_waysWithin_26 N N x1 x2 (0 : Int32) I J Q (fun w5 w6 I7 J7 => (v_Plan_waysWithin_20 N k w5 (w6 + (-1 : Int32)) I7 J7 Q)))))
def v_Plan_waysWithin (N : Nat) (x1 : Int32) (I : zI) (J : zJ) (Q : Int32 → zI → zJ → Prop) : Prop := (v_Plan_letTake N (1 : Int32) I J (fun I1 J1 => (v_Plan_clearLast N (1 : Int32) I1 J1 (fun I2 J2 => (∀ y3 : Int32, y3 = ((I2 8 3) - (1 : Int32)) → (v_Plan_waysWithin_20 N N x1 y3 I2 J2 Q ))))))
def v_Past_drop (N : Nat)  (I : zI) (J : zJ) (Q : zI → zJ → Prop) : Prop := (∀ I1 : zI, I1 = qu I 100 2 (0 : Int32) → Q I1 J)
def v_Past_keep (N : Nat) (x1 : Nat) (I : zI) (J : zJ) (Q : zI → zJ → Prop) : Prop := (vp_in (I 100 1) 40 ∧ (v_State_become N (102 + 6 * ((I 100 1)).toNatClampNeg) x1 I J (fun I3 J3 => (¬ (40 : Int32) = 0 ∧ (∀ I5 : zI, I5 = qu I3 100 1 (((I3 100 1) + (1 : Int32)) - ((I3 100 1) + (1 : Int32)) / (40 : Int32) * (40 : Int32)) → (∀ I6 : zI, I6 = qu I5 100 2 (if ((I5 100 2) + (1 : Int32)) < (40 : Int32) then ((I5 100 2) + (1 : Int32)) else (40 : Int32)) → Q I6 J3))))))
def v_Past_giveBack (N : Nat) (x1 : Nat) (I : zI) (J : zJ) (Q : Int32 → zI → zJ → Prop) : Prop := ((¬ (I 100 2) = 0 → (¬ (40 : Int32) = 0 ∧ (∀ I3 : zI, I3 = qu I 100 1 ((((I 100 1) + (40 : Int32)) - (1 : Int32)) - (((I 100 1) + (40 : Int32)) - (1 : Int32)) / (40 : Int32) * (40 : Int32)) → (∀ I4 : zI, I4 = qu I3 100 2 ((I3 100 2) - (1 : Int32)) → (vp_in (I4 100 1) 40 ∧ (v_State_become N x1 (102 + 6 * ((I4 100 1)).toNatClampNeg) I4 J (fun I7 J7 => Q (1 : Int32) I7 J7))))))) ∧ ((I 100 2) = 0 → Q (0 : Int32) I J))
def v_Told_hasRoom (N : Nat)  (I : zI) (J : zJ) (Q : Int32 → zI → zJ → Prop) : Prop := (((20 : Int32) ≤ (I 83 7) → Q (0 : Int32) I J) ∧ (¬ (20 : Int32) ≤ (I 83 7) → Q (1 : Int32) I J))
def v_Told_add (N : Nat) (x1 : Int32) (x2 : Int32) (x3 : Int32) (I : zI) (J : zJ) (Q : Int32 → zI → zJ → Prop) : Prop := (v_Told_hasRoom N  I J (fun r1 I2 J2 => ((¬ r1 = 0 → (vp_in (I2 83 7) 20 ∧ ∀ I5 : zI, I5 = qu I2 84 ((I2 83 7)).toNatClampNeg x1 → (vp_in (I5 83 7) 20 ∧ ∀ I7 : zI, I7 = qu I5 85 ((I5 83 7)).toNatClampNeg x2 → (vp_in (I7 83 7) 20 ∧ ∀ I9 : zI, I9 = qu I7 86 ((I7 83 7)).toNatClampNeg (vp_nar .boolean x3) → (∀ I10 : zI, I10 = qu I9 83 7 ((I9 83 7) + (1 : Int32)) → Q ((I10 83 7) - (1 : Int32)) I10 J2))))) ∧ (r1 = 0 → Q (-1 : Int32) I2 J2))))
def v_Told_canBe_49 (N : Nat) : Nat → Int32 → Int32 → zI → zJ → (Int32 → zI → zJ → Prop) → Prop
  | 0 => fun _ _ _ _ _ => False
  | k + 1 => fun x4 x5 I J Q  => ((x4 ≤ x5 → Q (1 : Int32) I J) ∧ (¬ x4 ≤ x5 → (((I 83 7) ≤ x5 → Q (1 : Int32) I J) ∧ (¬ (I 83 7) ≤ x5 → (vp_in x5 20 ∧ (vp_in (I 84 (x5).toNatClampNeg) 6 ∧ (vp_in x5 20 ∧ ((¬ (I 97 ((I 84 (x5).toNatClampNeg)).toNatClampNeg) = (I 85 (x5).toNatClampNeg) → (vp_in x5 20 ∧ (((0 : Int32) = (I 86 (x5).toNatClampNeg) → (v_Told_canBe_49 N k x4 (x5 + (1 : Int32)) I J Q)) ∧ (¬ (0 : Int32) = (I 86 (x5).toNatClampNeg) → Q (0 : Int32) I J)))) ∧ ((I 97 ((I 84 (x5).toNatClampNeg)).toNatClampNeg) = (I 85 (x5).toNatClampNeg) → (vp_in x5 20 ∧ (((1 : Int32) = (I 86 (x5).toNatClampNeg) → (v_Told_canBe_49 N k x4 (x5 + (1 : Int32)) I J Q)) ∧ (¬ (1 : Int32) = (I 86 (x5).toNatClampNeg) → Q (0 : Int32) I J))))))))))))
def v_Told_canBe (N : Nat) (x1 : Nat) (x2 : Int32) (x3 : Int32) (x4 : Int32) (I : zI) (J : zJ) (Q : Int32 → zI → zJ → Prop) : Prop := (v_State_isHung N x1 x2 I J (fun r1 I2 J2 => ((r1 = 0 → Q (0 : Int32) I2 J2) ∧ (¬ r1 = 0 → (v_State_isHung N x1 x3 I2 J2 (fun r4 I5 J5 => ((¬ r4 = 0 → (v_State_become N 94 x1 I5 J5 (fun I7 J7 => (v_State_exchange N 94 x2 x3 I7 J7 (fun I8 J8 => (v_Night_wakeAll N 94 I8 J8 (fun I9 J9 => (v_Told_canBe_49 N N x4 (0 : Int32) I9 J9 Q )))))))) ∧ (r4 = 0 → Q (0 : Int32) I5 J5))))))))
def v_Told_pairsLeft_23 (N : Nat) : Nat → Nat → Int32 → Int32 → Int32 → Int32 → zI → zJ → (Int32 → zI → zJ → Prop) → (Int32 → Int32 → Int32 → zI → zJ → Prop) → Prop
  | 0 => fun _ _ _ _ _ _ _ _ _ => False
  | k + 1 => fun x1 x2 x3 x4 x5 I J Q K62 => (((I 8 3) ≤ x5 → (K62 x2 x3 x4 I J)) ∧ (¬ (I 8 3) ≤ x5 → (v_Told_canBe N x1 x4 x5 x2 I J (fun r2 I3 J3 => ((r2 = 0 → (∀ y5 : Int32, y5 = (x3 + (0 : Int32)) → (v_Told_pairsLeft_23 N k x1 x2 y5 x4 (x5 + (1 : Int32)) I3 J3 Q K62))) ∧ (¬ r2 = 0 → (∀ y6 : Int32, y6 = (x3 + (1 : Int32)) → (v_Told_pairsLeft_23 N k x1 x2 y6 x4 (x5 + (1 : Int32)) I3 J3 Q K62))))))))
def v_Told_pairsLeft_5 (N : Nat) : Nat → Nat → Int32 → Int32 → Int32 → zI → zJ → (Int32 → zI → zJ → Prop) → Prop
  | 0 => fun _ _ _ _ _ _ _ => False
  | k + 1 => fun x1 x2 x3 x4 I J Q  => (((I 8 3) ≤ x4 → Q x3 I J) ∧ (¬ (I 8 3) ≤ x4 → (∀ y2 : Int32, y2 = (x4 + (1 : Int32)) → (v_Told_pairsLeft_23 N N x1 x2 x3 x4 y2 I J Q (fun w3 w4 w5 I6 J6 => (v_Told_pairsLeft_5 N k x1 w3 w4 (w5 + (1 : Int32)) I6 J6 Q))))))
def v_Told_pairsLeft (N : Nat) (x1 : Nat) (x2 : Int32) (I : zI) (J : zJ) (Q : Int32 → zI → zJ → Prop) : Prop := (v_Told_pairsLeft_5 N N x1 x2 (0 : Int32) (0 : Int32) I J Q )
def v_Told_pairLeft_24 (N : Nat) : Nat → Nat → Int32 → Int32 → Int32 → Int32 → Int32 → zI → zJ → (Int32 → zI → zJ → Prop) → (Int32 → Int32 → Int32 → Int32 → zI → zJ → Prop) → Prop
  | 0 => fun _ _ _ _ _ _ _ _ _ _ => False
  | k + 1 => fun x1 x2 x3 x4 x5 x6 I J Q K73 => (((I 8 3) ≤ x6 → (K73 x2 x3 x4 x5 I J)) ∧ (¬ (I 8 3) ≤ x6 → (v_Told_canBe N x1 x5 x6 x2 I J (fun r2 I3 J3 => ((r2 = 0 → (v_Told_pairLeft_24 N k x1 x2 x3 x4 x5 (x6 + (1 : Int32)) I3 J3 Q K73)) ∧ (¬ r2 = 0 → ((¬ x4 = x3 → (v_Told_pairLeft_24 N k x1 x2 x3 (x4 + (1 : Int32)) x5 (x6 + (1 : Int32)) I3 J3 Q K73)) ∧ (x4 = x3 → Q (((10 : Int32) * x5) + x6) I3 J3))))))))
def v_Told_pairLeft_6 (N : Nat) : Nat → Nat → Int32 → Int32 → Int32 → Int32 → zI → zJ → (Int32 → zI → zJ → Prop) → Prop
  | 0 => fun _ _ _ _ _ _ _ _ => False
  | k + 1 => fun x1 x2 x3 x4 x5 I J Q  => (((I 8 3) ≤ x5 → Q (-1 : Int32) I J) ∧ (¬ (I 8 3) ≤ x5 → (∀ y2 : Int32, y2 = (x5 + (1 : Int32)) → (v_Told_pairLeft_24 N N x1 x2 x3 x4 x5 y2 I J Q (fun w3 w4 w5 w6 I7 J7 => (v_Told_pairLeft_6 N k x1 w3 w4 w5 (w6 + (1 : Int32)) I7 J7 Q))))))
def v_Told_pairLeft (N : Nat) (x1 : Nat) (x2 : Int32) (x3 : Int32) (I : zI) (J : zJ) (Q : Int32 → zI → zJ → Prop) : Prop := (v_Told_pairLeft_6 N N x1 x2 x3 (0 : Int32) (0 : Int32) I J Q )
def v_Told_addToTally_2 (N : Nat) : Nat → Int32 → zI → zJ → (zI → zJ → Prop) → Prop
  | 0 => fun _ _ _ _ => False
  | k + 1 => fun x1 I J Q  => (((I 8 3) ≤ x1 → Q I J) ∧ (¬ (I 8 3) ≤ x1 → (vp_in x1 6 ∧ (vp_in x1 6 ∧ (vp_in (I 97 (x1).toNatClampNeg) 6 ∧ (∀ I6 : zI, I6 = qu I (88 + (x1).toNatClampNeg) ((I 97 (x1).toNatClampNeg)).toNatClampNeg ((I (88 + (x1).toNatClampNeg) ((I 97 (x1).toNatClampNeg)).toNatClampNeg) + (1 : Int32)) → (v_Told_addToTally_2 N k (x1 + (1 : Int32)) I6 J Q)))))))
def v_Told_addToTally (N : Nat)  (I : zI) (J : zJ) (Q : zI → zJ → Prop) : Prop := (v_Told_addToTally_2 N N (0 : Int32) I J Q )
def v_Told_clearTally_10 (N : Nat) : Nat → Int32 → Int32 → zI → zJ → (zI → zJ → Prop) → (Int32 → zI → zJ → Prop) → Prop
  | 0 => fun _ _ _ _ _ _ => False
  | k + 1 => fun x1 x2 I J Q K31 => (((6 : Int32) ≤ x2 → (K31 x1 I J)) ∧ (¬ (6 : Int32) ≤ x2 → (vp_in x1 6 ∧ (vp_in x2 6 ∧ ∀ I5 : zI, I5 = qu I (88 + (x1).toNatClampNeg) (x2).toNatClampNeg (0 : Int32) → (v_Told_clearTally_10 N k x1 (x2 + (1 : Int32)) I5 J Q K31)))))
def v_Told_clearTally_2 (N : Nat) : Nat → Int32 → zI → zJ → (zI → zJ → Prop) → Prop
  | 0 => fun _ _ _ _ => False
  | k + 1 => fun x1 I J Q  => (((6 : Int32) ≤ x1 → Q I J) ∧ (¬ (6 : Int32) ≤ x1 → (v_Told_clearTally_10 N N x1 (0 : Int32) I J Q (fun w2 I3 J3 => (v_Told_clearTally_2 N k (w2 + (1 : Int32)) I3 J3 Q)))))
def v_Told_clearTally (N : Nat)  (I : zI) (J : zJ) (Q : zI → zJ → Prop) : Prop := (v_Told_clearTally_2 N N (0 : Int32) I J Q )
def v_Told_leastAtWorst_24 (N : Nat) : Nat → Int32 → Int32 → Int32 → Int32 → Int32 → zI → zJ → (Int32 → zI → zJ → Prop) → (Int32 → Int32 → Int32 → Int32 → zI → zJ → Prop) → Prop
  | 0 => fun _ _ _ _ _ _ _ _ _ => False
  | k + 1 => fun x1 x2 x3 x4 x5 I J Q K58 => (((I 8 3) ≤ x5 → (K58 x1 x2 x3 x4 I J)) ∧ (¬ (I 8 3) ≤ x5 → (vp_in x3 6 ∧ (vp_in x5 6 ∧ (∀ y5 : Int32, y5 = (if x4 < (I (88 + (x3).toNatClampNeg) (x5).toNatClampNeg) then (I (88 + (x3).toNatClampNeg) (x5).toNatClampNeg) else x4) → (v_Told_leastAtWorst_24 N k x1 x2 x3 y5 (x5 + (1 : Int32)) I J Q K58))))))
def v_Told_leastAtWorst_7 (N : Nat) : Nat → Int32 → Int32 → Int32 → zI → zJ → (Int32 → zI → zJ → Prop) → Prop
  | 0 => fun _ _ _ _ _ _ => False
  | k + 1 => fun x1 x2 x3 I J Q  => (((I 8 3) ≤ x3 → Q x1 I J) ∧ (¬ (I 8 3) ≤ x3 → (v_Told_leastAtWorst_24 N N x1 x2 x3 (0 : Int32) (0 : Int32) I J Q (fun w2 w3 w4 w5 I6 J6 => ((w2 = (-2 : Int32) → (v_Told_leastAtWorst_7 N k w4 w5 (w4 + (1 : Int32)) I6 J6 Q)) ∧ (¬ w2 = (-2 : Int32) → ((w3 ≤ w5 → (v_Told_leastAtWorst_7 N k w2 w3 (w4 + (1 : Int32)) I6 J6 Q)) ∧ (¬ w3 ≤ w5 → (v_Told_leastAtWorst_7 N k w4 w5 (w4 + (1 : Int32)) I6 J6 Q)))))))))
def v_Told_leastAtWorst (N : Nat)  (I : zI) (J : zJ) (Q : Int32 → zI → zJ → Prop) : Prop := (v_Told_leastAtWorst_7 N N (-2 : Int32) (0 : Int32) (0 : Int32) I J Q )
def v_Told_whomToAsk_27 (N : Nat) : Nat → Nat → Int32 → Int32 → Int32 → Int32 → zI → zJ → (Int32 → zI → zJ → Prop) → (Int32 → Int32 → Int32 → zI → zJ → Prop) → Prop
  | 0 => fun _ _ _ _ _ _ _ _ _ => False
  | k + 1 => fun x1 x2 x3 x4 x5 I J Q K64 => (((I 8 3) ≤ x5 → (K64 x2 x3 x4 I J)) ∧ (¬ (I 8 3) ≤ x5 → (v_Told_canBe N x1 x4 x5 x2 I J (fun r2 I3 J3 => ((r2 = 0 → (v_Told_whomToAsk_27 N k x1 x2 x3 x4 (x5 + (1 : Int32)) I3 J3 Q K64)) ∧ (¬ r2 = 0 → (v_Told_addToTally N  I3 J3 (fun I5 J5 => (v_Told_whomToAsk_27 N k x1 x2 (1 : Int32) x4 (x5 + (1 : Int32)) I5 J5 Q K64)))))))))
def v_Told_whomToAsk_9 (N : Nat) : Nat → Nat → Int32 → Int32 → Int32 → zI → zJ → (Int32 → zI → zJ → Prop) → Prop
  | 0 => fun _ _ _ _ _ _ _ => False
  | k + 1 => fun x1 x2 x3 x4 I J Q  => (((I 8 3) ≤ x4 → ((x3 = 0 → Q (-2 : Int32) I J) ∧ (¬ x3 = 0 → (v_Told_leastAtWorst N  I J (fun r3 I4 J4 => Q r3 I4 J4))))) ∧ (¬ (I 8 3) ≤ x4 → (∀ y5 : Int32, y5 = (x4 + (1 : Int32)) → (v_Told_whomToAsk_27 N N x1 x2 x3 x4 y5 I J Q (fun w6 w7 w8 I9 J9 => (v_Told_whomToAsk_9 N k x1 w6 w7 (w8 + (1 : Int32)) I9 J9 Q))))))
def v_Told_whomToAsk (N : Nat) (x1 : Nat) (x2 : Int32) (I : zI) (J : zJ) (Q : Int32 → zI → zJ → Prop) : Prop := (v_Told_clearTally N  I J (fun I1 J1 => (v_Told_whomToAsk_9 N N x1 x2 (0 : Int32) (0 : Int32) I1 J1 Q )))
theorem u_Reck_joined (N : Nat) (x0 : Int32) (x1 : Int32) (x2 : Int32) (I : zI) (J : zJ) (Q : Int32 → zI → zJ → Prop) (Q' : Int32 → qH → Prop) (hQ : ∀ (r : Int32) (I : zI) (J : zJ), Q r I J → Q' r (zH I J)) (hv : v_Reck_joined N x0 x1 x2 I J Q) : w_Reck_joined N x0 x1 x2 (zH I J) Q' := by
  unfold w_Reck_joined
  unfold v_Reck_joined at hv
  refine ⟨fun q1 => ?_, fun q1 => ?_⟩
  · have hv := hv.1 q1
    exact hQ _ _ _ hv
  · have hv := hv.2 q1
    refine ⟨fun q2 => ?_, fun q2 => ?_⟩
    · have hv := hv.1 q2
      exact hQ _ _ _ hv
    · have hv := hv.2 q2
      refine ⟨fun q3 => ?_, fun q3 => ?_⟩
      · have hv := hv.1 q3
        refine ⟨fun q4 => ?_, fun q4 => ?_⟩
        · have hv := hv.1 q4
          obtain ⟨g5, hv⟩ := hv
          refine ⟨g5, ?_⟩
          exact hQ _ _ _ hv
        · have hv := hv.2 q4
          exact hQ _ _ _ hv
      · have hv := hv.2 q3
        refine ⟨fun q6 => ?_, fun q6 => ?_⟩
        · have hv := hv.1 q6
          exact hQ _ _ _ hv
        · have hv := hv.2 q6
          refine ⟨fun q7 => ?_, fun q7 => ?_⟩
          · have hv := hv.1 q7
            obtain ⟨g8, hv⟩ := hv
            refine ⟨g8, ?_⟩
            exact hQ _ _ _ hv
          · have hv := hv.2 q7
            exact hQ _ _ _ hv
theorem u_Reck_varOf (N : Nat) (x1 : Int32) (I : zI) (J : zJ) (Q : Int32 → zI → zJ → Prop) (Q' : Int32 → qH → Prop) (hQ : ∀ (r : Int32) (I : zI) (J : zJ), Q r I J → Q' r (zH I J)) (hv : v_Reck_varOf N x1 I J Q) : w_Reck_varOf N 61 x1 (zH I J) Q' := by
  unfold w_Reck_varOf
  unfold v_Reck_varOf at hv
  refine ⟨fun q1 => ?_, fun q1 => ?_⟩
  · have hv := hv.1 q1
    exact hQ _ _ _ hv
  · have hv := hv.2 q1
    refine ⟨fun q2 => ?_, fun q2 => ?_⟩
    · have hv := hv.1 q2
      exact hQ _ _ _ hv
    · have hv := hv.2 q2
      refine ⟨rfl, ?_⟩
      obtain ⟨g3, hv⟩ := hv
      refine ⟨qok_mk rfl g3, ?_⟩
      exact hQ _ _ _ hv
theorem u_Reck_valueOf_43_c14 (N : Nat) (x2 : Int32) (x3 : Int32) (x4 : Int32) (x5 : Int32) (I : zI) (J : zJ) (Q : Int32 → zI → zJ → Prop) (Q' : Int32 → qH → Prop) (hQ : ∀ (r : Int32) (I : zI) (J : zJ), Q r I J → Q' r (zH I J)) (K4 : Int32 → Int32 → zI → zJ → Prop) (K4' : Nat → Nat → Int32 → Int32 → qH → Prop) (hK4 : ∀ (x2 : Int32) (x3 : Int32) (I : zI) (J : zJ), K4 x2 x3 I J → K4' 61 14 x2 x3 (zH I J)) (hv : v_Reck_valueOf_43 N 14 x2 x3 x4 x5 I J Q K4) : w_Reck_valueOf_43 N 61 14 x2 x3 x4 x5 (zH I J) Q' K4' := by
  unfold w_Reck_valueOf_43
  unfold v_Reck_valueOf_43 at hv
  refine ⟨fun q1 => ?_, fun q1 => ?_⟩
  · have hv := hv.1 q1
    refine ⟨rfl, ?_⟩
    refine ⟨fun q2 => ?_, fun q2 => ?_⟩
    · have hv := hv.1 q2
      refine u_Reck_varOf N x5 I J _ _ (fun r3 I4 J4 hv => ?_) hv
      obtain ⟨g5, hv⟩ := hv
      refine ⟨qok_mk rfl g5, ?_⟩
      obtain ⟨I6, eI6⟩ : ∃ z, z = qu I4 63 (x2).toNatClampNeg r3 := ⟨_, rfl⟩
      have hv := hv I6 eI6
      intro h6 eh6
      have eh6 : h6 = zH I6 J4 := by rw [eh6, eI6]; rfl
      subst eh6
      exact hK4 (x2 + (1 : Int32)) x3 I6 J4 hv
    · have hv := hv.2 q2
      obtain ⟨g7, hv⟩ := hv
      refine ⟨qok_mk rfl g7, ?_⟩
      obtain ⟨I8, eI8⟩ : ∃ z, z = qu I 63 (x2).toNatClampNeg x5 := ⟨_, rfl⟩
      have hv := hv I8 eI8
      intro h8 eh8
      have eh8 : h8 = zH I8 J := by rw [eh8, eI8]; rfl
      subst eh8
      exact hK4 (x2 + (1 : Int32)) x3 I8 J hv
  · have hv := hv.2 q1
    exact hQ _ _ _ hv
theorem u_Reck_valueOf_128_c14 (N : Nat) (x2 : Int32) (x3 : Int32) (x4 : Int32) (x5 : Int32) (I : zI) (J : zJ) (Q : Int32 → zI → zJ → Prop) (Q' : Int32 → qH → Prop) (hQ : ∀ (r : Int32) (I : zI) (J : zJ), Q r I J → Q' r (zH I J)) (K4 : Int32 → Int32 → zI → zJ → Prop) (K4' : Nat → Nat → Int32 → Int32 → qH → Prop) (hK4 : ∀ (x2 : Int32) (x3 : Int32) (I : zI) (J : zJ), K4 x2 x3 I J → K4' 61 14 x2 x3 (zH I J)) (hv : v_Reck_valueOf_128 N 14 x2 x3 x4 x5 I J Q K4) : w_Reck_valueOf_128 N 61 14 x2 x3 x4 x5 (zH I J) Q' K4' := by
  unfold w_Reck_valueOf_128
  unfold v_Reck_valueOf_128 at hv
  refine ⟨fun q1 => ?_, fun q1 => ?_⟩
  · have hv := hv.1 q1
    refine ⟨rfl, ?_⟩
    obtain ⟨g2, hv⟩ := hv
    refine ⟨qok_mk rfl g2, ?_⟩
    obtain ⟨g3, hv⟩ := hv
    refine ⟨qok_mk rfl g3, ?_⟩
    refine ⟨fun q4 => ?_, fun q4 => ?_⟩
    · have hv := hv.1 q4
      exact hK4 (x2 + (-2 : Int32)) x3 I J hv
    · have hv := hv.2 q4
      intro y5 ey5
      have hv := hv y5 ey5
      exact hK4 (x2 + (-2 : Int32)) y5 I J hv
  · have hv := hv.2 q1
    refine ⟨rfl, ?_⟩
    obtain ⟨g6, hv⟩ := hv
    refine ⟨qok_mk rfl g6, ?_⟩
    obtain ⟨g7, hv⟩ := hv
    refine ⟨qok_mk rfl g7, ?_⟩
    refine u_Reck_joined N x4 (I 63 ((x2 + (-2 : Int32))).toNatClampNeg) (I 63 (((x2 + (-2 : Int32)) + (1 : Int32))).toNatClampNeg) I J _ _ (fun r8 I9 J9 hv => ?_) hv
    obtain ⟨g10, hv⟩ := hv
    refine ⟨qok_mk rfl g10, ?_⟩
    obtain ⟨I11, eI11⟩ : ∃ z, z = qu I9 63 ((x2 + (-2 : Int32))).toNatClampNeg r8 := ⟨_, rfl⟩
    have hv := hv I11 eI11
    intro h11 eh11
    have eh11 : h11 = zH I11 J9 := by rw [eh11, eI11]; rfl
    subst eh11
    exact hK4 ((x2 + (-2 : Int32)) + (1 : Int32)) x3 I11 J9 hv
theorem u_Reck_valueOf_4_c14 (N k : Nat) (x2 : Int32) (x3 : Int32) (I : zI) (J : zJ) (Q : Int32 → zI → zJ → Prop) (Q' : Int32 → qH → Prop) (hQ : ∀ (r : Int32) (I : zI) (J : zJ), Q r I J → Q' r (zH I J)) (K86 : Int32 → zI → zJ → Prop) (K86' : Nat → Int32 → qH → Prop) (hK86 : ∀ (x2 : Int32) (I : zI) (J : zJ), K86 x2 I J → K86' 61 x2 (zH I J)) (hv : v_Reck_valueOf_4 N k 14 x2 x3 I J Q K86) : w_Reck_valueOf_4 N k 61 14 x2 x3 (zH I J) Q' K86' := by
  induction k generalizing x2 x3 I J with
  | zero => exact hv.elim
  | succ k ih =>
    rw [w_Reck_valueOf_4]
    rw [v_Reck_valueOf_4] at hv
    refine ⟨rfl, ?_⟩
    refine ⟨fun q1 => ?_, fun q1 => ?_⟩
    · have hv := hv.1 q1
      exact hQ _ _ _ hv
    · have hv := hv.2 q1
      obtain ⟨g2, hv⟩ := hv
      refine ⟨qok_mk rfl g2, ?_⟩
      intro y3 ey3
      have hv := hv y3 ey3
      obtain ⟨g4, hv⟩ := hv
      refine ⟨qok_mk rfl g4, ?_⟩
      intro y5 ey5
      have hv := hv y5 ey5
      refine ⟨fun q6 => ?_, fun q6 => ?_⟩
      · have hv := hv.1 q6
        exact u_Reck_valueOf_43_c14 N x2 (x3 + (1 : Int32)) y3 y5 I J Q _ hQ _ _ (fun x2 x3 I J hv => ih x2 x3 I J hv)  hv
      · have hv := hv.2 q6
        refine ⟨fun q7 => ?_, fun q7 => ?_⟩
        · have hv := hv.1 q7
          refine ⟨fun q8 => ?_, fun q8 => ?_⟩
          · have hv := hv.1 q8
            refine ⟨fun q9 => ?_, fun q9 => ?_⟩
            · have hv := hv.1 q9
              exact hQ _ _ _ hv
            · have hv := hv.2 q9
              refine ⟨fun q10 => ?_, fun q10 => ?_⟩
              · have hv := hv.1 q10
                exact u_Reck_valueOf_128_c14 N x2 (x3 + (1 : Int32)) y3 y5 I J Q _ hQ _ _ (fun x2 x3 I J hv => ih x2 x3 I J hv)  hv
              · have hv := hv.2 q10
                refine ⟨rfl, ?_⟩
                obtain ⟨g11, hv⟩ := hv
                refine ⟨qok_mk rfl g11, ?_⟩
                refine ⟨fun q12 => ?_, fun q12 => ?_⟩
                · have hv := hv.1 q12
                  exact u_Reck_valueOf_128_c14 N x2 (x3 + (1 : Int32)) y3 y5 I J Q _ hQ _ _ (fun x2 x3 I J hv => ih x2 x3 I J hv)  hv
                · have hv := hv.2 q12
                  exact hQ _ _ _ hv
          · have hv := hv.2 q8
            exact hK86 x2 I J hv
        · have hv := hv.2 q7
          exact u_Reck_valueOf_43_c14 N x2 (x3 + (1 : Int32)) y3 y5 I J Q _ hQ _ _ (fun x2 x3 I J hv => ih x2 x3 I J hv)  hv
theorem u_Reck_valueOf_c14 (N : Nat) (_x1 : Nat) (I : zI) (J : zJ) (Q : Int32 → zI → zJ → Prop) (Q' : Int32 → qH → Prop) (hQ : ∀ (r : Int32) (I : zI) (J : zJ), Q r I J → Q' r (zH I J)) (hv : v_Reck_valueOf N 14 I J Q) : w_Reck_valueOf N 61 14 (zH I J) Q' := by
  unfold w_Reck_valueOf
  unfold v_Reck_valueOf at hv
  refine u_Reck_valueOf_4_c14 N N (0 : Int32) (0 : Int32) I J Q _ hQ _ _ (fun w1 I2 J2 hv => ?_)  hv
  refine ⟨fun q3 => ?_, fun q3 => ?_⟩
  · have hv := hv.1 q3
    exact hQ _ _ _ hv
  · have hv := hv.2 q3
    refine ⟨rfl, ?_⟩
    obtain ⟨g4, hv⟩ := hv
    refine ⟨qok_mk rfl g4, ?_⟩
    exact hQ _ _ _ hv
theorem u_Reck_valueOf_43_c17 (N : Nat) (x2 : Int32) (x3 : Int32) (x4 : Int32) (x5 : Int32) (I : zI) (J : zJ) (Q : Int32 → zI → zJ → Prop) (Q' : Int32 → qH → Prop) (hQ : ∀ (r : Int32) (I : zI) (J : zJ), Q r I J → Q' r (zH I J)) (K4 : Int32 → Int32 → zI → zJ → Prop) (K4' : Nat → Nat → Int32 → Int32 → qH → Prop) (hK4 : ∀ (x2 : Int32) (x3 : Int32) (I : zI) (J : zJ), K4 x2 x3 I J → K4' 61 17 x2 x3 (zH I J)) (hv : v_Reck_valueOf_43 N 17 x2 x3 x4 x5 I J Q K4) : w_Reck_valueOf_43 N 61 17 x2 x3 x4 x5 (zH I J) Q' K4' := by
  unfold w_Reck_valueOf_43
  unfold v_Reck_valueOf_43 at hv
  refine ⟨fun q1 => ?_, fun q1 => ?_⟩
  · have hv := hv.1 q1
    refine ⟨rfl, ?_⟩
    refine ⟨fun q2 => ?_, fun q2 => ?_⟩
    · have hv := hv.1 q2
      refine u_Reck_varOf N x5 I J _ _ (fun r3 I4 J4 hv => ?_) hv
      obtain ⟨g5, hv⟩ := hv
      refine ⟨qok_mk rfl g5, ?_⟩
      obtain ⟨I6, eI6⟩ : ∃ z, z = qu I4 63 (x2).toNatClampNeg r3 := ⟨_, rfl⟩
      have hv := hv I6 eI6
      intro h6 eh6
      have eh6 : h6 = zH I6 J4 := by rw [eh6, eI6]; rfl
      subst eh6
      exact hK4 (x2 + (1 : Int32)) x3 I6 J4 hv
    · have hv := hv.2 q2
      obtain ⟨g7, hv⟩ := hv
      refine ⟨qok_mk rfl g7, ?_⟩
      obtain ⟨I8, eI8⟩ : ∃ z, z = qu I 63 (x2).toNatClampNeg x5 := ⟨_, rfl⟩
      have hv := hv I8 eI8
      intro h8 eh8
      have eh8 : h8 = zH I8 J := by rw [eh8, eI8]; rfl
      subst eh8
      exact hK4 (x2 + (1 : Int32)) x3 I8 J hv
  · have hv := hv.2 q1
    exact hQ _ _ _ hv
theorem u_Reck_valueOf_128_c17 (N : Nat) (x2 : Int32) (x3 : Int32) (x4 : Int32) (x5 : Int32) (I : zI) (J : zJ) (Q : Int32 → zI → zJ → Prop) (Q' : Int32 → qH → Prop) (hQ : ∀ (r : Int32) (I : zI) (J : zJ), Q r I J → Q' r (zH I J)) (K4 : Int32 → Int32 → zI → zJ → Prop) (K4' : Nat → Nat → Int32 → Int32 → qH → Prop) (hK4 : ∀ (x2 : Int32) (x3 : Int32) (I : zI) (J : zJ), K4 x2 x3 I J → K4' 61 17 x2 x3 (zH I J)) (hv : v_Reck_valueOf_128 N 17 x2 x3 x4 x5 I J Q K4) : w_Reck_valueOf_128 N 61 17 x2 x3 x4 x5 (zH I J) Q' K4' := by
  unfold w_Reck_valueOf_128
  unfold v_Reck_valueOf_128 at hv
  refine ⟨fun q1 => ?_, fun q1 => ?_⟩
  · have hv := hv.1 q1
    refine ⟨rfl, ?_⟩
    obtain ⟨g2, hv⟩ := hv
    refine ⟨qok_mk rfl g2, ?_⟩
    obtain ⟨g3, hv⟩ := hv
    refine ⟨qok_mk rfl g3, ?_⟩
    refine ⟨fun q4 => ?_, fun q4 => ?_⟩
    · have hv := hv.1 q4
      exact hK4 (x2 + (-2 : Int32)) x3 I J hv
    · have hv := hv.2 q4
      intro y5 ey5
      have hv := hv y5 ey5
      exact hK4 (x2 + (-2 : Int32)) y5 I J hv
  · have hv := hv.2 q1
    refine ⟨rfl, ?_⟩
    obtain ⟨g6, hv⟩ := hv
    refine ⟨qok_mk rfl g6, ?_⟩
    obtain ⟨g7, hv⟩ := hv
    refine ⟨qok_mk rfl g7, ?_⟩
    refine u_Reck_joined N x4 (I 63 ((x2 + (-2 : Int32))).toNatClampNeg) (I 63 (((x2 + (-2 : Int32)) + (1 : Int32))).toNatClampNeg) I J _ _ (fun r8 I9 J9 hv => ?_) hv
    obtain ⟨g10, hv⟩ := hv
    refine ⟨qok_mk rfl g10, ?_⟩
    obtain ⟨I11, eI11⟩ : ∃ z, z = qu I9 63 ((x2 + (-2 : Int32))).toNatClampNeg r8 := ⟨_, rfl⟩
    have hv := hv I11 eI11
    intro h11 eh11
    have eh11 : h11 = zH I11 J9 := by rw [eh11, eI11]; rfl
    subst eh11
    exact hK4 ((x2 + (-2 : Int32)) + (1 : Int32)) x3 I11 J9 hv
theorem u_Reck_valueOf_4_c17 (N k : Nat) (x2 : Int32) (x3 : Int32) (I : zI) (J : zJ) (Q : Int32 → zI → zJ → Prop) (Q' : Int32 → qH → Prop) (hQ : ∀ (r : Int32) (I : zI) (J : zJ), Q r I J → Q' r (zH I J)) (K86 : Int32 → zI → zJ → Prop) (K86' : Nat → Int32 → qH → Prop) (hK86 : ∀ (x2 : Int32) (I : zI) (J : zJ), K86 x2 I J → K86' 61 x2 (zH I J)) (hv : v_Reck_valueOf_4 N k 17 x2 x3 I J Q K86) : w_Reck_valueOf_4 N k 61 17 x2 x3 (zH I J) Q' K86' := by
  induction k generalizing x2 x3 I J with
  | zero => exact hv.elim
  | succ k ih =>
    rw [w_Reck_valueOf_4]
    rw [v_Reck_valueOf_4] at hv
    refine ⟨rfl, ?_⟩
    refine ⟨fun q1 => ?_, fun q1 => ?_⟩
    · have hv := hv.1 q1
      exact hQ _ _ _ hv
    · have hv := hv.2 q1
      obtain ⟨g2, hv⟩ := hv
      refine ⟨qok_mk rfl g2, ?_⟩
      intro y3 ey3
      have hv := hv y3 ey3
      obtain ⟨g4, hv⟩ := hv
      refine ⟨qok_mk rfl g4, ?_⟩
      intro y5 ey5
      have hv := hv y5 ey5
      refine ⟨fun q6 => ?_, fun q6 => ?_⟩
      · have hv := hv.1 q6
        exact u_Reck_valueOf_43_c17 N x2 (x3 + (1 : Int32)) y3 y5 I J Q _ hQ _ _ (fun x2 x3 I J hv => ih x2 x3 I J hv)  hv
      · have hv := hv.2 q6
        refine ⟨fun q7 => ?_, fun q7 => ?_⟩
        · have hv := hv.1 q7
          refine ⟨fun q8 => ?_, fun q8 => ?_⟩
          · have hv := hv.1 q8
            refine ⟨fun q9 => ?_, fun q9 => ?_⟩
            · have hv := hv.1 q9
              exact hQ _ _ _ hv
            · have hv := hv.2 q9
              refine ⟨fun q10 => ?_, fun q10 => ?_⟩
              · have hv := hv.1 q10
                exact u_Reck_valueOf_128_c17 N x2 (x3 + (1 : Int32)) y3 y5 I J Q _ hQ _ _ (fun x2 x3 I J hv => ih x2 x3 I J hv)  hv
              · have hv := hv.2 q10
                refine ⟨rfl, ?_⟩
                obtain ⟨g11, hv⟩ := hv
                refine ⟨qok_mk rfl g11, ?_⟩
                refine ⟨fun q12 => ?_, fun q12 => ?_⟩
                · have hv := hv.1 q12
                  exact u_Reck_valueOf_128_c17 N x2 (x3 + (1 : Int32)) y3 y5 I J Q _ hQ _ _ (fun x2 x3 I J hv => ih x2 x3 I J hv)  hv
                · have hv := hv.2 q12
                  exact hQ _ _ _ hv
          · have hv := hv.2 q8
            exact hK86 x2 I J hv
        · have hv := hv.2 q7
          exact u_Reck_valueOf_43_c17 N x2 (x3 + (1 : Int32)) y3 y5 I J Q _ hQ _ _ (fun x2 x3 I J hv => ih x2 x3 I J hv)  hv
theorem u_Reck_valueOf_c17 (N : Nat) (_x1 : Nat) (I : zI) (J : zJ) (Q : Int32 → zI → zJ → Prop) (Q' : Int32 → qH → Prop) (hQ : ∀ (r : Int32) (I : zI) (J : zJ), Q r I J → Q' r (zH I J)) (hv : v_Reck_valueOf N 17 I J Q) : w_Reck_valueOf N 61 17 (zH I J) Q' := by
  unfold w_Reck_valueOf
  unfold v_Reck_valueOf at hv
  refine u_Reck_valueOf_4_c17 N N (0 : Int32) (0 : Int32) I J Q _ hQ _ _ (fun w1 I2 J2 hv => ?_)  hv
  refine ⟨fun q3 => ?_, fun q3 => ?_⟩
  · have hv := hv.1 q3
    exact hQ _ _ _ hv
  · have hv := hv.2 q3
    refine ⟨rfl, ?_⟩
    obtain ⟨g4, hv⟩ := hv
    refine ⟨qok_mk rfl g4, ?_⟩
    exact hQ _ _ _ hv
theorem u_Reck_valueOf_43_c20 (N : Nat) (x2 : Int32) (x3 : Int32) (x4 : Int32) (x5 : Int32) (I : zI) (J : zJ) (Q : Int32 → zI → zJ → Prop) (Q' : Int32 → qH → Prop) (hQ : ∀ (r : Int32) (I : zI) (J : zJ), Q r I J → Q' r (zH I J)) (K4 : Int32 → Int32 → zI → zJ → Prop) (K4' : Nat → Nat → Int32 → Int32 → qH → Prop) (hK4 : ∀ (x2 : Int32) (x3 : Int32) (I : zI) (J : zJ), K4 x2 x3 I J → K4' 61 20 x2 x3 (zH I J)) (hv : v_Reck_valueOf_43 N 20 x2 x3 x4 x5 I J Q K4) : w_Reck_valueOf_43 N 61 20 x2 x3 x4 x5 (zH I J) Q' K4' := by
  unfold w_Reck_valueOf_43
  unfold v_Reck_valueOf_43 at hv
  refine ⟨fun q1 => ?_, fun q1 => ?_⟩
  · have hv := hv.1 q1
    refine ⟨rfl, ?_⟩
    refine ⟨fun q2 => ?_, fun q2 => ?_⟩
    · have hv := hv.1 q2
      refine u_Reck_varOf N x5 I J _ _ (fun r3 I4 J4 hv => ?_) hv
      obtain ⟨g5, hv⟩ := hv
      refine ⟨qok_mk rfl g5, ?_⟩
      obtain ⟨I6, eI6⟩ : ∃ z, z = qu I4 63 (x2).toNatClampNeg r3 := ⟨_, rfl⟩
      have hv := hv I6 eI6
      intro h6 eh6
      have eh6 : h6 = zH I6 J4 := by rw [eh6, eI6]; rfl
      subst eh6
      exact hK4 (x2 + (1 : Int32)) x3 I6 J4 hv
    · have hv := hv.2 q2
      obtain ⟨g7, hv⟩ := hv
      refine ⟨qok_mk rfl g7, ?_⟩
      obtain ⟨I8, eI8⟩ : ∃ z, z = qu I 63 (x2).toNatClampNeg x5 := ⟨_, rfl⟩
      have hv := hv I8 eI8
      intro h8 eh8
      have eh8 : h8 = zH I8 J := by rw [eh8, eI8]; rfl
      subst eh8
      exact hK4 (x2 + (1 : Int32)) x3 I8 J hv
  · have hv := hv.2 q1
    exact hQ _ _ _ hv
theorem u_Reck_valueOf_128_c20 (N : Nat) (x2 : Int32) (x3 : Int32) (x4 : Int32) (x5 : Int32) (I : zI) (J : zJ) (Q : Int32 → zI → zJ → Prop) (Q' : Int32 → qH → Prop) (hQ : ∀ (r : Int32) (I : zI) (J : zJ), Q r I J → Q' r (zH I J)) (K4 : Int32 → Int32 → zI → zJ → Prop) (K4' : Nat → Nat → Int32 → Int32 → qH → Prop) (hK4 : ∀ (x2 : Int32) (x3 : Int32) (I : zI) (J : zJ), K4 x2 x3 I J → K4' 61 20 x2 x3 (zH I J)) (hv : v_Reck_valueOf_128 N 20 x2 x3 x4 x5 I J Q K4) : w_Reck_valueOf_128 N 61 20 x2 x3 x4 x5 (zH I J) Q' K4' := by
  unfold w_Reck_valueOf_128
  unfold v_Reck_valueOf_128 at hv
  refine ⟨fun q1 => ?_, fun q1 => ?_⟩
  · have hv := hv.1 q1
    refine ⟨rfl, ?_⟩
    obtain ⟨g2, hv⟩ := hv
    refine ⟨qok_mk rfl g2, ?_⟩
    obtain ⟨g3, hv⟩ := hv
    refine ⟨qok_mk rfl g3, ?_⟩
    refine ⟨fun q4 => ?_, fun q4 => ?_⟩
    · have hv := hv.1 q4
      exact hK4 (x2 + (-2 : Int32)) x3 I J hv
    · have hv := hv.2 q4
      intro y5 ey5
      have hv := hv y5 ey5
      exact hK4 (x2 + (-2 : Int32)) y5 I J hv
  · have hv := hv.2 q1
    refine ⟨rfl, ?_⟩
    obtain ⟨g6, hv⟩ := hv
    refine ⟨qok_mk rfl g6, ?_⟩
    obtain ⟨g7, hv⟩ := hv
    refine ⟨qok_mk rfl g7, ?_⟩
    refine u_Reck_joined N x4 (I 63 ((x2 + (-2 : Int32))).toNatClampNeg) (I 63 (((x2 + (-2 : Int32)) + (1 : Int32))).toNatClampNeg) I J _ _ (fun r8 I9 J9 hv => ?_) hv
    obtain ⟨g10, hv⟩ := hv
    refine ⟨qok_mk rfl g10, ?_⟩
    obtain ⟨I11, eI11⟩ : ∃ z, z = qu I9 63 ((x2 + (-2 : Int32))).toNatClampNeg r8 := ⟨_, rfl⟩
    have hv := hv I11 eI11
    intro h11 eh11
    have eh11 : h11 = zH I11 J9 := by rw [eh11, eI11]; rfl
    subst eh11
    exact hK4 ((x2 + (-2 : Int32)) + (1 : Int32)) x3 I11 J9 hv
theorem u_Reck_valueOf_4_c20 (N k : Nat) (x2 : Int32) (x3 : Int32) (I : zI) (J : zJ) (Q : Int32 → zI → zJ → Prop) (Q' : Int32 → qH → Prop) (hQ : ∀ (r : Int32) (I : zI) (J : zJ), Q r I J → Q' r (zH I J)) (K86 : Int32 → zI → zJ → Prop) (K86' : Nat → Int32 → qH → Prop) (hK86 : ∀ (x2 : Int32) (I : zI) (J : zJ), K86 x2 I J → K86' 61 x2 (zH I J)) (hv : v_Reck_valueOf_4 N k 20 x2 x3 I J Q K86) : w_Reck_valueOf_4 N k 61 20 x2 x3 (zH I J) Q' K86' := by
  induction k generalizing x2 x3 I J with
  | zero => exact hv.elim
  | succ k ih =>
    rw [w_Reck_valueOf_4]
    rw [v_Reck_valueOf_4] at hv
    refine ⟨rfl, ?_⟩
    refine ⟨fun q1 => ?_, fun q1 => ?_⟩
    · have hv := hv.1 q1
      exact hQ _ _ _ hv
    · have hv := hv.2 q1
      obtain ⟨g2, hv⟩ := hv
      refine ⟨qok_mk rfl g2, ?_⟩
      intro y3 ey3
      have hv := hv y3 ey3
      obtain ⟨g4, hv⟩ := hv
      refine ⟨qok_mk rfl g4, ?_⟩
      intro y5 ey5
      have hv := hv y5 ey5
      refine ⟨fun q6 => ?_, fun q6 => ?_⟩
      · have hv := hv.1 q6
        exact u_Reck_valueOf_43_c20 N x2 (x3 + (1 : Int32)) y3 y5 I J Q _ hQ _ _ (fun x2 x3 I J hv => ih x2 x3 I J hv)  hv
      · have hv := hv.2 q6
        refine ⟨fun q7 => ?_, fun q7 => ?_⟩
        · have hv := hv.1 q7
          refine ⟨fun q8 => ?_, fun q8 => ?_⟩
          · have hv := hv.1 q8
            refine ⟨fun q9 => ?_, fun q9 => ?_⟩
            · have hv := hv.1 q9
              exact hQ _ _ _ hv
            · have hv := hv.2 q9
              refine ⟨fun q10 => ?_, fun q10 => ?_⟩
              · have hv := hv.1 q10
                exact u_Reck_valueOf_128_c20 N x2 (x3 + (1 : Int32)) y3 y5 I J Q _ hQ _ _ (fun x2 x3 I J hv => ih x2 x3 I J hv)  hv
              · have hv := hv.2 q10
                refine ⟨rfl, ?_⟩
                obtain ⟨g11, hv⟩ := hv
                refine ⟨qok_mk rfl g11, ?_⟩
                refine ⟨fun q12 => ?_, fun q12 => ?_⟩
                · have hv := hv.1 q12
                  exact u_Reck_valueOf_128_c20 N x2 (x3 + (1 : Int32)) y3 y5 I J Q _ hQ _ _ (fun x2 x3 I J hv => ih x2 x3 I J hv)  hv
                · have hv := hv.2 q12
                  exact hQ _ _ _ hv
          · have hv := hv.2 q8
            exact hK86 x2 I J hv
        · have hv := hv.2 q7
          exact u_Reck_valueOf_43_c20 N x2 (x3 + (1 : Int32)) y3 y5 I J Q _ hQ _ _ (fun x2 x3 I J hv => ih x2 x3 I J hv)  hv
theorem u_Reck_valueOf_c20 (N : Nat) (_x1 : Nat) (I : zI) (J : zJ) (Q : Int32 → zI → zJ → Prop) (Q' : Int32 → qH → Prop) (hQ : ∀ (r : Int32) (I : zI) (J : zJ), Q r I J → Q' r (zH I J)) (hv : v_Reck_valueOf N 20 I J Q) : w_Reck_valueOf N 61 20 (zH I J) Q' := by
  unfold w_Reck_valueOf
  unfold v_Reck_valueOf at hv
  refine u_Reck_valueOf_4_c20 N N (0 : Int32) (0 : Int32) I J Q _ hQ _ _ (fun w1 I2 J2 hv => ?_)  hv
  refine ⟨fun q3 => ?_, fun q3 => ?_⟩
  · have hv := hv.1 q3
    exact hQ _ _ _ hv
  · have hv := hv.2 q3
    refine ⟨rfl, ?_⟩
    obtain ⟨g4, hv⟩ := hv
    refine ⟨qok_mk rfl g4, ?_⟩
    exact hQ _ _ _ hv
theorem u_Reck_valueOf_43_c23 (N : Nat) (x2 : Int32) (x3 : Int32) (x4 : Int32) (x5 : Int32) (I : zI) (J : zJ) (Q : Int32 → zI → zJ → Prop) (Q' : Int32 → qH → Prop) (hQ : ∀ (r : Int32) (I : zI) (J : zJ), Q r I J → Q' r (zH I J)) (K4 : Int32 → Int32 → zI → zJ → Prop) (K4' : Nat → Nat → Int32 → Int32 → qH → Prop) (hK4 : ∀ (x2 : Int32) (x3 : Int32) (I : zI) (J : zJ), K4 x2 x3 I J → K4' 61 23 x2 x3 (zH I J)) (hv : v_Reck_valueOf_43 N 23 x2 x3 x4 x5 I J Q K4) : w_Reck_valueOf_43 N 61 23 x2 x3 x4 x5 (zH I J) Q' K4' := by
  unfold w_Reck_valueOf_43
  unfold v_Reck_valueOf_43 at hv
  refine ⟨fun q1 => ?_, fun q1 => ?_⟩
  · have hv := hv.1 q1
    refine ⟨rfl, ?_⟩
    refine ⟨fun q2 => ?_, fun q2 => ?_⟩
    · have hv := hv.1 q2
      refine u_Reck_varOf N x5 I J _ _ (fun r3 I4 J4 hv => ?_) hv
      obtain ⟨g5, hv⟩ := hv
      refine ⟨qok_mk rfl g5, ?_⟩
      obtain ⟨I6, eI6⟩ : ∃ z, z = qu I4 63 (x2).toNatClampNeg r3 := ⟨_, rfl⟩
      have hv := hv I6 eI6
      intro h6 eh6
      have eh6 : h6 = zH I6 J4 := by rw [eh6, eI6]; rfl
      subst eh6
      exact hK4 (x2 + (1 : Int32)) x3 I6 J4 hv
    · have hv := hv.2 q2
      obtain ⟨g7, hv⟩ := hv
      refine ⟨qok_mk rfl g7, ?_⟩
      obtain ⟨I8, eI8⟩ : ∃ z, z = qu I 63 (x2).toNatClampNeg x5 := ⟨_, rfl⟩
      have hv := hv I8 eI8
      intro h8 eh8
      have eh8 : h8 = zH I8 J := by rw [eh8, eI8]; rfl
      subst eh8
      exact hK4 (x2 + (1 : Int32)) x3 I8 J hv
  · have hv := hv.2 q1
    exact hQ _ _ _ hv
theorem u_Reck_valueOf_128_c23 (N : Nat) (x2 : Int32) (x3 : Int32) (x4 : Int32) (x5 : Int32) (I : zI) (J : zJ) (Q : Int32 → zI → zJ → Prop) (Q' : Int32 → qH → Prop) (hQ : ∀ (r : Int32) (I : zI) (J : zJ), Q r I J → Q' r (zH I J)) (K4 : Int32 → Int32 → zI → zJ → Prop) (K4' : Nat → Nat → Int32 → Int32 → qH → Prop) (hK4 : ∀ (x2 : Int32) (x3 : Int32) (I : zI) (J : zJ), K4 x2 x3 I J → K4' 61 23 x2 x3 (zH I J)) (hv : v_Reck_valueOf_128 N 23 x2 x3 x4 x5 I J Q K4) : w_Reck_valueOf_128 N 61 23 x2 x3 x4 x5 (zH I J) Q' K4' := by
  unfold w_Reck_valueOf_128
  unfold v_Reck_valueOf_128 at hv
  refine ⟨fun q1 => ?_, fun q1 => ?_⟩
  · have hv := hv.1 q1
    refine ⟨rfl, ?_⟩
    obtain ⟨g2, hv⟩ := hv
    refine ⟨qok_mk rfl g2, ?_⟩
    obtain ⟨g3, hv⟩ := hv
    refine ⟨qok_mk rfl g3, ?_⟩
    refine ⟨fun q4 => ?_, fun q4 => ?_⟩
    · have hv := hv.1 q4
      exact hK4 (x2 + (-2 : Int32)) x3 I J hv
    · have hv := hv.2 q4
      intro y5 ey5
      have hv := hv y5 ey5
      exact hK4 (x2 + (-2 : Int32)) y5 I J hv
  · have hv := hv.2 q1
    refine ⟨rfl, ?_⟩
    obtain ⟨g6, hv⟩ := hv
    refine ⟨qok_mk rfl g6, ?_⟩
    obtain ⟨g7, hv⟩ := hv
    refine ⟨qok_mk rfl g7, ?_⟩
    refine u_Reck_joined N x4 (I 63 ((x2 + (-2 : Int32))).toNatClampNeg) (I 63 (((x2 + (-2 : Int32)) + (1 : Int32))).toNatClampNeg) I J _ _ (fun r8 I9 J9 hv => ?_) hv
    obtain ⟨g10, hv⟩ := hv
    refine ⟨qok_mk rfl g10, ?_⟩
    obtain ⟨I11, eI11⟩ : ∃ z, z = qu I9 63 ((x2 + (-2 : Int32))).toNatClampNeg r8 := ⟨_, rfl⟩
    have hv := hv I11 eI11
    intro h11 eh11
    have eh11 : h11 = zH I11 J9 := by rw [eh11, eI11]; rfl
    subst eh11
    exact hK4 ((x2 + (-2 : Int32)) + (1 : Int32)) x3 I11 J9 hv
theorem u_Reck_valueOf_4_c23 (N k : Nat) (x2 : Int32) (x3 : Int32) (I : zI) (J : zJ) (Q : Int32 → zI → zJ → Prop) (Q' : Int32 → qH → Prop) (hQ : ∀ (r : Int32) (I : zI) (J : zJ), Q r I J → Q' r (zH I J)) (K86 : Int32 → zI → zJ → Prop) (K86' : Nat → Int32 → qH → Prop) (hK86 : ∀ (x2 : Int32) (I : zI) (J : zJ), K86 x2 I J → K86' 61 x2 (zH I J)) (hv : v_Reck_valueOf_4 N k 23 x2 x3 I J Q K86) : w_Reck_valueOf_4 N k 61 23 x2 x3 (zH I J) Q' K86' := by
  induction k generalizing x2 x3 I J with
  | zero => exact hv.elim
  | succ k ih =>
    rw [w_Reck_valueOf_4]
    rw [v_Reck_valueOf_4] at hv
    refine ⟨rfl, ?_⟩
    refine ⟨fun q1 => ?_, fun q1 => ?_⟩
    · have hv := hv.1 q1
      exact hQ _ _ _ hv
    · have hv := hv.2 q1
      obtain ⟨g2, hv⟩ := hv
      refine ⟨qok_mk rfl g2, ?_⟩
      intro y3 ey3
      have hv := hv y3 ey3
      obtain ⟨g4, hv⟩ := hv
      refine ⟨qok_mk rfl g4, ?_⟩
      intro y5 ey5
      have hv := hv y5 ey5
      refine ⟨fun q6 => ?_, fun q6 => ?_⟩
      · have hv := hv.1 q6
        exact u_Reck_valueOf_43_c23 N x2 (x3 + (1 : Int32)) y3 y5 I J Q _ hQ _ _ (fun x2 x3 I J hv => ih x2 x3 I J hv)  hv
      · have hv := hv.2 q6
        refine ⟨fun q7 => ?_, fun q7 => ?_⟩
        · have hv := hv.1 q7
          refine ⟨fun q8 => ?_, fun q8 => ?_⟩
          · have hv := hv.1 q8
            refine ⟨fun q9 => ?_, fun q9 => ?_⟩
            · have hv := hv.1 q9
              exact hQ _ _ _ hv
            · have hv := hv.2 q9
              refine ⟨fun q10 => ?_, fun q10 => ?_⟩
              · have hv := hv.1 q10
                exact u_Reck_valueOf_128_c23 N x2 (x3 + (1 : Int32)) y3 y5 I J Q _ hQ _ _ (fun x2 x3 I J hv => ih x2 x3 I J hv)  hv
              · have hv := hv.2 q10
                refine ⟨rfl, ?_⟩
                obtain ⟨g11, hv⟩ := hv
                refine ⟨qok_mk rfl g11, ?_⟩
                refine ⟨fun q12 => ?_, fun q12 => ?_⟩
                · have hv := hv.1 q12
                  exact u_Reck_valueOf_128_c23 N x2 (x3 + (1 : Int32)) y3 y5 I J Q _ hQ _ _ (fun x2 x3 I J hv => ih x2 x3 I J hv)  hv
                · have hv := hv.2 q12
                  exact hQ _ _ _ hv
          · have hv := hv.2 q8
            exact hK86 x2 I J hv
        · have hv := hv.2 q7
          exact u_Reck_valueOf_43_c23 N x2 (x3 + (1 : Int32)) y3 y5 I J Q _ hQ _ _ (fun x2 x3 I J hv => ih x2 x3 I J hv)  hv
theorem u_Reck_valueOf_c23 (N : Nat) (_x1 : Nat) (I : zI) (J : zJ) (Q : Int32 → zI → zJ → Prop) (Q' : Int32 → qH → Prop) (hQ : ∀ (r : Int32) (I : zI) (J : zJ), Q r I J → Q' r (zH I J)) (hv : v_Reck_valueOf N 23 I J Q) : w_Reck_valueOf N 61 23 (zH I J) Q' := by
  unfold w_Reck_valueOf
  unfold v_Reck_valueOf at hv
  refine u_Reck_valueOf_4_c23 N N (0 : Int32) (0 : Int32) I J Q _ hQ _ _ (fun w1 I2 J2 hv => ?_)  hv
  refine ⟨fun q3 => ?_, fun q3 => ?_⟩
  · have hv := hv.1 q3
    exact hQ _ _ _ hv
  · have hv := hv.2 q3
    refine ⟨rfl, ?_⟩
    obtain ⟨g4, hv⟩ := hv
    refine ⟨qok_mk rfl g4, ?_⟩
    exact hQ _ _ _ hv
theorem u_Reck_lawTells_12 (N : Nat) (x1 : Int32) (z0 : Int32) (I : zI) (J : zJ) (Q : Int32 → zI → zJ → Prop) (Q' : Int32 → qH → Prop) (hQ : ∀ (r : Int32) (I : zI) (J : zJ), Q r I J → Q' r (zH I J)) (hv : v_Reck_lawTells_12 N x1 z0 I J Q ) : w_Reck_lawTells_12 N 61 x1 z0 (zH I J) Q'  := by
  unfold w_Reck_lawTells_12
  unfold v_Reck_lawTells_12 at hv
  refine ⟨rfl, ?_⟩
  refine ⟨rfl, ?_⟩
  unfold w_Text_law
  refine ⟨fun q0 => ?_, fun q0 => ⟨fun q1 => ?_, fun q1 => ⟨fun q2 => ?_, fun q2 => ?_⟩⟩⟩
  · have hv := hv.1 q0
    refine ⟨rfl, ?_⟩
    refine ⟨rfl, ?_⟩
    refine u_Reck_valueOf_c14 N 14 I J _ _ (fun r3 I4 J4 hv => ?_) hv
    exact hQ _ _ _ hv
  · have hv := (hv.2 q0).1 q1
    refine ⟨rfl, ?_⟩
    refine ⟨rfl, ?_⟩
    refine u_Reck_valueOf_c17 N 17 I J _ _ (fun r5 I6 J6 hv => ?_) hv
    exact hQ _ _ _ hv
  · have hv := ((hv.2 q0).2 q1).1 q2
    refine ⟨rfl, ?_⟩
    refine ⟨rfl, ?_⟩
    refine u_Reck_valueOf_c20 N 20 I J _ _ (fun r7 I8 J8 hv => ?_) hv
    exact hQ _ _ _ hv
  · have hv := ((hv.2 q0).2 q1).2 q2
    refine ⟨rfl, ?_⟩
    refine ⟨rfl, ?_⟩
    refine u_Reck_valueOf_c23 N 23 I J _ _ (fun r9 I10 J10 hv => ?_) hv
    exact hQ _ _ _ hv
theorem u_Reck_lawTells (N : Nat) (x1 : Int32) (I : zI) (J : zJ) (Q : Int32 → zI → zJ → Prop) (Q' : Int32 → qH → Prop) (hQ : ∀ (r : Int32) (I : zI) (J : zJ), Q r I J → Q' r (zH I J)) (hv : v_Reck_lawTells N x1 I J Q) : w_Reck_lawTells N 61 x1 (zH I J) Q' := by
  unfold w_Reck_lawTells
  unfold v_Reck_lawTells at hv
  refine ⟨fun q1 => ?_, fun q1 => ?_⟩
  · have hv := hv.1 q1
    exact u_Reck_lawTells_12 N x1 (99 : Int32) I J Q _ hQ   hv
  · have hv := hv.2 q1
    exact u_Reck_lawTells_12 N x1 (100 : Int32) I J Q _ hQ   hv
theorem u_Reck_lookAt_c49 (N : Nat) (_x1 : Nat) (x2 : Int32) (x3 : Int32) (x4 : Int32) (I : zI) (J : zJ) (Q : zI → zJ → Prop) (Q' : qH → Prop) (hQ : ∀ (I : zI) (J : zJ), Q I J → Q' (zH I J)) (hv : v_Reck_lookAt N 49 x2 x3 x4 I J Q) : w_Reck_lookAt N 61 49 x2 x3 x4 (zH I J) Q' := by
  unfold w_Reck_lookAt
  unfold v_Reck_lookAt at hv
  refine ⟨rfl, ?_⟩
  obtain ⟨g1, hv⟩ := hv
  refine ⟨qok_mk rfl g1, ?_⟩
  intro y2 ey2
  have hv := hv y2 ey2
  obtain ⟨g3, hv⟩ := hv
  refine ⟨qok_mk rfl g3, ?_⟩
  intro y4 ey4
  have hv := hv y4 ey4
  refine ⟨rfl, ?_⟩
  refine ⟨rfl, ?_⟩
  obtain ⟨g5, hv⟩ := hv
  refine ⟨qok_mk rfl g5, ?_⟩
  obtain ⟨g6, hv⟩ := hv
  refine ⟨qok_mk rfl g6, ?_⟩
  obtain ⟨I7, eI7⟩ : ∃ z, z = qu I 62 ((0 : Int32)).toNatClampNeg ((if 0 ≤ (y4 - (I 10 (x3).toNatClampNeg)) then (y4 - (I 10 (x3).toNatClampNeg)) else 0 - (y4 - (I 10 (x3).toNatClampNeg))) + y2) := ⟨_, rfl⟩
  have hv := hv I7 eI7
  intro h7 eh7
  have eh7 : h7 = zH I7 J := by rw [eh7, eI7]; rfl
  subst eh7
  refine ⟨rfl, ?_⟩
  obtain ⟨g8, hv⟩ := hv
  refine ⟨qok_mk rfl g8, ?_⟩
  obtain ⟨I9, eI9⟩ : ∃ z, z = qu I7 62 ((1 : Int32)).toNatClampNeg y2 := ⟨_, rfl⟩
  have hv := hv I9 eI9
  intro h9 eh9
  have eh9 : h9 = zH I9 J := by rw [eh9, eI9]; rfl
  subst eh9
  refine ⟨rfl, ?_⟩
  obtain ⟨g10, hv⟩ := hv
  refine ⟨qok_mk rfl g10, ?_⟩
  obtain ⟨I11, eI11⟩ : ∃ z, z = qu I9 62 ((2 : Int32)).toNatClampNeg y4 := ⟨_, rfl⟩
  have hv := hv I11 eI11
  intro h11 eh11
  have eh11 : h11 = zH I11 J := by rw [eh11, eI11]; rfl
  subst eh11
  refine ⟨rfl, ?_⟩
  refine ⟨rfl, ?_⟩
  obtain ⟨g12, hv⟩ := hv
  refine ⟨qok_mk rfl g12, ?_⟩
  obtain ⟨g13, hv⟩ := hv
  refine ⟨qok_mk rfl g13, ?_⟩
  obtain ⟨I14, eI14⟩ : ∃ z, z = qu I11 62 ((3 : Int32)).toNatClampNeg (I11 12 (x2).toNatClampNeg) := ⟨_, rfl⟩
  have hv := hv I14 eI14
  intro h14 eh14
  have eh14 : h14 = zH I14 J := by rw [eh14, eI14]; rfl
  subst eh14
  refine ⟨rfl, ?_⟩
  refine ⟨rfl, ?_⟩
  obtain ⟨g15, hv⟩ := hv
  refine ⟨qok_mk rfl g15, ?_⟩
  obtain ⟨I16, eI16⟩ : ∃ z, z = qu I14 62 ((4 : Int32)).toNatClampNeg (I14 49 1) := ⟨_, rfl⟩
  have hv := hv I16 eI16
  intro h16 eh16
  have eh16 : h16 = zH I16 J := by rw [eh16, eI16]; rfl
  subst eh16
  refine ⟨rfl, ?_⟩
  refine ⟨rfl, ?_⟩
  obtain ⟨g17, hv⟩ := hv
  refine ⟨qok_mk rfl g17, ?_⟩
  obtain ⟨g18, hv⟩ := hv
  refine ⟨qok_mk rfl g18, ?_⟩
  obtain ⟨I19, eI19⟩ : ∃ z, z = qu I16 62 ((5 : Int32)).toNatClampNeg (I16 53 (x2).toNatClampNeg) := ⟨_, rfl⟩
  have hv := hv I19 eI19
  intro h19 eh19
  have eh19 : h19 = zH I19 J := by rw [eh19, eI19]; rfl
  subst eh19
  refine ⟨rfl, ?_⟩
  obtain ⟨g20, hv⟩ := hv
  refine ⟨qok_mk rfl g20, ?_⟩
  obtain ⟨I21, eI21⟩ : ∃ z, z = qu I19 62 ((6 : Int32)).toNatClampNeg x4 := ⟨_, rfl⟩
  have hv := hv I21 eI21
  intro h21 eh21
  have eh21 : h21 = zH I21 J := by rw [eh21, eI21]; rfl
  subst eh21
  refine ⟨rfl, ?_⟩
  obtain ⟨g22, hv⟩ := hv
  refine ⟨qok_mk rfl g22, ?_⟩
  obtain ⟨I23, eI23⟩ : ∃ z, z = qu I21 62 ((7 : Int32)).toNatClampNeg x2 := ⟨_, rfl⟩
  have hv := hv I23 eI23
  intro h23 eh23
  have eh23 : h23 = zH I23 J := by rw [eh23, eI23]; rfl
  subst eh23
  refine ⟨rfl, ?_⟩
  refine ⟨rfl, ?_⟩
  obtain ⟨g24, hv⟩ := hv
  refine ⟨qok_mk rfl g24, ?_⟩
  obtain ⟨g25, hv⟩ := hv
  refine ⟨qok_mk rfl g25, ?_⟩
  obtain ⟨I26, eI26⟩ : ∃ z, z = qu I23 62 ((8 : Int32)).toNatClampNeg (I23 9 (x3).toNatClampNeg) := ⟨_, rfl⟩
  have hv := hv I26 eI26
  intro h26 eh26
  have eh26 : h26 = zH I26 J := by rw [eh26, eI26]; rfl
  subst eh26
  exact hQ _ _ hv
theorem u_Reck_lookAt_c55 (N : Nat) (_x1 : Nat) (x2 : Int32) (x3 : Int32) (x4 : Int32) (I : zI) (J : zJ) (Q : zI → zJ → Prop) (Q' : qH → Prop) (hQ : ∀ (I : zI) (J : zJ), Q I J → Q' (zH I J)) (hv : v_Reck_lookAt N 55 x2 x3 x4 I J Q) : w_Reck_lookAt N 61 55 x2 x3 x4 (zH I J) Q' := by
  unfold w_Reck_lookAt
  unfold v_Reck_lookAt at hv
  refine ⟨rfl, ?_⟩
  obtain ⟨g1, hv⟩ := hv
  refine ⟨qok_mk rfl g1, ?_⟩
  intro y2 ey2
  have hv := hv y2 ey2
  obtain ⟨g3, hv⟩ := hv
  refine ⟨qok_mk rfl g3, ?_⟩
  intro y4 ey4
  have hv := hv y4 ey4
  refine ⟨rfl, ?_⟩
  refine ⟨rfl, ?_⟩
  obtain ⟨g5, hv⟩ := hv
  refine ⟨qok_mk rfl g5, ?_⟩
  obtain ⟨g6, hv⟩ := hv
  refine ⟨qok_mk rfl g6, ?_⟩
  obtain ⟨I7, eI7⟩ : ∃ z, z = qu I 62 ((0 : Int32)).toNatClampNeg ((if 0 ≤ (y4 - (I 10 (x3).toNatClampNeg)) then (y4 - (I 10 (x3).toNatClampNeg)) else 0 - (y4 - (I 10 (x3).toNatClampNeg))) + y2) := ⟨_, rfl⟩
  have hv := hv I7 eI7
  intro h7 eh7
  have eh7 : h7 = zH I7 J := by rw [eh7, eI7]; rfl
  subst eh7
  refine ⟨rfl, ?_⟩
  obtain ⟨g8, hv⟩ := hv
  refine ⟨qok_mk rfl g8, ?_⟩
  obtain ⟨I9, eI9⟩ : ∃ z, z = qu I7 62 ((1 : Int32)).toNatClampNeg y2 := ⟨_, rfl⟩
  have hv := hv I9 eI9
  intro h9 eh9
  have eh9 : h9 = zH I9 J := by rw [eh9, eI9]; rfl
  subst eh9
  refine ⟨rfl, ?_⟩
  obtain ⟨g10, hv⟩ := hv
  refine ⟨qok_mk rfl g10, ?_⟩
  obtain ⟨I11, eI11⟩ : ∃ z, z = qu I9 62 ((2 : Int32)).toNatClampNeg y4 := ⟨_, rfl⟩
  have hv := hv I11 eI11
  intro h11 eh11
  have eh11 : h11 = zH I11 J := by rw [eh11, eI11]; rfl
  subst eh11
  refine ⟨rfl, ?_⟩
  refine ⟨rfl, ?_⟩
  obtain ⟨g12, hv⟩ := hv
  refine ⟨qok_mk rfl g12, ?_⟩
  obtain ⟨g13, hv⟩ := hv
  refine ⟨qok_mk rfl g13, ?_⟩
  obtain ⟨I14, eI14⟩ : ∃ z, z = qu I11 62 ((3 : Int32)).toNatClampNeg (I11 12 (x2).toNatClampNeg) := ⟨_, rfl⟩
  have hv := hv I14 eI14
  intro h14 eh14
  have eh14 : h14 = zH I14 J := by rw [eh14, eI14]; rfl
  subst eh14
  refine ⟨rfl, ?_⟩
  refine ⟨rfl, ?_⟩
  obtain ⟨g15, hv⟩ := hv
  refine ⟨qok_mk rfl g15, ?_⟩
  obtain ⟨I16, eI16⟩ : ∃ z, z = qu I14 62 ((4 : Int32)).toNatClampNeg (I14 55 1) := ⟨_, rfl⟩
  have hv := hv I16 eI16
  intro h16 eh16
  have eh16 : h16 = zH I16 J := by rw [eh16, eI16]; rfl
  subst eh16
  refine ⟨rfl, ?_⟩
  refine ⟨rfl, ?_⟩
  obtain ⟨g17, hv⟩ := hv
  refine ⟨qok_mk rfl g17, ?_⟩
  obtain ⟨g18, hv⟩ := hv
  refine ⟨qok_mk rfl g18, ?_⟩
  obtain ⟨I19, eI19⟩ : ∃ z, z = qu I16 62 ((5 : Int32)).toNatClampNeg (I16 59 (x2).toNatClampNeg) := ⟨_, rfl⟩
  have hv := hv I19 eI19
  intro h19 eh19
  have eh19 : h19 = zH I19 J := by rw [eh19, eI19]; rfl
  subst eh19
  refine ⟨rfl, ?_⟩
  obtain ⟨g20, hv⟩ := hv
  refine ⟨qok_mk rfl g20, ?_⟩
  obtain ⟨I21, eI21⟩ : ∃ z, z = qu I19 62 ((6 : Int32)).toNatClampNeg x4 := ⟨_, rfl⟩
  have hv := hv I21 eI21
  intro h21 eh21
  have eh21 : h21 = zH I21 J := by rw [eh21, eI21]; rfl
  subst eh21
  refine ⟨rfl, ?_⟩
  obtain ⟨g22, hv⟩ := hv
  refine ⟨qok_mk rfl g22, ?_⟩
  obtain ⟨I23, eI23⟩ : ∃ z, z = qu I21 62 ((7 : Int32)).toNatClampNeg x2 := ⟨_, rfl⟩
  have hv := hv I23 eI23
  intro h23 eh23
  have eh23 : h23 = zH I23 J := by rw [eh23, eI23]; rfl
  subst eh23
  refine ⟨rfl, ?_⟩
  refine ⟨rfl, ?_⟩
  obtain ⟨g24, hv⟩ := hv
  refine ⟨qok_mk rfl g24, ?_⟩
  obtain ⟨g25, hv⟩ := hv
  refine ⟨qok_mk rfl g25, ?_⟩
  obtain ⟨I26, eI26⟩ : ∃ z, z = qu I23 62 ((8 : Int32)).toNatClampNeg (I23 9 (x3).toNatClampNeg) := ⟨_, rfl⟩
  have hv := hv I26 eI26
  intro h26 eh26
  have eh26 : h26 = zH I26 J := by rw [eh26, eI26]; rfl
  subst eh26
  exact hQ _ _ hv
theorem u_Reck_costAlone_c49 (N : Nat) (_x1 : Nat) (x2 : Int32) (x3 : Int32) (I : zI) (J : zJ) (Q : Int32 → zI → zJ → Prop) (Q' : Int32 → qH → Prop) (hQ : ∀ (r : Int32) (I : zI) (J : zJ), Q r I J → Q' r (zH I J)) (hv : v_Reck_costAlone N 49 x2 x3 I J Q) : w_Reck_costAlone N 61 49 x2 x3 (zH I J) Q' := by
  unfold w_Reck_costAlone
  unfold v_Reck_costAlone at hv
  refine ⟨rfl, ?_⟩
  refine u_Reck_lookAt_c49 N 49 x2 x3 (0 : Int32) I J _ _ (fun I1 J1 hv => ?_) hv
  refine ⟨rfl, ?_⟩
  refine u_Reck_lawTells N (3 : Int32) I1 J1 _ _ (fun r2 I3 J3 hv => ?_) hv
  exact hQ _ _ _ hv
theorem u_Reck_lookAtHung_c49 (N : Nat) (_x1 : Nat) (x2 : Int32) (I : zI) (J : zJ) (Q : zI → zJ → Prop) (Q' : qH → Prop) (hQ : ∀ (I : zI) (J : zJ), Q I J → Q' (zH I J)) (hv : v_Reck_lookAtHung N 49 x2 I J Q) : w_Reck_lookAtHung N 61 49 x2 (zH I J) Q' := by
  unfold w_Reck_lookAtHung
  unfold v_Reck_lookAtHung at hv
  refine ⟨rfl, ?_⟩
  refine u_State_isHung_c49 N 49 x2 I J _ _ (fun r1 I2 J2 hv => ?_) hv
  refine ⟨fun q3 => ?_, fun q3 => ?_⟩
  · have hv := hv.1 q3
    exact hQ _ _ hv
  · have hv := hv.2 q3
    refine ⟨rfl, ?_⟩
    obtain ⟨g4, hv⟩ := hv
    refine ⟨qok_mk rfl g4, ?_⟩
    refine u_State_othersBeside_c49 N 49 x2 I2 J2 _ _ (fun r5 I6 J6 hv => ?_) hv
    refine ⟨rfl, ?_⟩
    refine u_Reck_lookAt_c49 N 49 x2 (I2 51 (x2).toNatClampNeg) r5 I6 J6 _ _ (fun I7 J7 hv => ?_) hv
    exact hQ _ _ hv
theorem u_Reck_lookAtHung_c55 (N : Nat) (_x1 : Nat) (x2 : Int32) (I : zI) (J : zJ) (Q : zI → zJ → Prop) (Q' : qH → Prop) (hQ : ∀ (I : zI) (J : zJ), Q I J → Q' (zH I J)) (hv : v_Reck_lookAtHung N 55 x2 I J Q) : w_Reck_lookAtHung N 61 55 x2 (zH I J) Q' := by
  unfold w_Reck_lookAtHung
  unfold v_Reck_lookAtHung at hv
  refine ⟨rfl, ?_⟩
  refine u_State_isHung_c55 N 55 x2 I J _ _ (fun r1 I2 J2 hv => ?_) hv
  refine ⟨fun q3 => ?_, fun q3 => ?_⟩
  · have hv := hv.1 q3
    exact hQ _ _ hv
  · have hv := hv.2 q3
    refine ⟨rfl, ?_⟩
    obtain ⟨g4, hv⟩ := hv
    refine ⟨qok_mk rfl g4, ?_⟩
    refine u_State_othersBeside_c55 N 55 x2 I2 J2 _ _ (fun r5 I6 J6 hv => ?_) hv
    refine ⟨rfl, ?_⟩
    refine u_Reck_lookAt_c55 N 55 x2 (I2 57 (x2).toNatClampNeg) r5 I6 J6 _ _ (fun I7 J7 hv => ?_) hv
    exact hQ _ _ hv
theorem u_Reck_costOfAll_4_c49 (N k : Nat) (x2 : Int32) (x3 : Int32) (I : zI) (J : zJ) (Q : Int32 → zI → zJ → Prop) (Q' : Int32 → qH → Prop) (hQ : ∀ (r : Int32) (I : zI) (J : zJ), Q r I J → Q' r (zH I J)) (hv : v_Reck_costOfAll_4 N k 49 x2 x3 I J Q ) : w_Reck_costOfAll_4 N k 61 49 x2 x3 (zH I J) Q'  := by
  induction k generalizing x2 x3 I J with
  | zero => exact hv.elim
  | succ k ih =>
    rw [w_Reck_costOfAll_4]
    rw [v_Reck_costOfAll_4] at hv
    refine ⟨rfl, ?_⟩
    refine ⟨rfl, ?_⟩
    refine ⟨fun q1 => ?_, fun q1 => ?_⟩
    · have hv := hv.1 q1
      exact hQ _ _ _ hv
    · have hv := hv.2 q1
      refine ⟨rfl, ?_⟩
      refine u_State_isHung_c49 N 49 x3 I J _ _ (fun r2 I3 J3 hv => ?_) hv
      refine ⟨fun q4 => ?_, fun q4 => ?_⟩
      · have hv := hv.1 q4
        exact ih x2 (x3 + (1 : Int32)) I3 J3 hv
      · have hv := hv.2 q4
        refine ⟨rfl, ?_⟩
        refine u_Reck_lookAtHung_c49 N 49 x3 I3 J3 _ _ (fun I5 J5 hv => ?_) hv
        refine ⟨rfl, ?_⟩
        refine u_Reck_lawTells N (3 : Int32) I5 J5 _ _ (fun r6 I7 J7 hv => ?_) hv
        intro y8 ey8
        have hv := hv y8 ey8
        exact ih y8 (x3 + (1 : Int32)) I7 J7 hv
theorem u_Reck_costOfAll_c49 (N : Nat) (_x1 : Nat) (I : zI) (J : zJ) (Q : Int32 → zI → zJ → Prop) (Q' : Int32 → qH → Prop) (hQ : ∀ (r : Int32) (I : zI) (J : zJ), Q r I J → Q' r (zH I J)) (hv : v_Reck_costOfAll N 49 I J Q) : w_Reck_costOfAll N 61 49 (zH I J) Q' := by
  unfold w_Reck_costOfAll
  unfold v_Reck_costOfAll at hv
  exact u_Reck_costOfAll_4_c49 N N (0 : Int32) (0 : Int32) I J Q _ hQ   hv
theorem u_Reck_costOfAll_4_c55 (N k : Nat) (x2 : Int32) (x3 : Int32) (I : zI) (J : zJ) (Q : Int32 → zI → zJ → Prop) (Q' : Int32 → qH → Prop) (hQ : ∀ (r : Int32) (I : zI) (J : zJ), Q r I J → Q' r (zH I J)) (hv : v_Reck_costOfAll_4 N k 55 x2 x3 I J Q ) : w_Reck_costOfAll_4 N k 61 55 x2 x3 (zH I J) Q'  := by
  induction k generalizing x2 x3 I J with
  | zero => exact hv.elim
  | succ k ih =>
    rw [w_Reck_costOfAll_4]
    rw [v_Reck_costOfAll_4] at hv
    refine ⟨rfl, ?_⟩
    refine ⟨rfl, ?_⟩
    refine ⟨fun q1 => ?_, fun q1 => ?_⟩
    · have hv := hv.1 q1
      exact hQ _ _ _ hv
    · have hv := hv.2 q1
      refine ⟨rfl, ?_⟩
      refine u_State_isHung_c55 N 55 x3 I J _ _ (fun r2 I3 J3 hv => ?_) hv
      refine ⟨fun q4 => ?_, fun q4 => ?_⟩
      · have hv := hv.1 q4
        exact ih x2 (x3 + (1 : Int32)) I3 J3 hv
      · have hv := hv.2 q4
        refine ⟨rfl, ?_⟩
        refine u_Reck_lookAtHung_c55 N 55 x3 I3 J3 _ _ (fun I5 J5 hv => ?_) hv
        refine ⟨rfl, ?_⟩
        refine u_Reck_lawTells N (3 : Int32) I5 J5 _ _ (fun r6 I7 J7 hv => ?_) hv
        intro y8 ey8
        have hv := hv y8 ey8
        exact ih y8 (x3 + (1 : Int32)) I7 J7 hv
theorem u_Reck_costOfAll_c55 (N : Nat) (_x1 : Nat) (I : zI) (J : zJ) (Q : Int32 → zI → zJ → Prop) (Q' : Int32 → qH → Prop) (hQ : ∀ (r : Int32) (I : zI) (J : zJ), Q r I J → Q' r (zH I J)) (hv : v_Reck_costOfAll N 55 I J Q) : w_Reck_costOfAll N 61 55 (zH I J) Q' := by
  unfold w_Reck_costOfAll
  unfold v_Reck_costOfAll at hv
  exact u_Reck_costOfAll_4_c55 N N (0 : Int32) (0 : Int32) I J Q _ hQ   hv
theorem u_Night_crook_c49 (N : Nat) (_x1 : Nat) (x2 : Int32) (I : zI) (J : zJ) (Q : zI → zJ → Prop) (Q' : qH → Prop) (hQ : ∀ (I : zI) (J : zJ), Q I J → Q' (zH I J)) (hv : v_Night_crook N 49 x2 I J Q) : w_Night_crook N 64 49 x2 (zH I J) Q' := by
  unfold w_Night_crook
  unfold v_Night_crook at hv
  refine ⟨rfl, ?_⟩
  refine u_State_isHung_c49 N 49 x2 I J _ _ (fun r1 I2 J2 hv => ?_) hv
  refine ⟨fun q3 => ?_, fun q3 => ?_⟩
  · have hv := hv.1 q3
    refine ⟨rfl, ?_⟩
    obtain ⟨g4, hv⟩ := hv
    refine ⟨qok_mk rfl g4, ?_⟩
    intro y5 ey5
    have hv := hv y5 ey5
    refine ⟨rfl, ?_⟩
    refine u_State_othersBeside_c49 N 49 x2 I2 J2 _ _ (fun r6 I7 J7 hv => ?_) hv
    refine ⟨rfl, ?_⟩
    refine u_Reck_lookAt_c49 N 49 x2 y5 r6 I7 J7 _ _ (fun I8 J8 hv => ?_) hv
    refine ⟨rfl, ?_⟩
    refine ⟨rfl, ?_⟩
    refine u_Reck_lawTells N (2 : Int32) I8 J8 _ _ (fun r9 I10 J10 hv => ?_) hv
    obtain ⟨g11, hv⟩ := hv
    refine ⟨qok_mk rfl g11, ?_⟩
    obtain ⟨I12, eI12⟩ : ∃ z, z = qu I10 65 (x2).toNatClampNeg r9 := ⟨_, rfl⟩
    have hv := hv I12 eI12
    intro h12 eh12
    have eh12 : h12 = zH I12 J10 := by rw [eh12, eI12]; rfl
    subst eh12
    refine ⟨rfl, ?_⟩
    obtain ⟨g13, hv⟩ := hv
    refine ⟨qok_mk rfl g13, ?_⟩
    refine ⟨rfl, ?_⟩
    refine ⟨rfl, ?_⟩
    refine u_Reck_lawTells N (0 : Int32) I12 J10 _ _ (fun r14 I15 J15 hv => ?_) hv
    obtain ⟨g16, hv⟩ := hv
    refine ⟨qok_mk rfl g16, ?_⟩
    obtain ⟨I17, eI17⟩ : ∃ z, z = qu I15 53 (x2).toNatClampNeg (if ((I12 53 (x2).toNatClampNeg) + r14) < (999 : Int32) then ((I12 53 (x2).toNatClampNeg) + r14) else (999 : Int32)) := ⟨_, rfl⟩
    have hv := hv I17 eI17
    intro h17 eh17
    have eh17 : h17 = zH I17 J15 := by rw [eh17, eI17]; rfl
    subst eh17
    refine ⟨rfl, ?_⟩
    obtain ⟨g18, hv⟩ := hv
    refine ⟨qok_mk rfl g18, ?_⟩
    refine ⟨rfl, ?_⟩
    refine ⟨rfl, ?_⟩
    refine u_Reck_lawTells N (1 : Int32) I17 J15 _ _ (fun r19 I20 J20 hv => ?_) hv
    obtain ⟨g21, hv⟩ := hv
    refine ⟨qok_mk rfl g21, ?_⟩
    obtain ⟨I22, eI22⟩ : ∃ z, z = qu I20 54 (y5).toNatClampNeg (if ((I17 54 (y5).toNatClampNeg) + r19) < (99 : Int32) then ((I17 54 (y5).toNatClampNeg) + r19) else (99 : Int32)) := ⟨_, rfl⟩
    have hv := hv I22 eI22
    intro h22 eh22
    have eh22 : h22 = zH I22 J20 := by rw [eh22, eI22]; rfl
    subst eh22
    exact hQ _ _ hv
  · have hv := hv.2 q3
    refine ⟨rfl, ?_⟩
    obtain ⟨g23, hv⟩ := hv
    refine ⟨qok_mk rfl g23, ?_⟩
    obtain ⟨I24, eI24⟩ : ∃ z, z = qu I2 53 (x2).toNatClampNeg (0 : Int32) := ⟨_, rfl⟩
    have hv := hv I24 eI24
    intro h24 eh24
    have eh24 : h24 = zH I24 J2 := by rw [eh24, eI24]; rfl
    subst eh24
    refine ⟨rfl, ?_⟩
    obtain ⟨g25, hv⟩ := hv
    refine ⟨qok_mk rfl g25, ?_⟩
    obtain ⟨I26, eI26⟩ : ∃ z, z = qu I24 65 (x2).toNatClampNeg (0 : Int32) := ⟨_, rfl⟩
    have hv := hv I26 eI26
    intro h26 eh26
    have eh26 : h26 = zH I26 J2 := by rw [eh26, eI26]; rfl
    subst eh26
    exact hQ _ _ hv
theorem u_Night_crook_c55 (N : Nat) (_x1 : Nat) (x2 : Int32) (I : zI) (J : zJ) (Q : zI → zJ → Prop) (Q' : qH → Prop) (hQ : ∀ (I : zI) (J : zJ), Q I J → Q' (zH I J)) (hv : v_Night_crook N 55 x2 I J Q) : w_Night_crook N 64 55 x2 (zH I J) Q' := by
  unfold w_Night_crook
  unfold v_Night_crook at hv
  refine ⟨rfl, ?_⟩
  refine u_State_isHung_c55 N 55 x2 I J _ _ (fun r1 I2 J2 hv => ?_) hv
  refine ⟨fun q3 => ?_, fun q3 => ?_⟩
  · have hv := hv.1 q3
    refine ⟨rfl, ?_⟩
    obtain ⟨g4, hv⟩ := hv
    refine ⟨qok_mk rfl g4, ?_⟩
    intro y5 ey5
    have hv := hv y5 ey5
    refine ⟨rfl, ?_⟩
    refine u_State_othersBeside_c55 N 55 x2 I2 J2 _ _ (fun r6 I7 J7 hv => ?_) hv
    refine ⟨rfl, ?_⟩
    refine u_Reck_lookAt_c55 N 55 x2 y5 r6 I7 J7 _ _ (fun I8 J8 hv => ?_) hv
    refine ⟨rfl, ?_⟩
    refine ⟨rfl, ?_⟩
    refine u_Reck_lawTells N (2 : Int32) I8 J8 _ _ (fun r9 I10 J10 hv => ?_) hv
    obtain ⟨g11, hv⟩ := hv
    refine ⟨qok_mk rfl g11, ?_⟩
    obtain ⟨I12, eI12⟩ : ∃ z, z = qu I10 65 (x2).toNatClampNeg r9 := ⟨_, rfl⟩
    have hv := hv I12 eI12
    intro h12 eh12
    have eh12 : h12 = zH I12 J10 := by rw [eh12, eI12]; rfl
    subst eh12
    refine ⟨rfl, ?_⟩
    obtain ⟨g13, hv⟩ := hv
    refine ⟨qok_mk rfl g13, ?_⟩
    refine ⟨rfl, ?_⟩
    refine ⟨rfl, ?_⟩
    refine u_Reck_lawTells N (0 : Int32) I12 J10 _ _ (fun r14 I15 J15 hv => ?_) hv
    obtain ⟨g16, hv⟩ := hv
    refine ⟨qok_mk rfl g16, ?_⟩
    obtain ⟨I17, eI17⟩ : ∃ z, z = qu I15 59 (x2).toNatClampNeg (if ((I12 59 (x2).toNatClampNeg) + r14) < (999 : Int32) then ((I12 59 (x2).toNatClampNeg) + r14) else (999 : Int32)) := ⟨_, rfl⟩
    have hv := hv I17 eI17
    intro h17 eh17
    have eh17 : h17 = zH I17 J15 := by rw [eh17, eI17]; rfl
    subst eh17
    refine ⟨rfl, ?_⟩
    obtain ⟨g18, hv⟩ := hv
    refine ⟨qok_mk rfl g18, ?_⟩
    refine ⟨rfl, ?_⟩
    refine ⟨rfl, ?_⟩
    refine u_Reck_lawTells N (1 : Int32) I17 J15 _ _ (fun r19 I20 J20 hv => ?_) hv
    obtain ⟨g21, hv⟩ := hv
    refine ⟨qok_mk rfl g21, ?_⟩
    obtain ⟨I22, eI22⟩ : ∃ z, z = qu I20 60 (y5).toNatClampNeg (if ((I17 60 (y5).toNatClampNeg) + r19) < (99 : Int32) then ((I17 60 (y5).toNatClampNeg) + r19) else (99 : Int32)) := ⟨_, rfl⟩
    have hv := hv I22 eI22
    intro h22 eh22
    have eh22 : h22 = zH I22 J20 := by rw [eh22, eI22]; rfl
    subst eh22
    exact hQ _ _ hv
  · have hv := hv.2 q3
    refine ⟨rfl, ?_⟩
    obtain ⟨g23, hv⟩ := hv
    refine ⟨qok_mk rfl g23, ?_⟩
    obtain ⟨I24, eI24⟩ : ∃ z, z = qu I2 59 (x2).toNatClampNeg (0 : Int32) := ⟨_, rfl⟩
    have hv := hv I24 eI24
    intro h24 eh24
    have eh24 : h24 = zH I24 J2 := by rw [eh24, eI24]; rfl
    subst eh24
    refine ⟨rfl, ?_⟩
    obtain ⟨g25, hv⟩ := hv
    refine ⟨qok_mk rfl g25, ?_⟩
    obtain ⟨I26, eI26⟩ : ∃ z, z = qu I24 65 (x2).toNatClampNeg (0 : Int32) := ⟨_, rfl⟩
    have hv := hv I26 eI26
    intro h26 eh26
    have eh26 : h26 = zH I26 J2 := by rw [eh26, eI26]; rfl
    subst eh26
    exact hQ _ _ hv
theorem u_Night_mixed (N : Nat) (x0 : Int32) (x1 : Int32) (I : zI) (J : zJ) (Q : Int32 → zI → zJ → Prop) (Q' : Int32 → qH → Prop) (hQ : ∀ (r : Int32) (I : zI) (J : zJ), Q r I J → Q' r (zH I J)) (hv : v_Night_mixed N x0 x1 I J Q) : w_Night_mixed N x0 x1 (zH I J) Q' := by
  unfold w_Night_mixed
  unfold v_Night_mixed at hv
  intro y1 ey1
  have hv := hv y1 ey1
  exact hQ _ _ _ hv
theorem u_Night_lot (N : Nat) (x0 : Int32) (x1 : Int32) (x2 : Int32) (I : zI) (J : zJ) (Q : Int32 → zI → zJ → Prop) (Q' : Int32 → qH → Prop) (hQ : ∀ (r : Int32) (I : zI) (J : zJ), Q r I J → Q' r (zH I J)) (hv : v_Night_lot N x0 x1 x2 I J Q) : w_Night_lot N x0 x1 x2 (zH I J) Q' := by
  unfold w_Night_lot
  unfold v_Night_lot at hv
  refine u_Night_mixed N x1 (159 : Int32) I J _ _ (fun r1 I2 J2 hv => ?_) hv
  refine u_Night_mixed N r1 x2 I2 J2 _ _ (fun r3 I4 J4 hv => ?_) hv
  refine ⟨fun q5 => ?_, fun q5 => ?_⟩
  · have hv := hv.1 q5
    exact hQ _ _ _ hv
  · have hv := hv.2 q5
    obtain ⟨g6, hv⟩ := hv
    refine ⟨g6, ?_⟩
    exact hQ _ _ _ hv
theorem u_Night_hasMoth (N : Nat) (x1 : Int32) (x2 : Int32) (I : zI) (J : zJ) (Q : Int32 → zI → zJ → Prop) (Q' : Int32 → qH → Prop) (hQ : ∀ (r : Int32) (I : zI) (J : zJ), Q r I J → Q' r (zH I J)) (hv : v_Night_hasMoth N x1 x2 I J Q) : w_Night_hasMoth N 64 x1 x2 (zH I J) Q' := by
  unfold w_Night_hasMoth
  unfold v_Night_hasMoth at hv
  refine u_Night_lot N (100 : Int32) x1 (((16 : Int32) * x2) + (8 : Int32)) I J _ _ (fun r1 I2 J2 hv => ?_) hv
  refine ⟨rfl, ?_⟩
  refine ⟨rfl, ?_⟩
  refine ⟨fun q3 => ?_, fun q3 => ?_⟩
  · have hv := hv.1 q3
    exact ⟨Or.inl rfl, hQ _ _ _ hv⟩
  · have hv := hv.2 q3
    exact ⟨Or.inr rfl, hQ _ _ _ hv⟩
theorem u_Night_letMothEat_c49 (N : Nat) (_x1 : Nat) (x2 : Int32) (I : zI) (J : zJ) (Q : zI → zJ → Prop) (Q' : qH → Prop) (hQ : ∀ (I : zI) (J : zJ), Q I J → Q' (zH I J)) (hv : v_Night_letMothEat N 49 x2 I J Q) : w_Night_letMothEat N 64 49 x2 (zH I J) Q' := by
  unfold w_Night_letMothEat
  unfold v_Night_letMothEat at hv
  refine ⟨rfl, ?_⟩
  refine ⟨rfl, ?_⟩
  refine ⟨fun q1 => ?_, fun q1 => ?_⟩
  · have hv := hv.1 q1
    exact hQ _ _ hv
  · have hv := hv.2 q1
    refine ⟨rfl, ?_⟩
    refine u_Night_hasMoth N x2 (I 49 1) I J _ _ (fun r2 I3 J3 hv => ?_) hv
    refine ⟨fun q4 => ?_, fun q4 => ?_⟩
    · have hv := hv.1 q4
      exact hQ _ _ hv
    · have hv := hv.2 q4
      refine ⟨rfl, ?_⟩
      refine ⟨rfl, ?_⟩
      refine ⟨rfl, ?_⟩
      refine u_Night_lot N (I3 8 3) x2 (((16 : Int32) * (I3 49 1)) + (9 : Int32)) I3 J3 _ _ (fun r5 I6 J6 hv => ?_) hv
      refine ⟨rfl, ?_⟩
      obtain ⟨g7, hv⟩ := hv
      refine ⟨qok_mk rfl g7, ?_⟩
      obtain ⟨I8, eI8⟩ : ∃ z, z = qu I6 50 (r5).toNatClampNeg (if (0 : Int32) < ((I6 50 (r5).toNatClampNeg) - (1 : Int32)) then ((I6 50 (r5).toNatClampNeg) - (1 : Int32)) else (0 : Int32)) := ⟨_, rfl⟩
      have hv := hv I8 eI8
      intro h8 eh8
      have eh8 : h8 = zH I8 J6 := by rw [eh8, eI8]; rfl
      subst eh8
      exact hQ _ _ hv
theorem u_Night_letMothEat_c55 (N : Nat) (_x1 : Nat) (x2 : Int32) (I : zI) (J : zJ) (Q : zI → zJ → Prop) (Q' : qH → Prop) (hQ : ∀ (I : zI) (J : zJ), Q I J → Q' (zH I J)) (hv : v_Night_letMothEat N 55 x2 I J Q) : w_Night_letMothEat N 64 55 x2 (zH I J) Q' := by
  unfold w_Night_letMothEat
  unfold v_Night_letMothEat at hv
  refine ⟨rfl, ?_⟩
  refine ⟨rfl, ?_⟩
  refine ⟨fun q1 => ?_, fun q1 => ?_⟩
  · have hv := hv.1 q1
    exact hQ _ _ hv
  · have hv := hv.2 q1
    refine ⟨rfl, ?_⟩
    refine u_Night_hasMoth N x2 (I 55 1) I J _ _ (fun r2 I3 J3 hv => ?_) hv
    refine ⟨fun q4 => ?_, fun q4 => ?_⟩
    · have hv := hv.1 q4
      exact hQ _ _ hv
    · have hv := hv.2 q4
      refine ⟨rfl, ?_⟩
      refine ⟨rfl, ?_⟩
      refine ⟨rfl, ?_⟩
      refine u_Night_lot N (I3 8 3) x2 (((16 : Int32) * (I3 55 1)) + (9 : Int32)) I3 J3 _ _ (fun r5 I6 J6 hv => ?_) hv
      refine ⟨rfl, ?_⟩
      obtain ⟨g7, hv⟩ := hv
      refine ⟨qok_mk rfl g7, ?_⟩
      obtain ⟨I8, eI8⟩ : ∃ z, z = qu I6 56 (r5).toNatClampNeg (if (0 : Int32) < ((I6 56 (r5).toNatClampNeg) - (1 : Int32)) then ((I6 56 (r5).toNatClampNeg) - (1 : Int32)) else (0 : Int32)) := ⟨_, rfl⟩
      have hv := hv I8 eI8
      intro h8 eh8
      have eh8 : h8 = zH I8 J6 := by rw [eh8, eI8]; rfl
      subst eh8
      exact hQ _ _ hv
theorem u_Night_letSlip_2_c49 (N k : Nat) (x2 : Int32) (x3 : Int32) (I : zI) (J : zJ) (Q : zI → zJ → Prop) (Q' : qH → Prop) (hQ : ∀ (I : zI) (J : zJ), Q I J → Q' (zH I J)) (hv : v_Night_letSlip_2 N k 49 x2 x3 I J Q ) : w_Night_letSlip_2 N k 64 49 x2 x3 (zH I J) Q'  := by
  induction k generalizing x2 x3 I J with
  | zero => exact hv.elim
  | succ k ih =>
    rw [w_Night_letSlip_2]
    rw [v_Night_letSlip_2] at hv
    refine ⟨rfl, ?_⟩
    refine ⟨rfl, ?_⟩
    refine ⟨fun q1 => ?_, fun q1 => ?_⟩
    · have hv := hv.1 q1
      exact hQ _ _ hv
    · have hv := hv.2 q1
      refine ⟨rfl, ?_⟩
      refine u_Night_lot N (100 : Int32) x2 (((16 : Int32) * (I 49 1)) + x3) I J _ _ (fun r2 I3 J3 hv => ?_) hv
      refine ⟨rfl, ?_⟩
      obtain ⟨g4, hv⟩ := hv
      refine ⟨qok_mk rfl g4, ?_⟩
      refine ⟨fun q5 => ?_, fun q5 => ?_⟩
      · have hv := hv.1 q5
        exact ih x2 (x3 + (1 : Int32)) I3 J3 hv
      · have hv := hv.2 q5
        refine ⟨rfl, ?_⟩
        obtain ⟨g6, hv⟩ := hv
        refine ⟨qok_mk rfl g6, ?_⟩
        obtain ⟨I7, eI7⟩ : ∃ z, z = qu I3 51 (x3).toNatClampNeg (-2 : Int32) := ⟨_, rfl⟩
        have hv := hv I7 eI7
        intro h7 eh7
        have eh7 : h7 = zH I7 J3 := by rw [eh7, eI7]; rfl
        subst eh7
        exact ih x2 (x3 + (1 : Int32)) I7 J3 hv
theorem u_Night_letSlip_c49 (N : Nat) (_x1 : Nat) (x2 : Int32) (I : zI) (J : zJ) (Q : zI → zJ → Prop) (Q' : qH → Prop) (hQ : ∀ (I : zI) (J : zJ), Q I J → Q' (zH I J)) (hv : v_Night_letSlip N 49 x2 I J Q) : w_Night_letSlip N 64 49 x2 (zH I J) Q' := by
  unfold w_Night_letSlip
  unfold v_Night_letSlip at hv
  exact u_Night_letSlip_2_c49 N N x2 (0 : Int32) I J Q _ hQ   hv
theorem u_Night_letSlip_2_c55 (N k : Nat) (x2 : Int32) (x3 : Int32) (I : zI) (J : zJ) (Q : zI → zJ → Prop) (Q' : qH → Prop) (hQ : ∀ (I : zI) (J : zJ), Q I J → Q' (zH I J)) (hv : v_Night_letSlip_2 N k 55 x2 x3 I J Q ) : w_Night_letSlip_2 N k 64 55 x2 x3 (zH I J) Q'  := by
  induction k generalizing x2 x3 I J with
  | zero => exact hv.elim
  | succ k ih =>
    rw [w_Night_letSlip_2]
    rw [v_Night_letSlip_2] at hv
    refine ⟨rfl, ?_⟩
    refine ⟨rfl, ?_⟩
    refine ⟨fun q1 => ?_, fun q1 => ?_⟩
    · have hv := hv.1 q1
      exact hQ _ _ hv
    · have hv := hv.2 q1
      refine ⟨rfl, ?_⟩
      refine u_Night_lot N (100 : Int32) x2 (((16 : Int32) * (I 55 1)) + x3) I J _ _ (fun r2 I3 J3 hv => ?_) hv
      refine ⟨rfl, ?_⟩
      obtain ⟨g4, hv⟩ := hv
      refine ⟨qok_mk rfl g4, ?_⟩
      refine ⟨fun q5 => ?_, fun q5 => ?_⟩
      · have hv := hv.1 q5
        exact ih x2 (x3 + (1 : Int32)) I3 J3 hv
      · have hv := hv.2 q5
        refine ⟨rfl, ?_⟩
        obtain ⟨g6, hv⟩ := hv
        refine ⟨qok_mk rfl g6, ?_⟩
        obtain ⟨I7, eI7⟩ : ∃ z, z = qu I3 57 (x3).toNatClampNeg (-2 : Int32) := ⟨_, rfl⟩
        have hv := hv I7 eI7
        intro h7 eh7
        have eh7 : h7 = zH I7 J3 := by rw [eh7, eI7]; rfl
        subst eh7
        exact ih x2 (x3 + (1 : Int32)) I7 J3 hv
theorem u_Night_letSlip_c55 (N : Nat) (_x1 : Nat) (x2 : Int32) (I : zI) (J : zJ) (Q : zI → zJ → Prop) (Q' : qH → Prop) (hQ : ∀ (I : zI) (J : zJ), Q I J → Q' (zH I J)) (hv : v_Night_letSlip N 55 x2 I J Q) : w_Night_letSlip N 64 55 x2 (zH I J) Q' := by
  unfold w_Night_letSlip
  unfold v_Night_letSlip at hv
  exact u_Night_letSlip_2_c55 N N x2 (0 : Int32) I J Q _ hQ   hv
theorem u_Night_wakeOnNail_10_c49 (N k : Nat) (x2 : Int32) (x3 : Int32) (x4 : Int32) (x5 : Int32) (I : zI) (J : zJ) (Q : zI → zJ → Prop) (Q' : qH → Prop) (hQ : ∀ (I : zI) (J : zJ), Q I J → Q' (zH I J)) (K72 : Int32 → Int32 → zI → zJ → Prop) (K72' : Nat → Int32 → Int32 → qH → Prop) (hK72 : ∀ (x3 : Int32) (x4 : Int32) (I : zI) (J : zJ), K72 x3 x4 I J → K72' 49 x3 x4 (zH I J)) (hv : v_Night_wakeOnNail_10 N k 49 x2 x3 x4 x5 I J Q K72) : w_Night_wakeOnNail_10 N k 64 49 x2 x3 x4 x5 (zH I J) Q' K72' := by
  induction k generalizing x2 x3 x4 x5 I J with
  | zero => exact hv.elim
  | succ k ih =>
    rw [w_Night_wakeOnNail_10]
    rw [v_Night_wakeOnNail_10] at hv
    refine ⟨rfl, ?_⟩
    refine ⟨rfl, ?_⟩
    refine ⟨fun q1 => ?_, fun q1 => ?_⟩
    · have hv := hv.1 q1
      exact hK72 x3 x4 I J hv
    · have hv := hv.2 q1
      refine ⟨rfl, ?_⟩
      refine u_State_nailOf_c49 N 49 x5 I J _ _ (fun r2 I3 J3 hv => ?_) hv
      refine ⟨fun q4 => ?_, fun q4 => ?_⟩
      · have hv := hv.1 q4
        exact ih x2 x3 x4 (x5 + (1 : Int32)) I3 J3 hv
      · have hv := hv.2 q4
        refine ⟨fun q5 => ?_, fun q5 => ?_⟩
        · have hv := hv.1 q5
          refine ⟨rfl, ?_⟩
          obtain ⟨g6, hv⟩ := hv
          refine ⟨qok_mk rfl g6, ?_⟩
          obtain ⟨g7, hv⟩ := hv
          refine ⟨qok_mk rfl g7, ?_⟩
          obtain ⟨I8, eI8⟩ : ∃ z, z = qu I3 52 (x3).toNatClampNeg (I3 52 (x5).toNatClampNeg) := ⟨_, rfl⟩
          have hv := hv I8 eI8
          intro h8 eh8
          have eh8 : h8 = zH I8 J3 := by rw [eh8, eI8]; rfl
          subst eh8
          exact ih x2 x5 x4 (x5 + (1 : Int32)) I8 J3 hv
        · have hv := hv.2 q5
          refine ⟨rfl, ?_⟩
          obtain ⟨g9, hv⟩ := hv
          refine ⟨qok_mk rfl g9, ?_⟩
          intro y10 ey10
          have hv := hv y10 ey10
          exact ih x2 x5 y10 (x5 + (1 : Int32)) I3 J3 hv
theorem u_Night_wakeOnNail_c49 (N : Nat) (_x1 : Nat) (x2 : Int32) (I : zI) (J : zJ) (Q : zI → zJ → Prop) (Q' : qH → Prop) (hQ : ∀ (I : zI) (J : zJ), Q I J → Q' (zH I J)) (hv : v_Night_wakeOnNail N 49 x2 I J Q) : w_Night_wakeOnNail N 64 49 x2 (zH I J) Q' := by
  unfold w_Night_wakeOnNail
  unfold v_Night_wakeOnNail at hv
  refine u_Night_wakeOnNail_10_c49 N N x2 (-2 : Int32) (-2 : Int32) (0 : Int32) I J Q _ hQ _ _ (fun w1 w2 I3 J3 hv => ?_)  hv
  refine ⟨fun q4 => ?_, fun q4 => ?_⟩
  · have hv := hv.1 q4
    exact hQ _ _ hv
  · have hv := hv.2 q4
    refine ⟨rfl, ?_⟩
    obtain ⟨g5, hv⟩ := hv
    refine ⟨qok_mk rfl g5, ?_⟩
    obtain ⟨I6, eI6⟩ : ∃ z, z = qu I3 52 (w1).toNatClampNeg w2 := ⟨_, rfl⟩
    have hv := hv I6 eI6
    intro h6 eh6
    have eh6 : h6 = zH I6 J3 := by rw [eh6, eI6]; rfl
    subst eh6
    exact hQ _ _ hv
theorem u_Night_wakeOnNail_10_c55 (N k : Nat) (x2 : Int32) (x3 : Int32) (x4 : Int32) (x5 : Int32) (I : zI) (J : zJ) (Q : zI → zJ → Prop) (Q' : qH → Prop) (hQ : ∀ (I : zI) (J : zJ), Q I J → Q' (zH I J)) (K72 : Int32 → Int32 → zI → zJ → Prop) (K72' : Nat → Int32 → Int32 → qH → Prop) (hK72 : ∀ (x3 : Int32) (x4 : Int32) (I : zI) (J : zJ), K72 x3 x4 I J → K72' 55 x3 x4 (zH I J)) (hv : v_Night_wakeOnNail_10 N k 55 x2 x3 x4 x5 I J Q K72) : w_Night_wakeOnNail_10 N k 64 55 x2 x3 x4 x5 (zH I J) Q' K72' := by
  induction k generalizing x2 x3 x4 x5 I J with
  | zero => exact hv.elim
  | succ k ih =>
    rw [w_Night_wakeOnNail_10]
    rw [v_Night_wakeOnNail_10] at hv
    refine ⟨rfl, ?_⟩
    refine ⟨rfl, ?_⟩
    refine ⟨fun q1 => ?_, fun q1 => ?_⟩
    · have hv := hv.1 q1
      exact hK72 x3 x4 I J hv
    · have hv := hv.2 q1
      refine ⟨rfl, ?_⟩
      refine u_State_nailOf_c55 N 55 x5 I J _ _ (fun r2 I3 J3 hv => ?_) hv
      refine ⟨fun q4 => ?_, fun q4 => ?_⟩
      · have hv := hv.1 q4
        exact ih x2 x3 x4 (x5 + (1 : Int32)) I3 J3 hv
      · have hv := hv.2 q4
        refine ⟨fun q5 => ?_, fun q5 => ?_⟩
        · have hv := hv.1 q5
          refine ⟨rfl, ?_⟩
          obtain ⟨g6, hv⟩ := hv
          refine ⟨qok_mk rfl g6, ?_⟩
          obtain ⟨g7, hv⟩ := hv
          refine ⟨qok_mk rfl g7, ?_⟩
          obtain ⟨I8, eI8⟩ : ∃ z, z = qu I3 58 (x3).toNatClampNeg (I3 58 (x5).toNatClampNeg) := ⟨_, rfl⟩
          have hv := hv I8 eI8
          intro h8 eh8
          have eh8 : h8 = zH I8 J3 := by rw [eh8, eI8]; rfl
          subst eh8
          exact ih x2 x5 x4 (x5 + (1 : Int32)) I8 J3 hv
        · have hv := hv.2 q5
          refine ⟨rfl, ?_⟩
          obtain ⟨g9, hv⟩ := hv
          refine ⟨qok_mk rfl g9, ?_⟩
          intro y10 ey10
          have hv := hv y10 ey10
          exact ih x2 x5 y10 (x5 + (1 : Int32)) I3 J3 hv
theorem u_Night_wakeOnNail_c55 (N : Nat) (_x1 : Nat) (x2 : Int32) (I : zI) (J : zJ) (Q : zI → zJ → Prop) (Q' : qH → Prop) (hQ : ∀ (I : zI) (J : zJ), Q I J → Q' (zH I J)) (hv : v_Night_wakeOnNail N 55 x2 I J Q) : w_Night_wakeOnNail N 64 55 x2 (zH I J) Q' := by
  unfold w_Night_wakeOnNail
  unfold v_Night_wakeOnNail at hv
  refine u_Night_wakeOnNail_10_c55 N N x2 (-2 : Int32) (-2 : Int32) (0 : Int32) I J Q _ hQ _ _ (fun w1 w2 I3 J3 hv => ?_)  hv
  refine ⟨fun q4 => ?_, fun q4 => ?_⟩
  · have hv := hv.1 q4
    exact hQ _ _ hv
  · have hv := hv.2 q4
    refine ⟨rfl, ?_⟩
    obtain ⟨g5, hv⟩ := hv
    refine ⟨qok_mk rfl g5, ?_⟩
    obtain ⟨I6, eI6⟩ : ∃ z, z = qu I3 58 (w1).toNatClampNeg w2 := ⟨_, rfl⟩
    have hv := hv I6 eI6
    intro h6 eh6
    have eh6 : h6 = zH I6 J3 := by rw [eh6, eI6]; rfl
    subst eh6
    exact hQ _ _ hv
theorem u_Night_wakeOnNail_10_c94 (N k : Nat) (x2 : Int32) (x3 : Int32) (x4 : Int32) (x5 : Int32) (I : zI) (J : zJ) (Q : zI → zJ → Prop) (Q' : qH → Prop) (hQ : ∀ (I : zI) (J : zJ), Q I J → Q' (zH I J)) (K72 : Int32 → Int32 → zI → zJ → Prop) (K72' : Nat → Int32 → Int32 → qH → Prop) (hK72 : ∀ (x3 : Int32) (x4 : Int32) (I : zI) (J : zJ), K72 x3 x4 I J → K72' 94 x3 x4 (zH I J)) (hv : v_Night_wakeOnNail_10 N k 94 x2 x3 x4 x5 I J Q K72) : w_Night_wakeOnNail_10 N k 64 94 x2 x3 x4 x5 (zH I J) Q' K72' := by
  induction k generalizing x2 x3 x4 x5 I J with
  | zero => exact hv.elim
  | succ k ih =>
    rw [w_Night_wakeOnNail_10]
    rw [v_Night_wakeOnNail_10] at hv
    refine ⟨rfl, ?_⟩
    refine ⟨rfl, ?_⟩
    refine ⟨fun q1 => ?_, fun q1 => ?_⟩
    · have hv := hv.1 q1
      exact hK72 x3 x4 I J hv
    · have hv := hv.2 q1
      refine ⟨rfl, ?_⟩
      refine u_State_nailOf_c94 N 94 x5 I J _ _ (fun r2 I3 J3 hv => ?_) hv
      refine ⟨fun q4 => ?_, fun q4 => ?_⟩
      · have hv := hv.1 q4
        exact ih x2 x3 x4 (x5 + (1 : Int32)) I3 J3 hv
      · have hv := hv.2 q4
        refine ⟨fun q5 => ?_, fun q5 => ?_⟩
        · have hv := hv.1 q5
          refine ⟨rfl, ?_⟩
          obtain ⟨g6, hv⟩ := hv
          refine ⟨qok_mk rfl g6, ?_⟩
          obtain ⟨g7, hv⟩ := hv
          refine ⟨qok_mk rfl g7, ?_⟩
          obtain ⟨I8, eI8⟩ : ∃ z, z = qu I3 97 (x3).toNatClampNeg (I3 97 (x5).toNatClampNeg) := ⟨_, rfl⟩
          have hv := hv I8 eI8
          intro h8 eh8
          have eh8 : h8 = zH I8 J3 := by rw [eh8, eI8]; rfl
          subst eh8
          exact ih x2 x5 x4 (x5 + (1 : Int32)) I8 J3 hv
        · have hv := hv.2 q5
          refine ⟨rfl, ?_⟩
          obtain ⟨g9, hv⟩ := hv
          refine ⟨qok_mk rfl g9, ?_⟩
          intro y10 ey10
          have hv := hv y10 ey10
          exact ih x2 x5 y10 (x5 + (1 : Int32)) I3 J3 hv
theorem u_Night_wakeOnNail_c94 (N : Nat) (_x1 : Nat) (x2 : Int32) (I : zI) (J : zJ) (Q : zI → zJ → Prop) (Q' : qH → Prop) (hQ : ∀ (I : zI) (J : zJ), Q I J → Q' (zH I J)) (hv : v_Night_wakeOnNail N 94 x2 I J Q) : w_Night_wakeOnNail N 64 94 x2 (zH I J) Q' := by
  unfold w_Night_wakeOnNail
  unfold v_Night_wakeOnNail at hv
  refine u_Night_wakeOnNail_10_c94 N N x2 (-2 : Int32) (-2 : Int32) (0 : Int32) I J Q _ hQ _ _ (fun w1 w2 I3 J3 hv => ?_)  hv
  refine ⟨fun q4 => ?_, fun q4 => ?_⟩
  · have hv := hv.1 q4
    exact hQ _ _ hv
  · have hv := hv.2 q4
    refine ⟨rfl, ?_⟩
    obtain ⟨g5, hv⟩ := hv
    refine ⟨qok_mk rfl g5, ?_⟩
    obtain ⟨I6, eI6⟩ : ∃ z, z = qu I3 97 (w1).toNatClampNeg w2 := ⟨_, rfl⟩
    have hv := hv I6 eI6
    intro h6 eh6
    have eh6 : h6 = zH I6 J3 := by rw [eh6, eI6]; rfl
    subst eh6
    exact hQ _ _ hv
theorem u_Night_wakeAll_2_c49 (N k : Nat) (x2 : Int32) (I : zI) (J : zJ) (Q : zI → zJ → Prop) (Q' : qH → Prop) (hQ : ∀ (I : zI) (J : zJ), Q I J → Q' (zH I J)) (hv : v_Night_wakeAll_2 N k 49 x2 I J Q ) : w_Night_wakeAll_2 N k 64 49 x2 (zH I J) Q'  := by
  induction k generalizing x2 I J with
  | zero => exact hv.elim
  | succ k ih =>
    rw [w_Night_wakeAll_2]
    rw [v_Night_wakeAll_2] at hv
    refine ⟨fun q1 => ?_, fun q1 => ?_⟩
    · have hv := hv.1 q1
      exact hQ _ _ hv
    · have hv := hv.2 q1
      refine ⟨rfl, ?_⟩
      refine u_Night_wakeOnNail_c49 N 49 x2 I J _ _ (fun I2 J2 hv => ?_) hv
      exact ih (x2 + (1 : Int32)) I2 J2 hv
theorem u_Night_wakeAll_c49 (N : Nat) (_x1 : Nat) (I : zI) (J : zJ) (Q : zI → zJ → Prop) (Q' : qH → Prop) (hQ : ∀ (I : zI) (J : zJ), Q I J → Q' (zH I J)) (hv : v_Night_wakeAll N 49 I J Q) : w_Night_wakeAll N 64 49 (zH I J) Q' := by
  unfold w_Night_wakeAll
  unfold v_Night_wakeAll at hv
  exact u_Night_wakeAll_2_c49 N N (0 : Int32) I J Q _ hQ   hv
theorem u_Night_wakeAll_2_c55 (N k : Nat) (x2 : Int32) (I : zI) (J : zJ) (Q : zI → zJ → Prop) (Q' : qH → Prop) (hQ : ∀ (I : zI) (J : zJ), Q I J → Q' (zH I J)) (hv : v_Night_wakeAll_2 N k 55 x2 I J Q ) : w_Night_wakeAll_2 N k 64 55 x2 (zH I J) Q'  := by
  induction k generalizing x2 I J with
  | zero => exact hv.elim
  | succ k ih =>
    rw [w_Night_wakeAll_2]
    rw [v_Night_wakeAll_2] at hv
    refine ⟨fun q1 => ?_, fun q1 => ?_⟩
    · have hv := hv.1 q1
      exact hQ _ _ hv
    · have hv := hv.2 q1
      refine ⟨rfl, ?_⟩
      refine u_Night_wakeOnNail_c55 N 55 x2 I J _ _ (fun I2 J2 hv => ?_) hv
      exact ih (x2 + (1 : Int32)) I2 J2 hv
theorem u_Night_wakeAll_c55 (N : Nat) (_x1 : Nat) (I : zI) (J : zJ) (Q : zI → zJ → Prop) (Q' : qH → Prop) (hQ : ∀ (I : zI) (J : zJ), Q I J → Q' (zH I J)) (hv : v_Night_wakeAll N 55 I J Q) : w_Night_wakeAll N 64 55 (zH I J) Q' := by
  unfold w_Night_wakeAll
  unfold v_Night_wakeAll at hv
  exact u_Night_wakeAll_2_c55 N N (0 : Int32) I J Q _ hQ   hv
theorem u_Night_wakeAll_2_c94 (N k : Nat) (x2 : Int32) (I : zI) (J : zJ) (Q : zI → zJ → Prop) (Q' : qH → Prop) (hQ : ∀ (I : zI) (J : zJ), Q I J → Q' (zH I J)) (hv : v_Night_wakeAll_2 N k 94 x2 I J Q ) : w_Night_wakeAll_2 N k 64 94 x2 (zH I J) Q'  := by
  induction k generalizing x2 I J with
  | zero => exact hv.elim
  | succ k ih =>
    rw [w_Night_wakeAll_2]
    rw [v_Night_wakeAll_2] at hv
    refine ⟨fun q1 => ?_, fun q1 => ?_⟩
    · have hv := hv.1 q1
      exact hQ _ _ hv
    · have hv := hv.2 q1
      refine ⟨rfl, ?_⟩
      refine u_Night_wakeOnNail_c94 N 94 x2 I J _ _ (fun I2 J2 hv => ?_) hv
      exact ih (x2 + (1 : Int32)) I2 J2 hv
theorem u_Night_wakeAll_c94 (N : Nat) (_x1 : Nat) (I : zI) (J : zJ) (Q : zI → zJ → Prop) (Q' : qH → Prop) (hQ : ∀ (I : zI) (J : zJ), Q I J → Q' (zH I J)) (hv : v_Night_wakeAll N 94 I J Q) : w_Night_wakeAll N 64 94 (zH I J) Q' := by
  unfold w_Night_wakeAll
  unfold v_Night_wakeAll at hv
  exact u_Night_wakeAll_2_c94 N N (0 : Int32) I J Q _ hQ   hv
theorem u_Night_goByOnce_2_c49 (N k : Nat) (x2 : Int32) (x3 : Int32) (I : zI) (J : zJ) (Q : zI → zJ → Prop) (Q' : qH → Prop) (hQ : ∀ (I : zI) (J : zJ), Q I J → Q' (zH I J)) (K25 : Int32 → zI → zJ → Prop) (K25' : Nat → Nat → Int32 → qH → Prop) (hK25 : ∀ (x2 : Int32) (I : zI) (J : zJ), K25 x2 I J → K25' 64 49 x2 (zH I J)) (hv : v_Night_goByOnce_2 N k 49 x2 x3 I J Q K25) : w_Night_goByOnce_2 N k 64 49 x2 x3 (zH I J) Q' K25' := by
  induction k generalizing x2 x3 I J with
  | zero => exact hv.elim
  | succ k ih =>
    rw [w_Night_goByOnce_2]
    rw [v_Night_goByOnce_2] at hv
    refine ⟨rfl, ?_⟩
    refine ⟨rfl, ?_⟩
    refine ⟨fun q1 => ?_, fun q1 => ?_⟩
    · have hv := hv.1 q1
      exact hK25 x2 I J hv
    · have hv := hv.2 q1
      refine u_Night_crook_c49 N 49 x3 I J _ _ (fun I2 J2 hv => ?_) hv
      exact ih x2 (x3 + (1 : Int32)) I2 J2 hv
theorem u_Night_goByOnce_c49 (N : Nat) (_x1 : Nat) (x2 : Int32) (I : zI) (J : zJ) (Q : zI → zJ → Prop) (Q' : qH → Prop) (hQ : ∀ (I : zI) (J : zJ), Q I J → Q' (zH I J)) (hv : v_Night_goByOnce N 49 x2 I J Q) : w_Night_goByOnce N 64 49 x2 (zH I J) Q' := by
  unfold w_Night_goByOnce
  unfold v_Night_goByOnce at hv
  refine u_Night_goByOnce_2_c49 N N x2 (0 : Int32) I J Q _ hQ _ _ (fun w1 I2 J2 hv => ?_)  hv
  refine ⟨rfl, ?_⟩
  refine u_Night_wakeAll_c49 N 49 I2 J2 _ _ (fun I3 J3 hv => ?_) hv
  refine ⟨rfl, ?_⟩
  refine u_Night_letSlip_c49 N 49 w1 I3 J3 _ _ (fun I4 J4 hv => ?_) hv
  refine ⟨rfl, ?_⟩
  refine u_Night_letMothEat_c49 N 49 w1 I4 J4 _ _ (fun I5 J5 hv => ?_) hv
  refine ⟨rfl, ?_⟩
  obtain ⟨I6, eI6⟩ : ∃ z, z = qu I5 49 1 ((I5 49 1) + (1 : Int32)) := ⟨_, rfl⟩
  have hv := hv I6 eI6
  intro h6 eh6
  have eh6 : h6 = zH I6 J5 := by rw [eh6, eI6]; rfl
  subst eh6
  exact hQ _ _ hv
theorem u_Night_goByOnce_2_c55 (N k : Nat) (x2 : Int32) (x3 : Int32) (I : zI) (J : zJ) (Q : zI → zJ → Prop) (Q' : qH → Prop) (hQ : ∀ (I : zI) (J : zJ), Q I J → Q' (zH I J)) (K25 : Int32 → zI → zJ → Prop) (K25' : Nat → Nat → Int32 → qH → Prop) (hK25 : ∀ (x2 : Int32) (I : zI) (J : zJ), K25 x2 I J → K25' 64 55 x2 (zH I J)) (hv : v_Night_goByOnce_2 N k 55 x2 x3 I J Q K25) : w_Night_goByOnce_2 N k 64 55 x2 x3 (zH I J) Q' K25' := by
  induction k generalizing x2 x3 I J with
  | zero => exact hv.elim
  | succ k ih =>
    rw [w_Night_goByOnce_2]
    rw [v_Night_goByOnce_2] at hv
    refine ⟨rfl, ?_⟩
    refine ⟨rfl, ?_⟩
    refine ⟨fun q1 => ?_, fun q1 => ?_⟩
    · have hv := hv.1 q1
      exact hK25 x2 I J hv
    · have hv := hv.2 q1
      refine u_Night_crook_c55 N 55 x3 I J _ _ (fun I2 J2 hv => ?_) hv
      exact ih x2 (x3 + (1 : Int32)) I2 J2 hv
theorem u_Night_goByOnce_c55 (N : Nat) (_x1 : Nat) (x2 : Int32) (I : zI) (J : zJ) (Q : zI → zJ → Prop) (Q' : qH → Prop) (hQ : ∀ (I : zI) (J : zJ), Q I J → Q' (zH I J)) (hv : v_Night_goByOnce N 55 x2 I J Q) : w_Night_goByOnce N 64 55 x2 (zH I J) Q' := by
  unfold w_Night_goByOnce
  unfold v_Night_goByOnce at hv
  refine u_Night_goByOnce_2_c55 N N x2 (0 : Int32) I J Q _ hQ _ _ (fun w1 I2 J2 hv => ?_)  hv
  refine ⟨rfl, ?_⟩
  refine u_Night_wakeAll_c55 N 55 I2 J2 _ _ (fun I3 J3 hv => ?_) hv
  refine ⟨rfl, ?_⟩
  refine u_Night_letSlip_c55 N 55 w1 I3 J3 _ _ (fun I4 J4 hv => ?_) hv
  refine ⟨rfl, ?_⟩
  refine u_Night_letMothEat_c55 N 55 w1 I4 J4 _ _ (fun I5 J5 hv => ?_) hv
  refine ⟨rfl, ?_⟩
  obtain ⟨I6, eI6⟩ : ∃ z, z = qu I5 55 1 ((I5 55 1) + (1 : Int32)) := ⟨_, rfl⟩
  have hv := hv I6 eI6
  intro h6 eh6
  have eh6 : h6 = zH I6 J5 := by rw [eh6, eI6]; rfl
  subst eh6
  exact hQ _ _ hv
theorem u_Night_goByWithAll_3_c49 (N k : Nat) (x2 : Int32) (x3 : Int32) (x4 : Int32) (I : zI) (J : zJ) (Q : zI → zJ → Prop) (Q' : qH → Prop) (hQ : ∀ (I : zI) (J : zJ), Q I J → Q' (zH I J)) (hv : v_Night_goByWithAll_3 N k 49 x2 x3 x4 I J Q ) : w_Night_goByWithAll_3 N k 64 49 x2 x3 x4 (zH I J) Q'  := by
  induction k generalizing x2 x3 x4 I J with
  | zero => exact hv.elim
  | succ k ih =>
    rw [w_Night_goByWithAll_3]
    rw [v_Night_goByWithAll_3] at hv
    refine ⟨fun q1 => ?_, fun q1 => ?_⟩
    · have hv := hv.1 q1
      exact hQ _ _ hv
    · have hv := hv.2 q1
      refine ⟨rfl, ?_⟩
      refine u_Night_goByOnce_c49 N 49 x3 I J _ _ (fun I2 J2 hv => ?_) hv
      exact ih x2 x3 (x4 + (1 : Int32)) I2 J2 hv
theorem u_Night_goByWithAll_c49 (N : Nat) (_x1 : Nat) (x2 : Int32) (x3 : Int32) (I : zI) (J : zJ) (Q : zI → zJ → Prop) (Q' : qH → Prop) (hQ : ∀ (I : zI) (J : zJ), Q I J → Q' (zH I J)) (hv : v_Night_goByWithAll N 49 x2 x3 I J Q) : w_Night_goByWithAll N 64 49 x2 x3 (zH I J) Q' := by
  unfold w_Night_goByWithAll
  unfold v_Night_goByWithAll at hv
  exact u_Night_goByWithAll_3_c49 N N x2 x3 (0 : Int32) I J Q _ hQ   hv
theorem u_Night_goByWithAll_3_c55 (N k : Nat) (x2 : Int32) (x3 : Int32) (x4 : Int32) (I : zI) (J : zJ) (Q : zI → zJ → Prop) (Q' : qH → Prop) (hQ : ∀ (I : zI) (J : zJ), Q I J → Q' (zH I J)) (hv : v_Night_goByWithAll_3 N k 55 x2 x3 x4 I J Q ) : w_Night_goByWithAll_3 N k 64 55 x2 x3 x4 (zH I J) Q'  := by
  induction k generalizing x2 x3 x4 I J with
  | zero => exact hv.elim
  | succ k ih =>
    rw [w_Night_goByWithAll_3]
    rw [v_Night_goByWithAll_3] at hv
    refine ⟨fun q1 => ?_, fun q1 => ?_⟩
    · have hv := hv.1 q1
      exact hQ _ _ hv
    · have hv := hv.2 q1
      refine ⟨rfl, ?_⟩
      refine u_Night_goByOnce_c55 N 55 x3 I J _ _ (fun I2 J2 hv => ?_) hv
      exact ih x2 x3 (x4 + (1 : Int32)) I2 J2 hv
theorem u_Night_goByWithAll_c55 (N : Nat) (_x1 : Nat) (x2 : Int32) (x3 : Int32) (I : zI) (J : zJ) (Q : zI → zJ → Prop) (Q' : qH → Prop) (hQ : ∀ (I : zI) (J : zJ), Q I J → Q' (zH I J)) (hv : v_Night_goByWithAll N 55 x2 x3 I J Q) : w_Night_goByWithAll N 64 55 x2 x3 (zH I J) Q' := by
  unfold w_Night_goByWithAll
  unfold v_Night_goByWithAll at hv
  exact u_Night_goByWithAll_3_c55 N N x2 x3 (0 : Int32) I J Q _ hQ   hv
theorem u_Night_staysHung_3_c55 (N k : Nat) (x2 : Int32) (x3 : Int32) (x4 : Int32) (x5 : Int32) (I : zI) (J : zJ) (Q : Int32 → zI → zJ → Prop) (Q' : Int32 → qH → Prop) (hQ : ∀ (r : Int32) (I : zI) (J : zJ), Q r I J → Q' r (zH I J)) (hv : v_Night_staysHung_3 N k 55 x2 x3 x4 x5 I J Q ) : w_Night_staysHung_3 N k 64 55 x2 x3 x4 x5 (zH I J) Q'  := by
  induction k generalizing x2 x3 x4 x5 I J with
  | zero => exact hv.elim
  | succ k ih =>
    rw [w_Night_staysHung_3]
    rw [v_Night_staysHung_3] at hv
    refine ⟨fun q1 => ?_, fun q1 => ?_⟩
    · have hv := hv.1 q1
      refine ⟨rfl, ?_⟩
      refine u_State_isHung_c55 N 55 x4 I J _ _ (fun r2 I3 J3 hv => ?_) hv
      exact ⟨hv.1, hQ _ _ _ hv.2⟩
    · have hv := hv.2 q1
      refine ⟨rfl, ?_⟩
      refine u_State_isHung_c55 N 55 x4 I J _ _ (fun r4 I5 J5 hv => ?_) hv
      refine ⟨fun q6 => ?_, fun q6 => ?_⟩
      · have hv := hv.1 q6
        refine ⟨rfl, ?_⟩
        refine u_State_isHung_c55 N 55 x4 I5 J5 _ _ (fun r7 I8 J8 hv => ?_) hv
        exact ⟨hv.1, hQ _ _ _ hv.2⟩
      · have hv := hv.2 q6
        refine ⟨rfl, ?_⟩
        refine u_Night_goByOnce_c55 N 55 x3 I5 J5 _ _ (fun I9 J9 hv => ?_) hv
        exact ih x2 x3 x4 (x5 + (1 : Int32)) I9 J9 hv
theorem u_Night_staysHung_c55 (N : Nat) (_x1 : Nat) (x2 : Int32) (x3 : Int32) (x4 : Int32) (I : zI) (J : zJ) (Q : Int32 → zI → zJ → Prop) (Q' : Int32 → qH → Prop) (hQ : ∀ (r : Int32) (I : zI) (J : zJ), Q r I J → Q' r (zH I J)) (hv : v_Night_staysHung N 55 x2 x3 x4 I J Q) : w_Night_staysHung N 64 55 x2 x3 x4 (zH I J) Q' := by
  unfold w_Night_staysHung
  unfold v_Night_staysHung at hv
  exact u_Night_staysHung_3_c55 N N x2 x3 x4 (0 : Int32) I J Q _ hQ   hv
theorem u_Night_goByQuietly_2_c55 (N k : Nat) (x2 : Int32) (I : zI) (J : zJ) (Q : zI → zJ → Prop) (Q' : qH → Prop) (hQ : ∀ (I : zI) (J : zJ), Q I J → Q' (zH I J)) (K25 : zI → zJ → Prop) (K25' : Nat → Nat → qH → Prop) (hK25 : ∀  (I : zI) (J : zJ), K25  I J → K25' 64 55 (zH I J)) (hv : v_Night_goByQuietly_2 N k 55 x2 I J Q K25) : w_Night_goByQuietly_2 N k 64 55 x2 (zH I J) Q' K25' := by
  induction k generalizing x2 I J with
  | zero => exact hv.elim
  | succ k ih =>
    rw [w_Night_goByQuietly_2]
    rw [v_Night_goByQuietly_2] at hv
    refine ⟨rfl, ?_⟩
    refine ⟨rfl, ?_⟩
    refine ⟨fun q1 => ?_, fun q1 => ?_⟩
    · have hv := hv.1 q1
      exact hK25 I J hv
    · have hv := hv.2 q1
      refine u_Night_crook_c55 N 55 x2 I J _ _ (fun I2 J2 hv => ?_) hv
      exact ih (x2 + (1 : Int32)) I2 J2 hv
theorem u_Night_goByQuietly_c55 (N : Nat) (_x1 : Nat) (I : zI) (J : zJ) (Q : zI → zJ → Prop) (Q' : qH → Prop) (hQ : ∀ (I : zI) (J : zJ), Q I J → Q' (zH I J)) (hv : v_Night_goByQuietly N 55 I J Q) : w_Night_goByQuietly N 64 55 (zH I J) Q' := by
  unfold w_Night_goByQuietly
  unfold v_Night_goByQuietly at hv
  refine u_Night_goByQuietly_2_c55 N N (0 : Int32) I J Q _ hQ _ _ (fun I1 J1 hv => ?_)  hv
  refine ⟨rfl, ?_⟩
  refine u_Night_wakeAll_c55 N 55 I1 J1 _ _ (fun I2 J2 hv => ?_) hv
  refine ⟨rfl, ?_⟩
  obtain ⟨I3, eI3⟩ : ∃ z, z = qu I2 55 1 ((I2 55 1) + (1 : Int32)) := ⟨_, rfl⟩
  have hv := hv I3 eI3
  intro h3 eh3
  have eh3 : h3 = zH I3 J2 := by rw [eh3, eI3]; rfl
  subst eh3
  exact hQ _ _ hv
theorem u_Plan_lookAtCosts_15_c49 (N k : Nat) (x2 : Int32) (x3 : Int32) (I : zI) (J : zJ) (Q : zI → zJ → Prop) (Q' : qH → Prop) (hQ : ∀ (I : zI) (J : zJ), Q I J → Q' (zH I J)) (K50 : Int32 → zI → zJ → Prop) (K50' : Nat → Nat → Int32 → qH → Prop) (hK50 : ∀ (x2 : Int32) (I : zI) (J : zJ), K50 x2 I J → K50' 66 49 x2 (zH I J)) (hv : v_Plan_lookAtCosts_15 N k 49 x2 x3 I J Q K50) : w_Plan_lookAtCosts_15 N k 66 49 x2 x3 (zH I J) Q' K50' := by
  induction k generalizing x2 x3 I J with
  | zero => exact hv.elim
  | succ k ih =>
    rw [w_Plan_lookAtCosts_15]
    rw [v_Plan_lookAtCosts_15] at hv
    refine ⟨rfl, ?_⟩
    refine ⟨rfl, ?_⟩
    refine ⟨fun q1 => ?_, fun q1 => ?_⟩
    · have hv := hv.1 q1
      exact hK50 x2 I J hv
    · have hv := hv.2 q1
      obtain ⟨g2, hv⟩ := hv
      refine ⟨qok_mk rfl g2, ?_⟩
      have z3 := zrow67 _ (zlt g2)
      rw [show (qR (zH I J) (qR (zH I J) 66 2) (x2).toNatClampNeg) = (68 + (x2).toNatClampNeg) from z3.1]
      refine ⟨rfl, ?_⟩
      refine u_Reck_costAlone_c49 N 49 x2 x3 I J _ _ (fun r4 I5 J5 hv => ?_) hv
      obtain ⟨g6, hv⟩ := hv
      refine ⟨qok_mk z3.2 g6, ?_⟩
      obtain ⟨I7, eI7⟩ : ∃ z, z = qu I5 (68 + (x2).toNatClampNeg) (x3).toNatClampNeg r4 := ⟨_, rfl⟩
      have hv := hv I7 eI7
      intro h7 eh7
      have eh7 : h7 = zH I7 J5 := by rw [eh7, eI7]; rfl
      subst eh7
      exact ih x2 (x3 + (1 : Int32)) I7 J5 hv
theorem u_Plan_lookAtCosts_2_c49 (N k : Nat) (x2 : Int32) (I : zI) (J : zJ) (Q : zI → zJ → Prop) (Q' : qH → Prop) (hQ : ∀ (I : zI) (J : zJ), Q I J → Q' (zH I J)) (hv : v_Plan_lookAtCosts_2 N k 49 x2 I J Q ) : w_Plan_lookAtCosts_2 N k 66 49 x2 (zH I J) Q'  := by
  induction k generalizing x2 I J with
  | zero => exact hv.elim
  | succ k ih =>
    rw [w_Plan_lookAtCosts_2]
    rw [v_Plan_lookAtCosts_2] at hv
    refine ⟨rfl, ?_⟩
    refine ⟨rfl, ?_⟩
    refine ⟨fun q1 => ?_, fun q1 => ?_⟩
    · have hv := hv.1 q1
      exact hQ _ _ hv
    · have hv := hv.2 q1
      refine u_Plan_lookAtCosts_15_c49 N N x2 (0 : Int32) I J Q _ hQ _ _ (fun w2 I3 J3 hv => ?_)  hv
      exact ih (w2 + (1 : Int32)) I3 J3 hv
theorem u_Plan_lookAtCosts_c49 (N : Nat) (_x1 : Nat) (I : zI) (J : zJ) (Q : zI → zJ → Prop) (Q' : qH → Prop) (hQ : ∀ (I : zI) (J : zJ), Q I J → Q' (zH I J)) (hv : v_Plan_lookAtCosts N 49 I J Q) : w_Plan_lookAtCosts N 66 49 (zH I J) Q' := by
  unfold w_Plan_lookAtCosts
  unfold v_Plan_lookAtCosts at hv
  exact u_Plan_lookAtCosts_2_c49 N N (0 : Int32) I J Q _ hQ   hv
theorem u_Plan_clearLast_15 (N k : Nat) (x1 : Int32) (x2 : Nat) (x3 : Int32) (I : zI) (J : zJ) (Q : zI → zJ → Prop) (Q' : qH → Prop) (hQ : ∀ (I : zI) (J : zJ), Q I J → Q' (zH I J)) (hz2 : zS x2 = .inr (0, 128)) (hv : v_Plan_clearLast_15 N k x1 x2 x3 I J Q ) : w_Plan_clearLast_15 N k x1 x2 x3 (zH I J) Q'  := by
  induction k generalizing x1 x3 I J with
  | zero => exact hv.elim
  | succ k ih =>
    rw [w_Plan_clearLast_15]
    rw [v_Plan_clearLast_15] at hv
    refine ⟨128, hz2, ?_⟩
    refine ⟨fun q3 => ?_, fun q3 => ?_⟩
    · have hv := hv.1 q3
      exact hQ _ _ hv
    · have hv := hv.2 q3
      obtain ⟨g4, hv⟩ := hv
      refine ⟨qok_mk hz2 g4, ?_⟩
      obtain ⟨I5, eI5⟩ : ∃ z, z = qu I x2 (x3).toNatClampNeg x1 := ⟨_, rfl⟩
      have hv := hv I5 eI5
      intro h5 eh5
      have eh5 : h5 = zH I5 J := by rw [eh5, eI5]; rfl
      subst eh5
      exact ih x1 (x3 + (1 : Int32)) I5 J hv
theorem u_Plan_clearLast (N : Nat) (x1 : Int32) (I : zI) (J : zJ) (Q : zI → zJ → Prop) (Q' : qH → Prop) (hQ : ∀ (I : zI) (J : zJ), Q I J → Q' (zH I J)) (hv : v_Plan_clearLast N x1 I J Q) : w_Plan_clearLast N 66 x1 (zH I J) Q' := by
  unfold w_Plan_clearLast
  unfold v_Plan_clearLast at hv
  refine ⟨rfl, ?_⟩
  refine ⟨rfl, ?_⟩
  obtain ⟨g1, hv⟩ := hv
  refine ⟨qok_mk rfl g1, ?_⟩
  have z2 := zrow75 _ (zlt g1)
  rw [show (qR (zH I J) (qR (zH I J) 66 4) ((qI (zH I J) (qR (zH I J) 66 0) 3)).toNatClampNeg) = (76 + ((I 8 3)).toNatClampNeg) from z2.1]
  intro y3 ey3
  have ey3 : y3 = (76 + ((I 8 3)).toNatClampNeg) := ey3
  subst ey3
  exact u_Plan_clearLast_15 N N x1 (76 + ((I 8 3)).toNatClampNeg) (0 : Int32) I J Q _ hQ  z2.2 hv
theorem u_Plan_worthOf (N : Nat) (x1 : Int32) (x2 : Int32) (x3 : Int32) (I : zI) (J : zJ) (Q : Int32 → zI → zJ → Prop) (Q' : Int32 → qH → Prop) (hQ : ∀ (r : Int32) (I : zI) (J : zJ), Q r I J → Q' r (zH I J)) (hv : v_Plan_worthOf N x1 x2 x3 I J Q) : w_Plan_worthOf N 66 x1 x2 x3 (zH I J) Q' := by
  unfold w_Plan_worthOf
  unfold v_Plan_worthOf at hv
  refine ⟨rfl, ?_⟩
  obtain ⟨g1, hv⟩ := hv
  refine ⟨qok_mk rfl g1, ?_⟩
  have z2 := zrow67 _ (zlt g1)
  rw [show (qR (zH I J) (qR (zH I J) 66 2) (x1).toNatClampNeg) = (68 + (x1).toNatClampNeg) from z2.1]
  obtain ⟨g3, hv⟩ := hv
  refine ⟨qok_mk z2.2 g3, ?_⟩
  obtain ⟨g4, hv⟩ := hv
  refine ⟨qok_mk rfl g4, ?_⟩
  have z5 := zrow75 _ (zlt g4)
  rw [show (qR (zH I J) (qR (zH I J) 66 4) ((x1 + (1 : Int32))).toNatClampNeg) = (76 + ((x1 + (1 : Int32))).toNatClampNeg) from z5.1]
  obtain ⟨g6, hv⟩ := hv
  refine ⟨qok_mk rfl g6, ?_⟩
  obtain ⟨g7, hv⟩ := hv
  refine ⟨qok_mk z5.2 g7, ?_⟩
  exact hQ _ _ _ hv
theorem u_Plan_leastFrom_15 (N k : Nat) (x1 : Int32) (x2 : Int32) (x3 : Int32) (x4 : Int32) (x5 : Int32) (I : zI) (J : zJ) (Q : Int32 → zI → zJ → Prop) (Q' : Int32 → qH → Prop) (hQ : ∀ (r : Int32) (I : zI) (J : zJ), Q r I J → Q' r (zH I J)) (hv : v_Plan_leastFrom_15 N k x1 x2 x3 x4 x5 I J Q ) : w_Plan_leastFrom_15 N k 66 x1 x2 x3 x4 x5 (zH I J) Q'  := by
  induction k generalizing x1 x2 x3 x4 x5 I J with
  | zero => exact hv.elim
  | succ k ih =>
    rw [w_Plan_leastFrom_15]
    rw [v_Plan_leastFrom_15] at hv
    refine ⟨rfl, ?_⟩
    refine ⟨rfl, ?_⟩
    refine ⟨fun q1 => ?_, fun q1 => ?_⟩
    · have hv := hv.1 q1
      exact hQ _ _ _ hv
    · have hv := hv.2 q1
      refine ⟨fun q2 => ?_, fun q2 => ?_⟩
      · have hv := hv.1 q2
        exact ih x1 x2 x3 x4 (x5 + (1 : Int32)) I J hv
      · have hv := hv.2 q2
        obtain ⟨g3, hv⟩ := hv
        refine ⟨qok_mk rfl g3, ?_⟩
        refine ⟨fun q4 => ?_, fun q4 => ?_⟩
        · have hv := hv.1 q4
          exact ih x1 x2 x3 x4 (x5 + (1 : Int32)) I J hv
        · have hv := hv.2 q4
          refine u_Plan_worthOf N x1 x2 x5 I J _ _ (fun r5 I6 J6 hv => ?_) hv
          intro y7 ey7
          have hv := hv y7 ey7
          exact ih x1 x2 x3 y7 (x5 + (1 : Int32)) I6 J6 hv
theorem u_Plan_leastFrom (N : Nat) (x1 : Int32) (x2 : Int32) (x3 : Int32) (I : zI) (J : zJ) (Q : Int32 → zI → zJ → Prop) (Q' : Int32 → qH → Prop) (hQ : ∀ (r : Int32) (I : zI) (J : zJ), Q r I J → Q' r (zH I J)) (hv : v_Plan_leastFrom N x1 x2 x3 I J Q) : w_Plan_leastFrom N 66 x1 x2 x3 (zH I J) Q' := by
  unfold w_Plan_leastFrom
  unfold v_Plan_leastFrom at hv
  refine ⟨rfl, ?_⟩
  obtain ⟨g1, hv⟩ := hv
  refine ⟨qok_mk rfl g1, ?_⟩
  have z2 := zrow75 _ (zlt g1)
  rw [show (qR (zH I J) (qR (zH I J) 66 4) ((x1 + (1 : Int32))).toNatClampNeg) = (76 + ((x1 + (1 : Int32))).toNatClampNeg) from z2.1]
  obtain ⟨g3, hv⟩ := hv
  refine ⟨qok_mk z2.2 g3, ?_⟩
  intro y4 ey4
  have hv := hv y4 ey4
  exact u_Plan_leastFrom_15 N N x1 x2 x3 y4 (0 : Int32) I J Q _ hQ   hv
theorem u_Plan_letTake_2 (N k : Nat) (x1 : Int32) (x2 : Int32) (I : zI) (J : zJ) (Q : zI → zJ → Prop) (Q' : qH → Prop) (hQ : ∀ (I : zI) (J : zJ), Q I J → Q' (zH I J)) (hv : v_Plan_letTake_2 N k x1 x2 I J Q ) : w_Plan_letTake_2 N k 66 x1 x2 (zH I J) Q'  := by
  induction k generalizing x1 x2 I J with
  | zero => exact hv.elim
  | succ k ih =>
    rw [w_Plan_letTake_2]
    rw [v_Plan_letTake_2] at hv
    refine ⟨rfl, ?_⟩
    refine ⟨rfl, ?_⟩
    refine ⟨fun q1 => ?_, fun q1 => ?_⟩
    · have hv := hv.1 q1
      exact hQ _ _ hv
    · have hv := hv.2 q1
      refine ⟨fun q2 => ?_, fun q2 => ?_⟩
      · have hv := hv.1 q2
        obtain ⟨g3, hv⟩ := hv
        refine ⟨qok_mk rfl g3, ?_⟩
        obtain ⟨I4, eI4⟩ : ∃ z, z = qu I 74 (x2).toNatClampNeg ((1 : Int32) <<< (x2 &&& 31)) := ⟨_, rfl⟩
        have hv := hv I4 eI4
        intro h4 eh4
        have eh4 : h4 = zH I4 J := by rw [eh4, eI4]; rfl
        subst eh4
        exact ih x1 (x2 + (1 : Int32)) I4 J hv
      · have hv := hv.2 q2
        obtain ⟨g5, hv⟩ := hv
        refine ⟨qok_mk rfl g5, ?_⟩
        obtain ⟨g6, hv⟩ := hv
        refine ⟨qok_mk rfl g6, ?_⟩
        obtain ⟨I7, eI7⟩ : ∃ z, z = qu I 74 (x2).toNatClampNeg ((1 : Int32) <<< ((I 9 (x2).toNatClampNeg) &&& 31)) := ⟨_, rfl⟩
        have hv := hv I7 eI7
        intro h7 eh7
        have eh7 : h7 = zH I7 J := by rw [eh7, eI7]; rfl
        subst eh7
        exact ih x1 (x2 + (1 : Int32)) I7 J hv
theorem u_Plan_letTake (N : Nat) (x1 : Int32) (I : zI) (J : zJ) (Q : zI → zJ → Prop) (Q' : qH → Prop) (hQ : ∀ (I : zI) (J : zJ), Q I J → Q' (zH I J)) (hv : v_Plan_letTake N x1 I J Q) : w_Plan_letTake N 66 x1 (zH I J) Q' := by
  unfold w_Plan_letTake
  unfold v_Plan_letTake at hv
  exact u_Plan_letTake_2 N N x1 (0 : Int32) I J Q _ hQ   hv
theorem u_Plan_findBest_27 (N k : Nat) (x2 : Int32) (x3 : Int32) (x4 : Int32) (I : zI) (J : zJ) (Q : Int32 → zI → zJ → Prop) (Q' : Int32 → qH → Prop) (hQ : ∀ (r : Int32) (I : zI) (J : zJ), Q r I J → Q' r (zH I J)) (K71 : Int32 → Int32 → zI → zJ → Prop) (K71' : Nat → Int32 → Int32 → qH → Prop) (hK71 : ∀ (x2 : Int32) (x3 : Int32) (I : zI) (J : zJ), K71 x2 x3 I J → K71' 66 x2 x3 (zH I J)) (hv : v_Plan_findBest_27 N k x2 x3 x4 I J Q K71) : w_Plan_findBest_27 N k 66 x2 x3 x4 (zH I J) Q' K71' := by
  induction k generalizing x2 x3 x4 I J with
  | zero => exact hv.elim
  | succ k ih =>
    rw [w_Plan_findBest_27]
    rw [v_Plan_findBest_27] at hv
    refine ⟨rfl, ?_⟩
    obtain ⟨g1, hv⟩ := hv
    refine ⟨qok_mk rfl g1, ?_⟩
    have z2 := zrow75 _ (zlt g1)
    rw [show (qR (zH I J) (qR (zH I J) 66 4) (x3).toNatClampNeg) = (76 + (x3).toNatClampNeg) from z2.1]
    refine ⟨128, z2.2, ?_⟩
    refine ⟨fun q5 => ?_, fun q5 => ?_⟩
    · have hv := hv.1 q5
      exact hK71 x2 x3 I J hv
    · have hv := hv.2 q5
      refine u_Integer_bitCount N x4 I J _ _ (fun r6 I7 J7 hv => ?_) hv
      refine ⟨fun q8 => ?_, fun q8 => ?_⟩
      · have hv := hv.1 q8
        exact ih x2 x3 (x4 + (1 : Int32)) I7 J7 hv
      · have hv := hv.2 q8
        refine ⟨rfl, ?_⟩
        obtain ⟨g9, hv⟩ := hv
        refine ⟨qok_mk rfl g9, ?_⟩
        have z10 := zrow75 _ (zlt g9)
        rw [show (qR (zH I7 J7) (qR (zH I7 J7) 66 4) (x3).toNatClampNeg) = (76 + (x3).toNatClampNeg) from z10.1]
        refine u_Plan_leastFrom N x3 x4 x2 I7 J7 _ _ (fun r11 I12 J12 hv => ?_) hv
        obtain ⟨g13, hv⟩ := hv
        refine ⟨qok_mk z10.2 g13, ?_⟩
        obtain ⟨I14, eI14⟩ : ∃ z, z = qu I12 (76 + (x3).toNatClampNeg) (x4).toNatClampNeg r11 := ⟨_, rfl⟩
        have hv := hv I14 eI14
        intro h14 eh14
        have eh14 : h14 = zH I14 J12 := by rw [eh14, eI14]; rfl
        subst eh14
        exact ih x2 x3 (x4 + (1 : Int32)) I14 J12 hv
theorem u_Plan_findBest_20 (N k : Nat) (x2 : Int32) (x3 : Int32) (I : zI) (J : zJ) (Q : Int32 → zI → zJ → Prop) (Q' : Int32 → qH → Prop) (hQ : ∀ (r : Int32) (I : zI) (J : zJ), Q r I J → Q' r (zH I J)) (hv : v_Plan_findBest_20 N k x2 x3 I J Q ) : w_Plan_findBest_20 N k 66 x2 x3 (zH I J) Q'  := by
  induction k generalizing x2 x3 I J with
  | zero => exact hv.elim
  | succ k ih =>
    rw [w_Plan_findBest_20]
    rw [v_Plan_findBest_20] at hv
    refine ⟨fun q1 => ?_, fun q1 => ?_⟩
    · have hv := hv.1 q1
      refine ⟨rfl, ?_⟩
      obtain ⟨g2, hv⟩ := hv
      refine ⟨qok_mk rfl g2, ?_⟩
      have z3 := zrow75 _ (zlt g2)
      rw [show (qR (zH I J) (qR (zH I J) 66 4) ((0 : Int32)).toNatClampNeg) = (76 + ((0 : Int32)).toNatClampNeg) from z3.1]
      obtain ⟨g4, hv⟩ := hv
      refine ⟨qok_mk z3.2 g4, ?_⟩
      exact hQ _ _ _ hv
    · have hv := hv.2 q1
      refine u_Plan_findBest_27 N N x2 x3 (0 : Int32) I J Q _ hQ _ _ (fun w5 w6 I7 J7 hv => ?_)  hv
      exact ih w5 (w6 + (-1 : Int32)) I7 J7 hv
theorem u_Plan_findBest (N : Nat) (x1 : Int32) (x2 : Int32) (I : zI) (J : zJ) (Q : Int32 → zI → zJ → Prop) (Q' : Int32 → qH → Prop) (hQ : ∀ (r : Int32) (I : zI) (J : zJ), Q r I J → Q' r (zH I J)) (hv : v_Plan_findBest N x1 x2 I J Q) : w_Plan_findBest N 66 x1 x2 (zH I J) Q' := by
  unfold w_Plan_findBest
  unfold v_Plan_findBest at hv
  refine ⟨rfl, ?_⟩
  refine u_Plan_letTake N x1 I J _ _ (fun I1 J1 hv => ?_) hv
  refine ⟨rfl, ?_⟩
  refine u_Plan_clearLast N (0 : Int32) I1 J1 _ _ (fun I2 J2 hv => ?_) hv
  refine ⟨rfl, ?_⟩
  refine ⟨rfl, ?_⟩
  intro y3 ey3
  have hv := hv y3 ey3
  exact u_Plan_findBest_20 N N x2 y3 I2 J2 Q _ hQ   hv
theorem u_Plan_costOf (N : Nat) (x1 : Int32) (I : zI) (J : zJ) (Q : Int32 → zI → zJ → Prop) (Q' : Int32 → qH → Prop) (hQ : ∀ (r : Int32) (I : zI) (J : zJ), Q r I J → Q' r (zH I J)) (hv : v_Plan_costOf N x1 I J Q) : w_Plan_costOf N 66 x1 (zH I J) Q' := by
  unfold w_Plan_costOf
  unfold v_Plan_costOf at hv
  refine u_Math_floorMod N x1 (1000 : Int32) I J _ _ (fun r1 I2 J2 hv => ?_) hv
  exact hQ _ _ _ hv
theorem u_Plan_firstBest_38 (N : Nat) (x1 : Int32) (x2 : Int32) (x3 : Int32) (x4 : Int32) (z0 : Int32) (I : zI) (J : zJ) (Q : Int32 → zI → zJ → Prop) (Q' : Int32 → qH → Prop) (hQ : ∀ (r : Int32) (I : zI) (J : zJ), Q r I J → Q' r (zH I J)) (K3 : Int32 → Int32 → Int32 → Int32 → zI → zJ → Prop) (K3' : Nat → Int32 → Int32 → Int32 → Int32 → qH → Prop) (hK3 : ∀ (x1 : Int32) (x2 : Int32) (x3 : Int32) (x4 : Int32) (I : zI) (J : zJ), K3 x1 x2 x3 x4 I J → K3' 66 x1 x2 x3 x4 (zH I J)) (hv : v_Plan_firstBest_38 N x1 x2 x3 x4 z0 I J Q K3) : w_Plan_firstBest_38 N 66 x1 x2 x3 x4 z0 (zH I J) Q' K3' := by
  unfold w_Plan_firstBest_38
  unfold v_Plan_firstBest_38 at hv
  refine ⟨fun q1 => ?_, fun q1 => ?_⟩
  · have hv := hv.1 q1
    exact hK3 x1 x2 x3 (x4 + (1 : Int32)) I J hv
  · have hv := hv.2 q1
    refine ⟨rfl, ?_⟩
    refine u_Plan_worthOf N x1 x2 x4 I J _ _ (fun r2 I3 J3 hv => ?_) hv
    refine ⟨rfl, ?_⟩
    obtain ⟨g4, hv⟩ := hv
    refine ⟨qok_mk rfl g4, ?_⟩
    have z5 := zrow75 _ (zlt g4)
    rw [show (qR (zH I3 J3) (qR (zH I3 J3) 66 4) (x1).toNatClampNeg) = (76 + (x1).toNatClampNeg) from z5.1]
    obtain ⟨g6, hv⟩ := hv
    refine ⟨qok_mk z5.2 g6, ?_⟩
    refine ⟨fun q7 => ?_, fun q7 => ?_⟩
    · have hv := hv.1 q7
      exact hK3 x1 x2 x3 (x4 + (1 : Int32)) I3 J3 hv
    · have hv := hv.2 q7
      exact hQ _ _ _ hv
theorem u_Plan_firstBest_37 (N : Nat) (x1 : Int32) (x2 : Int32) (x3 : Int32) (x4 : Int32) (I : zI) (J : zJ) (Q : Int32 → zI → zJ → Prop) (Q' : Int32 → qH → Prop) (hQ : ∀ (r : Int32) (I : zI) (J : zJ), Q r I J → Q' r (zH I J)) (K3 : Int32 → Int32 → Int32 → Int32 → zI → zJ → Prop) (K3' : Nat → Int32 → Int32 → Int32 → Int32 → qH → Prop) (hK3 : ∀ (x1 : Int32) (x2 : Int32) (x3 : Int32) (x4 : Int32) (I : zI) (J : zJ), K3 x1 x2 x3 x4 I J → K3' 66 x1 x2 x3 x4 (zH I J)) (hv : v_Plan_firstBest_37 N x1 x2 x3 x4 I J Q K3) : w_Plan_firstBest_37 N 66 x1 x2 x3 x4 (zH I J) Q' K3' := by
  unfold w_Plan_firstBest_37
  unfold v_Plan_firstBest_37 at hv
  exact u_Plan_firstBest_38 N x1 x2 x3 x4 (0 : Int32) I J Q _ hQ _ _ (fun x1 x2 x3 x4 I J hv => hK3 x1 x2 x3 x4 I J hv)  hv
theorem u_Plan_firstBest_3 (N k : Nat) (x1 : Int32) (x2 : Int32) (x3 : Int32) (x4 : Int32) (I : zI) (J : zJ) (Q : Int32 → zI → zJ → Prop) (Q' : Int32 → qH → Prop) (hQ : ∀ (r : Int32) (I : zI) (J : zJ), Q r I J → Q' r (zH I J)) (hv : v_Plan_firstBest_3 N k x1 x2 x3 x4 I J Q ) : w_Plan_firstBest_3 N k 66 x1 x2 x3 x4 (zH I J) Q'  := by
  induction k generalizing x1 x2 x3 x4 I J with
  | zero => exact hv.elim
  | succ k ih =>
    rw [w_Plan_firstBest_3]
    rw [v_Plan_firstBest_3] at hv
    refine ⟨rfl, ?_⟩
    refine ⟨rfl, ?_⟩
    refine ⟨fun q1 => ?_, fun q1 => ?_⟩
    · have hv := hv.1 q1
      exact hQ _ _ _ hv
    · have hv := hv.2 q1
      refine ⟨fun q2 => ?_, fun q2 => ?_⟩
      · have hv := hv.1 q2
        exact u_Plan_firstBest_37 N x1 x2 x3 x4 I J Q _ hQ _ _ (fun x1 x2 x3 x4 I J hv => ih x1 x2 x3 x4 I J hv)  hv
      · have hv := hv.2 q2
        obtain ⟨g3, hv⟩ := hv
        refine ⟨qok_mk rfl g3, ?_⟩
        refine ⟨fun q4 => ?_, fun q4 => ?_⟩
        · have hv := hv.1 q4
          exact u_Plan_firstBest_37 N x1 x2 x3 x4 I J Q _ hQ _ _ (fun x1 x2 x3 x4 I J hv => ih x1 x2 x3 x4 I J hv)  hv
        · have hv := hv.2 q4
          exact u_Plan_firstBest_38 N x1 x2 x3 x4 (1 : Int32) I J Q _ hQ _ _ (fun x1 x2 x3 x4 I J hv => ih x1 x2 x3 x4 I J hv)  hv
theorem u_Plan_firstBest (N : Nat) (x1 : Int32) (x2 : Int32) (x3 : Int32) (I : zI) (J : zJ) (Q : Int32 → zI → zJ → Prop) (Q' : Int32 → qH → Prop) (hQ : ∀ (r : Int32) (I : zI) (J : zJ), Q r I J → Q' r (zH I J)) (hv : v_Plan_firstBest N x1 x2 x3 I J Q) : w_Plan_firstBest N 66 x1 x2 x3 (zH I J) Q' := by
  unfold w_Plan_firstBest
  unfold v_Plan_firstBest at hv
  exact u_Plan_firstBest_3 N N x1 x2 x3 (0 : Int32) I J Q _ hQ   hv
theorem u_Plan_hangerFor_9 (N k : Nat) (x1 : Int32) (x2 : Int32) (x3 : Int32) (x4 : Int32) (x5 : Int32) (I : zI) (J : zJ) (Q : Int32 → zI → zJ → Prop) (Q' : Int32 → qH → Prop) (hQ : ∀ (r : Int32) (I : zI) (J : zJ), Q r I J → Q' r (zH I J)) (hv : v_Plan_hangerFor_9 N k x1 x2 x3 x4 x5 I J Q ) : w_Plan_hangerFor_9 N k 66 x1 x2 x3 x4 x5 (zH I J) Q'  := by
  induction k generalizing x1 x2 x3 x4 x5 I J with
  | zero => exact hv.elim
  | succ k ih =>
    rw [w_Plan_hangerFor_9]
    rw [v_Plan_hangerFor_9] at hv
    refine ⟨fun q1 => ?_, fun q1 => ?_⟩
    · have hv := hv.1 q1
      exact hQ _ _ _ hv
    · have hv := hv.2 q1
      refine ⟨rfl, ?_⟩
      refine ⟨rfl, ?_⟩
      refine ⟨fun q2 => ?_, fun q2 => ?_⟩
      · have hv := hv.1 q2
        exact hQ _ _ _ hv
      · have hv := hv.2 q2
        refine u_Plan_firstBest N x5 x3 x2 I J _ _ (fun r3 I4 J4 hv => ?_) hv
        refine ⟨fun q5 => ?_, fun q5 => ?_⟩
        · have hv := hv.1 q5
          intro y6 ey6
          have hv := hv y6 ey6
          exact ih x1 x2 y6 r3 (x5 + (1 : Int32)) I4 J4 hv
        · have hv := hv.2 q5
          refine ⟨rfl, ?_⟩
          obtain ⟨g7, hv⟩ := hv
          refine ⟨qok_mk rfl g7, ?_⟩
          intro y8 ey8
          have hv := hv y8 ey8
          exact ih x1 x2 y8 r3 (x5 + (1 : Int32)) I4 J4 hv
theorem u_Plan_hangerFor (N : Nat) (x1 : Int32) (x2 : Int32) (I : zI) (J : zJ) (Q : Int32 → zI → zJ → Prop) (Q' : Int32 → qH → Prop) (hQ : ∀ (r : Int32) (I : zI) (J : zJ), Q r I J → Q' r (zH I J)) (hv : v_Plan_hangerFor N x1 x2 I J Q) : w_Plan_hangerFor N 66 x1 x2 (zH I J) Q' := by
  unfold w_Plan_hangerFor
  unfold v_Plan_hangerFor at hv
  exact u_Plan_hangerFor_9 N N x1 x2 (0 : Int32) (-2 : Int32) (0 : Int32) I J Q _ hQ   hv
theorem u_Plan_waysFrom_6 (N k : Nat) (x1 : Int32) (x2 : Int32) (x3 : Int32) (x4 : Int32) (x5 : Int32) (I : zI) (J : zJ) (Q : Int32 → zI → zJ → Prop) (Q' : Int32 → qH → Prop) (hQ : ∀ (r : Int32) (I : zI) (J : zJ), Q r I J → Q' r (zH I J)) (hv : v_Plan_waysFrom_6 N k x1 x2 x3 x4 x5 I J Q ) : w_Plan_waysFrom_6 N k 66 x1 x2 x3 x4 x5 (zH I J) Q'  := by
  induction k generalizing x1 x2 x3 x4 x5 I J with
  | zero => exact hv.elim
  | succ k ih =>
    rw [w_Plan_waysFrom_6]
    rw [v_Plan_waysFrom_6] at hv
    refine ⟨rfl, ?_⟩
    refine ⟨rfl, ?_⟩
    refine ⟨fun q1 => ?_, fun q1 => ?_⟩
    · have hv := hv.1 q1
      exact hQ _ _ _ hv
    · have hv := hv.2 q1
      obtain ⟨g2, hv⟩ := hv
      refine ⟨qok_mk rfl g2, ?_⟩
      have z3 := zrow67 _ (zlt g2)
      rw [show (qR (zH I J) (qR (zH I J) 66 2) (x1).toNatClampNeg) = (68 + (x1).toNatClampNeg) from z3.1]
      obtain ⟨g4, hv⟩ := hv
      refine ⟨qok_mk z3.2 g4, ?_⟩
      refine ⟨fun q5 => ?_, fun q5 => ?_⟩
      · have hv := hv.1 q5
        exact ih x1 x2 x3 x4 (x5 + (1 : Int32)) I J hv
      · have hv := hv.2 q5
        obtain ⟨g6, hv⟩ := hv
        refine ⟨qok_mk rfl g6, ?_⟩
        refine ⟨fun q7 => ?_, fun q7 => ?_⟩
        · have hv := hv.1 q7
          exact ih x1 x2 x3 x4 (x5 + (1 : Int32)) I J hv
        · have hv := hv.2 q7
          obtain ⟨g8, hv⟩ := hv
          refine ⟨qok_mk rfl g8, ?_⟩
          have z9 := zrow75 _ (zlt g8)
          rw [show (qR (zH I J) (qR (zH I J) 66 4) ((x1 + (1 : Int32))).toNatClampNeg) = (76 + ((x1 + (1 : Int32))).toNatClampNeg) from z9.1]
          obtain ⟨g10, hv⟩ := hv
          refine ⟨qok_mk z9.2 g10, ?_⟩
          intro y11 ey11
          have hv := hv y11 ey11
          exact ih x1 x2 x3 y11 (x5 + (1 : Int32)) I J hv
theorem u_Plan_waysFrom (N : Nat) (x1 : Int32) (x2 : Int32) (x3 : Int32) (I : zI) (J : zJ) (Q : Int32 → zI → zJ → Prop) (Q' : Int32 → qH → Prop) (hQ : ∀ (r : Int32) (I : zI) (J : zJ), Q r I J → Q' r (zH I J)) (hv : v_Plan_waysFrom N x1 x2 x3 I J Q) : w_Plan_waysFrom N 66 x1 x2 x3 (zH I J) Q' := by
  unfold w_Plan_waysFrom
  unfold v_Plan_waysFrom at hv
  exact u_Plan_waysFrom_6 N N x1 x2 x3 (0 : Int32) (0 : Int32) I J Q _ hQ   hv
theorem u_Plan_waysWithin_26 (N k : Nat) (x1 : Int32) (x2 : Int32) (x3 : Int32) (I : zI) (J : zJ) (Q : Int32 → zI → zJ → Prop) (Q' : Int32 → qH → Prop) (hQ : ∀ (r : Int32) (I : zI) (J : zJ), Q r I J → Q' r (zH I J)) (K53 : Int32 → Int32 → zI → zJ → Prop) (K53' : Nat → Int32 → Int32 → qH → Prop) (hK53 : ∀ (x1 : Int32) (x2 : Int32) (I : zI) (J : zJ), K53 x1 x2 I J → K53' 66 x1 x2 (zH I J)) (hv : v_Plan_waysWithin_26 N k x1 x2 x3 I J Q K53) : w_Plan_waysWithin_26 N k 66 x1 x2 x3 (zH I J) Q' K53' := by
  induction k generalizing x1 x2 x3 I J with
  | zero => exact hv.elim
  | succ k ih =>
    rw [w_Plan_waysWithin_26]
    rw [v_Plan_waysWithin_26] at hv
    refine ⟨fun q1 => ?_, fun q1 => ?_⟩
    · have hv := hv.1 q1
      exact hK53 x1 x2 I J hv
    · have hv := hv.2 q1
      refine ⟨rfl, ?_⟩
      obtain ⟨g2, hv⟩ := hv
      refine ⟨qok_mk rfl g2, ?_⟩
      have z3 := zrow75 _ (zlt g2)
      rw [show (qR (zH I J) (qR (zH I J) 66 4) (x2).toNatClampNeg) = (76 + (x2).toNatClampNeg) from z3.1]
      refine u_Plan_waysFrom N x2 x3 x1 I J _ _ (fun r4 I5 J5 hv => ?_) hv
      obtain ⟨g6, hv⟩ := hv
      refine ⟨qok_mk z3.2 g6, ?_⟩
      obtain ⟨I7, eI7⟩ : ∃ z, z = qu I5 (76 + (x2).toNatClampNeg) (x3).toNatClampNeg r4 := ⟨_, rfl⟩
      have hv := hv I7 eI7
      intro h7 eh7
      have eh7 : h7 = zH I7 J5 := by rw [eh7, eI7]; rfl
      subst eh7
      exact ih x1 x2 (x3 + (1 : Int32)) I7 J5 hv
theorem u_Plan_waysWithin_20 (N k : Nat) (x1 : Int32) (x2 : Int32) (I : zI) (J : zJ) (Q : Int32 → zI → zJ → Prop) (Q' : Int32 → qH → Prop) (hQ : ∀ (r : Int32) (I : zI) (J : zJ), Q r I J → Q' r (zH I J)) (hv : v_Plan_waysWithin_20 N k x1 x2 I J Q ) : w_Plan_waysWithin_20 N k 66 x1 x2 (zH I J) Q'  := by
  induction k generalizing x1 x2 I J with
  | zero => exact hv.elim
  | succ k ih =>
    rw [w_Plan_waysWithin_20]
    rw [v_Plan_waysWithin_20] at hv
    refine ⟨fun q1 => ?_, fun q1 => ?_⟩
    · have hv := hv.1 q1
      refine ⟨rfl, ?_⟩
      obtain ⟨g2, hv⟩ := hv
      refine ⟨qok_mk rfl g2, ?_⟩
      have z3 := zrow75 _ (zlt g2)
      rw [show (qR (zH I J) (qR (zH I J) 66 4) ((0 : Int32)).toNatClampNeg) = (76 + ((0 : Int32)).toNatClampNeg) from z3.1]
      obtain ⟨g4, hv⟩ := hv
      refine ⟨qok_mk z3.2 g4, ?_⟩
      exact hQ _ _ _ hv
    · have hv := hv.2 q1
      refine u_Plan_waysWithin_26 N N x1 x2 (0 : Int32) I J Q _ hQ _ _ (fun w5 w6 I7 J7 hv => ?_)  hv
      exact ih w5 (w6 + (-1 : Int32)) I7 J7 hv
theorem u_Plan_waysWithin (N : Nat) (x1 : Int32) (I : zI) (J : zJ) (Q : Int32 → zI → zJ → Prop) (Q' : Int32 → qH → Prop) (hQ : ∀ (r : Int32) (I : zI) (J : zJ), Q r I J → Q' r (zH I J)) (hv : v_Plan_waysWithin N x1 I J Q) : w_Plan_waysWithin N 66 x1 (zH I J) Q' := by
  unfold w_Plan_waysWithin
  unfold v_Plan_waysWithin at hv
  refine ⟨rfl, ?_⟩
  refine u_Plan_letTake N (1 : Int32) I J _ _ (fun I1 J1 hv => ?_) hv
  refine ⟨rfl, ?_⟩
  refine u_Plan_clearLast N (1 : Int32) I1 J1 _ _ (fun I2 J2 hv => ?_) hv
  refine ⟨rfl, ?_⟩
  refine ⟨rfl, ?_⟩
  intro y3 ey3
  have hv := hv y3 ey3
  exact u_Plan_waysWithin_20 N N x1 y3 I2 J2 Q _ hQ   hv
theorem u_Past_drop (N : Nat)  (I : zI) (J : zJ) (Q : zI → zJ → Prop) (Q' : qH → Prop) (hQ : ∀ (I : zI) (J : zJ), Q I J → Q' (zH I J)) (hv : v_Past_drop N  I J Q) : w_Past_drop N 100 (zH I J) Q' := by
  unfold w_Past_drop
  unfold v_Past_drop at hv
  refine ⟨rfl, ?_⟩
  obtain ⟨I1, eI1⟩ : ∃ z, z = qu I 100 2 (0 : Int32) := ⟨_, rfl⟩
  have hv := hv I1 eI1
  intro h1 eh1
  have eh1 : h1 = zH I1 J := by rw [eh1, eI1]; rfl
  subst eh1
  exact hQ _ _ hv
theorem u_Past_keep_c49 (N : Nat) (_x1 : Nat) (I : zI) (J : zJ) (Q : zI → zJ → Prop) (Q' : qH → Prop) (hQ : ∀ (I : zI) (J : zJ), Q I J → Q' (zH I J)) (hv : v_Past_keep N 49 I J Q) : w_Past_keep N 100 49 (zH I J) Q' := by
  unfold w_Past_keep
  unfold v_Past_keep at hv
  refine ⟨rfl, ?_⟩
  obtain ⟨g1, hv⟩ := hv
  refine ⟨qok_mk rfl g1, ?_⟩
  have z2 := zSt_past _ (zlt g1)
  rw [show (qR (zH I J) (qR (zH I J) 100 0) ((qI (zH I J) 100 1)).toNatClampNeg) = (102 + 6 * ((I 100 1)).toNatClampNeg) from z2.1]
  refine ⟨z2.2.1, ?_⟩
  refine u_State_become_g N z2.2 zSt_49 (102 + 6 * ((I 100 1)).toNatClampNeg) 49 I J _ _ (fun I3 J3 hv => ?_) hv
  refine ⟨rfl, ?_⟩
  obtain ⟨g4, hv⟩ := hv
  refine ⟨g4, ?_⟩
  obtain ⟨I5, eI5⟩ : ∃ z, z = qu I3 100 1 (((I3 100 1) + (1 : Int32)) - ((I3 100 1) + (1 : Int32)) / (40 : Int32) * (40 : Int32)) := ⟨_, rfl⟩
  have hv := hv I5 eI5
  intro h5 eh5
  have eh5 : h5 = zH I5 J3 := by rw [eh5, eI5]; rfl
  subst eh5
  refine ⟨rfl, ?_⟩
  obtain ⟨I6, eI6⟩ : ∃ z, z = qu I5 100 2 (if ((I5 100 2) + (1 : Int32)) < (40 : Int32) then ((I5 100 2) + (1 : Int32)) else (40 : Int32)) := ⟨_, rfl⟩
  have hv := hv I6 eI6
  intro h6 eh6
  have eh6 : h6 = zH I6 J3 := by rw [eh6, eI6]; rfl
  subst eh6
  exact hQ _ _ hv
theorem u_Past_giveBack_c49 (N : Nat) (_x1 : Nat) (I : zI) (J : zJ) (Q : Int32 → zI → zJ → Prop) (Q' : Int32 → qH → Prop) (hQ : ∀ (r : Int32) (I : zI) (J : zJ), Q r I J → Q' r (zH I J)) (hv : v_Past_giveBack N 49 I J Q) : w_Past_giveBack N 100 49 (zH I J) Q' := by
  unfold w_Past_giveBack
  unfold v_Past_giveBack at hv
  refine ⟨rfl, ?_⟩
  refine ⟨fun q1 => ?_, fun q1 => ?_⟩
  · have hv := hv.1 q1
    obtain ⟨g2, hv⟩ := hv
    refine ⟨g2, ?_⟩
    obtain ⟨I3, eI3⟩ : ∃ z, z = qu I 100 1 ((((I 100 1) + (40 : Int32)) - (1 : Int32)) - (((I 100 1) + (40 : Int32)) - (1 : Int32)) / (40 : Int32) * (40 : Int32)) := ⟨_, rfl⟩
    have hv := hv I3 eI3
    intro h3 eh3
    have eh3 : h3 = zH I3 J := by rw [eh3, eI3]; rfl
    subst eh3
    refine ⟨rfl, ?_⟩
    obtain ⟨I4, eI4⟩ : ∃ z, z = qu I3 100 2 ((I3 100 2) - (1 : Int32)) := ⟨_, rfl⟩
    have hv := hv I4 eI4
    intro h4 eh4
    have eh4 : h4 = zH I4 J := by rw [eh4, eI4]; rfl
    subst eh4
    refine ⟨rfl, ?_⟩
    obtain ⟨g5, hv⟩ := hv
    refine ⟨qok_mk rfl g5, ?_⟩
    have z6 := zSt_past _ (zlt g5)
    rw [show (qR (zH I4 J) (qR (zH I4 J) 100 0) ((qI (zH I4 J) 100 1)).toNatClampNeg) = (102 + 6 * ((I4 100 1)).toNatClampNeg) from z6.1]
    refine ⟨rfl, ?_⟩
    refine u_State_become_g N zSt_49 z6.2 49 (102 + 6 * ((I4 100 1)).toNatClampNeg) I4 J _ _ (fun I7 J7 hv => ?_) hv
    exact ⟨Or.inr rfl, hQ _ _ _ hv⟩
  · have hv := hv.2 q1
    exact ⟨Or.inl rfl, hQ _ _ _ hv⟩
theorem u_Told_hasRoom (N : Nat)  (I : zI) (J : zJ) (Q : Int32 → zI → zJ → Prop) (Q' : Int32 → qH → Prop) (hQ : ∀ (r : Int32) (I : zI) (J : zJ), Q r I J → Q' r (zH I J)) (hv : v_Told_hasRoom N  I J Q) : w_Told_hasRoom N 83 (zH I J) Q' := by
  unfold w_Told_hasRoom
  unfold v_Told_hasRoom at hv
  refine ⟨rfl, ?_⟩
  refine ⟨fun q1 => ?_, fun q1 => ?_⟩
  · have hv := hv.1 q1
    exact ⟨Or.inl rfl, hQ _ _ _ hv⟩
  · have hv := hv.2 q1
    exact ⟨Or.inr rfl, hQ _ _ _ hv⟩
theorem u_Told_add (N : Nat) (x1 : Int32) (x2 : Int32) (x3 : Int32) (I : zI) (J : zJ) (Q : Int32 → zI → zJ → Prop) (Q' : Int32 → qH → Prop) (hQ : ∀ (r : Int32) (I : zI) (J : zJ), Q r I J → Q' r (zH I J)) (hv : v_Told_add N x1 x2 x3 I J Q) : w_Told_add N 83 x1 x2 x3 (zH I J) Q' := by
  unfold w_Told_add
  unfold v_Told_add at hv
  refine ⟨rfl, ?_⟩
  refine u_Told_hasRoom N  I J _ _ (fun r1 I2 J2 hv => ?_) hv
  refine ⟨fun q3 => ?_, fun q3 => ?_⟩
  · have hv := hv.1 q3
    refine ⟨rfl, ?_⟩
    obtain ⟨g4, hv⟩ := hv
    refine ⟨qok_mk rfl g4, ?_⟩
    obtain ⟨I5, eI5⟩ : ∃ z, z = qu I2 84 ((I2 83 7)).toNatClampNeg x1 := ⟨_, rfl⟩
    have hv := hv I5 eI5
    intro h5 eh5
    have eh5 : h5 = zH I5 J2 := by rw [eh5, eI5]; rfl
    subst eh5
    refine ⟨rfl, ?_⟩
    obtain ⟨g6, hv⟩ := hv
    refine ⟨qok_mk rfl g6, ?_⟩
    obtain ⟨I7, eI7⟩ : ∃ z, z = qu I5 85 ((I5 83 7)).toNatClampNeg x2 := ⟨_, rfl⟩
    have hv := hv I7 eI7
    intro h7 eh7
    have eh7 : h7 = zH I7 J2 := by rw [eh7, eI7]; rfl
    subst eh7
    refine ⟨rfl, ?_⟩
    obtain ⟨g8, hv⟩ := hv
    refine ⟨qok_mk rfl g8, ?_⟩
    obtain ⟨I9, eI9⟩ : ∃ z, z = qu I7 86 ((I7 83 7)).toNatClampNeg (vp_nar .boolean x3) := ⟨_, rfl⟩
    have hv := hv I9 eI9
    intro h9 eh9
    have eh9 : h9 = zH I9 J2 := by rw [eh9, eI9]; rfl
    subst eh9
    refine ⟨rfl, ?_⟩
    obtain ⟨I10, eI10⟩ : ∃ z, z = qu I9 83 7 ((I9 83 7) + (1 : Int32)) := ⟨_, rfl⟩
    have hv := hv I10 eI10
    intro h10 eh10
    have eh10 : h10 = zH I10 J2 := by rw [eh10, eI10]; rfl
    subst eh10
    refine ⟨rfl, ?_⟩
    exact hQ _ _ _ hv
  · have hv := hv.2 q3
    exact hQ _ _ _ hv
theorem u_Told_canBe_49_c49 (N k : Nat) (x4 : Int32) (x5 : Int32) (I : zI) (J : zJ) (Q : Int32 → zI → zJ → Prop) (Q' : Int32 → qH → Prop) (hQ : ∀ (r : Int32) (I : zI) (J : zJ), Q r I J → Q' r (zH I J)) (hv : v_Told_canBe_49 N k x4 x5 I J Q ) : w_Told_canBe_49 N k 83 x4 x5 (zH I J) Q'  := by
  induction k generalizing x4 x5 I J with
  | zero => exact hv.elim
  | succ k ih =>
    rw [w_Told_canBe_49]
    rw [v_Told_canBe_49] at hv
    refine ⟨fun q1 => ?_, fun q1 => ?_⟩
    · have hv := hv.1 q1
      exact ⟨Or.inr rfl, hQ _ _ _ hv⟩
    · have hv := hv.2 q1
      refine ⟨rfl, ?_⟩
      refine ⟨fun q2 => ?_, fun q2 => ?_⟩
      · have hv := hv.1 q2
        exact ⟨Or.inr rfl, hQ _ _ _ hv⟩
      · have hv := hv.2 q2
        refine ⟨rfl, ?_⟩
        obtain ⟨g3, hv⟩ := hv
        refine ⟨qok_mk rfl g3, ?_⟩
        obtain ⟨g4, hv⟩ := hv
        refine ⟨qok_mk rfl g4, ?_⟩
        obtain ⟨g5, hv⟩ := hv
        refine ⟨qok_mk rfl g5, ?_⟩
        refine ⟨fun q6 => ?_, fun q6 => ?_⟩
        · have hv := hv.1 q6
          obtain ⟨g7, hv⟩ := hv
          refine ⟨qok_mk rfl g7, ?_⟩
          refine ⟨fun q8 => ?_, fun q8 => ?_⟩
          · have hv := hv.1 q8
            exact ih x4 (x5 + (1 : Int32)) I J hv
          · have hv := hv.2 q8
            exact ⟨Or.inl rfl, hQ _ _ _ hv⟩
        · have hv := hv.2 q6
          obtain ⟨g9, hv⟩ := hv
          refine ⟨qok_mk rfl g9, ?_⟩
          refine ⟨fun q10 => ?_, fun q10 => ?_⟩
          · have hv := hv.1 q10
            exact ih x4 (x5 + (1 : Int32)) I J hv
          · have hv := hv.2 q10
            exact ⟨Or.inl rfl, hQ _ _ _ hv⟩
theorem u_Told_canBe_c49 (N : Nat) (_x1 : Nat) (x2 : Int32) (x3 : Int32) (x4 : Int32) (I : zI) (J : zJ) (Q : Int32 → zI → zJ → Prop) (Q' : Int32 → qH → Prop) (hQ : ∀ (r : Int32) (I : zI) (J : zJ), Q r I J → Q' r (zH I J)) (hv : v_Told_canBe N 49 x2 x3 x4 I J Q) : w_Told_canBe N 83 49 x2 x3 x4 (zH I J) Q' := by
  unfold w_Told_canBe
  unfold v_Told_canBe at hv
  refine ⟨rfl, ?_⟩
  refine u_State_isHung_c49 N 49 x2 I J _ _ (fun r1 I2 J2 hv => ?_) hv
  refine ⟨fun q3 => ?_, fun q3 => ?_⟩
  · have hv := hv.1 q3
    exact ⟨Or.inl rfl, hQ _ _ _ hv⟩
  · have hv := hv.2 q3
    refine ⟨rfl, ?_⟩
    refine u_State_isHung_c49 N 49 x3 I2 J2 _ _ (fun r4 I5 J5 hv => ?_) hv
    refine ⟨fun q6 => ?_, fun q6 => ?_⟩
    · have hv := hv.1 q6
      refine ⟨rfl, ?_⟩
      refine ⟨rfl, ?_⟩
      refine u_State_become_c94_49 N 94 49 I5 J5 _ _ (fun I7 J7 hv => ?_) hv
      refine ⟨rfl, ?_⟩
      refine ⟨rfl, ?_⟩
      refine u_State_exchange_c94 N 94 x2 x3 I7 J7 _ _ (fun I8 J8 hv => ?_) hv
      refine ⟨rfl, ?_⟩
      refine ⟨rfl, ?_⟩
      refine u_Night_wakeAll_c94 N 94 I8 J8 _ _ (fun I9 J9 hv => ?_) hv
      exact u_Told_canBe_49_c49 N N x4 (0 : Int32) I9 J9 Q _ hQ   hv
    · have hv := hv.2 q6
      exact ⟨Or.inl rfl, hQ _ _ _ hv⟩
theorem u_Told_pairsLeft_23_c49 (N k : Nat) (x2 : Int32) (x3 : Int32) (x4 : Int32) (x5 : Int32) (I : zI) (J : zJ) (Q : Int32 → zI → zJ → Prop) (Q' : Int32 → qH → Prop) (hQ : ∀ (r : Int32) (I : zI) (J : zJ), Q r I J → Q' r (zH I J)) (K62 : Int32 → Int32 → Int32 → zI → zJ → Prop) (K62' : Nat → Nat → Int32 → Int32 → Int32 → qH → Prop) (hK62 : ∀ (x2 : Int32) (x3 : Int32) (x4 : Int32) (I : zI) (J : zJ), K62 x2 x3 x4 I J → K62' 83 49 x2 x3 x4 (zH I J)) (hv : v_Told_pairsLeft_23 N k 49 x2 x3 x4 x5 I J Q K62) : w_Told_pairsLeft_23 N k 83 49 x2 x3 x4 x5 (zH I J) Q' K62' := by
  induction k generalizing x2 x3 x4 x5 I J with
  | zero => exact hv.elim
  | succ k ih =>
    rw [w_Told_pairsLeft_23]
    rw [v_Told_pairsLeft_23] at hv
    refine ⟨rfl, ?_⟩
    refine ⟨rfl, ?_⟩
    refine ⟨fun q1 => ?_, fun q1 => ?_⟩
    · have hv := hv.1 q1
      exact hK62 x2 x3 x4 I J hv
    · have hv := hv.2 q1
      refine u_Told_canBe_c49 N 49 x4 x5 x2 I J _ _ (fun r2 I3 J3 hv => ?_) hv
      refine ⟨fun q4 => ?_, fun q4 => ?_⟩
      · have hv := hv.1 q4
        intro y5 ey5
        have hv := hv y5 ey5
        exact ih x2 y5 x4 (x5 + (1 : Int32)) I3 J3 hv
      · have hv := hv.2 q4
        intro y6 ey6
        have hv := hv y6 ey6
        exact ih x2 y6 x4 (x5 + (1 : Int32)) I3 J3 hv
theorem u_Told_pairsLeft_5_c49 (N k : Nat) (x2 : Int32) (x3 : Int32) (x4 : Int32) (I : zI) (J : zJ) (Q : Int32 → zI → zJ → Prop) (Q' : Int32 → qH → Prop) (hQ : ∀ (r : Int32) (I : zI) (J : zJ), Q r I J → Q' r (zH I J)) (hv : v_Told_pairsLeft_5 N k 49 x2 x3 x4 I J Q ) : w_Told_pairsLeft_5 N k 83 49 x2 x3 x4 (zH I J) Q'  := by
  induction k generalizing x2 x3 x4 I J with
  | zero => exact hv.elim
  | succ k ih =>
    rw [w_Told_pairsLeft_5]
    rw [v_Told_pairsLeft_5] at hv
    refine ⟨rfl, ?_⟩
    refine ⟨rfl, ?_⟩
    refine ⟨fun q1 => ?_, fun q1 => ?_⟩
    · have hv := hv.1 q1
      exact hQ _ _ _ hv
    · have hv := hv.2 q1
      intro y2 ey2
      have hv := hv y2 ey2
      refine u_Told_pairsLeft_23_c49 N N x2 x3 x4 y2 I J Q _ hQ _ _ (fun w3 w4 w5 I6 J6 hv => ?_)  hv
      exact ih w3 w4 (w5 + (1 : Int32)) I6 J6 hv
theorem u_Told_pairsLeft_c49 (N : Nat) (_x1 : Nat) (x2 : Int32) (I : zI) (J : zJ) (Q : Int32 → zI → zJ → Prop) (Q' : Int32 → qH → Prop) (hQ : ∀ (r : Int32) (I : zI) (J : zJ), Q r I J → Q' r (zH I J)) (hv : v_Told_pairsLeft N 49 x2 I J Q) : w_Told_pairsLeft N 83 49 x2 (zH I J) Q' := by
  unfold w_Told_pairsLeft
  unfold v_Told_pairsLeft at hv
  exact u_Told_pairsLeft_5_c49 N N x2 (0 : Int32) (0 : Int32) I J Q _ hQ   hv
theorem u_Told_pairLeft_24_c49 (N k : Nat) (x2 : Int32) (x3 : Int32) (x4 : Int32) (x5 : Int32) (x6 : Int32) (I : zI) (J : zJ) (Q : Int32 → zI → zJ → Prop) (Q' : Int32 → qH → Prop) (hQ : ∀ (r : Int32) (I : zI) (J : zJ), Q r I J → Q' r (zH I J)) (K73 : Int32 → Int32 → Int32 → Int32 → zI → zJ → Prop) (K73' : Nat → Nat → Int32 → Int32 → Int32 → Int32 → qH → Prop) (hK73 : ∀ (x2 : Int32) (x3 : Int32) (x4 : Int32) (x5 : Int32) (I : zI) (J : zJ), K73 x2 x3 x4 x5 I J → K73' 83 49 x2 x3 x4 x5 (zH I J)) (hv : v_Told_pairLeft_24 N k 49 x2 x3 x4 x5 x6 I J Q K73) : w_Told_pairLeft_24 N k 83 49 x2 x3 x4 x5 x6 (zH I J) Q' K73' := by
  induction k generalizing x2 x3 x4 x5 x6 I J with
  | zero => exact hv.elim
  | succ k ih =>
    rw [w_Told_pairLeft_24]
    rw [v_Told_pairLeft_24] at hv
    refine ⟨rfl, ?_⟩
    refine ⟨rfl, ?_⟩
    refine ⟨fun q1 => ?_, fun q1 => ?_⟩
    · have hv := hv.1 q1
      exact hK73 x2 x3 x4 x5 I J hv
    · have hv := hv.2 q1
      refine u_Told_canBe_c49 N 49 x5 x6 x2 I J _ _ (fun r2 I3 J3 hv => ?_) hv
      refine ⟨fun q4 => ?_, fun q4 => ?_⟩
      · have hv := hv.1 q4
        exact ih x2 x3 x4 x5 (x6 + (1 : Int32)) I3 J3 hv
      · have hv := hv.2 q4
        refine ⟨fun q5 => ?_, fun q5 => ?_⟩
        · have hv := hv.1 q5
          exact ih x2 x3 (x4 + (1 : Int32)) x5 (x6 + (1 : Int32)) I3 J3 hv
        · have hv := hv.2 q5
          exact hQ _ _ _ hv
theorem u_Told_pairLeft_6_c49 (N k : Nat) (x2 : Int32) (x3 : Int32) (x4 : Int32) (x5 : Int32) (I : zI) (J : zJ) (Q : Int32 → zI → zJ → Prop) (Q' : Int32 → qH → Prop) (hQ : ∀ (r : Int32) (I : zI) (J : zJ), Q r I J → Q' r (zH I J)) (hv : v_Told_pairLeft_6 N k 49 x2 x3 x4 x5 I J Q ) : w_Told_pairLeft_6 N k 83 49 x2 x3 x4 x5 (zH I J) Q'  := by
  induction k generalizing x2 x3 x4 x5 I J with
  | zero => exact hv.elim
  | succ k ih =>
    rw [w_Told_pairLeft_6]
    rw [v_Told_pairLeft_6] at hv
    refine ⟨rfl, ?_⟩
    refine ⟨rfl, ?_⟩
    refine ⟨fun q1 => ?_, fun q1 => ?_⟩
    · have hv := hv.1 q1
      exact hQ _ _ _ hv
    · have hv := hv.2 q1
      intro y2 ey2
      have hv := hv y2 ey2
      refine u_Told_pairLeft_24_c49 N N x2 x3 x4 x5 y2 I J Q _ hQ _ _ (fun w3 w4 w5 w6 I7 J7 hv => ?_)  hv
      exact ih w3 w4 w5 (w6 + (1 : Int32)) I7 J7 hv
theorem u_Told_pairLeft_c49 (N : Nat) (_x1 : Nat) (x2 : Int32) (x3 : Int32) (I : zI) (J : zJ) (Q : Int32 → zI → zJ → Prop) (Q' : Int32 → qH → Prop) (hQ : ∀ (r : Int32) (I : zI) (J : zJ), Q r I J → Q' r (zH I J)) (hv : v_Told_pairLeft N 49 x2 x3 I J Q) : w_Told_pairLeft N 83 49 x2 x3 (zH I J) Q' := by
  unfold w_Told_pairLeft
  unfold v_Told_pairLeft at hv
  exact u_Told_pairLeft_6_c49 N N x2 x3 (0 : Int32) (0 : Int32) I J Q _ hQ   hv
theorem u_Told_addToTally_2 (N k : Nat) (x1 : Int32) (I : zI) (J : zJ) (Q : zI → zJ → Prop) (Q' : qH → Prop) (hQ : ∀ (I : zI) (J : zJ), Q I J → Q' (zH I J)) (hv : v_Told_addToTally_2 N k x1 I J Q ) : w_Told_addToTally_2 N k 83 x1 (zH I J) Q'  := by
  induction k generalizing x1 I J with
  | zero => exact hv.elim
  | succ k ih =>
    rw [w_Told_addToTally_2]
    rw [v_Told_addToTally_2] at hv
    refine ⟨rfl, ?_⟩
    refine ⟨rfl, ?_⟩
    refine ⟨fun q1 => ?_, fun q1 => ?_⟩
    · have hv := hv.1 q1
      exact hQ _ _ hv
    · have hv := hv.2 q1
      obtain ⟨g2, hv⟩ := hv
      refine ⟨qok_mk rfl g2, ?_⟩
      have z3 := zrow87 _ (zlt g2)
      rw [show (qR (zH I J) (qR (zH I J) 83 6) (x1).toNatClampNeg) = (88 + (x1).toNatClampNeg) from z3.1]
      refine ⟨rfl, ?_⟩
      obtain ⟨g4, hv⟩ := hv
      refine ⟨qok_mk rfl g4, ?_⟩
      obtain ⟨g5, hv⟩ := hv
      refine ⟨qok_mk z3.2 g5, ?_⟩
      obtain ⟨I6, eI6⟩ : ∃ z, z = qu I (88 + (x1).toNatClampNeg) ((I 97 (x1).toNatClampNeg)).toNatClampNeg ((I (88 + (x1).toNatClampNeg) ((I 97 (x1).toNatClampNeg)).toNatClampNeg) + (1 : Int32)) := ⟨_, rfl⟩
      have hv := hv I6 eI6
      intro h6 eh6
      have eh6 : h6 = zH I6 J := by rw [eh6, eI6]; rfl
      subst eh6
      exact ih (x1 + (1 : Int32)) I6 J hv
theorem u_Told_addToTally (N : Nat)  (I : zI) (J : zJ) (Q : zI → zJ → Prop) (Q' : qH → Prop) (hQ : ∀ (I : zI) (J : zJ), Q I J → Q' (zH I J)) (hv : v_Told_addToTally N  I J Q) : w_Told_addToTally N 83 (zH I J) Q' := by
  unfold w_Told_addToTally
  unfold v_Told_addToTally at hv
  exact u_Told_addToTally_2 N N (0 : Int32) I J Q _ hQ   hv
theorem u_Told_clearTally_10 (N k : Nat) (x1 : Int32) (x2 : Int32) (I : zI) (J : zJ) (Q : zI → zJ → Prop) (Q' : qH → Prop) (hQ : ∀ (I : zI) (J : zJ), Q I J → Q' (zH I J)) (K31 : Int32 → zI → zJ → Prop) (K31' : Nat → Int32 → qH → Prop) (hK31 : ∀ (x1 : Int32) (I : zI) (J : zJ), K31 x1 I J → K31' 83 x1 (zH I J)) (hv : v_Told_clearTally_10 N k x1 x2 I J Q K31) : w_Told_clearTally_10 N k 83 x1 x2 (zH I J) Q' K31' := by
  induction k generalizing x1 x2 I J with
  | zero => exact hv.elim
  | succ k ih =>
    rw [w_Told_clearTally_10]
    rw [v_Told_clearTally_10] at hv
    refine ⟨fun q1 => ?_, fun q1 => ?_⟩
    · have hv := hv.1 q1
      exact hK31 x1 I J hv
    · have hv := hv.2 q1
      refine ⟨rfl, ?_⟩
      obtain ⟨g2, hv⟩ := hv
      refine ⟨qok_mk rfl g2, ?_⟩
      have z3 := zrow87 _ (zlt g2)
      rw [show (qR (zH I J) (qR (zH I J) 83 6) (x1).toNatClampNeg) = (88 + (x1).toNatClampNeg) from z3.1]
      obtain ⟨g4, hv⟩ := hv
      refine ⟨qok_mk z3.2 g4, ?_⟩
      obtain ⟨I5, eI5⟩ : ∃ z, z = qu I (88 + (x1).toNatClampNeg) (x2).toNatClampNeg (0 : Int32) := ⟨_, rfl⟩
      have hv := hv I5 eI5
      intro h5 eh5
      have eh5 : h5 = zH I5 J := by rw [eh5, eI5]; rfl
      subst eh5
      exact ih x1 (x2 + (1 : Int32)) I5 J hv
theorem u_Told_clearTally_2 (N k : Nat) (x1 : Int32) (I : zI) (J : zJ) (Q : zI → zJ → Prop) (Q' : qH → Prop) (hQ : ∀ (I : zI) (J : zJ), Q I J → Q' (zH I J)) (hv : v_Told_clearTally_2 N k x1 I J Q ) : w_Told_clearTally_2 N k 83 x1 (zH I J) Q'  := by
  induction k generalizing x1 I J with
  | zero => exact hv.elim
  | succ k ih =>
    rw [w_Told_clearTally_2]
    rw [v_Told_clearTally_2] at hv
    refine ⟨fun q1 => ?_, fun q1 => ?_⟩
    · have hv := hv.1 q1
      exact hQ _ _ hv
    · have hv := hv.2 q1
      refine u_Told_clearTally_10 N N x1 (0 : Int32) I J Q _ hQ _ _ (fun w2 I3 J3 hv => ?_)  hv
      exact ih (w2 + (1 : Int32)) I3 J3 hv
theorem u_Told_clearTally (N : Nat)  (I : zI) (J : zJ) (Q : zI → zJ → Prop) (Q' : qH → Prop) (hQ : ∀ (I : zI) (J : zJ), Q I J → Q' (zH I J)) (hv : v_Told_clearTally N  I J Q) : w_Told_clearTally N 83 (zH I J) Q' := by
  unfold w_Told_clearTally
  unfold v_Told_clearTally at hv
  exact u_Told_clearTally_2 N N (0 : Int32) I J Q _ hQ   hv
theorem u_Told_leastAtWorst_24 (N k : Nat) (x1 : Int32) (x2 : Int32) (x3 : Int32) (x4 : Int32) (x5 : Int32) (I : zI) (J : zJ) (Q : Int32 → zI → zJ → Prop) (Q' : Int32 → qH → Prop) (hQ : ∀ (r : Int32) (I : zI) (J : zJ), Q r I J → Q' r (zH I J)) (K58 : Int32 → Int32 → Int32 → Int32 → zI → zJ → Prop) (K58' : Nat → Int32 → Int32 → Int32 → Int32 → qH → Prop) (hK58 : ∀ (x1 : Int32) (x2 : Int32) (x3 : Int32) (x4 : Int32) (I : zI) (J : zJ), K58 x1 x2 x3 x4 I J → K58' 83 x1 x2 x3 x4 (zH I J)) (hv : v_Told_leastAtWorst_24 N k x1 x2 x3 x4 x5 I J Q K58) : w_Told_leastAtWorst_24 N k 83 x1 x2 x3 x4 x5 (zH I J) Q' K58' := by
  induction k generalizing x1 x2 x3 x4 x5 I J with
  | zero => exact hv.elim
  | succ k ih =>
    rw [w_Told_leastAtWorst_24]
    rw [v_Told_leastAtWorst_24] at hv
    refine ⟨rfl, ?_⟩
    refine ⟨rfl, ?_⟩
    refine ⟨fun q1 => ?_, fun q1 => ?_⟩
    · have hv := hv.1 q1
      exact hK58 x1 x2 x3 x4 I J hv
    · have hv := hv.2 q1
      obtain ⟨g2, hv⟩ := hv
      refine ⟨qok_mk rfl g2, ?_⟩
      have z3 := zrow87 _ (zlt g2)
      rw [show (qR (zH I J) (qR (zH I J) 83 6) (x3).toNatClampNeg) = (88 + (x3).toNatClampNeg) from z3.1]
      obtain ⟨g4, hv⟩ := hv
      refine ⟨qok_mk z3.2 g4, ?_⟩
      intro y5 ey5
      have hv := hv y5 ey5
      exact ih x1 x2 x3 y5 (x5 + (1 : Int32)) I J hv
theorem u_Told_leastAtWorst_7 (N k : Nat) (x1 : Int32) (x2 : Int32) (x3 : Int32) (I : zI) (J : zJ) (Q : Int32 → zI → zJ → Prop) (Q' : Int32 → qH → Prop) (hQ : ∀ (r : Int32) (I : zI) (J : zJ), Q r I J → Q' r (zH I J)) (hv : v_Told_leastAtWorst_7 N k x1 x2 x3 I J Q ) : w_Told_leastAtWorst_7 N k 83 x1 x2 x3 (zH I J) Q'  := by
  induction k generalizing x1 x2 x3 I J with
  | zero => exact hv.elim
  | succ k ih =>
    rw [w_Told_leastAtWorst_7]
    rw [v_Told_leastAtWorst_7] at hv
    refine ⟨rfl, ?_⟩
    refine ⟨rfl, ?_⟩
    refine ⟨fun q1 => ?_, fun q1 => ?_⟩
    · have hv := hv.1 q1
      exact hQ _ _ _ hv
    · have hv := hv.2 q1
      refine u_Told_leastAtWorst_24 N N x1 x2 x3 (0 : Int32) (0 : Int32) I J Q _ hQ _ _ (fun w2 w3 w4 w5 I6 J6 hv => ?_)  hv
      refine ⟨fun q7 => ?_, fun q7 => ?_⟩
      · have hv := hv.1 q7
        exact ih w4 w5 (w4 + (1 : Int32)) I6 J6 hv
      · have hv := hv.2 q7
        refine ⟨fun q8 => ?_, fun q8 => ?_⟩
        · have hv := hv.1 q8
          exact ih w2 w3 (w4 + (1 : Int32)) I6 J6 hv
        · have hv := hv.2 q8
          exact ih w4 w5 (w4 + (1 : Int32)) I6 J6 hv
theorem u_Told_leastAtWorst (N : Nat)  (I : zI) (J : zJ) (Q : Int32 → zI → zJ → Prop) (Q' : Int32 → qH → Prop) (hQ : ∀ (r : Int32) (I : zI) (J : zJ), Q r I J → Q' r (zH I J)) (hv : v_Told_leastAtWorst N  I J Q) : w_Told_leastAtWorst N 83 (zH I J) Q' := by
  unfold w_Told_leastAtWorst
  unfold v_Told_leastAtWorst at hv
  exact u_Told_leastAtWorst_7 N N (-2 : Int32) (0 : Int32) (0 : Int32) I J Q _ hQ   hv
theorem u_Told_whomToAsk_27_c49 (N k : Nat) (x2 : Int32) (x3 : Int32) (x4 : Int32) (x5 : Int32) (I : zI) (J : zJ) (Q : Int32 → zI → zJ → Prop) (Q' : Int32 → qH → Prop) (hQ : ∀ (r : Int32) (I : zI) (J : zJ), Q r I J → Q' r (zH I J)) (K64 : Int32 → Int32 → Int32 → zI → zJ → Prop) (K64' : Nat → Nat → Int32 → Int32 → Int32 → qH → Prop) (hK64 : ∀ (x2 : Int32) (x3 : Int32) (x4 : Int32) (I : zI) (J : zJ), K64 x2 x3 x4 I J → K64' 83 49 x2 x3 x4 (zH I J)) (hv : v_Told_whomToAsk_27 N k 49 x2 x3 x4 x5 I J Q K64) : w_Told_whomToAsk_27 N k 83 49 x2 x3 x4 x5 (zH I J) Q' K64' := by
  induction k generalizing x2 x3 x4 x5 I J with
  | zero => exact hv.elim
  | succ k ih =>
    rw [w_Told_whomToAsk_27]
    rw [v_Told_whomToAsk_27] at hv
    refine ⟨rfl, ?_⟩
    refine ⟨rfl, ?_⟩
    refine ⟨fun q1 => ?_, fun q1 => ?_⟩
    · have hv := hv.1 q1
      exact hK64 x2 x3 x4 I J hv
    · have hv := hv.2 q1
      refine u_Told_canBe_c49 N 49 x4 x5 x2 I J _ _ (fun r2 I3 J3 hv => ?_) hv
      refine ⟨fun q4 => ?_, fun q4 => ?_⟩
      · have hv := hv.1 q4
        exact ih x2 x3 x4 (x5 + (1 : Int32)) I3 J3 hv
      · have hv := hv.2 q4
        refine ⟨rfl, ?_⟩
        refine u_Told_addToTally N  I3 J3 _ _ (fun I5 J5 hv => ?_) hv
        exact ih x2 (1 : Int32) x4 (x5 + (1 : Int32)) I5 J5 hv
theorem u_Told_whomToAsk_9_c49 (N k : Nat) (x2 : Int32) (x3 : Int32) (x4 : Int32) (I : zI) (J : zJ) (Q : Int32 → zI → zJ → Prop) (Q' : Int32 → qH → Prop) (hQ : ∀ (r : Int32) (I : zI) (J : zJ), Q r I J → Q' r (zH I J)) (hv : v_Told_whomToAsk_9 N k 49 x2 x3 x4 I J Q ) : w_Told_whomToAsk_9 N k 83 49 x2 x3 x4 (zH I J) Q'  := by
  induction k generalizing x2 x3 x4 I J with
  | zero => exact hv.elim
  | succ k ih =>
    rw [w_Told_whomToAsk_9]
    rw [v_Told_whomToAsk_9] at hv
    refine ⟨rfl, ?_⟩
    refine ⟨rfl, ?_⟩
    refine ⟨fun q1 => ?_, fun q1 => ?_⟩
    · have hv := hv.1 q1
      refine ⟨fun q2 => ?_, fun q2 => ?_⟩
      · have hv := hv.1 q2
        exact hQ _ _ _ hv
      · have hv := hv.2 q2
        refine u_Told_leastAtWorst N  I J _ _ (fun r3 I4 J4 hv => ?_) hv
        exact hQ _ _ _ hv
    · have hv := hv.2 q1
      intro y5 ey5
      have hv := hv y5 ey5
      refine u_Told_whomToAsk_27_c49 N N x2 x3 x4 y5 I J Q _ hQ _ _ (fun w6 w7 w8 I9 J9 hv => ?_)  hv
      exact ih w6 w7 (w8 + (1 : Int32)) I9 J9 hv
theorem u_Told_whomToAsk_c49 (N : Nat) (_x1 : Nat) (x2 : Int32) (I : zI) (J : zJ) (Q : Int32 → zI → zJ → Prop) (Q' : Int32 → qH → Prop) (hQ : ∀ (r : Int32) (I : zI) (J : zJ), Q r I J → Q' r (zH I J)) (hv : v_Told_whomToAsk N 49 x2 I J Q) : w_Told_whomToAsk N 83 49 x2 (zH I J) Q' := by
  unfold w_Told_whomToAsk
  unfold v_Told_whomToAsk at hv
  refine ⟨rfl, ?_⟩
  refine u_Told_clearTally N  I J _ _ (fun I1 J1 hv => ?_) hv
  exact u_Told_whomToAsk_9_c49 N N x2 (0 : Int32) (0 : Int32) I1 J1 Q _ hQ   hv
