/-! over the layout: written by wip/whole/emitv.py -/
def v_M_read_10 (N : Nat) : Nat → Int32 → zI → zJ → (Int32 → zI → zJ → Prop) → (zI → zJ → Prop) → Prop
  | 0 => fun _ _ _ _ _ => False
  | k + 1 => fun x1 I J Q K36 => (((I 361 4) ≤ x1 → (K36 I J)) ∧ (¬ (I 361 4) ≤ x1 → (vp_in x1 2000 ∧ (vp_in x1 2000 ∧ ∀ I4 : zI, I4 = qu I 363 (x1).toNatClampNeg (vp_nar .byte (I 362 (x1).toNatClampNeg)) → (v_M_read_10 N k (x1 + (1 : Int32)) I4 J Q K36)))))
def v_M_read_112 (N : Nat) : Nat → zI → zJ → (Int32 → zI → zJ → Prop) → (zI → zJ → Prop) → Prop
  | 0 => fun _ _ _ _ => False
  | k + 1 => fun I J Q K134 => ((¬ (I 361 13) = 0 → (K134 I J)) ∧ ((I 361 13) = 0 → (v_M_is N (0 : Int32) I J (fun r2 I3 J3 => ((¬ r2 = 0 → (K134 I3 J3)) ∧ (r2 = 0 → (v_M_tellOne N  I3 J3 (fun I5 J5 => (v_M_read_112 N k I5 J5 Q K134)))))))))
def v_M_read_219 (N : Nat) : Nat → Int32 → zI → zJ → (Int32 → zI → zJ → Prop) → Prop
  | 0 => fun _ _ _ _ => False
  | k + 1 => fun x1 I J Q  => (((3 : Int32) ≤ x1 → Q (0 : Int32) I J) ∧ (¬ (3 : Int32) ≤ x1 → (vp_in x1 3 ∧ ∀ I3 : zI, I3 = qu I 408 (x1).toNatClampNeg (vp_nar .boolean (0 : Int32)) → (v_M_read_219 N k (x1 + (1 : Int32)) I3 J Q))))
def v_M_read_164 (N : Nat) (z0 : Int32) (I : zI) (J : zJ) (Q : Int32 → zI → zJ → Prop)  : Prop := (∀ I1 : zI, I1 = qu I 361 17 z0 → (((I1 361 13) ≤ 0 → (((I1 361 15) ≤ 0 → (∀ I4 : zI, I4 = qu I1 361 18 (I1 361 19) → (v_M_begins N  I4 J (fun I5 J5 => (v_M_keepsRow N  I5 J5 (fun I6 J6 => (∀ I7 : zI, I7 = qu I6 361 57 (0 : Int32) → (∀ I8 : zI, I8 = qu I7 361 63 (0 : Int32) → (v_M_read_219 N N (0 : Int32) I8 J6 Q ))))))))) ∧ (¬ (I1 361 15) ≤ 0 → Q (I1 361 15) I1 J))) ∧ (¬ (I1 361 13) ≤ 0 → Q (I1 361 13) I1 J)))
def v_M_read_134 (N : Nat)  (I : zI) (J : zJ) (Q : Int32 → zI → zJ → Prop)  : Prop := (((I 361 13) ≤ 0 → (((I 361 15) ≤ 0 → (v_M_read_164 N (-1 : Int32) I J Q )) ∧ (¬ (I 361 15) ≤ 0 → (v_M_read_164 N (I 361 16) I J Q )))) ∧ (¬ (I 361 13) ≤ 0 → (v_M_read_164 N (I 361 14) I J Q )))
def v_M_read (N : Nat)  (I : zI) (J : zJ) (Q : Int32 → zI → zJ → Prop) : Prop := (∀ I1 : zI, I1 = qu I 361 4 (I 361 2) → (v_M_read_10 N N (0 : Int32) I1 J Q (fun I2 J2 => (∀ I3 : zI, I3 = qu I2 361 2 (0 : Int32) → (v_M_cut N  I3 J2 (fun I4 J4 => (∀ I5 : zI, I5 = qu I4 361 11 (0 : Int32) → (∀ I6 : zI, I6 = qu I5 361 12 (0 : Int32) → (∀ I7 : zI, I7 = qu I6 361 13 (0 : Int32) → (∀ I8 : zI, I8 = qu I7 361 15 (0 : Int32) → (∀ I9 : zI, I9 = qu I8 361 19 ((1 : Int32) - (I8 361 18)) → (∀ I10 : zI, I10 = qu I9 361 20 (0 : Int32) → (v_M_plain N (I10 361 19) I10 J4 (fun I11 J11 => (∀ I12 : zI, I12 = qu I11 361 35 ((130 : Int32) * (I11 361 19)) → (∀ I13 : zI, I13 = qu I12 361 41 ((420 : Int32) * (I12 361 19)) → (v_M_read_112 N N  I13 J11 Q (fun I14 J14 => (v_M_read_134 N  I14 J14 Q )))))))))))))))))))
def v_M_place (N : Nat)  (I : zI) (J : zJ) (Q : Int32 → zI → zJ → Prop) : Prop := Q (I 361 17) I J
def v_M_termOf_104 (N : Nat) (x2 : Int32) (x3 : Int32) (x4 : Int32) (x5 : Int32) (x6 : Int32) (x7 : Int32) (I : zI) (J : zJ) (Q : Int32 → zI → zJ → Prop) (K5 : Int32 → Int32 → Int32 → zI → zJ → Prop) : Prop := ((¬ x5 = (2 : Int32) → ((¬ x5 = (3 : Int32) → ((¬ x5 = (4 : Int32) → (¬ x7 = 0 ∧ (vp_in (x3 - (1 : Int32)) 400 ∧ ∀ I6 : zI, I6 = qu I 392 ((x3 - (1 : Int32))).toNatClampNeg (x6 / x7) → (K5 x2 x3 (x4 + (1 : Int32)) I6 J)))) ∧ (x5 = (4 : Int32) → (vp_in (x3 - (1 : Int32)) 400 ∧ ∀ I8 : zI, I8 = qu I 392 ((x3 - (1 : Int32))).toNatClampNeg (x6 * x7) → (K5 x2 x3 (x4 + (1 : Int32)) I8 J))))) ∧ (x5 = (3 : Int32) → (vp_in (x3 - (1 : Int32)) 400 ∧ ∀ I10 : zI, I10 = qu I 392 ((x3 - (1 : Int32))).toNatClampNeg (x6 - x7) → (K5 x2 x3 (x4 + (1 : Int32)) I10 J))))) ∧ (x5 = (2 : Int32) → (vp_in (x3 - (1 : Int32)) 400 ∧ ∀ I12 : zI, I12 = qu I 392 ((x3 - (1 : Int32))).toNatClampNeg (x6 + x7) → (K5 x2 x3 (x4 + (1 : Int32)) I12 J))))
def v_M_termOf_5 (N : Nat) : Nat → Int32 → Int32 → Int32 → zI → zJ → (Int32 → zI → zJ → Prop) → Prop
  | 0 => fun _ _ _ _ _ _ => False
  | k + 1 => fun x2 x3 x4 I J Q  => ((x2 ≤ x4 → (vp_in (0 : Int32) 400 ∧ Q (I 392 ((0 : Int32)).toNatClampNeg) I J)) ∧ (¬ x2 ≤ x4 → (vp_in x4 840 ∧ (∀ y4 : Int32, y4 = (I 388 (x4).toNatClampNeg) → (((2 : Int32) ≤ y4 → (vp_in ((x3 + (-1 : Int32)) - (1 : Int32)) 400 ∧ (∀ y7 : Int32, y7 = (I 392 (((x3 + (-1 : Int32)) - (1 : Int32))).toNatClampNeg) → (vp_in (x3 + (-1 : Int32)) 400 ∧ (∀ y9 : Int32, y9 = (I 392 ((x3 + (-1 : Int32))).toNatClampNeg) → ((¬ y4 = (5 : Int32) → (v_M_termOf_104 N x2 (x3 + (-1 : Int32)) x4 y4 y7 y9 I J Q (fun x2 x3 x4 I J => v_M_termOf_5 N k x2 x3 x4 I J Q))) ∧ (y4 = (5 : Int32) → ((¬ y9 = 0 → (v_M_termOf_104 N x2 (x3 + (-1 : Int32)) x4 y4 y7 y9 I J Q (fun x2 x3 x4 I J => v_M_termOf_5 N k x2 x3 x4 I J Q))) ∧ (y9 = 0 → (∀ I12 : zI, I12 = qu I 361 48 (1 : Int32) → Q (0 : Int32) I12 J)))))))))) ∧ (¬ (2 : Int32) ≤ y4 → ((¬ y4 = 0 → (vp_in x4 840 ∧ (vp_in (I 389 (x4).toNatClampNeg) 9 ∧ (vp_in x3 400 ∧ ∀ I17 : zI, I17 = qu I 392 (x3).toNatClampNeg (I 391 ((I 389 (x4).toNatClampNeg)).toNatClampNeg) → (v_M_termOf_5 N k x2 (x3 + (1 : Int32)) (x4 + (1 : Int32)) I17 J Q))))) ∧ (y4 = 0 → (vp_in x4 840 ∧ (vp_in x3 400 ∧ ∀ I20 : zI, I20 = qu I 392 (x3).toNatClampNeg (I 389 (x4).toNatClampNeg) → (v_M_termOf_5 N k x2 (x3 + (1 : Int32)) (x4 + (1 : Int32)) I20 J Q)))))))))))
def v_M_termOf (N : Nat) (x1 : Int32) (x2 : Int32) (I : zI) (J : zJ) (Q : Int32 → zI → zJ → Prop) : Prop := (v_M_termOf_5 N N x2 (0 : Int32) x1 I J Q )
def v_M_in (N : Nat) (x0 : Int32) (x1 : Int32) (x2 : Int32) (I : zI) (J : zJ) (Q : Int32 → zI → zJ → Prop) : Prop := ((x0 < x1 → Q (0 : Int32) I J) ∧ (¬ x0 < x1 → ((x2 < x0 → Q (0 : Int32) I J) ∧ (¬ x2 < x0 → Q (1 : Int32) I J))))
def v_M_within (N : Nat) (x0 : Int32) (x1 : Int32) (x2 : Int32) (I : zI) (J : zJ) (Q : Int32 → zI → zJ → Prop) : Prop := ((x1 ≤ x0 → ((x0 ≤ x2 → Q x0 I J) ∧ (¬ x0 ≤ x2 → Q x2 I J))) ∧ (¬ x1 ≤ x0 → Q x1 I J))
def v_M_off (N : Nat) (x0 : Int32) (x1 : Int32) (I : zI) (J : zJ) (Q : Int32 → zI → zJ → Prop) : Prop := ((x1 ≤ x0 → Q (x0 - x1) I J) ∧ (¬ x1 ≤ x0 → Q (x1 - x0) I J))
def v_M_isHanger (N : Nat) (x1 : Int32) (I : zI) (J : zJ) (Q : Int32 → zI → zJ → Prop) : Prop := (vp_in (I 361 18) 2 ∧ (v_M_in N x1 (0 : Int32) ((I 371 ((I 361 18)).toNatClampNeg) - (1 : Int32)) I J (fun r2 I3 J3 => (qzb r2 ∧ Q r2 I3 J3))))
def v_M_isPerson (N : Nat) (x1 : Int32) (I : zI) (J : zJ) (Q : Int32 → zI → zJ → Prop) : Prop := (vp_in (I 361 18) 2 ∧ (v_M_in N x1 (0 : Int32) ((I 374 ((I 361 18)).toNatClampNeg) - (1 : Int32)) I J (fun r2 I3 J3 => (qzb r2 ∧ Q r2 I3 J3))))
def v_M_copies_2 (N : Nat) : Nat → Int32 → zI → zJ → (zI → zJ → Prop) → (zI → zJ → Prop) → Prop
  | 0 => fun _ _ _ _ _ => False
  | k + 1 => fun x1 I J Q K26 => (((32 : Int32) ≤ x1 → (K26 I J)) ∧ (¬ (32 : Int32) ≤ x1 → (vp_in x1 32 ∧ (vp_in x1 32 ∧ ∀ I4 : zI, I4 = qu I 394 (x1).toNatClampNeg (I 393 (x1).toNatClampNeg) → (v_M_copies_2 N k (x1 + (1 : Int32)) I4 J Q K26)))))
def v_M_copies (N : Nat)  (I : zI) (J : zJ) (Q : zI → zJ → Prop) : Prop := (v_M_copies_2 N N (0 : Int32) I J Q (fun I1 J1 => (vp_in (I1 361 18) 2 ∧ (∀ I3 : zI, I3 = qu I1 361 51 (I1 380 ((I1 361 18)).toNatClampNeg) → (∀ I4 : zI, I4 = qu I3 361 52 (0 : Int32) → Q I4 J1)))))
def v_M_copiesStill (N : Nat)  (I : zI) (J : zJ) (Q : zI → zJ → Prop) : Prop := (v_M_copies N  I J (fun I1 J1 => (∀ I2 : zI, I2 = qu I1 361 52 (1 : Int32) → Q I2 J1)))
def v_M_mixed (N : Nat) (x0 : Int32) (x1 : Int32) (I : zI) (J : zJ) (Q : Int32 → zI → zJ → Prop) : Prop := (∀ y1 : Int32, y1 = (((x0 ^^^ x1) * (1103515245 : Int32)) + (12345 : Int32)) → Q (y1 ^^^ ((y1).toUInt32 >>> (((15 : Int32)).toUInt32 &&& Int32.toUInt32 31)).toInt32) I J)
def v_M_lotOf (N : Nat) (x1 : Int32) (x2 : Int32) (I : zI) (J : zJ) (Q : Int32 → zI → zJ → Prop) : Prop := (v_M_mixed N (I 361 51) (159 : Int32) I J (fun r1 I2 J2 => (v_M_mixed N r1 x1 I2 J2 (fun r3 I4 J4 => (¬ x2 = 0 ∧ Q (((r3).toUInt32 >>> (((1 : Int32)).toUInt32 &&& Int32.toUInt32 31)).toInt32 - ((r3).toUInt32 >>> (((1 : Int32)).toUInt32 &&& Int32.toUInt32 31)).toInt32 / x2 * x2) I4 J4)))))
def v_M_isMoth (N : Nat)  (I : zI) (J : zJ) (Q : Int32 → zI → zJ → Prop) : Prop := (vp_in (31 : Int32) 32 ∧ (v_M_lotOf N (((16 : Int32) * (I 394 ((31 : Int32)).toNatClampNeg)) + (8 : Int32)) (100 : Int32) I J (fun r2 I3 J3 => (vp_in (I3 361 18) 2 ∧ (((I3 379 ((I3 361 18)).toNatClampNeg) ≤ r2 → Q (0 : Int32) I3 J3) ∧ (¬ (I3 379 ((I3 361 18)).toNatClampNeg) ≤ r2 → Q (1 : Int32) I3 J3))))))
def v_M_isUp (N : Nat) (x1 : Int32) (I : zI) (J : zJ) (Q : Int32 → zI → zJ → Prop) : Prop := (vp_in ((6 : Int32) + x1) 32 ∧ (((I 394 (((6 : Int32) + x1)).toNatClampNeg) < 0 → Q (0 : Int32) I J) ∧ (¬ (I 394 (((6 : Int32) + x1)).toNatClampNeg) < 0 → Q (1 : Int32) I J)))
def v_M_whoIsOn_2 (N : Nat) : Nat → Int32 → Int32 → zI → zJ → (Int32 → zI → zJ → Prop) → Prop
  | 0 => fun _ _ _ _ _ => False
  | k + 1 => fun x1 x2 I J Q  => (vp_in (I 361 18) 2 ∧ (((I 374 ((I 361 18)).toNatClampNeg) ≤ x2 → Q (-2 : Int32) I J) ∧ (¬ (I 374 ((I 361 18)).toNatClampNeg) ≤ x2 → (vp_in ((6 : Int32) + x2) 32 ∧ ((¬ (I 394 (((6 : Int32) + x2)).toNatClampNeg) = x1 → (v_M_whoIsOn_2 N k x1 (x2 + (1 : Int32)) I J Q)) ∧ ((I 394 (((6 : Int32) + x2)).toNatClampNeg) = x1 → Q x2 I J))))))
def v_M_whoIsOn (N : Nat) (x1 : Int32) (I : zI) (J : zJ) (Q : Int32 → zI → zJ → Prop) : Prop := (v_M_whoIsOn_2 N N x1 (0 : Int32) I J Q )
def v_M_nailAt (N : Nat) (x1 : Int32) (I : zI) (J : zJ) (Q : Int32 → zI → zJ → Prop) : Prop := (vp_in (((7 : Int32) * (I 361 18)) + x1) 14 ∧ Q (I 372 ((((7 : Int32) * (I 361 18)) + x1)).toNatClampNeg) I J)
def v_M_manyOn_4 (N : Nat) : Nat → Int32 → Int32 → Int32 → zI → zJ → (Int32 → zI → zJ → Prop) → Prop
  | 0 => fun _ _ _ _ _ _ => False
  | k + 1 => fun x1 x2 x3 I J Q  => (vp_in (I 361 18) 2 ∧ (((I 374 ((I 361 18)).toNatClampNeg) ≤ x3 → Q x2 I J) ∧ (¬ (I 374 ((I 361 18)).toNatClampNeg) ≤ x3 → (v_M_isUp N x3 I J (fun r3 I4 J4 => ((r3 = 0 → (v_M_manyOn_4 N k x1 x2 (x3 + (1 : Int32)) I4 J4 Q)) ∧ (¬ r3 = 0 → (vp_in ((6 : Int32) + x3) 32 ∧ (v_M_nailAt N (I4 394 (((6 : Int32) + x3)).toNatClampNeg) I4 J4 (fun r7 I8 J8 => ((¬ r7 = x1 → (v_M_manyOn_4 N k x1 x2 (x3 + (1 : Int32)) I8 J8 Q)) ∧ (r7 = x1 → (v_M_manyOn_4 N k x1 (x2 + (1 : Int32)) (x3 + (1 : Int32)) I8 J8 Q)))))))))))))
def v_M_manyOn (N : Nat) (x1 : Int32) (I : zI) (J : zJ) (Q : Int32 → zI → zJ → Prop) : Prop := (v_M_manyOn_4 N N x1 (0 : Int32) (0 : Int32) I J Q )
def v_M_looks (N : Nat) (x1 : Int32) (x2 : Int32) (x3 : Int32) (I : zI) (J : zJ) (Q : zI → zJ → Prop) : Prop := (vp_in x1 32 ∧ (vp_in (((7 : Int32) * (I 361 18)) + x2) 14 ∧ (v_M_off N (I 394 (x1).toNatClampNeg) (I 373 ((((7 : Int32) * (I 361 18)) + x2)).toNatClampNeg) I J (fun r3 I4 J4 => (vp_in ((24 : Int32) + x2) 32 ∧ (vp_in (0 : Int32) 9 ∧ ∀ I7 : zI, I7 = qu I4 391 ((0 : Int32)).toNatClampNeg (r3 + (I4 394 (((24 : Int32) + x2)).toNatClampNeg)) → (vp_in ((24 : Int32) + x2) 32 ∧ (vp_in (1 : Int32) 9 ∧ ∀ I10 : zI, I10 = qu I7 391 ((1 : Int32)).toNatClampNeg (I7 394 (((24 : Int32) + x2)).toNatClampNeg) → (vp_in x1 32 ∧ (vp_in (2 : Int32) 9 ∧ ∀ I13 : zI, I13 = qu I10 391 ((2 : Int32)).toNatClampNeg (I10 394 (x1).toNatClampNeg) → (vp_in (((6 : Int32) * (I13 361 18)) + x1) 12 ∧ (vp_in (3 : Int32) 9 ∧ ∀ I16 : zI, I16 = qu I13 391 ((3 : Int32)).toNatClampNeg (I13 376 ((((6 : Int32) * (I13 361 18)) + x1)).toNatClampNeg) → (vp_in (31 : Int32) 32 ∧ (vp_in (4 : Int32) 9 ∧ ∀ I19 : zI, I19 = qu I16 391 ((4 : Int32)).toNatClampNeg (I16 394 ((31 : Int32)).toNatClampNeg) → (vp_in ((18 : Int32) + x1) 32 ∧ (vp_in (5 : Int32) 9 ∧ ∀ I22 : zI, I22 = qu I19 391 ((5 : Int32)).toNatClampNeg (I19 394 (((18 : Int32) + x1)).toNatClampNeg) → (vp_in (6 : Int32) 9 ∧ ∀ I24 : zI, I24 = qu I22 391 ((6 : Int32)).toNatClampNeg x3 → (vp_in (7 : Int32) 9 ∧ ∀ I26 : zI, I26 = qu I24 391 ((7 : Int32)).toNatClampNeg x1 → (v_M_nailAt N x2 I26 J4 (fun r27 I28 J28 => (vp_in (8 : Int32) 9 ∧ ∀ I30 : zI, I30 = qu I28 391 ((8 : Int32)).toNatClampNeg r27 → Q I30 J28)))))))))))))))))))))
def v_M_lawTells_39 (N : Nat) : Nat → Int32 → Int32 → zI → zJ → (Int32 → zI → zJ → Prop) → (Int32 → zI → zJ → Prop) → Prop
  | 0 => fun _ _ _ _ _ _ => False
  | k + 1 => fun x3 x4 I J Q K119 => (vp_in x3 8 ∧ (((I 382 (x3).toNatClampNeg) ≤ x4 → Q (0 : Int32) I J) ∧ (¬ (I 382 (x3).toNatClampNeg) ≤ x4 → (vp_in x4 260 ∧ (((I 383 (x4).toNatClampNeg) = 0 → (K119 x4 I J)) ∧ (¬ (I 383 (x4).toNatClampNeg) = 0 → (vp_in x4 260 ∧ (vp_in x4 260 ∧ (v_M_termOf N (I 384 (x4).toNatClampNeg) (I 385 (x4).toNatClampNeg) I J (fun r7 I8 J8 => (vp_in x4 260 ∧ (vp_in x4 260 ∧ (v_M_termOf N (I8 385 (x4).toNatClampNeg) (I8 386 (x4).toNatClampNeg) I8 J8 (fun r11 I12 J12 => (((I12 361 48) = 0 → ((r7 < r11 → (K119 x4 I12 J12)) ∧ (¬ r7 < r11 → (v_M_lawTells_39 N k x3 (x4 + (1 : Int32)) I12 J12 Q K119)))) ∧ (¬ (I12 361 48) = 0 → Q (0 : Int32) I12 J12))))))))))))))))
def v_M_lawTells_119 (N : Nat) (x4 : Int32) (I : zI) (J : zJ) (Q : Int32 → zI → zJ → Prop)  : Prop := (vp_in x4 260 ∧ (vp_in x4 260 ∧ (v_M_termOf N (I 386 (x4).toNatClampNeg) (I 387 (x4).toNatClampNeg) I J (fun r3 I4 J4 => (((I4 361 48) = 0 → Q r3 I4 J4) ∧ (¬ (I4 361 48) = 0 → Q (0 : Int32) I4 J4))))))
def v_M_lawTells (N : Nat) (x1 : Int32) (x2 : Int32) (I : zI) (J : zJ) (Q : Int32 → zI → zJ → Prop) : Prop := (∀ y1 : Int32, y1 = (((4 : Int32) * (I 361 18)) + x1) → (vp_in y1 8 ∧ (vp_in y1 8 ∧ ((¬ (I 381 (y1).toNatClampNeg) = (I 382 (y1).toNatClampNeg) → (∀ I5 : zI, I5 = qu I 361 48 (0 : Int32) → (vp_in y1 8 ∧ (∀ y7 : Int32, y7 = (I5 381 (y1).toNatClampNeg) → (v_M_lawTells_39 N N y1 y7 I5 J Q (fun w8 I9 J9 => (v_M_lawTells_119 N w8 I9 J9 Q ))))))) ∧ ((I 381 (y1).toNatClampNeg) = (I 382 (y1).toNatClampNeg) → Q x2 I J)))))
def v_M_besideOf (N : Nat) (x1 : Int32) (I : zI) (J : zJ) (Q : Int32 → zI → zJ → Prop) : Prop := (v_M_isUp N x1 I J (fun r1 I2 J2 => ((r1 = 0 → Q (0 : Int32) I2 J2) ∧ (¬ r1 = 0 → (vp_in ((6 : Int32) + x1) 32 ∧ (v_M_nailAt N (I2 394 (((6 : Int32) + x1)).toNatClampNeg) I2 J2 (fun r5 I6 J6 => (v_M_manyOn N r5 I6 J6 (fun r7 I8 J8 => Q (r7 - (1 : Int32)) I8 J8)))))))))
def v_M_toldOf_30 (N : Nat) (x2 : Int32) (z0 : Int32) (I : zI) (J : zJ) (Q : Int32 → zI → zJ → Prop)  : Prop := (vp_in (0 : Int32) 9 ∧ (v_M_lawTells N z0 (I 391 ((0 : Int32)).toNatClampNeg) I J (fun r2 I3 J3 => ((¬ x2 = (2 : Int32) → (v_M_within N r2 (0 : Int32) (99 : Int32) I3 J3 (fun r5 I6 J6 => Q r5 I6 J6))) ∧ (x2 = (2 : Int32) → (v_M_within N r2 (0 : Int32) (100 : Int32) I3 J3 (fun r7 I8 J8 => Q r7 I8 J8)))))))
def v_M_toldOf (N : Nat) (x1 : Int32) (x2 : Int32) (I : zI) (J : zJ) (Q : Int32 → zI → zJ → Prop) : Prop := (vp_in ((6 : Int32) + x1) 32 ∧ (v_M_besideOf N x1 I J (fun r2 I3 J3 => (v_M_looks N x1 (I 394 (((6 : Int32) + x1)).toNatClampNeg) r2 I3 J3 (fun I4 J4 => ((x2 = 0 → (v_M_toldOf_30 N x2 x2 I4 J4 Q )) ∧ (¬ x2 = 0 → ((¬ x2 = (3 : Int32) → (v_M_lawTells N x2 (0 : Int32) I4 J4 (fun r7 I8 J8 => ((¬ x2 = (2 : Int32) → (v_M_within N r7 (0 : Int32) (99 : Int32) I8 J8 (fun r10 I11 J11 => Q r10 I11 J11))) ∧ (x2 = (2 : Int32) → (v_M_within N r7 (0 : Int32) (100 : Int32) I8 J8 (fun r12 I13 J13 => Q r12 I13 J13))))))) ∧ (x2 = (3 : Int32) → (v_M_toldOf_30 N x2 x2 I4 J4 Q ))))))))))
def v_M_costsAt (N : Nat) (x1 : Int32) (x2 : Int32) (I : zI) (J : zJ) (Q : Int32 → zI → zJ → Prop) : Prop := (v_M_looks N x1 x2 (0 : Int32) I J (fun I1 J1 => (vp_in (0 : Int32) 9 ∧ (v_M_lawTells N (3 : Int32) (I1 391 ((0 : Int32)).toNatClampNeg) I1 J1 (fun r3 I4 J4 => (v_M_within N r3 (0 : Int32) (99 : Int32) I4 J4 (fun r5 I6 J6 => Q r5 I6 J6)))))))
def v_M_costsAll_4 (N : Nat) : Nat → Int32 → Int32 → zI → zJ → (Int32 → zI → zJ → Prop) → Prop
  | 0 => fun _ _ _ _ _ => False
  | k + 1 => fun x1 x2 I J Q  => (vp_in (I 361 18) 2 ∧ (((I 374 ((I 361 18)).toNatClampNeg) ≤ x2 → Q x1 I J) ∧ (¬ (I 374 ((I 361 18)).toNatClampNeg) ≤ x2 → (v_M_isUp N x2 I J (fun r3 I4 J4 => ((r3 = 0 → (v_M_costsAll_4 N k x1 (x2 + (1 : Int32)) I4 J4 Q)) ∧ (¬ r3 = 0 → (v_M_toldOf N x2 (3 : Int32) I4 J4 (fun r6 I7 J7 => (∀ y8 : Int32, y8 = (x1 + r6) → (v_M_costsAll_4 N k y8 (x2 + (1 : Int32)) I7 J7 Q)))))))))))
def v_M_costsAll (N : Nat)  (I : zI) (J : zJ) (Q : Int32 → zI → zJ → Prop) : Prop := (v_M_costsAll_4 N N (0 : Int32) (0 : Int32) I J Q )
def v_M_nextOn_53 (N : Nat) (x2 : Int32) (x3 : Int32) (I : zI) (J : zJ) (Q : Int32 → zI → zJ → Prop) (K28 : Int32 → Int32 → zI → zJ → Prop) : Prop := (vp_in (I 361 18) 2 ∧ (¬ (I 374 ((I 361 18)).toNatClampNeg) = 0 ∧ (∀ y3 : Int32, y3 = ((x3 + (1 : Int32)) - (x3 + (1 : Int32)) / (I 374 ((I 361 18)).toNatClampNeg) * (I 374 ((I 361 18)).toNatClampNeg)) → (K28 x2 y3 I J))))
def v_M_nextOn_28 (N : Nat) : Nat → Int32 → Int32 → zI → zJ → (Int32 → zI → zJ → Prop) → Prop
  | 0 => fun _ _ _ _ _ => False
  | k + 1 => fun x2 x3 I J Q  => (v_M_isUp N x3 I J (fun r1 I2 J2 => ((r1 = 0 → (v_M_nextOn_53 N x2 x3 I2 J2 Q (fun x2 x3 I J => v_M_nextOn_28 N k x2 x3 I J Q))) ∧ (¬ r1 = 0 → (vp_in ((6 : Int32) + x3) 32 ∧ (v_M_nailAt N (I2 394 (((6 : Int32) + x3)).toNatClampNeg) I2 J2 (fun r5 I6 J6 => ((r5 = x2 → Q x3 I6 J6) ∧ (¬ r5 = x2 → (v_M_nextOn_53 N x2 x3 I6 J6 Q (fun x2 x3 I J => v_M_nextOn_28 N k x2 x3 I J Q)))))))))))
def v_M_nextOn (N : Nat) (x1 : Int32) (I : zI) (J : zJ) (Q : Int32 → zI → zJ → Prop) : Prop := (vp_in ((6 : Int32) + x1) 32 ∧ (v_M_nailAt N (I 394 (((6 : Int32) + x1)).toNatClampNeg) I J (fun r2 I3 J3 => (vp_in (I3 361 18) 2 ∧ (¬ (I3 374 ((I3 361 18)).toNatClampNeg) = 0 ∧ (∀ y6 : Int32, y6 = ((x1 + (1 : Int32)) - (x1 + (1 : Int32)) / (I3 374 ((I3 361 18)).toNatClampNeg) * (I3 374 ((I3 361 18)).toNatClampNeg)) → (v_M_nextOn_28 N N r2 y6 I3 J3 Q )))))))
def v_M_wakes_100 (N : Nat) (x1 : Int32) (I : zI) (J : zJ) (Q : zI → zJ → Prop)  : Prop := (vp_in x1 6 ∧ (vp_in ((12 : Int32) + x1) 32 ∧ ∀ I3 : zI, I3 = qu I 394 (((12 : Int32) + x1)).toNatClampNeg (I 398 (x1).toNatClampNeg) → (vp_in x1 6 ∧ (((I3 397 (x1).toNatClampNeg) = 0 → Q I3 J) ∧ (¬ (I3 397 (x1).toNatClampNeg) = 0 → (vp_in ((6 : Int32) + x1) 32 ∧ ∀ I7 : zI, I7 = qu I3 394 (((6 : Int32) + x1)).toNatClampNeg (-2 : Int32) → Q I7 J))))))
def v_M_wakes (N : Nat) (x1 : Int32) (I : zI) (J : zJ) (Q : zI → zJ → Prop) : Prop := (v_M_isUp N x1 I J (fun r1 I2 J2 => ((r1 = 0 → (vp_in ((18 : Int32) + x1) 32 ∧ ∀ I5 : zI, I5 = qu I2 394 (((18 : Int32) + x1)).toNatClampNeg (0 : Int32) → (v_M_wakes_100 N x1 I5 J2 Q ))) ∧ (¬ r1 = 0 → (vp_in ((18 : Int32) + x1) 32 ∧ (vp_in x1 6 ∧ (v_M_within N ((I2 394 (((18 : Int32) + x1)).toNatClampNeg) + (I2 395 (x1).toNatClampNeg)) (0 : Int32) (999 : Int32) I2 J2 (fun r8 I9 J9 => (vp_in ((18 : Int32) + x1) 32 ∧ ∀ I11 : zI, I11 = qu I9 394 (((18 : Int32) + x1)).toNatClampNeg r8 → (vp_in ((6 : Int32) + x1) 32 ∧ (vp_in ((24 : Int32) + (I11 394 (((6 : Int32) + x1)).toNatClampNeg)) 32 ∧ (vp_in x1 6 ∧ (v_M_within N ((I11 394 (((24 : Int32) + (I11 394 (((6 : Int32) + x1)).toNatClampNeg))).toNatClampNeg) + (I11 396 (x1).toNatClampNeg)) (0 : Int32) (99 : Int32) I11 J9 (fun r15 I16 J16 => (vp_in ((24 : Int32) + (I11 394 (((6 : Int32) + x1)).toNatClampNeg)) 32 ∧ ∀ I18 : zI, I18 = qu I16 394 (((24 : Int32) + (I11 394 (((6 : Int32) + x1)).toNatClampNeg))).toNatClampNeg r15 → (v_M_wakes_100 N x1 I18 J16 Q ))))))))))))))))
def v_M_nightGoes_109 (N : Nat) (x1 : Int32) (x2 : Int32) (z0 : Int32) (z1 : Int32) (I : zI) (J : zJ) (Q : zI → zJ → Prop) (K2 : Int32 → zI → zJ → Prop) : Prop := (vp_in z1 6 ∧ ∀ I2 : zI, I2 = qu I 397 (z1).toNatClampNeg (vp_nar .boolean z0) → ((x2 = 0 → (vp_in ((12 : Int32) + x1) 32 ∧ (vp_in x1 6 ∧ ∀ I6 : zI, I6 = qu I2 398 (x1).toNatClampNeg (I2 394 (((12 : Int32) + x1)).toNatClampNeg) → (K2 (x1 + (1 : Int32)) I6 J)))) ∧ (¬ x2 = 0 → (v_M_nextOn N x1 I2 J (fun r7 I8 J8 => (vp_in ((12 : Int32) + r7) 32 ∧ (vp_in x1 6 ∧ ∀ I11 : zI, I11 = qu I8 398 (x1).toNatClampNeg (I8 394 (((12 : Int32) + r7)).toNatClampNeg) → (K2 (x1 + (1 : Int32)) I11 J8))))))))
def v_M_nightGoes_108 (N : Nat) (x1 : Int32) (x2 : Int32) (z0 : Int32) (I : zI) (J : zJ) (Q : zI → zJ → Prop) (K2 : Int32 → zI → zJ → Prop) : Prop := (v_M_nightGoes_109 N x1 x2 (0 : Int32) z0 I J Q K2)
def v_M_nightGoes_60 (N : Nat) (x1 : Int32) (x2 : Int32) (z0 : Int32) (z1 : Int32) (I : zI) (J : zJ) (Q : zI → zJ → Prop) (K2 : Int32 → zI → zJ → Prop) : Prop := (vp_in z1 6 ∧ ∀ I2 : zI, I2 = qu I 396 (z1).toNatClampNeg z0 → ((x2 = 0 → (v_M_nightGoes_108 N x1 x2 x1 I2 J Q K2)) ∧ (¬ x2 = 0 → ((¬ (I2 361 52) = 0 → (v_M_nightGoes_108 N x1 x2 x1 I2 J Q K2)) ∧ ((I2 361 52) = 0 → (vp_in (31 : Int32) 32 ∧ (v_M_lotOf N (((16 : Int32) * (I2 394 ((31 : Int32)).toNatClampNeg)) + x1) (100 : Int32) I2 J (fun r6 I7 J7 => (v_M_toldOf N x1 (2 : Int32) I7 J7 (fun r8 I9 J9 => ((r8 ≤ r6 → (v_M_nightGoes_108 N x1 x2 x1 I9 J9 Q K2)) ∧ (¬ r8 ≤ r6 → (v_M_nightGoes_109 N x1 x2 (1 : Int32) x1 I9 J9 Q K2)))))))))))))
def v_M_nightGoes_40 (N : Nat) (x1 : Int32) (x2 : Int32) (z0 : Int32) (z1 : Int32) (I : zI) (J : zJ) (Q : zI → zJ → Prop) (K2 : Int32 → zI → zJ → Prop) : Prop := (vp_in z1 6 ∧ ∀ I2 : zI, I2 = qu I 395 (z1).toNatClampNeg z0 → ((x2 = 0 → (v_M_nightGoes_60 N x1 x2 (0 : Int32) x1 I2 J Q K2)) ∧ (¬ x2 = 0 → (v_M_toldOf N x1 (1 : Int32) I2 J (fun r4 I5 J5 => (v_M_nightGoes_60 N x1 x2 r4 x1 I5 J5 Q K2))))))
def v_M_nightGoes_2 (N : Nat) : Nat → Int32 → zI → zJ → (zI → zJ → Prop) → (zI → zJ → Prop) → Prop
  | 0 => fun _ _ _ _ _ => False
  | k + 1 => fun x1 I J Q K143 => (vp_in (I 361 18) 2 ∧ (((I 374 ((I 361 18)).toNatClampNeg) ≤ x1 → (K143 I J)) ∧ (¬ (I 374 ((I 361 18)).toNatClampNeg) ≤ x1 → (v_M_isUp N x1 I J (fun r3 I4 J4 => ((r3 = 0 → (v_M_nightGoes_40 N x1 r3 (0 : Int32) x1 I4 J4 Q (fun x1 I J => v_M_nightGoes_2 N k x1 I J Q K143))) ∧ (¬ r3 = 0 → (v_M_toldOf N x1 (0 : Int32) I4 J4 (fun r6 I7 J7 => (v_M_nightGoes_40 N x1 r3 r6 x1 I7 J7 Q (fun x1 I J => v_M_nightGoes_2 N k x1 I J Q K143)))))))))))
def v_M_nightGoes_145 (N : Nat) : Nat → Int32 → zI → zJ → (zI → zJ → Prop) → (zI → zJ → Prop) → Prop
  | 0 => fun _ _ _ _ _ => False
  | k + 1 => fun x1 I J Q K169 => (vp_in (I 361 18) 2 ∧ (((I 374 ((I 361 18)).toNatClampNeg) ≤ x1 → (K169 I J)) ∧ (¬ (I 374 ((I 361 18)).toNatClampNeg) ≤ x1 → (v_M_wakes N x1 I J (fun I3 J3 => (v_M_nightGoes_145 N k (x1 + (1 : Int32)) I3 J3 Q K169))))))
def v_M_nightGoes (N : Nat)  (I : zI) (J : zJ) (Q : zI → zJ → Prop) : Prop := (v_M_nightGoes_2 N N (0 : Int32) I J Q (fun I1 J1 => (v_M_nightGoes_145 N N (0 : Int32) I1 J1 Q (fun I2 J2 => ((¬ (I2 361 52) = 0 → (vp_in (31 : Int32) 32 ∧ (∀ I5 : zI, I5 = qu I2 394 ((31 : Int32)).toNatClampNeg ((I2 394 ((31 : Int32)).toNatClampNeg) + (1 : Int32)) → Q I5 J2))) ∧ ((I2 361 52) = 0 → (vp_in (I2 361 18) 2 ∧ (((I2 374 ((I2 361 18)).toNatClampNeg) ≤ 0 → (vp_in (31 : Int32) 32 ∧ (∀ I9 : zI, I9 = qu I2 394 ((31 : Int32)).toNatClampNeg ((I2 394 ((31 : Int32)).toNatClampNeg) + (1 : Int32)) → Q I9 J2))) ∧ (¬ (I2 374 ((I2 361 18)).toNatClampNeg) ≤ 0 → (v_M_isMoth N  I2 J2 (fun r10 I11 J11 => ((r10 = 0 → (vp_in (31 : Int32) 32 ∧ (∀ I14 : zI, I14 = qu I11 394 ((31 : Int32)).toNatClampNeg ((I11 394 ((31 : Int32)).toNatClampNeg) + (1 : Int32)) → Q I14 J11))) ∧ (¬ r10 = 0 → (vp_in (31 : Int32) 32 ∧ (vp_in (I11 361 18) 2 ∧ (v_M_lotOf N (((16 : Int32) * (I11 394 ((31 : Int32)).toNatClampNeg)) + (9 : Int32)) (I11 374 ((I11 361 18)).toNatClampNeg) I11 J11 (fun r17 I18 J18 => (vp_in r17 32 ∧ (((I18 394 (r17).toNatClampNeg) ≤ 0 → (vp_in (31 : Int32) 32 ∧ (∀ I22 : zI, I22 = qu I18 394 ((31 : Int32)).toNatClampNeg ((I18 394 ((31 : Int32)).toNatClampNeg) + (1 : Int32)) → Q I22 J18))) ∧ (¬ (I18 394 (r17).toNatClampNeg) ≤ 0 → (∀ I23 : zI, I23 = qu I18 394 (r17).toNatClampNeg ((I18 394 (r17).toNatClampNeg) - (1 : Int32)) → (vp_in (31 : Int32) 32 ∧ (∀ I25 : zI, I25 = qu I23 394 ((31 : Int32)).toNatClampNeg ((I23 394 ((31 : Int32)).toNatClampNeg) + (1 : Int32)) → Q I25 J18)))))))))))))))))))))))
def v_M_goes_2 (N : Nat) : Nat → Int32 → Int32 → zI → zJ → (zI → zJ → Prop) → Prop
  | 0 => fun _ _ _ _ _ => False
  | k + 1 => fun x1 x2 I J Q  => ((x1 ≤ x2 → Q I J) ∧ (¬ x1 ≤ x2 → (v_M_nightGoes N  I J (fun I2 J2 => (v_M_goes_2 N k x1 (x2 + (1 : Int32)) I2 J2 Q)))))
def v_M_goes (N : Nat) (x1 : Int32) (I : zI) (J : zJ) (Q : zI → zJ → Prop) : Prop := (v_M_goes_2 N N x1 (0 : Int32) I J Q )
def v_M_hanger (N : Nat) (x1 : Int32) (x2 : Int32) (I : zI) (J : zJ) (Q : Int32 → zI → zJ → Prop) : Prop := (v_M_isHanger N x1 I J (fun r1 I2 J2 => ((¬ r1 = 0 → (v_M_copies N  I2 J2 (fun I4 J4 => ((x2 = (0 : Int32) → (v_M_nailAt N x1 I4 J4 (fun r6 I7 J7 => Q r6 I7 J7))) ∧ (¬ x2 = (0 : Int32) → ((x2 = (1 : Int32) → (vp_in (((7 : Int32) * (I4 361 18)) + x1) 14 ∧ Q (I4 373 ((((7 : Int32) * (I4 361 18)) + x1)).toNatClampNeg) I4 J4)) ∧ (¬ x2 = (1 : Int32) → ((x2 = (2 : Int32) → (vp_in ((24 : Int32) + x1) 32 ∧ Q (I4 394 (((24 : Int32) + x1)).toNatClampNeg) I4 J4)) ∧ (¬ x2 = (2 : Int32) → ((x2 = (3 : Int32) → (v_M_whoIsOn N x1 I4 J4 (fun r13 I14 J14 => Q r13 I14 J14))) ∧ (¬ x2 = (3 : Int32) → Q (-1 : Int32) I4 J4))))))))))) ∧ (r1 = 0 → Q (-1 : Int32) I2 J2))))
def v_M_person (N : Nat) (x1 : Int32) (x2 : Int32) (I : zI) (J : zJ) (Q : Int32 → zI → zJ → Prop) : Prop := (v_M_isPerson N x1 I J (fun r1 I2 J2 => ((¬ r1 = 0 → (v_M_copies N  I2 J2 (fun I4 J4 => ((x2 = (0 : Int32) → (vp_in x1 32 ∧ Q (I4 394 (x1).toNatClampNeg) I4 J4)) ∧ (¬ x2 = (0 : Int32) → ((x2 = (1 : Int32) → (vp_in (((6 : Int32) * (I4 361 18)) + x1) 12 ∧ Q (I4 376 ((((6 : Int32) * (I4 361 18)) + x1)).toNatClampNeg) I4 J4)) ∧ (¬ x2 = (1 : Int32) → ((x2 = (2 : Int32) → (vp_in ((6 : Int32) + x1) 32 ∧ Q (I4 394 (((6 : Int32) + x1)).toNatClampNeg) I4 J4)) ∧ (¬ x2 = (2 : Int32) → ((x2 = (3 : Int32) → (vp_in ((12 : Int32) + x1) 32 ∧ Q (I4 394 (((12 : Int32) + x1)).toNatClampNeg) I4 J4)) ∧ (¬ x2 = (3 : Int32) → ((x2 = (4 : Int32) → (vp_in ((18 : Int32) + x1) 32 ∧ Q (I4 394 (((18 : Int32) + x1)).toNatClampNeg) I4 J4)) ∧ (¬ x2 = (4 : Int32) → ((x2 = (5 : Int32) → (v_M_besideOf N x1 I4 J4 (fun r16 I17 J17 => Q r16 I17 J17))) ∧ (¬ x2 = (5 : Int32) → Q (-1 : Int32) I4 J4))))))))))))))) ∧ (r1 = 0 → Q (-1 : Int32) I2 J2))))
def v_M_tells (N : Nat) (x1 : Int32) (x2 : Int32) (I : zI) (J : zJ) (Q : Int32 → zI → zJ → Prop) : Prop := (v_M_isPerson N x1 I J (fun r1 I2 J2 => ((r1 = 0 → Q (-1 : Int32) I2 J2) ∧ (¬ r1 = 0 → (v_M_in N x2 (0 : Int32) (3 : Int32) I2 J2 (fun r4 I5 J5 => ((¬ r4 = 0 → (v_M_copies N  I5 J5 (fun I7 J7 => (v_M_isUp N x1 I7 J7 (fun r8 I9 J9 => ((r8 = 0 → Q (-2 : Int32) I9 J9) ∧ (¬ r8 = 0 → (v_M_toldOf N x1 x2 I9 J9 (fun r11 I12 J12 => Q r11 I12 J12))))))))) ∧ (r4 = 0 → Q (-1 : Int32) I5 J5))))))))
def v_M_records_51 (N : Nat) : Nat → Int32 → zI → zJ → (zI → zJ → Prop) → (zI → zJ → Prop) → Prop
  | 0 => fun _ _ _ _ _ => False
  | k + 1 => fun x1 I J Q K83 => (((32 : Int32) ≤ x1 → (K83 I J)) ∧ (¬ (32 : Int32) ≤ x1 → (vp_in x1 32 ∧ (vp_in (((32 : Int32) * (I 361 57)) + x1) 1280 ∧ ∀ I4 : zI, I4 = qu I 399 ((((32 : Int32) * (I 361 57)) + x1)).toNatClampNeg (I 393 (x1).toNatClampNeg) → (v_M_records_51 N k (x1 + (1 : Int32)) I4 J Q K83)))))
def v_M_records_49 (N : Nat)  (I : zI) (J : zJ) (Q : zI → zJ → Prop)  : Prop := (v_M_records_51 N N (0 : Int32) I J Q (fun I1 J1 => (∀ I2 : zI, I2 = qu I1 361 57 ((I1 361 57) + (1 : Int32)) → (v_M_keepsRow N  I2 J1 (fun I3 J3 => Q I3 J3)))))
def v_M_records_11 (N : Nat) : Nat → Int32 → zI → zJ → (zI → zJ → Prop) → (zI → zJ → Prop) → Prop
  | 0 => fun _ _ _ _ _ => False
  | k + 1 => fun x1 I J Q K39 => (((1248 : Int32) ≤ x1 → (K39 I J)) ∧ (¬ (1248 : Int32) ≤ x1 → (vp_in (x1 + (32 : Int32)) 1280 ∧ (vp_in x1 1280 ∧ ∀ I4 : zI, I4 = qu I 399 (x1).toNatClampNeg (I 399 ((x1 + (32 : Int32))).toNatClampNeg) → (v_M_records_11 N k (x1 + (1 : Int32)) I4 J Q K39)))))
def v_M_records (N : Nat)  (I : zI) (J : zJ) (Q : zI → zJ → Prop) : Prop := ((¬ (I 361 57) = (40 : Int32) → (v_M_records_49 N  I J Q )) ∧ ((I 361 57) = (40 : Int32) → (v_M_records_11 N N (0 : Int32) I J Q (fun I2 J2 => (∀ I3 : zI, I3 = qu I2 361 57 ((I2 361 57) - (1 : Int32)) → (v_M_records_49 N  I3 J2 Q ))))))
def v_M_does (N : Nat) (x1 : Int32) (x2 : Int32) (I : zI) (J : zJ) (Q : zI → zJ → Prop) : Prop := (v_M_copies N  I J (fun I1 J1 => (vp_in x1 32 ∧ ∀ I3 : zI, I3 = qu I1 394 (x1).toNatClampNeg x2 → (v_M_records N  I3 J1 (fun I4 J4 => Q I4 J4)))))
def v_M_hang (N : Nat) (x1 : Int32) (x2 : Int32) (I : zI) (J : zJ) (Q : Int32 → zI → zJ → Prop) : Prop := (v_M_isPerson N x1 I J (fun r1 I2 J2 => ((r1 = 0 → Q (0 : Int32) I2 J2) ∧ (¬ r1 = 0 → (v_M_isHanger N x2 I2 J2 (fun r4 I5 J5 => ((r4 = 0 → Q (0 : Int32) I5 J5) ∧ (¬ r4 = 0 → (vp_in ((6 : Int32) + x1) 32 ∧ (((I5 393 (((6 : Int32) + x1)).toNatClampNeg) < 0 → (v_M_copies N  I5 J5 (fun I9 J9 => (v_M_whoIsOn N x2 I9 J9 (fun r10 I11 J11 => ((r10 < 0 → (v_M_does N ((6 : Int32) + x1) x2 I11 J11 (fun I13 J13 => Q (1 : Int32) I13 J13))) ∧ (¬ r10 < 0 → Q (0 : Int32) I11 J11))))))) ∧ (¬ (I5 393 (((6 : Int32) + x1)).toNatClampNeg) < 0 → Q (0 : Int32) I5 J5)))))))))))
def v_M_take (N : Nat) (x1 : Int32) (I : zI) (J : zJ) (Q : Int32 → zI → zJ → Prop) : Prop := (v_M_isPerson N x1 I J (fun r1 I2 J2 => ((r1 = 0 → Q (0 : Int32) I2 J2) ∧ (¬ r1 = 0 → (vp_in ((6 : Int32) + x1) 32 ∧ ((0 ≤ (I2 393 (((6 : Int32) + x1)).toNatClampNeg) → (v_M_does N ((6 : Int32) + x1) (-2 : Int32) I2 J2 (fun I6 J6 => Q (1 : Int32) I6 J6))) ∧ (¬ 0 ≤ (I2 393 (((6 : Int32) + x1)).toNatClampNeg) → Q (0 : Int32) I2 J2)))))))
def v_M_areUp (N : Nat) (x1 : Int32) (x2 : Int32) (I : zI) (J : zJ) (Q : Int32 → zI → zJ → Prop) : Prop := (v_M_isPerson N x1 I J (fun r1 I2 J2 => ((r1 = 0 → Q (0 : Int32) I2 J2) ∧ (¬ r1 = 0 → (v_M_isPerson N x2 I2 J2 (fun r4 I5 J5 => ((r4 = 0 → Q (0 : Int32) I5 J5) ∧ (¬ r4 = 0 → ((x1 = x2 → Q (0 : Int32) I5 J5) ∧ (¬ x1 = x2 → (vp_in ((6 : Int32) + x1) 32 ∧ (((I5 393 (((6 : Int32) + x1)).toNatClampNeg) < 0 → Q (0 : Int32) I5 J5) ∧ (¬ (I5 393 (((6 : Int32) + x1)).toNatClampNeg) < 0 → (vp_in ((6 : Int32) + x2) 32 ∧ (((I5 393 (((6 : Int32) + x2)).toNatClampNeg) < 0 → Q (0 : Int32) I5 J5) ∧ (¬ (I5 393 (((6 : Int32) + x2)).toNatClampNeg) < 0 → Q (1 : Int32) I5 J5))))))))))))))))
def v_M_changesFor (N : Nat) (x1 : Int32) (x2 : Int32) (I : zI) (J : zJ) (Q : zI → zJ → Prop) : Prop := (v_M_copiesStill N  I J (fun I1 J1 => (vp_in ((6 : Int32) + x2) 32 ∧ (vp_in ((6 : Int32) + x1) 32 ∧ ∀ I4 : zI, I4 = qu I1 394 (((6 : Int32) + x1)).toNatClampNeg (I1 393 (((6 : Int32) + x2)).toNatClampNeg) → (vp_in ((6 : Int32) + x1) 32 ∧ (vp_in ((6 : Int32) + x2) 32 ∧ ∀ I7 : zI, I7 = qu I4 394 (((6 : Int32) + x2)).toNatClampNeg (I4 393 (((6 : Int32) + x1)).toNatClampNeg) → Q I7 J1))))))
def v_M_change (N : Nat) (x1 : Int32) (x2 : Int32) (I : zI) (J : zJ) (Q : Int32 → zI → zJ → Prop) : Prop := (v_M_areUp N x1 x2 I J (fun r1 I2 J2 => ((¬ r1 = 0 → (v_M_changesFor N x1 x2 I2 J2 (fun I4 J4 => (v_M_records N  I4 J4 (fun I5 J5 => Q (1 : Int32) I5 J5))))) ∧ (r1 = 0 → Q (0 : Int32) I2 J2))))
theorem u_M_read_10 (N k : Nat) (x1 : Int32) (I : zI) (J : zJ) (Q : Int32 → zI → zJ → Prop) (Q' : Int32 → qH → Prop) (hQ : ∀ (r : Int32) (I : zI) (J : zJ), Q r I J → Q' r (zH I J)) (K36 : zI → zJ → Prop) (K36' : Nat → qH → Prop) (hK36 : ∀  (I : zI) (J : zJ), K36  I J → K36' 361 (zH I J)) (hv : v_M_read_10 N k x1 I J Q K36) : w_M_read_10 N k 361 x1 (zH I J) Q' K36' := by
  induction k generalizing x1 I J with
  | zero => exact hv.elim
  | succ k ih =>
    rw [w_M_read_10]
    rw [v_M_read_10] at hv
    refine ⟨rfl, ?_⟩
    refine ⟨fun q1 => ?_, fun q1 => ?_⟩
    · have hv := hv.1 q1
      exact hK36 I J hv
    · have hv := hv.2 q1
      obtain ⟨g2, hv⟩ := hv
      refine ⟨qok_mk rfl g2, ?_⟩
      obtain ⟨g3, hv⟩ := hv
      refine ⟨qok_mk rfl g3, ?_⟩
      obtain ⟨I4, eI4⟩ : ∃ z, z = qu I 363 (x1).toNatClampNeg (vp_nar .byte (I 362 (x1).toNatClampNeg)) := ⟨_, rfl⟩
      have hv := hv I4 eI4
      intro h4 eh4
      have eh4 : h4 = zH I4 J := by rw [eh4, eI4]; rfl
      subst eh4
      exact ih (x1 + (1 : Int32)) I4 J hv
theorem u_M_read_112 (N k : Nat)  (I : zI) (J : zJ) (Q : Int32 → zI → zJ → Prop) (Q' : Int32 → qH → Prop) (hQ : ∀ (r : Int32) (I : zI) (J : zJ), Q r I J → Q' r (zH I J)) (K134 : zI → zJ → Prop) (K134' : Nat → qH → Prop) (hK134 : ∀  (I : zI) (J : zJ), K134  I J → K134' 361 (zH I J)) (hv : v_M_read_112 N k  I J Q K134) : w_M_read_112 N k 361 (zH I J) Q' K134' := by
  induction k generalizing I J with
  | zero => exact hv.elim
  | succ k ih =>
    rw [w_M_read_112]
    rw [v_M_read_112] at hv
    refine ⟨rfl, ?_⟩
    refine ⟨fun q1 => ?_, fun q1 => ?_⟩
    · have hv := hv.1 q1
      exact hK134 I J hv
    · have hv := hv.2 q1
      refine u_M_is N (0 : Int32) I J _ _ (fun r2 I3 J3 hv => ?_) hv
      refine ⟨fun q4 => ?_, fun q4 => ?_⟩
      · have hv := hv.1 q4
        exact hK134 I3 J3 hv
      · have hv := hv.2 q4
        refine ⟨rfl, ?_⟩
        refine u_M_tellOne N  I3 J3 _ _ (fun I5 J5 hv => ?_) hv
        exact ih I5 J5 hv
theorem u_M_read_219 (N k : Nat) (x1 : Int32) (I : zI) (J : zJ) (Q : Int32 → zI → zJ → Prop) (Q' : Int32 → qH → Prop) (hQ : ∀ (r : Int32) (I : zI) (J : zJ), Q r I J → Q' r (zH I J)) (hv : v_M_read_219 N k x1 I J Q ) : w_M_read_219 N k 361 x1 (zH I J) Q'  := by
  induction k generalizing x1 I J with
  | zero => exact hv.elim
  | succ k ih =>
    rw [w_M_read_219]
    rw [v_M_read_219] at hv
    refine ⟨fun q1 => ?_, fun q1 => ?_⟩
    · have hv := hv.1 q1
      exact hQ _ _ _ hv
    · have hv := hv.2 q1
      refine ⟨rfl, ?_⟩
      obtain ⟨g2, hv⟩ := hv
      refine ⟨qok_mk rfl g2, ?_⟩
      obtain ⟨I3, eI3⟩ : ∃ z, z = qu I 408 (x1).toNatClampNeg (vp_nar .boolean (0 : Int32)) := ⟨_, rfl⟩
      have hv := hv I3 eI3
      intro h3 eh3
      have eh3 : h3 = zH I3 J := by rw [eh3, eI3]; rfl
      subst eh3
      exact ih (x1 + (1 : Int32)) I3 J hv
theorem u_M_read_164 (N : Nat) (z0 : Int32) (I : zI) (J : zJ) (Q : Int32 → zI → zJ → Prop) (Q' : Int32 → qH → Prop) (hQ : ∀ (r : Int32) (I : zI) (J : zJ), Q r I J → Q' r (zH I J)) (hv : v_M_read_164 N z0 I J Q ) : w_M_read_164 N 361 z0 361 (zH I J) Q'  := by
  unfold w_M_read_164
  unfold v_M_read_164 at hv
  refine ⟨rfl, ?_⟩
  obtain ⟨I1, eI1⟩ : ∃ z, z = qu I 361 17 z0 := ⟨_, rfl⟩
  have hv := hv I1 eI1
  intro h1 eh1
  have eh1 : h1 = zH I1 J := by rw [eh1, eI1]; rfl
  subst eh1
  refine ⟨rfl, ?_⟩
  refine ⟨fun q2 => ?_, fun q2 => ?_⟩
  · have hv := hv.1 q2
    refine ⟨fun q3 => ?_, fun q3 => ?_⟩
    · have hv := hv.1 q3
      obtain ⟨I4, eI4⟩ : ∃ z, z = qu I1 361 18 (I1 361 19) := ⟨_, rfl⟩
      have hv := hv I4 eI4
      intro h4 eh4
      have eh4 : h4 = zH I4 J := by rw [eh4, eI4]; rfl
      subst eh4
      refine ⟨rfl, ?_⟩
      refine u_M_begins N  I4 J _ _ (fun I5 J5 hv => ?_) hv
      refine ⟨rfl, ?_⟩
      refine u_M_keepsRow N  I5 J5 _ _ (fun I6 J6 hv => ?_) hv
      refine ⟨rfl, ?_⟩
      obtain ⟨I7, eI7⟩ : ∃ z, z = qu I6 361 57 (0 : Int32) := ⟨_, rfl⟩
      have hv := hv I7 eI7
      intro h7 eh7
      have eh7 : h7 = zH I7 J6 := by rw [eh7, eI7]; rfl
      subst eh7
      refine ⟨rfl, ?_⟩
      obtain ⟨I8, eI8⟩ : ∃ z, z = qu I7 361 63 (0 : Int32) := ⟨_, rfl⟩
      have hv := hv I8 eI8
      intro h8 eh8
      have eh8 : h8 = zH I8 J6 := by rw [eh8, eI8]; rfl
      subst eh8
      exact u_M_read_219 N N (0 : Int32) I8 J6 Q _ hQ   hv
    · have hv := hv.2 q3
      exact hQ _ _ _ hv
  · have hv := hv.2 q2
    exact hQ _ _ _ hv
theorem u_M_read_134 (N : Nat)  (I : zI) (J : zJ) (Q : Int32 → zI → zJ → Prop) (Q' : Int32 → qH → Prop) (hQ : ∀ (r : Int32) (I : zI) (J : zJ), Q r I J → Q' r (zH I J)) (hv : v_M_read_134 N  I J Q ) : w_M_read_134 N 361 (zH I J) Q'  := by
  unfold w_M_read_134
  unfold v_M_read_134 at hv
  refine ⟨rfl, ?_⟩
  refine ⟨fun q1 => ?_, fun q1 => ?_⟩
  · have hv := hv.1 q1
    refine ⟨fun q2 => ?_, fun q2 => ?_⟩
    · have hv := hv.1 q2
      exact u_M_read_164 N (-1 : Int32) I J Q _ hQ   hv
    · have hv := hv.2 q2
      exact u_M_read_164 N (I 361 16) I J Q _ hQ   hv
  · have hv := hv.2 q1
    exact u_M_read_164 N (I 361 14) I J Q _ hQ   hv
theorem u_M_read (N : Nat)  (I : zI) (J : zJ) (Q : Int32 → zI → zJ → Prop) (Q' : Int32 → qH → Prop) (hQ : ∀ (r : Int32) (I : zI) (J : zJ), Q r I J → Q' r (zH I J)) (hv : v_M_read N  I J Q) : w_M_read N 361 (zH I J) Q' := by
  unfold w_M_read
  unfold v_M_read at hv
  refine ⟨rfl, ?_⟩
  obtain ⟨I1, eI1⟩ : ∃ z, z = qu I 361 4 (I 361 2) := ⟨_, rfl⟩
  have hv := hv I1 eI1
  intro h1 eh1
  have eh1 : h1 = zH I1 J := by rw [eh1, eI1]; rfl
  subst eh1
  refine u_M_read_10 N N (0 : Int32) I1 J Q _ hQ _ _ (fun I2 J2 hv => ?_)  hv
  refine ⟨rfl, ?_⟩
  obtain ⟨I3, eI3⟩ : ∃ z, z = qu I2 361 2 (0 : Int32) := ⟨_, rfl⟩
  have hv := hv I3 eI3
  intro h3 eh3
  have eh3 : h3 = zH I3 J2 := by rw [eh3, eI3]; rfl
  subst eh3
  refine ⟨rfl, ?_⟩
  refine u_M_cut N  I3 J2 _ _ (fun I4 J4 hv => ?_) hv
  refine ⟨rfl, ?_⟩
  obtain ⟨I5, eI5⟩ : ∃ z, z = qu I4 361 11 (0 : Int32) := ⟨_, rfl⟩
  have hv := hv I5 eI5
  intro h5 eh5
  have eh5 : h5 = zH I5 J4 := by rw [eh5, eI5]; rfl
  subst eh5
  refine ⟨rfl, ?_⟩
  obtain ⟨I6, eI6⟩ : ∃ z, z = qu I5 361 12 (0 : Int32) := ⟨_, rfl⟩
  have hv := hv I6 eI6
  intro h6 eh6
  have eh6 : h6 = zH I6 J4 := by rw [eh6, eI6]; rfl
  subst eh6
  refine ⟨rfl, ?_⟩
  obtain ⟨I7, eI7⟩ : ∃ z, z = qu I6 361 13 (0 : Int32) := ⟨_, rfl⟩
  have hv := hv I7 eI7
  intro h7 eh7
  have eh7 : h7 = zH I7 J4 := by rw [eh7, eI7]; rfl
  subst eh7
  refine ⟨rfl, ?_⟩
  obtain ⟨I8, eI8⟩ : ∃ z, z = qu I7 361 15 (0 : Int32) := ⟨_, rfl⟩
  have hv := hv I8 eI8
  intro h8 eh8
  have eh8 : h8 = zH I8 J4 := by rw [eh8, eI8]; rfl
  subst eh8
  refine ⟨rfl, ?_⟩
  obtain ⟨I9, eI9⟩ : ∃ z, z = qu I8 361 19 ((1 : Int32) - (I8 361 18)) := ⟨_, rfl⟩
  have hv := hv I9 eI9
  intro h9 eh9
  have eh9 : h9 = zH I9 J4 := by rw [eh9, eI9]; rfl
  subst eh9
  refine ⟨rfl, ?_⟩
  obtain ⟨I10, eI10⟩ : ∃ z, z = qu I9 361 20 (0 : Int32) := ⟨_, rfl⟩
  have hv := hv I10 eI10
  intro h10 eh10
  have eh10 : h10 = zH I10 J4 := by rw [eh10, eI10]; rfl
  subst eh10
  refine ⟨rfl, ?_⟩
  refine u_M_plain N (I10 361 19) I10 J4 _ _ (fun I11 J11 hv => ?_) hv
  refine ⟨rfl, ?_⟩
  obtain ⟨I12, eI12⟩ : ∃ z, z = qu I11 361 35 ((130 : Int32) * (I11 361 19)) := ⟨_, rfl⟩
  have hv := hv I12 eI12
  intro h12 eh12
  have eh12 : h12 = zH I12 J11 := by rw [eh12, eI12]; rfl
  subst eh12
  refine ⟨rfl, ?_⟩
  obtain ⟨I13, eI13⟩ : ∃ z, z = qu I12 361 41 ((420 : Int32) * (I12 361 19)) := ⟨_, rfl⟩
  have hv := hv I13 eI13
  intro h13 eh13
  have eh13 : h13 = zH I13 J11 := by rw [eh13, eI13]; rfl
  subst eh13
  refine u_M_read_112 N N  I13 J11 Q _ hQ _ _ (fun I14 J14 hv => ?_)  hv
  exact u_M_read_134 N  I14 J14 Q _ hQ   hv
theorem u_M_place (N : Nat)  (I : zI) (J : zJ) (Q : Int32 → zI → zJ → Prop) (Q' : Int32 → qH → Prop) (hQ : ∀ (r : Int32) (I : zI) (J : zJ), Q r I J → Q' r (zH I J)) (hv : v_M_place N  I J Q) : w_M_place N 361 (zH I J) Q' := by
  unfold w_M_place
  unfold v_M_place at hv
  refine ⟨rfl, ?_⟩
  exact hQ _ _ _ hv
theorem u_M_termOf_104 (N : Nat) (x2 : Int32) (x3 : Int32) (x4 : Int32) (x5 : Int32) (x6 : Int32) (x7 : Int32) (I : zI) (J : zJ) (Q : Int32 → zI → zJ → Prop) (Q' : Int32 → qH → Prop) (hQ : ∀ (r : Int32) (I : zI) (J : zJ), Q r I J → Q' r (zH I J)) (K5 : Int32 → Int32 → Int32 → zI → zJ → Prop) (K5' : Nat → Int32 → Int32 → Int32 → qH → Prop) (hK5 : ∀ (x2 : Int32) (x3 : Int32) (x4 : Int32) (I : zI) (J : zJ), K5 x2 x3 x4 I J → K5' 361 x2 x3 x4 (zH I J)) (hv : v_M_termOf_104 N x2 x3 x4 x5 x6 x7 I J Q K5) : w_M_termOf_104 N 361 x2 x3 x4 x5 x6 x7 (zH I J) Q' K5' := by
  unfold w_M_termOf_104
  unfold v_M_termOf_104 at hv
  refine ⟨rfl, ?_⟩
  refine ⟨fun q1 => ?_, fun q1 => ?_⟩
  · have hv := hv.1 q1
    refine ⟨fun q2 => ?_, fun q2 => ?_⟩
    · have hv := hv.1 q2
      refine ⟨fun q3 => ?_, fun q3 => ?_⟩
      · have hv := hv.1 q3
        obtain ⟨g4, hv⟩ := hv
        refine ⟨g4, ?_⟩
        obtain ⟨g5, hv⟩ := hv
        refine ⟨qok_mk rfl g5, ?_⟩
        obtain ⟨I6, eI6⟩ : ∃ z, z = qu I 392 ((x3 - (1 : Int32))).toNatClampNeg (x6 / x7) := ⟨_, rfl⟩
        have hv := hv I6 eI6
        intro h6 eh6
        have eh6 : h6 = zH I6 J := by rw [eh6, eI6]; rfl
        subst eh6
        exact hK5 x2 x3 (x4 + (1 : Int32)) I6 J hv
      · have hv := hv.2 q3
        obtain ⟨g7, hv⟩ := hv
        refine ⟨qok_mk rfl g7, ?_⟩
        obtain ⟨I8, eI8⟩ : ∃ z, z = qu I 392 ((x3 - (1 : Int32))).toNatClampNeg (x6 * x7) := ⟨_, rfl⟩
        have hv := hv I8 eI8
        intro h8 eh8
        have eh8 : h8 = zH I8 J := by rw [eh8, eI8]; rfl
        subst eh8
        exact hK5 x2 x3 (x4 + (1 : Int32)) I8 J hv
    · have hv := hv.2 q2
      obtain ⟨g9, hv⟩ := hv
      refine ⟨qok_mk rfl g9, ?_⟩
      obtain ⟨I10, eI10⟩ : ∃ z, z = qu I 392 ((x3 - (1 : Int32))).toNatClampNeg (x6 - x7) := ⟨_, rfl⟩
      have hv := hv I10 eI10
      intro h10 eh10
      have eh10 : h10 = zH I10 J := by rw [eh10, eI10]; rfl
      subst eh10
      exact hK5 x2 x3 (x4 + (1 : Int32)) I10 J hv
  · have hv := hv.2 q1
    obtain ⟨g11, hv⟩ := hv
    refine ⟨qok_mk rfl g11, ?_⟩
    obtain ⟨I12, eI12⟩ : ∃ z, z = qu I 392 ((x3 - (1 : Int32))).toNatClampNeg (x6 + x7) := ⟨_, rfl⟩
    have hv := hv I12 eI12
    intro h12 eh12
    have eh12 : h12 = zH I12 J := by rw [eh12, eI12]; rfl
    subst eh12
    exact hK5 x2 x3 (x4 + (1 : Int32)) I12 J hv
theorem u_M_termOf_5 (N k : Nat) (x2 : Int32) (x3 : Int32) (x4 : Int32) (I : zI) (J : zJ) (Q : Int32 → zI → zJ → Prop) (Q' : Int32 → qH → Prop) (hQ : ∀ (r : Int32) (I : zI) (J : zJ), Q r I J → Q' r (zH I J)) (hv : v_M_termOf_5 N k x2 x3 x4 I J Q ) : w_M_termOf_5 N k 361 x2 x3 x4 (zH I J) Q'  := by
  induction k generalizing x2 x3 x4 I J with
  | zero => exact hv.elim
  | succ k ih =>
    rw [w_M_termOf_5]
    rw [v_M_termOf_5] at hv
    refine ⟨fun q1 => ?_, fun q1 => ?_⟩
    · have hv := hv.1 q1
      refine ⟨rfl, ?_⟩
      obtain ⟨g2, hv⟩ := hv
      refine ⟨qok_mk rfl g2, ?_⟩
      exact hQ _ _ _ hv
    · have hv := hv.2 q1
      refine ⟨rfl, ?_⟩
      obtain ⟨g3, hv⟩ := hv
      refine ⟨qok_mk rfl g3, ?_⟩
      intro y4 ey4
      have hv := hv y4 ey4
      refine ⟨fun q5 => ?_, fun q5 => ?_⟩
      · have hv := hv.1 q5
        obtain ⟨g6, hv⟩ := hv
        refine ⟨qok_mk rfl g6, ?_⟩
        intro y7 ey7
        have hv := hv y7 ey7
        obtain ⟨g8, hv⟩ := hv
        refine ⟨qok_mk rfl g8, ?_⟩
        intro y9 ey9
        have hv := hv y9 ey9
        refine ⟨fun q10 => ?_, fun q10 => ?_⟩
        · have hv := hv.1 q10
          exact u_M_termOf_104 N x2 (x3 + (-1 : Int32)) x4 y4 y7 y9 I J Q _ hQ _ _ (fun x2 x3 x4 I J hv => ih x2 x3 x4 I J hv)  hv
        · have hv := hv.2 q10
          refine ⟨fun q11 => ?_, fun q11 => ?_⟩
          · have hv := hv.1 q11
            exact u_M_termOf_104 N x2 (x3 + (-1 : Int32)) x4 y4 y7 y9 I J Q _ hQ _ _ (fun x2 x3 x4 I J hv => ih x2 x3 x4 I J hv)  hv
          · have hv := hv.2 q11
            refine ⟨Or.inr rfl, ?_⟩
            obtain ⟨I12, eI12⟩ : ∃ z, z = qu I 361 48 (1 : Int32) := ⟨_, rfl⟩
            have hv := hv I12 eI12
            intro h12 eh12
            have eh12 : h12 = zH I12 J := by rw [eh12, eI12]; rfl
            subst eh12
            exact hQ _ _ _ hv
      · have hv := hv.2 q5
        refine ⟨fun q13 => ?_, fun q13 => ?_⟩
        · have hv := hv.1 q13
          obtain ⟨g14, hv⟩ := hv
          refine ⟨qok_mk rfl g14, ?_⟩
          obtain ⟨g15, hv⟩ := hv
          refine ⟨qok_mk rfl g15, ?_⟩
          obtain ⟨g16, hv⟩ := hv
          refine ⟨qok_mk rfl g16, ?_⟩
          obtain ⟨I17, eI17⟩ : ∃ z, z = qu I 392 (x3).toNatClampNeg (I 391 ((I 389 (x4).toNatClampNeg)).toNatClampNeg) := ⟨_, rfl⟩
          have hv := hv I17 eI17
          intro h17 eh17
          have eh17 : h17 = zH I17 J := by rw [eh17, eI17]; rfl
          subst eh17
          exact ih x2 (x3 + (1 : Int32)) (x4 + (1 : Int32)) I17 J hv
        · have hv := hv.2 q13
          obtain ⟨g18, hv⟩ := hv
          refine ⟨qok_mk rfl g18, ?_⟩
          obtain ⟨g19, hv⟩ := hv
          refine ⟨qok_mk rfl g19, ?_⟩
          obtain ⟨I20, eI20⟩ : ∃ z, z = qu I 392 (x3).toNatClampNeg (I 389 (x4).toNatClampNeg) := ⟨_, rfl⟩
          have hv := hv I20 eI20
          intro h20 eh20
          have eh20 : h20 = zH I20 J := by rw [eh20, eI20]; rfl
          subst eh20
          exact ih x2 (x3 + (1 : Int32)) (x4 + (1 : Int32)) I20 J hv
theorem u_M_termOf (N : Nat) (x1 : Int32) (x2 : Int32) (I : zI) (J : zJ) (Q : Int32 → zI → zJ → Prop) (Q' : Int32 → qH → Prop) (hQ : ∀ (r : Int32) (I : zI) (J : zJ), Q r I J → Q' r (zH I J)) (hv : v_M_termOf N x1 x2 I J Q) : w_M_termOf N 361 x1 x2 (zH I J) Q' := by
  unfold w_M_termOf
  unfold v_M_termOf at hv
  exact u_M_termOf_5 N N x2 (0 : Int32) x1 I J Q _ hQ   hv
theorem u_M_in (N : Nat) (x0 : Int32) (x1 : Int32) (x2 : Int32) (I : zI) (J : zJ) (Q : Int32 → zI → zJ → Prop) (Q' : Int32 → qH → Prop) (hQ : ∀ (r : Int32) (I : zI) (J : zJ), Q r I J → Q' r (zH I J)) (hv : v_M_in N x0 x1 x2 I J Q) : w_M_in N x0 x1 x2 (zH I J) Q' := by
  unfold w_M_in
  unfold v_M_in at hv
  refine ⟨fun q1 => ?_, fun q1 => ?_⟩
  · have hv := hv.1 q1
    exact ⟨Or.inl rfl, hQ _ _ _ hv⟩
  · have hv := hv.2 q1
    refine ⟨fun q2 => ?_, fun q2 => ?_⟩
    · have hv := hv.1 q2
      exact ⟨Or.inl rfl, hQ _ _ _ hv⟩
    · have hv := hv.2 q2
      exact ⟨Or.inr rfl, hQ _ _ _ hv⟩
theorem u_M_within (N : Nat) (x0 : Int32) (x1 : Int32) (x2 : Int32) (I : zI) (J : zJ) (Q : Int32 → zI → zJ → Prop) (Q' : Int32 → qH → Prop) (hQ : ∀ (r : Int32) (I : zI) (J : zJ), Q r I J → Q' r (zH I J)) (hv : v_M_within N x0 x1 x2 I J Q) : w_M_within N x0 x1 x2 (zH I J) Q' := by
  unfold w_M_within
  unfold v_M_within at hv
  refine ⟨fun q1 => ?_, fun q1 => ?_⟩
  · have hv := hv.1 q1
    refine ⟨fun q2 => ?_, fun q2 => ?_⟩
    · have hv := hv.1 q2
      exact hQ _ _ _ hv
    · have hv := hv.2 q2
      exact hQ _ _ _ hv
  · have hv := hv.2 q1
    exact hQ _ _ _ hv
theorem u_M_off (N : Nat) (x0 : Int32) (x1 : Int32) (I : zI) (J : zJ) (Q : Int32 → zI → zJ → Prop) (Q' : Int32 → qH → Prop) (hQ : ∀ (r : Int32) (I : zI) (J : zJ), Q r I J → Q' r (zH I J)) (hv : v_M_off N x0 x1 I J Q) : w_M_off N x0 x1 (zH I J) Q' := by
  unfold w_M_off
  unfold v_M_off at hv
  refine ⟨fun q1 => ?_, fun q1 => ?_⟩
  · have hv := hv.1 q1
    exact hQ _ _ _ hv
  · have hv := hv.2 q1
    exact hQ _ _ _ hv
theorem u_M_isHanger (N : Nat) (x1 : Int32) (I : zI) (J : zJ) (Q : Int32 → zI → zJ → Prop) (Q' : Int32 → qH → Prop) (hQ : ∀ (r : Int32) (I : zI) (J : zJ), Q r I J → Q' r (zH I J)) (hv : v_M_isHanger N x1 I J Q) : w_M_isHanger N 361 x1 (zH I J) Q' := by
  unfold w_M_isHanger
  unfold v_M_isHanger at hv
  refine ⟨rfl, ?_⟩
  obtain ⟨g1, hv⟩ := hv
  refine ⟨qok_mk rfl g1, ?_⟩
  refine u_M_in N x1 (0 : Int32) ((I 371 ((I 361 18)).toNatClampNeg) - (1 : Int32)) I J _ _ (fun r2 I3 J3 hv => ?_) hv
  exact ⟨hv.1, hQ _ _ _ hv.2⟩
theorem u_M_isPerson (N : Nat) (x1 : Int32) (I : zI) (J : zJ) (Q : Int32 → zI → zJ → Prop) (Q' : Int32 → qH → Prop) (hQ : ∀ (r : Int32) (I : zI) (J : zJ), Q r I J → Q' r (zH I J)) (hv : v_M_isPerson N x1 I J Q) : w_M_isPerson N 361 x1 (zH I J) Q' := by
  unfold w_M_isPerson
  unfold v_M_isPerson at hv
  refine ⟨rfl, ?_⟩
  obtain ⟨g1, hv⟩ := hv
  refine ⟨qok_mk rfl g1, ?_⟩
  refine u_M_in N x1 (0 : Int32) ((I 374 ((I 361 18)).toNatClampNeg) - (1 : Int32)) I J _ _ (fun r2 I3 J3 hv => ?_) hv
  exact ⟨hv.1, hQ _ _ _ hv.2⟩
theorem u_M_copies_2 (N k : Nat) (x1 : Int32) (I : zI) (J : zJ) (Q : zI → zJ → Prop) (Q' : qH → Prop) (hQ : ∀ (I : zI) (J : zJ), Q I J → Q' (zH I J)) (K26 : zI → zJ → Prop) (K26' : Nat → qH → Prop) (hK26 : ∀  (I : zI) (J : zJ), K26  I J → K26' 361 (zH I J)) (hv : v_M_copies_2 N k x1 I J Q K26) : w_M_copies_2 N k 361 x1 (zH I J) Q' K26' := by
  induction k generalizing x1 I J with
  | zero => exact hv.elim
  | succ k ih =>
    rw [w_M_copies_2]
    rw [v_M_copies_2] at hv
    refine ⟨fun q1 => ?_, fun q1 => ?_⟩
    · have hv := hv.1 q1
      exact hK26 I J hv
    · have hv := hv.2 q1
      refine ⟨rfl, ?_⟩
      obtain ⟨g2, hv⟩ := hv
      refine ⟨qok_mk rfl g2, ?_⟩
      obtain ⟨g3, hv⟩ := hv
      refine ⟨qok_mk rfl g3, ?_⟩
      obtain ⟨I4, eI4⟩ : ∃ z, z = qu I 394 (x1).toNatClampNeg (I 393 (x1).toNatClampNeg) := ⟨_, rfl⟩
      have hv := hv I4 eI4
      intro h4 eh4
      have eh4 : h4 = zH I4 J := by rw [eh4, eI4]; rfl
      subst eh4
      exact ih (x1 + (1 : Int32)) I4 J hv
theorem u_M_copies (N : Nat)  (I : zI) (J : zJ) (Q : zI → zJ → Prop) (Q' : qH → Prop) (hQ : ∀ (I : zI) (J : zJ), Q I J → Q' (zH I J)) (hv : v_M_copies N  I J Q) : w_M_copies N 361 (zH I J) Q' := by
  unfold w_M_copies
  unfold v_M_copies at hv
  refine u_M_copies_2 N N (0 : Int32) I J Q _ hQ _ _ (fun I1 J1 hv => ?_)  hv
  refine ⟨rfl, ?_⟩
  obtain ⟨g2, hv⟩ := hv
  refine ⟨qok_mk rfl g2, ?_⟩
  obtain ⟨I3, eI3⟩ : ∃ z, z = qu I1 361 51 (I1 380 ((I1 361 18)).toNatClampNeg) := ⟨_, rfl⟩
  have hv := hv I3 eI3
  intro h3 eh3
  have eh3 : h3 = zH I3 J1 := by rw [eh3, eI3]; rfl
  subst eh3
  refine ⟨rfl, ?_⟩
  refine ⟨Or.inl rfl, ?_⟩
  obtain ⟨I4, eI4⟩ : ∃ z, z = qu I3 361 52 (0 : Int32) := ⟨_, rfl⟩
  have hv := hv I4 eI4
  intro h4 eh4
  have eh4 : h4 = zH I4 J1 := by rw [eh4, eI4]; rfl
  subst eh4
  exact hQ _ _ hv
theorem u_M_copiesStill (N : Nat)  (I : zI) (J : zJ) (Q : zI → zJ → Prop) (Q' : qH → Prop) (hQ : ∀ (I : zI) (J : zJ), Q I J → Q' (zH I J)) (hv : v_M_copiesStill N  I J Q) : w_M_copiesStill N 361 (zH I J) Q' := by
  unfold w_M_copiesStill
  unfold v_M_copiesStill at hv
  refine ⟨rfl, ?_⟩
  refine u_M_copies N  I J _ _ (fun I1 J1 hv => ?_) hv
  refine ⟨rfl, ?_⟩
  refine ⟨Or.inr rfl, ?_⟩
  obtain ⟨I2, eI2⟩ : ∃ z, z = qu I1 361 52 (1 : Int32) := ⟨_, rfl⟩
  have hv := hv I2 eI2
  intro h2 eh2
  have eh2 : h2 = zH I2 J1 := by rw [eh2, eI2]; rfl
  subst eh2
  exact hQ _ _ hv
theorem u_M_mixed (N : Nat) (x0 : Int32) (x1 : Int32) (I : zI) (J : zJ) (Q : Int32 → zI → zJ → Prop) (Q' : Int32 → qH → Prop) (hQ : ∀ (r : Int32) (I : zI) (J : zJ), Q r I J → Q' r (zH I J)) (hv : v_M_mixed N x0 x1 I J Q) : w_M_mixed N x0 x1 (zH I J) Q' := by
  unfold w_M_mixed
  unfold v_M_mixed at hv
  intro y1 ey1
  have hv := hv y1 ey1
  exact hQ _ _ _ hv
theorem u_M_lotOf (N : Nat) (x1 : Int32) (x2 : Int32) (I : zI) (J : zJ) (Q : Int32 → zI → zJ → Prop) (Q' : Int32 → qH → Prop) (hQ : ∀ (r : Int32) (I : zI) (J : zJ), Q r I J → Q' r (zH I J)) (hv : v_M_lotOf N x1 x2 I J Q) : w_M_lotOf N 361 x1 x2 (zH I J) Q' := by
  unfold w_M_lotOf
  unfold v_M_lotOf at hv
  refine ⟨rfl, ?_⟩
  refine u_M_mixed N (I 361 51) (159 : Int32) I J _ _ (fun r1 I2 J2 hv => ?_) hv
  refine u_M_mixed N r1 x1 I2 J2 _ _ (fun r3 I4 J4 hv => ?_) hv
  obtain ⟨g5, hv⟩ := hv
  refine ⟨g5, ?_⟩
  exact hQ _ _ _ hv
theorem u_M_isMoth (N : Nat)  (I : zI) (J : zJ) (Q : Int32 → zI → zJ → Prop) (Q' : Int32 → qH → Prop) (hQ : ∀ (r : Int32) (I : zI) (J : zJ), Q r I J → Q' r (zH I J)) (hv : v_M_isMoth N  I J Q) : w_M_isMoth N 361 (zH I J) Q' := by
  unfold w_M_isMoth
  unfold v_M_isMoth at hv
  refine ⟨rfl, ?_⟩
  obtain ⟨g1, hv⟩ := hv
  refine ⟨qok_mk rfl g1, ?_⟩
  refine u_M_lotOf N (((16 : Int32) * (I 394 ((31 : Int32)).toNatClampNeg)) + (8 : Int32)) (100 : Int32) I J _ _ (fun r2 I3 J3 hv => ?_) hv
  refine ⟨rfl, ?_⟩
  obtain ⟨g4, hv⟩ := hv
  refine ⟨qok_mk rfl g4, ?_⟩
  refine ⟨fun q5 => ?_, fun q5 => ?_⟩
  · have hv := hv.1 q5
    exact ⟨Or.inl rfl, hQ _ _ _ hv⟩
  · have hv := hv.2 q5
    exact ⟨Or.inr rfl, hQ _ _ _ hv⟩
theorem u_M_isUp (N : Nat) (x1 : Int32) (I : zI) (J : zJ) (Q : Int32 → zI → zJ → Prop) (Q' : Int32 → qH → Prop) (hQ : ∀ (r : Int32) (I : zI) (J : zJ), Q r I J → Q' r (zH I J)) (hv : v_M_isUp N x1 I J Q) : w_M_isUp N 361 x1 (zH I J) Q' := by
  unfold w_M_isUp
  unfold v_M_isUp at hv
  refine ⟨rfl, ?_⟩
  obtain ⟨g1, hv⟩ := hv
  refine ⟨qok_mk rfl g1, ?_⟩
  refine ⟨fun q2 => ?_, fun q2 => ?_⟩
  · have hv := hv.1 q2
    exact ⟨Or.inl rfl, hQ _ _ _ hv⟩
  · have hv := hv.2 q2
    exact ⟨Or.inr rfl, hQ _ _ _ hv⟩
theorem u_M_whoIsOn_2 (N k : Nat) (x1 : Int32) (x2 : Int32) (I : zI) (J : zJ) (Q : Int32 → zI → zJ → Prop) (Q' : Int32 → qH → Prop) (hQ : ∀ (r : Int32) (I : zI) (J : zJ), Q r I J → Q' r (zH I J)) (hv : v_M_whoIsOn_2 N k x1 x2 I J Q ) : w_M_whoIsOn_2 N k 361 x1 x2 (zH I J) Q'  := by
  induction k generalizing x1 x2 I J with
  | zero => exact hv.elim
  | succ k ih =>
    rw [w_M_whoIsOn_2]
    rw [v_M_whoIsOn_2] at hv
    refine ⟨rfl, ?_⟩
    obtain ⟨g1, hv⟩ := hv
    refine ⟨qok_mk rfl g1, ?_⟩
    refine ⟨fun q2 => ?_, fun q2 => ?_⟩
    · have hv := hv.1 q2
      exact hQ _ _ _ hv
    · have hv := hv.2 q2
      obtain ⟨g3, hv⟩ := hv
      refine ⟨qok_mk rfl g3, ?_⟩
      refine ⟨fun q4 => ?_, fun q4 => ?_⟩
      · have hv := hv.1 q4
        exact ih x1 (x2 + (1 : Int32)) I J hv
      · have hv := hv.2 q4
        exact hQ _ _ _ hv
theorem u_M_whoIsOn (N : Nat) (x1 : Int32) (I : zI) (J : zJ) (Q : Int32 → zI → zJ → Prop) (Q' : Int32 → qH → Prop) (hQ : ∀ (r : Int32) (I : zI) (J : zJ), Q r I J → Q' r (zH I J)) (hv : v_M_whoIsOn N x1 I J Q) : w_M_whoIsOn N 361 x1 (zH I J) Q' := by
  unfold w_M_whoIsOn
  unfold v_M_whoIsOn at hv
  exact u_M_whoIsOn_2 N N x1 (0 : Int32) I J Q _ hQ   hv
theorem u_M_nailAt (N : Nat) (x1 : Int32) (I : zI) (J : zJ) (Q : Int32 → zI → zJ → Prop) (Q' : Int32 → qH → Prop) (hQ : ∀ (r : Int32) (I : zI) (J : zJ), Q r I J → Q' r (zH I J)) (hv : v_M_nailAt N x1 I J Q) : w_M_nailAt N 361 x1 (zH I J) Q' := by
  unfold w_M_nailAt
  unfold v_M_nailAt at hv
  refine ⟨rfl, ?_⟩
  obtain ⟨g1, hv⟩ := hv
  refine ⟨qok_mk rfl g1, ?_⟩
  exact hQ _ _ _ hv
theorem u_M_manyOn_4 (N k : Nat) (x1 : Int32) (x2 : Int32) (x3 : Int32) (I : zI) (J : zJ) (Q : Int32 → zI → zJ → Prop) (Q' : Int32 → qH → Prop) (hQ : ∀ (r : Int32) (I : zI) (J : zJ), Q r I J → Q' r (zH I J)) (hv : v_M_manyOn_4 N k x1 x2 x3 I J Q ) : w_M_manyOn_4 N k 361 x1 x2 x3 (zH I J) Q'  := by
  induction k generalizing x1 x2 x3 I J with
  | zero => exact hv.elim
  | succ k ih =>
    rw [w_M_manyOn_4]
    rw [v_M_manyOn_4] at hv
    refine ⟨rfl, ?_⟩
    obtain ⟨g1, hv⟩ := hv
    refine ⟨qok_mk rfl g1, ?_⟩
    refine ⟨fun q2 => ?_, fun q2 => ?_⟩
    · have hv := hv.1 q2
      exact hQ _ _ _ hv
    · have hv := hv.2 q2
      refine u_M_isUp N x3 I J _ _ (fun r3 I4 J4 hv => ?_) hv
      refine ⟨fun q5 => ?_, fun q5 => ?_⟩
      · have hv := hv.1 q5
        exact ih x1 x2 (x3 + (1 : Int32)) I4 J4 hv
      · have hv := hv.2 q5
        refine ⟨rfl, ?_⟩
        obtain ⟨g6, hv⟩ := hv
        refine ⟨qok_mk rfl g6, ?_⟩
        refine u_M_nailAt N (I4 394 (((6 : Int32) + x3)).toNatClampNeg) I4 J4 _ _ (fun r7 I8 J8 hv => ?_) hv
        refine ⟨fun q9 => ?_, fun q9 => ?_⟩
        · have hv := hv.1 q9
          exact ih x1 x2 (x3 + (1 : Int32)) I8 J8 hv
        · have hv := hv.2 q9
          exact ih x1 (x2 + (1 : Int32)) (x3 + (1 : Int32)) I8 J8 hv
theorem u_M_manyOn (N : Nat) (x1 : Int32) (I : zI) (J : zJ) (Q : Int32 → zI → zJ → Prop) (Q' : Int32 → qH → Prop) (hQ : ∀ (r : Int32) (I : zI) (J : zJ), Q r I J → Q' r (zH I J)) (hv : v_M_manyOn N x1 I J Q) : w_M_manyOn N 361 x1 (zH I J) Q' := by
  unfold w_M_manyOn
  unfold v_M_manyOn at hv
  exact u_M_manyOn_4 N N x1 (0 : Int32) (0 : Int32) I J Q _ hQ   hv
theorem u_M_looks (N : Nat) (x1 : Int32) (x2 : Int32) (x3 : Int32) (I : zI) (J : zJ) (Q : zI → zJ → Prop) (Q' : qH → Prop) (hQ : ∀ (I : zI) (J : zJ), Q I J → Q' (zH I J)) (hv : v_M_looks N x1 x2 x3 I J Q) : w_M_looks N 361 x1 x2 x3 (zH I J) Q' := by
  unfold w_M_looks
  unfold v_M_looks at hv
  refine ⟨rfl, ?_⟩
  obtain ⟨g1, hv⟩ := hv
  refine ⟨qok_mk rfl g1, ?_⟩
  obtain ⟨g2, hv⟩ := hv
  refine ⟨qok_mk rfl g2, ?_⟩
  refine u_M_off N (I 394 (x1).toNatClampNeg) (I 373 ((((7 : Int32) * (I 361 18)) + x2)).toNatClampNeg) I J _ _ (fun r3 I4 J4 hv => ?_) hv
  refine ⟨rfl, ?_⟩
  obtain ⟨g5, hv⟩ := hv
  refine ⟨qok_mk rfl g5, ?_⟩
  obtain ⟨g6, hv⟩ := hv
  refine ⟨qok_mk rfl g6, ?_⟩
  obtain ⟨I7, eI7⟩ : ∃ z, z = qu I4 391 ((0 : Int32)).toNatClampNeg (r3 + (I4 394 (((24 : Int32) + x2)).toNatClampNeg)) := ⟨_, rfl⟩
  have hv := hv I7 eI7
  intro h7 eh7
  have eh7 : h7 = zH I7 J4 := by rw [eh7, eI7]; rfl
  subst eh7
  refine ⟨rfl, ?_⟩
  obtain ⟨g8, hv⟩ := hv
  refine ⟨qok_mk rfl g8, ?_⟩
  obtain ⟨g9, hv⟩ := hv
  refine ⟨qok_mk rfl g9, ?_⟩
  obtain ⟨I10, eI10⟩ : ∃ z, z = qu I7 391 ((1 : Int32)).toNatClampNeg (I7 394 (((24 : Int32) + x2)).toNatClampNeg) := ⟨_, rfl⟩
  have hv := hv I10 eI10
  intro h10 eh10
  have eh10 : h10 = zH I10 J4 := by rw [eh10, eI10]; rfl
  subst eh10
  refine ⟨rfl, ?_⟩
  obtain ⟨g11, hv⟩ := hv
  refine ⟨qok_mk rfl g11, ?_⟩
  obtain ⟨g12, hv⟩ := hv
  refine ⟨qok_mk rfl g12, ?_⟩
  obtain ⟨I13, eI13⟩ : ∃ z, z = qu I10 391 ((2 : Int32)).toNatClampNeg (I10 394 (x1).toNatClampNeg) := ⟨_, rfl⟩
  have hv := hv I13 eI13
  intro h13 eh13
  have eh13 : h13 = zH I13 J4 := by rw [eh13, eI13]; rfl
  subst eh13
  refine ⟨rfl, ?_⟩
  obtain ⟨g14, hv⟩ := hv
  refine ⟨qok_mk rfl g14, ?_⟩
  obtain ⟨g15, hv⟩ := hv
  refine ⟨qok_mk rfl g15, ?_⟩
  obtain ⟨I16, eI16⟩ : ∃ z, z = qu I13 391 ((3 : Int32)).toNatClampNeg (I13 376 ((((6 : Int32) * (I13 361 18)) + x1)).toNatClampNeg) := ⟨_, rfl⟩
  have hv := hv I16 eI16
  intro h16 eh16
  have eh16 : h16 = zH I16 J4 := by rw [eh16, eI16]; rfl
  subst eh16
  refine ⟨rfl, ?_⟩
  obtain ⟨g17, hv⟩ := hv
  refine ⟨qok_mk rfl g17, ?_⟩
  obtain ⟨g18, hv⟩ := hv
  refine ⟨qok_mk rfl g18, ?_⟩
  obtain ⟨I19, eI19⟩ : ∃ z, z = qu I16 391 ((4 : Int32)).toNatClampNeg (I16 394 ((31 : Int32)).toNatClampNeg) := ⟨_, rfl⟩
  have hv := hv I19 eI19
  intro h19 eh19
  have eh19 : h19 = zH I19 J4 := by rw [eh19, eI19]; rfl
  subst eh19
  refine ⟨rfl, ?_⟩
  obtain ⟨g20, hv⟩ := hv
  refine ⟨qok_mk rfl g20, ?_⟩
  obtain ⟨g21, hv⟩ := hv
  refine ⟨qok_mk rfl g21, ?_⟩
  obtain ⟨I22, eI22⟩ : ∃ z, z = qu I19 391 ((5 : Int32)).toNatClampNeg (I19 394 (((18 : Int32) + x1)).toNatClampNeg) := ⟨_, rfl⟩
  have hv := hv I22 eI22
  intro h22 eh22
  have eh22 : h22 = zH I22 J4 := by rw [eh22, eI22]; rfl
  subst eh22
  refine ⟨rfl, ?_⟩
  obtain ⟨g23, hv⟩ := hv
  refine ⟨qok_mk rfl g23, ?_⟩
  obtain ⟨I24, eI24⟩ : ∃ z, z = qu I22 391 ((6 : Int32)).toNatClampNeg x3 := ⟨_, rfl⟩
  have hv := hv I24 eI24
  intro h24 eh24
  have eh24 : h24 = zH I24 J4 := by rw [eh24, eI24]; rfl
  subst eh24
  refine ⟨rfl, ?_⟩
  obtain ⟨g25, hv⟩ := hv
  refine ⟨qok_mk rfl g25, ?_⟩
  obtain ⟨I26, eI26⟩ : ∃ z, z = qu I24 391 ((7 : Int32)).toNatClampNeg x1 := ⟨_, rfl⟩
  have hv := hv I26 eI26
  intro h26 eh26
  have eh26 : h26 = zH I26 J4 := by rw [eh26, eI26]; rfl
  subst eh26
  refine ⟨rfl, ?_⟩
  refine u_M_nailAt N x2 I26 J4 _ _ (fun r27 I28 J28 hv => ?_) hv
  obtain ⟨g29, hv⟩ := hv
  refine ⟨qok_mk rfl g29, ?_⟩
  obtain ⟨I30, eI30⟩ : ∃ z, z = qu I28 391 ((8 : Int32)).toNatClampNeg r27 := ⟨_, rfl⟩
  have hv := hv I30 eI30
  intro h30 eh30
  have eh30 : h30 = zH I30 J28 := by rw [eh30, eI30]; rfl
  subst eh30
  exact hQ _ _ hv
theorem u_M_lawTells_39 (N k : Nat) (x3 : Int32) (x4 : Int32) (I : zI) (J : zJ) (Q : Int32 → zI → zJ → Prop) (Q' : Int32 → qH → Prop) (hQ : ∀ (r : Int32) (I : zI) (J : zJ), Q r I J → Q' r (zH I J)) (K119 : Int32 → zI → zJ → Prop) (K119' : Nat → Int32 → qH → Prop) (hK119 : ∀ (x4 : Int32) (I : zI) (J : zJ), K119 x4 I J → K119' 361 x4 (zH I J)) (hv : v_M_lawTells_39 N k x3 x4 I J Q K119) : w_M_lawTells_39 N k 361 x3 x4 (zH I J) Q' K119' := by
  induction k generalizing x3 x4 I J with
  | zero => exact hv.elim
  | succ k ih =>
    rw [w_M_lawTells_39]
    rw [v_M_lawTells_39] at hv
    refine ⟨rfl, ?_⟩
    obtain ⟨g1, hv⟩ := hv
    refine ⟨qok_mk rfl g1, ?_⟩
    refine ⟨fun q2 => ?_, fun q2 => ?_⟩
    · have hv := hv.1 q2
      exact hQ _ _ _ hv
    · have hv := hv.2 q2
      obtain ⟨g3, hv⟩ := hv
      refine ⟨qok_mk rfl g3, ?_⟩
      refine ⟨fun q4 => ?_, fun q4 => ?_⟩
      · have hv := hv.1 q4
        exact hK119 x4 I J hv
      · have hv := hv.2 q4
        obtain ⟨g5, hv⟩ := hv
        refine ⟨qok_mk rfl g5, ?_⟩
        obtain ⟨g6, hv⟩ := hv
        refine ⟨qok_mk rfl g6, ?_⟩
        refine u_M_termOf N (I 384 (x4).toNatClampNeg) (I 385 (x4).toNatClampNeg) I J _ _ (fun r7 I8 J8 hv => ?_) hv
        refine ⟨rfl, ?_⟩
        obtain ⟨g9, hv⟩ := hv
        refine ⟨qok_mk rfl g9, ?_⟩
        obtain ⟨g10, hv⟩ := hv
        refine ⟨qok_mk rfl g10, ?_⟩
        refine u_M_termOf N (I8 385 (x4).toNatClampNeg) (I8 386 (x4).toNatClampNeg) I8 J8 _ _ (fun r11 I12 J12 hv => ?_) hv
        refine ⟨rfl, ?_⟩
        refine ⟨fun q13 => ?_, fun q13 => ?_⟩
        · have hv := hv.1 q13
          refine ⟨fun q14 => ?_, fun q14 => ?_⟩
          · have hv := hv.1 q14
            exact hK119 x4 I12 J12 hv
          · have hv := hv.2 q14
            exact ih x3 (x4 + (1 : Int32)) I12 J12 hv
        · have hv := hv.2 q13
          exact hQ _ _ _ hv
theorem u_M_lawTells_119 (N : Nat) (x4 : Int32) (I : zI) (J : zJ) (Q : Int32 → zI → zJ → Prop) (Q' : Int32 → qH → Prop) (hQ : ∀ (r : Int32) (I : zI) (J : zJ), Q r I J → Q' r (zH I J)) (hv : v_M_lawTells_119 N x4 I J Q ) : w_M_lawTells_119 N 361 x4 (zH I J) Q'  := by
  unfold w_M_lawTells_119
  unfold v_M_lawTells_119 at hv
  refine ⟨rfl, ?_⟩
  obtain ⟨g1, hv⟩ := hv
  refine ⟨qok_mk rfl g1, ?_⟩
  obtain ⟨g2, hv⟩ := hv
  refine ⟨qok_mk rfl g2, ?_⟩
  refine u_M_termOf N (I 386 (x4).toNatClampNeg) (I 387 (x4).toNatClampNeg) I J _ _ (fun r3 I4 J4 hv => ?_) hv
  refine ⟨rfl, ?_⟩
  refine ⟨fun q5 => ?_, fun q5 => ?_⟩
  · have hv := hv.1 q5
    exact hQ _ _ _ hv
  · have hv := hv.2 q5
    exact hQ _ _ _ hv
theorem u_M_lawTells (N : Nat) (x1 : Int32) (x2 : Int32) (I : zI) (J : zJ) (Q : Int32 → zI → zJ → Prop) (Q' : Int32 → qH → Prop) (hQ : ∀ (r : Int32) (I : zI) (J : zJ), Q r I J → Q' r (zH I J)) (hv : v_M_lawTells N x1 x2 I J Q) : w_M_lawTells N 361 x1 x2 (zH I J) Q' := by
  unfold w_M_lawTells
  unfold v_M_lawTells at hv
  refine ⟨rfl, ?_⟩
  intro y1 ey1
  have hv := hv y1 ey1
  obtain ⟨g2, hv⟩ := hv
  refine ⟨qok_mk rfl g2, ?_⟩
  obtain ⟨g3, hv⟩ := hv
  refine ⟨qok_mk rfl g3, ?_⟩
  refine ⟨fun q4 => ?_, fun q4 => ?_⟩
  · have hv := hv.1 q4
    refine ⟨Or.inl rfl, ?_⟩
    obtain ⟨I5, eI5⟩ : ∃ z, z = qu I 361 48 (0 : Int32) := ⟨_, rfl⟩
    have hv := hv I5 eI5
    intro h5 eh5
    have eh5 : h5 = zH I5 J := by rw [eh5, eI5]; rfl
    subst eh5
    refine ⟨rfl, ?_⟩
    obtain ⟨g6, hv⟩ := hv
    refine ⟨qok_mk rfl g6, ?_⟩
    intro y7 ey7
    have hv := hv y7 ey7
    refine u_M_lawTells_39 N N y1 y7 I5 J Q _ hQ _ _ (fun w8 I9 J9 hv => ?_)  hv
    exact u_M_lawTells_119 N w8 I9 J9 Q _ hQ   hv
  · have hv := hv.2 q4
    exact hQ _ _ _ hv
theorem u_M_besideOf (N : Nat) (x1 : Int32) (I : zI) (J : zJ) (Q : Int32 → zI → zJ → Prop) (Q' : Int32 → qH → Prop) (hQ : ∀ (r : Int32) (I : zI) (J : zJ), Q r I J → Q' r (zH I J)) (hv : v_M_besideOf N x1 I J Q) : w_M_besideOf N 361 x1 (zH I J) Q' := by
  unfold w_M_besideOf
  unfold v_M_besideOf at hv
  refine ⟨rfl, ?_⟩
  refine u_M_isUp N x1 I J _ _ (fun r1 I2 J2 hv => ?_) hv
  refine ⟨fun q3 => ?_, fun q3 => ?_⟩
  · have hv := hv.1 q3
    exact hQ _ _ _ hv
  · have hv := hv.2 q3
    refine ⟨rfl, ?_⟩
    obtain ⟨g4, hv⟩ := hv
    refine ⟨qok_mk rfl g4, ?_⟩
    refine u_M_nailAt N (I2 394 (((6 : Int32) + x1)).toNatClampNeg) I2 J2 _ _ (fun r5 I6 J6 hv => ?_) hv
    refine ⟨rfl, ?_⟩
    refine u_M_manyOn N r5 I6 J6 _ _ (fun r7 I8 J8 hv => ?_) hv
    exact hQ _ _ _ hv
theorem u_M_toldOf_30 (N : Nat) (x2 : Int32) (z0 : Int32) (I : zI) (J : zJ) (Q : Int32 → zI → zJ → Prop) (Q' : Int32 → qH → Prop) (hQ : ∀ (r : Int32) (I : zI) (J : zJ), Q r I J → Q' r (zH I J)) (hv : v_M_toldOf_30 N x2 z0 I J Q ) : w_M_toldOf_30 N 361 x2 z0 361 (zH I J) Q'  := by
  unfold w_M_toldOf_30
  unfold v_M_toldOf_30 at hv
  refine ⟨rfl, ?_⟩
  obtain ⟨g1, hv⟩ := hv
  refine ⟨qok_mk rfl g1, ?_⟩
  refine ⟨rfl, ?_⟩
  refine u_M_lawTells N z0 (I 391 ((0 : Int32)).toNatClampNeg) I J _ _ (fun r2 I3 J3 hv => ?_) hv
  refine ⟨fun q4 => ?_, fun q4 => ?_⟩
  · have hv := hv.1 q4
    refine u_M_within N r2 (0 : Int32) (99 : Int32) I3 J3 _ _ (fun r5 I6 J6 hv => ?_) hv
    exact hQ _ _ _ hv
  · have hv := hv.2 q4
    refine u_M_within N r2 (0 : Int32) (100 : Int32) I3 J3 _ _ (fun r7 I8 J8 hv => ?_) hv
    exact hQ _ _ _ hv
theorem u_M_toldOf (N : Nat) (x1 : Int32) (x2 : Int32) (I : zI) (J : zJ) (Q : Int32 → zI → zJ → Prop) (Q' : Int32 → qH → Prop) (hQ : ∀ (r : Int32) (I : zI) (J : zJ), Q r I J → Q' r (zH I J)) (hv : v_M_toldOf N x1 x2 I J Q) : w_M_toldOf N 361 x1 x2 (zH I J) Q' := by
  unfold w_M_toldOf
  unfold v_M_toldOf at hv
  refine ⟨rfl, ?_⟩
  obtain ⟨g1, hv⟩ := hv
  refine ⟨qok_mk rfl g1, ?_⟩
  refine u_M_besideOf N x1 I J _ _ (fun r2 I3 J3 hv => ?_) hv
  refine ⟨rfl, ?_⟩
  refine u_M_looks N x1 (I 394 (((6 : Int32) + x1)).toNatClampNeg) r2 I3 J3 _ _ (fun I4 J4 hv => ?_) hv
  refine ⟨fun q5 => ?_, fun q5 => ?_⟩
  · have hv := hv.1 q5
    exact u_M_toldOf_30 N x2 x2 I4 J4 Q _ hQ   hv
  · have hv := hv.2 q5
    refine ⟨fun q6 => ?_, fun q6 => ?_⟩
    · have hv := hv.1 q6
      refine ⟨rfl, ?_⟩
      refine u_M_lawTells N x2 (0 : Int32) I4 J4 _ _ (fun r7 I8 J8 hv => ?_) hv
      refine ⟨fun q9 => ?_, fun q9 => ?_⟩
      · have hv := hv.1 q9
        refine u_M_within N r7 (0 : Int32) (99 : Int32) I8 J8 _ _ (fun r10 I11 J11 hv => ?_) hv
        exact hQ _ _ _ hv
      · have hv := hv.2 q9
        refine u_M_within N r7 (0 : Int32) (100 : Int32) I8 J8 _ _ (fun r12 I13 J13 hv => ?_) hv
        exact hQ _ _ _ hv
    · have hv := hv.2 q6
      exact u_M_toldOf_30 N x2 x2 I4 J4 Q _ hQ   hv
theorem u_M_costsAt (N : Nat) (x1 : Int32) (x2 : Int32) (I : zI) (J : zJ) (Q : Int32 → zI → zJ → Prop) (Q' : Int32 → qH → Prop) (hQ : ∀ (r : Int32) (I : zI) (J : zJ), Q r I J → Q' r (zH I J)) (hv : v_M_costsAt N x1 x2 I J Q) : w_M_costsAt N 361 x1 x2 (zH I J) Q' := by
  unfold w_M_costsAt
  unfold v_M_costsAt at hv
  refine ⟨rfl, ?_⟩
  refine u_M_looks N x1 x2 (0 : Int32) I J _ _ (fun I1 J1 hv => ?_) hv
  refine ⟨rfl, ?_⟩
  obtain ⟨g2, hv⟩ := hv
  refine ⟨qok_mk rfl g2, ?_⟩
  refine u_M_lawTells N (3 : Int32) (I1 391 ((0 : Int32)).toNatClampNeg) I1 J1 _ _ (fun r3 I4 J4 hv => ?_) hv
  refine u_M_within N r3 (0 : Int32) (99 : Int32) I4 J4 _ _ (fun r5 I6 J6 hv => ?_) hv
  exact hQ _ _ _ hv
theorem u_M_costsAll_4 (N k : Nat) (x1 : Int32) (x2 : Int32) (I : zI) (J : zJ) (Q : Int32 → zI → zJ → Prop) (Q' : Int32 → qH → Prop) (hQ : ∀ (r : Int32) (I : zI) (J : zJ), Q r I J → Q' r (zH I J)) (hv : v_M_costsAll_4 N k x1 x2 I J Q ) : w_M_costsAll_4 N k 361 x1 x2 (zH I J) Q'  := by
  induction k generalizing x1 x2 I J with
  | zero => exact hv.elim
  | succ k ih =>
    rw [w_M_costsAll_4]
    rw [v_M_costsAll_4] at hv
    refine ⟨rfl, ?_⟩
    obtain ⟨g1, hv⟩ := hv
    refine ⟨qok_mk rfl g1, ?_⟩
    refine ⟨fun q2 => ?_, fun q2 => ?_⟩
    · have hv := hv.1 q2
      exact hQ _ _ _ hv
    · have hv := hv.2 q2
      refine u_M_isUp N x2 I J _ _ (fun r3 I4 J4 hv => ?_) hv
      refine ⟨fun q5 => ?_, fun q5 => ?_⟩
      · have hv := hv.1 q5
        exact ih x1 (x2 + (1 : Int32)) I4 J4 hv
      · have hv := hv.2 q5
        refine ⟨rfl, ?_⟩
        refine u_M_toldOf N x2 (3 : Int32) I4 J4 _ _ (fun r6 I7 J7 hv => ?_) hv
        intro y8 ey8
        have hv := hv y8 ey8
        exact ih y8 (x2 + (1 : Int32)) I7 J7 hv
theorem u_M_costsAll (N : Nat)  (I : zI) (J : zJ) (Q : Int32 → zI → zJ → Prop) (Q' : Int32 → qH → Prop) (hQ : ∀ (r : Int32) (I : zI) (J : zJ), Q r I J → Q' r (zH I J)) (hv : v_M_costsAll N  I J Q) : w_M_costsAll N 361 (zH I J) Q' := by
  unfold w_M_costsAll
  unfold v_M_costsAll at hv
  exact u_M_costsAll_4 N N (0 : Int32) (0 : Int32) I J Q _ hQ   hv
theorem u_M_nextOn_53 (N : Nat) (x2 : Int32) (x3 : Int32) (I : zI) (J : zJ) (Q : Int32 → zI → zJ → Prop) (Q' : Int32 → qH → Prop) (hQ : ∀ (r : Int32) (I : zI) (J : zJ), Q r I J → Q' r (zH I J)) (K28 : Int32 → Int32 → zI → zJ → Prop) (K28' : Nat → Int32 → Int32 → qH → Prop) (hK28 : ∀ (x2 : Int32) (x3 : Int32) (I : zI) (J : zJ), K28 x2 x3 I J → K28' 361 x2 x3 (zH I J)) (hv : v_M_nextOn_53 N x2 x3 I J Q K28) : w_M_nextOn_53 N 361 x2 x3 (zH I J) Q' K28' := by
  unfold w_M_nextOn_53
  unfold v_M_nextOn_53 at hv
  refine ⟨rfl, ?_⟩
  obtain ⟨g1, hv⟩ := hv
  refine ⟨qok_mk rfl g1, ?_⟩
  obtain ⟨g2, hv⟩ := hv
  refine ⟨g2, ?_⟩
  intro y3 ey3
  have hv := hv y3 ey3
  exact hK28 x2 y3 I J hv
theorem u_M_nextOn_28 (N k : Nat) (x2 : Int32) (x3 : Int32) (I : zI) (J : zJ) (Q : Int32 → zI → zJ → Prop) (Q' : Int32 → qH → Prop) (hQ : ∀ (r : Int32) (I : zI) (J : zJ), Q r I J → Q' r (zH I J)) (hv : v_M_nextOn_28 N k x2 x3 I J Q ) : w_M_nextOn_28 N k 361 x2 x3 (zH I J) Q'  := by
  induction k generalizing x2 x3 I J with
  | zero => exact hv.elim
  | succ k ih =>
    rw [w_M_nextOn_28]
    rw [v_M_nextOn_28] at hv
    refine ⟨rfl, ?_⟩
    refine u_M_isUp N x3 I J _ _ (fun r1 I2 J2 hv => ?_) hv
    refine ⟨fun q3 => ?_, fun q3 => ?_⟩
    · have hv := hv.1 q3
      exact u_M_nextOn_53 N x2 x3 I2 J2 Q _ hQ _ _ (fun x2 x3 I J hv => ih x2 x3 I J hv)  hv
    · have hv := hv.2 q3
      refine ⟨rfl, ?_⟩
      obtain ⟨g4, hv⟩ := hv
      refine ⟨qok_mk rfl g4, ?_⟩
      refine u_M_nailAt N (I2 394 (((6 : Int32) + x3)).toNatClampNeg) I2 J2 _ _ (fun r5 I6 J6 hv => ?_) hv
      refine ⟨fun q7 => ?_, fun q7 => ?_⟩
      · have hv := hv.1 q7
        exact hQ _ _ _ hv
      · have hv := hv.2 q7
        exact u_M_nextOn_53 N x2 x3 I6 J6 Q _ hQ _ _ (fun x2 x3 I J hv => ih x2 x3 I J hv)  hv
theorem u_M_nextOn (N : Nat) (x1 : Int32) (I : zI) (J : zJ) (Q : Int32 → zI → zJ → Prop) (Q' : Int32 → qH → Prop) (hQ : ∀ (r : Int32) (I : zI) (J : zJ), Q r I J → Q' r (zH I J)) (hv : v_M_nextOn N x1 I J Q) : w_M_nextOn N 361 x1 (zH I J) Q' := by
  unfold w_M_nextOn
  unfold v_M_nextOn at hv
  refine ⟨rfl, ?_⟩
  obtain ⟨g1, hv⟩ := hv
  refine ⟨qok_mk rfl g1, ?_⟩
  refine u_M_nailAt N (I 394 (((6 : Int32) + x1)).toNatClampNeg) I J _ _ (fun r2 I3 J3 hv => ?_) hv
  refine ⟨rfl, ?_⟩
  obtain ⟨g4, hv⟩ := hv
  refine ⟨qok_mk rfl g4, ?_⟩
  obtain ⟨g5, hv⟩ := hv
  refine ⟨g5, ?_⟩
  intro y6 ey6
  have hv := hv y6 ey6
  exact u_M_nextOn_28 N N r2 y6 I3 J3 Q _ hQ   hv
theorem u_M_wakes_100 (N : Nat) (x1 : Int32) (I : zI) (J : zJ) (Q : zI → zJ → Prop) (Q' : qH → Prop) (hQ : ∀ (I : zI) (J : zJ), Q I J → Q' (zH I J)) (hv : v_M_wakes_100 N x1 I J Q ) : w_M_wakes_100 N 361 x1 (zH I J) Q'  := by
  unfold w_M_wakes_100
  unfold v_M_wakes_100 at hv
  refine ⟨rfl, ?_⟩
  obtain ⟨g1, hv⟩ := hv
  refine ⟨qok_mk rfl g1, ?_⟩
  obtain ⟨g2, hv⟩ := hv
  refine ⟨qok_mk rfl g2, ?_⟩
  obtain ⟨I3, eI3⟩ : ∃ z, z = qu I 394 (((12 : Int32) + x1)).toNatClampNeg (I 398 (x1).toNatClampNeg) := ⟨_, rfl⟩
  have hv := hv I3 eI3
  intro h3 eh3
  have eh3 : h3 = zH I3 J := by rw [eh3, eI3]; rfl
  subst eh3
  refine ⟨rfl, ?_⟩
  obtain ⟨g4, hv⟩ := hv
  refine ⟨qok_mk rfl g4, ?_⟩
  refine ⟨fun q5 => ?_, fun q5 => ?_⟩
  · have hv := hv.1 q5
    exact hQ _ _ hv
  · have hv := hv.2 q5
    obtain ⟨g6, hv⟩ := hv
    refine ⟨qok_mk rfl g6, ?_⟩
    obtain ⟨I7, eI7⟩ : ∃ z, z = qu I3 394 (((6 : Int32) + x1)).toNatClampNeg (-2 : Int32) := ⟨_, rfl⟩
    have hv := hv I7 eI7
    intro h7 eh7
    have eh7 : h7 = zH I7 J := by rw [eh7, eI7]; rfl
    subst eh7
    exact hQ _ _ hv
theorem u_M_wakes (N : Nat) (x1 : Int32) (I : zI) (J : zJ) (Q : zI → zJ → Prop) (Q' : qH → Prop) (hQ : ∀ (I : zI) (J : zJ), Q I J → Q' (zH I J)) (hv : v_M_wakes N x1 I J Q) : w_M_wakes N 361 x1 (zH I J) Q' := by
  unfold w_M_wakes
  unfold v_M_wakes at hv
  refine ⟨rfl, ?_⟩
  refine u_M_isUp N x1 I J _ _ (fun r1 I2 J2 hv => ?_) hv
  refine ⟨fun q3 => ?_, fun q3 => ?_⟩
  · have hv := hv.1 q3
    refine ⟨rfl, ?_⟩
    obtain ⟨g4, hv⟩ := hv
    refine ⟨qok_mk rfl g4, ?_⟩
    obtain ⟨I5, eI5⟩ : ∃ z, z = qu I2 394 (((18 : Int32) + x1)).toNatClampNeg (0 : Int32) := ⟨_, rfl⟩
    have hv := hv I5 eI5
    intro h5 eh5
    have eh5 : h5 = zH I5 J2 := by rw [eh5, eI5]; rfl
    subst eh5
    exact u_M_wakes_100 N x1 I5 J2 Q _ hQ   hv
  · have hv := hv.2 q3
    refine ⟨rfl, ?_⟩
    obtain ⟨g6, hv⟩ := hv
    refine ⟨qok_mk rfl g6, ?_⟩
    obtain ⟨g7, hv⟩ := hv
    refine ⟨qok_mk rfl g7, ?_⟩
    refine u_M_within N ((I2 394 (((18 : Int32) + x1)).toNatClampNeg) + (I2 395 (x1).toNatClampNeg)) (0 : Int32) (999 : Int32) I2 J2 _ _ (fun r8 I9 J9 hv => ?_) hv
    obtain ⟨g10, hv⟩ := hv
    refine ⟨qok_mk rfl g10, ?_⟩
    obtain ⟨I11, eI11⟩ : ∃ z, z = qu I9 394 (((18 : Int32) + x1)).toNatClampNeg r8 := ⟨_, rfl⟩
    have hv := hv I11 eI11
    intro h11 eh11
    have eh11 : h11 = zH I11 J9 := by rw [eh11, eI11]; rfl
    subst eh11
    refine ⟨rfl, ?_⟩
    obtain ⟨g12, hv⟩ := hv
    refine ⟨qok_mk rfl g12, ?_⟩
    obtain ⟨g13, hv⟩ := hv
    refine ⟨qok_mk rfl g13, ?_⟩
    obtain ⟨g14, hv⟩ := hv
    refine ⟨qok_mk rfl g14, ?_⟩
    refine u_M_within N ((I11 394 (((24 : Int32) + (I11 394 (((6 : Int32) + x1)).toNatClampNeg))).toNatClampNeg) + (I11 396 (x1).toNatClampNeg)) (0 : Int32) (99 : Int32) I11 J9 _ _ (fun r15 I16 J16 hv => ?_) hv
    obtain ⟨g17, hv⟩ := hv
    refine ⟨qok_mk rfl g17, ?_⟩
    obtain ⟨I18, eI18⟩ : ∃ z, z = qu I16 394 (((24 : Int32) + (I11 394 (((6 : Int32) + x1)).toNatClampNeg))).toNatClampNeg r15 := ⟨_, rfl⟩
    have hv := hv I18 eI18
    intro h18 eh18
    have eh18 : h18 = zH I18 J16 := by rw [eh18, eI18]; rfl
    subst eh18
    exact u_M_wakes_100 N x1 I18 J16 Q _ hQ   hv
theorem u_M_nightGoes_109 (N : Nat) (x1 : Int32) (x2 : Int32) (z0 : Int32) (z1 : Int32) (I : zI) (J : zJ) (Q : zI → zJ → Prop) (Q' : qH → Prop) (hQ : ∀ (I : zI) (J : zJ), Q I J → Q' (zH I J)) (K2 : Int32 → zI → zJ → Prop) (K2' : Nat → Int32 → qH → Prop) (hK2 : ∀ (x1 : Int32) (I : zI) (J : zJ), K2 x1 I J → K2' 361 x1 (zH I J)) (hv : v_M_nightGoes_109 N x1 x2 z0 z1 I J Q K2) : w_M_nightGoes_109 N 361 x1 x2 z0 z1 397 (zH I J) Q' K2' := by
  unfold w_M_nightGoes_109
  unfold v_M_nightGoes_109 at hv
  obtain ⟨g1, hv⟩ := hv
  refine ⟨qok_mk rfl g1, ?_⟩
  obtain ⟨I2, eI2⟩ : ∃ z, z = qu I 397 (z1).toNatClampNeg (vp_nar .boolean z0) := ⟨_, rfl⟩
  have hv := hv I2 eI2
  intro h2 eh2
  have eh2 : h2 = zH I2 J := by rw [eh2, eI2]; rfl
  subst eh2
  refine ⟨rfl, ?_⟩
  refine ⟨fun q3 => ?_, fun q3 => ?_⟩
  · have hv := hv.1 q3
    obtain ⟨g4, hv⟩ := hv
    refine ⟨qok_mk rfl g4, ?_⟩
    obtain ⟨g5, hv⟩ := hv
    refine ⟨qok_mk rfl g5, ?_⟩
    obtain ⟨I6, eI6⟩ : ∃ z, z = qu I2 398 (x1).toNatClampNeg (I2 394 (((12 : Int32) + x1)).toNatClampNeg) := ⟨_, rfl⟩
    have hv := hv I6 eI6
    intro h6 eh6
    have eh6 : h6 = zH I6 J := by rw [eh6, eI6]; rfl
    subst eh6
    exact hK2 (x1 + (1 : Int32)) I6 J hv
  · have hv := hv.2 q3
    refine u_M_nextOn N x1 I2 J _ _ (fun r7 I8 J8 hv => ?_) hv
    obtain ⟨g9, hv⟩ := hv
    refine ⟨qok_mk rfl g9, ?_⟩
    obtain ⟨g10, hv⟩ := hv
    refine ⟨qok_mk rfl g10, ?_⟩
    obtain ⟨I11, eI11⟩ : ∃ z, z = qu I8 398 (x1).toNatClampNeg (I8 394 (((12 : Int32) + r7)).toNatClampNeg) := ⟨_, rfl⟩
    have hv := hv I11 eI11
    intro h11 eh11
    have eh11 : h11 = zH I11 J8 := by rw [eh11, eI11]; rfl
    subst eh11
    exact hK2 (x1 + (1 : Int32)) I11 J8 hv
theorem u_M_nightGoes_108 (N : Nat) (x1 : Int32) (x2 : Int32) (z0 : Int32) (I : zI) (J : zJ) (Q : zI → zJ → Prop) (Q' : qH → Prop) (hQ : ∀ (I : zI) (J : zJ), Q I J → Q' (zH I J)) (K2 : Int32 → zI → zJ → Prop) (K2' : Nat → Int32 → qH → Prop) (hK2 : ∀ (x1 : Int32) (I : zI) (J : zJ), K2 x1 I J → K2' 361 x1 (zH I J)) (hv : v_M_nightGoes_108 N x1 x2 z0 I J Q K2) : w_M_nightGoes_108 N 361 x1 x2 z0 397 (zH I J) Q' K2' := by
  unfold w_M_nightGoes_108
  unfold v_M_nightGoes_108 at hv
  exact u_M_nightGoes_109 N x1 x2 (0 : Int32) z0 I J Q _ hQ _ _ (fun x1 I J hv => hK2 x1 I J hv)  hv
theorem u_M_nightGoes_60 (N : Nat) (x1 : Int32) (x2 : Int32) (z0 : Int32) (z1 : Int32) (I : zI) (J : zJ) (Q : zI → zJ → Prop) (Q' : qH → Prop) (hQ : ∀ (I : zI) (J : zJ), Q I J → Q' (zH I J)) (K2 : Int32 → zI → zJ → Prop) (K2' : Nat → Int32 → qH → Prop) (hK2 : ∀ (x1 : Int32) (I : zI) (J : zJ), K2 x1 I J → K2' 361 x1 (zH I J)) (hv : v_M_nightGoes_60 N x1 x2 z0 z1 I J Q K2) : w_M_nightGoes_60 N 361 x1 x2 z0 z1 396 (zH I J) Q' K2' := by
  unfold w_M_nightGoes_60
  unfold v_M_nightGoes_60 at hv
  obtain ⟨g1, hv⟩ := hv
  refine ⟨qok_mk rfl g1, ?_⟩
  obtain ⟨I2, eI2⟩ : ∃ z, z = qu I 396 (z1).toNatClampNeg z0 := ⟨_, rfl⟩
  have hv := hv I2 eI2
  intro h2 eh2
  have eh2 : h2 = zH I2 J := by rw [eh2, eI2]; rfl
  subst eh2
  refine ⟨rfl, ?_⟩
  refine ⟨fun q3 => ?_, fun q3 => ?_⟩
  · have hv := hv.1 q3
    exact u_M_nightGoes_108 N x1 x2 x1 I2 J Q _ hQ _ _ (fun x1 I J hv => hK2 x1 I J hv)  hv
  · have hv := hv.2 q3
    refine ⟨fun q4 => ?_, fun q4 => ?_⟩
    · have hv := hv.1 q4
      exact u_M_nightGoes_108 N x1 x2 x1 I2 J Q _ hQ _ _ (fun x1 I J hv => hK2 x1 I J hv)  hv
    · have hv := hv.2 q4
      obtain ⟨g5, hv⟩ := hv
      refine ⟨qok_mk rfl g5, ?_⟩
      refine u_M_lotOf N (((16 : Int32) * (I2 394 ((31 : Int32)).toNatClampNeg)) + x1) (100 : Int32) I2 J _ _ (fun r6 I7 J7 hv => ?_) hv
      refine ⟨rfl, ?_⟩
      refine u_M_toldOf N x1 (2 : Int32) I7 J7 _ _ (fun r8 I9 J9 hv => ?_) hv
      refine ⟨fun q10 => ?_, fun q10 => ?_⟩
      · have hv := hv.1 q10
        exact u_M_nightGoes_108 N x1 x2 x1 I9 J9 Q _ hQ _ _ (fun x1 I J hv => hK2 x1 I J hv)  hv
      · have hv := hv.2 q10
        exact u_M_nightGoes_109 N x1 x2 (1 : Int32) x1 I9 J9 Q _ hQ _ _ (fun x1 I J hv => hK2 x1 I J hv)  hv
theorem u_M_nightGoes_40 (N : Nat) (x1 : Int32) (x2 : Int32) (z0 : Int32) (z1 : Int32) (I : zI) (J : zJ) (Q : zI → zJ → Prop) (Q' : qH → Prop) (hQ : ∀ (I : zI) (J : zJ), Q I J → Q' (zH I J)) (K2 : Int32 → zI → zJ → Prop) (K2' : Nat → Int32 → qH → Prop) (hK2 : ∀ (x1 : Int32) (I : zI) (J : zJ), K2 x1 I J → K2' 361 x1 (zH I J)) (hv : v_M_nightGoes_40 N x1 x2 z0 z1 I J Q K2) : w_M_nightGoes_40 N 361 x1 x2 z0 z1 395 (zH I J) Q' K2' := by
  unfold w_M_nightGoes_40
  unfold v_M_nightGoes_40 at hv
  obtain ⟨g1, hv⟩ := hv
  refine ⟨qok_mk rfl g1, ?_⟩
  obtain ⟨I2, eI2⟩ : ∃ z, z = qu I 395 (z1).toNatClampNeg z0 := ⟨_, rfl⟩
  have hv := hv I2 eI2
  intro h2 eh2
  have eh2 : h2 = zH I2 J := by rw [eh2, eI2]; rfl
  subst eh2
  refine ⟨rfl, ?_⟩
  refine ⟨fun q3 => ?_, fun q3 => ?_⟩
  · have hv := hv.1 q3
    exact u_M_nightGoes_60 N x1 x2 (0 : Int32) x1 I2 J Q _ hQ _ _ (fun x1 I J hv => hK2 x1 I J hv)  hv
  · have hv := hv.2 q3
    refine u_M_toldOf N x1 (1 : Int32) I2 J _ _ (fun r4 I5 J5 hv => ?_) hv
    exact u_M_nightGoes_60 N x1 x2 r4 x1 I5 J5 Q _ hQ _ _ (fun x1 I J hv => hK2 x1 I J hv)  hv
theorem u_M_nightGoes_2 (N k : Nat) (x1 : Int32) (I : zI) (J : zJ) (Q : zI → zJ → Prop) (Q' : qH → Prop) (hQ : ∀ (I : zI) (J : zJ), Q I J → Q' (zH I J)) (K143 : zI → zJ → Prop) (K143' : Nat → qH → Prop) (hK143 : ∀  (I : zI) (J : zJ), K143  I J → K143' 361 (zH I J)) (hv : v_M_nightGoes_2 N k x1 I J Q K143) : w_M_nightGoes_2 N k 361 x1 (zH I J) Q' K143' := by
  induction k generalizing x1 I J with
  | zero => exact hv.elim
  | succ k ih =>
    rw [w_M_nightGoes_2]
    rw [v_M_nightGoes_2] at hv
    refine ⟨rfl, ?_⟩
    obtain ⟨g1, hv⟩ := hv
    refine ⟨qok_mk rfl g1, ?_⟩
    refine ⟨fun q2 => ?_, fun q2 => ?_⟩
    · have hv := hv.1 q2
      exact hK143 I J hv
    · have hv := hv.2 q2
      refine u_M_isUp N x1 I J _ _ (fun r3 I4 J4 hv => ?_) hv
      refine ⟨rfl, ?_⟩
      refine ⟨fun q5 => ?_, fun q5 => ?_⟩
      · have hv := hv.1 q5
        exact u_M_nightGoes_40 N x1 r3 (0 : Int32) x1 I4 J4 Q _ hQ _ _ (fun x1 I J hv => ih x1 I J hv)  hv
      · have hv := hv.2 q5
        refine u_M_toldOf N x1 (0 : Int32) I4 J4 _ _ (fun r6 I7 J7 hv => ?_) hv
        exact u_M_nightGoes_40 N x1 r3 r6 x1 I7 J7 Q _ hQ _ _ (fun x1 I J hv => ih x1 I J hv)  hv
theorem u_M_nightGoes_145 (N k : Nat) (x1 : Int32) (I : zI) (J : zJ) (Q : zI → zJ → Prop) (Q' : qH → Prop) (hQ : ∀ (I : zI) (J : zJ), Q I J → Q' (zH I J)) (K169 : zI → zJ → Prop) (K169' : Nat → qH → Prop) (hK169 : ∀  (I : zI) (J : zJ), K169  I J → K169' 361 (zH I J)) (hv : v_M_nightGoes_145 N k x1 I J Q K169) : w_M_nightGoes_145 N k 361 x1 (zH I J) Q' K169' := by
  induction k generalizing x1 I J with
  | zero => exact hv.elim
  | succ k ih =>
    rw [w_M_nightGoes_145]
    rw [v_M_nightGoes_145] at hv
    refine ⟨rfl, ?_⟩
    obtain ⟨g1, hv⟩ := hv
    refine ⟨qok_mk rfl g1, ?_⟩
    refine ⟨fun q2 => ?_, fun q2 => ?_⟩
    · have hv := hv.1 q2
      exact hK169 I J hv
    · have hv := hv.2 q2
      refine u_M_wakes N x1 I J _ _ (fun I3 J3 hv => ?_) hv
      exact ih (x1 + (1 : Int32)) I3 J3 hv
theorem u_M_nightGoes (N : Nat)  (I : zI) (J : zJ) (Q : zI → zJ → Prop) (Q' : qH → Prop) (hQ : ∀ (I : zI) (J : zJ), Q I J → Q' (zH I J)) (hv : v_M_nightGoes N  I J Q) : w_M_nightGoes N 361 (zH I J) Q' := by
  unfold w_M_nightGoes
  unfold v_M_nightGoes at hv
  refine u_M_nightGoes_2 N N (0 : Int32) I J Q _ hQ _ _ (fun I1 J1 hv => ?_)  hv
  refine u_M_nightGoes_145 N N (0 : Int32) I1 J1 Q _ hQ _ _ (fun I2 J2 hv => ?_)  hv
  refine ⟨rfl, ?_⟩
  refine ⟨fun q3 => ?_, fun q3 => ?_⟩
  · have hv := hv.1 q3
    obtain ⟨g4, hv⟩ := hv
    refine ⟨qok_mk rfl g4, ?_⟩
    obtain ⟨I5, eI5⟩ : ∃ z, z = qu I2 394 ((31 : Int32)).toNatClampNeg ((I2 394 ((31 : Int32)).toNatClampNeg) + (1 : Int32)) := ⟨_, rfl⟩
    have hv := hv I5 eI5
    intro h5 eh5
    have eh5 : h5 = zH I5 J2 := by rw [eh5, eI5]; rfl
    subst eh5
    exact hQ _ _ hv
  · have hv := hv.2 q3
    obtain ⟨g6, hv⟩ := hv
    refine ⟨qok_mk rfl g6, ?_⟩
    refine ⟨fun q7 => ?_, fun q7 => ?_⟩
    · have hv := hv.1 q7
      obtain ⟨g8, hv⟩ := hv
      refine ⟨qok_mk rfl g8, ?_⟩
      obtain ⟨I9, eI9⟩ : ∃ z, z = qu I2 394 ((31 : Int32)).toNatClampNeg ((I2 394 ((31 : Int32)).toNatClampNeg) + (1 : Int32)) := ⟨_, rfl⟩
      have hv := hv I9 eI9
      intro h9 eh9
      have eh9 : h9 = zH I9 J2 := by rw [eh9, eI9]; rfl
      subst eh9
      exact hQ _ _ hv
    · have hv := hv.2 q7
      refine u_M_isMoth N  I2 J2 _ _ (fun r10 I11 J11 hv => ?_) hv
      refine ⟨fun q12 => ?_, fun q12 => ?_⟩
      · have hv := hv.1 q12
        refine ⟨rfl, ?_⟩
        obtain ⟨g13, hv⟩ := hv
        refine ⟨qok_mk rfl g13, ?_⟩
        obtain ⟨I14, eI14⟩ : ∃ z, z = qu I11 394 ((31 : Int32)).toNatClampNeg ((I11 394 ((31 : Int32)).toNatClampNeg) + (1 : Int32)) := ⟨_, rfl⟩
        have hv := hv I14 eI14
        intro h14 eh14
        have eh14 : h14 = zH I14 J11 := by rw [eh14, eI14]; rfl
        subst eh14
        exact hQ _ _ hv
      · have hv := hv.2 q12
        refine ⟨rfl, ?_⟩
        obtain ⟨g15, hv⟩ := hv
        refine ⟨qok_mk rfl g15, ?_⟩
        obtain ⟨g16, hv⟩ := hv
        refine ⟨qok_mk rfl g16, ?_⟩
        refine u_M_lotOf N (((16 : Int32) * (I11 394 ((31 : Int32)).toNatClampNeg)) + (9 : Int32)) (I11 374 ((I11 361 18)).toNatClampNeg) I11 J11 _ _ (fun r17 I18 J18 hv => ?_) hv
        refine ⟨rfl, ?_⟩
        obtain ⟨g19, hv⟩ := hv
        refine ⟨qok_mk rfl g19, ?_⟩
        refine ⟨fun q20 => ?_, fun q20 => ?_⟩
        · have hv := hv.1 q20
          obtain ⟨g21, hv⟩ := hv
          refine ⟨qok_mk rfl g21, ?_⟩
          obtain ⟨I22, eI22⟩ : ∃ z, z = qu I18 394 ((31 : Int32)).toNatClampNeg ((I18 394 ((31 : Int32)).toNatClampNeg) + (1 : Int32)) := ⟨_, rfl⟩
          have hv := hv I22 eI22
          intro h22 eh22
          have eh22 : h22 = zH I22 J18 := by rw [eh22, eI22]; rfl
          subst eh22
          exact hQ _ _ hv
        · have hv := hv.2 q20
          obtain ⟨I23, eI23⟩ : ∃ z, z = qu I18 394 (r17).toNatClampNeg ((I18 394 (r17).toNatClampNeg) - (1 : Int32)) := ⟨_, rfl⟩
          have hv := hv I23 eI23
          intro h23 eh23
          have eh23 : h23 = zH I23 J18 := by rw [eh23, eI23]; rfl
          subst eh23
          refine ⟨rfl, ?_⟩
          obtain ⟨g24, hv⟩ := hv
          refine ⟨qok_mk rfl g24, ?_⟩
          obtain ⟨I25, eI25⟩ : ∃ z, z = qu I23 394 ((31 : Int32)).toNatClampNeg ((I23 394 ((31 : Int32)).toNatClampNeg) + (1 : Int32)) := ⟨_, rfl⟩
          have hv := hv I25 eI25
          intro h25 eh25
          have eh25 : h25 = zH I25 J18 := by rw [eh25, eI25]; rfl
          subst eh25
          exact hQ _ _ hv
theorem u_M_goes_2 (N k : Nat) (x1 : Int32) (x2 : Int32) (I : zI) (J : zJ) (Q : zI → zJ → Prop) (Q' : qH → Prop) (hQ : ∀ (I : zI) (J : zJ), Q I J → Q' (zH I J)) (hv : v_M_goes_2 N k x1 x2 I J Q ) : w_M_goes_2 N k 361 x1 x2 (zH I J) Q'  := by
  induction k generalizing x1 x2 I J with
  | zero => exact hv.elim
  | succ k ih =>
    rw [w_M_goes_2]
    rw [v_M_goes_2] at hv
    refine ⟨fun q1 => ?_, fun q1 => ?_⟩
    · have hv := hv.1 q1
      exact hQ _ _ hv
    · have hv := hv.2 q1
      refine ⟨rfl, ?_⟩
      refine u_M_nightGoes N  I J _ _ (fun I2 J2 hv => ?_) hv
      exact ih x1 (x2 + (1 : Int32)) I2 J2 hv
theorem u_M_goes (N : Nat) (x1 : Int32) (I : zI) (J : zJ) (Q : zI → zJ → Prop) (Q' : qH → Prop) (hQ : ∀ (I : zI) (J : zJ), Q I J → Q' (zH I J)) (hv : v_M_goes N x1 I J Q) : w_M_goes N 361 x1 (zH I J) Q' := by
  unfold w_M_goes
  unfold v_M_goes at hv
  exact u_M_goes_2 N N x1 (0 : Int32) I J Q _ hQ   hv
theorem u_M_hanger (N : Nat) (x1 : Int32) (x2 : Int32) (I : zI) (J : zJ) (Q : Int32 → zI → zJ → Prop) (Q' : Int32 → qH → Prop) (hQ : ∀ (r : Int32) (I : zI) (J : zJ), Q r I J → Q' r (zH I J)) (hv : v_M_hanger N x1 x2 I J Q) : w_M_hanger N 361 x1 x2 (zH I J) Q' := by
  unfold w_M_hanger
  unfold v_M_hanger at hv
  refine ⟨rfl, ?_⟩
  refine u_M_isHanger N x1 I J _ _ (fun r1 I2 J2 hv => ?_) hv
  refine ⟨fun q3 => ?_, fun q3 => ?_⟩
  · have hv := hv.1 q3
    refine ⟨rfl, ?_⟩
    refine u_M_copies N  I2 J2 _ _ (fun I4 J4 hv => ?_) hv
    refine ⟨fun q5 => ?_, fun q5 => ?_⟩
    · have hv := hv.1 q5
      refine ⟨rfl, ?_⟩
      refine u_M_nailAt N x1 I4 J4 _ _ (fun r6 I7 J7 hv => ?_) hv
      exact hQ _ _ _ hv
    · have hv := hv.2 q5
      refine ⟨fun q8 => ?_, fun q8 => ?_⟩
      · have hv := hv.1 q8
        refine ⟨rfl, ?_⟩
        obtain ⟨g9, hv⟩ := hv
        refine ⟨qok_mk rfl g9, ?_⟩
        exact hQ _ _ _ hv
      · have hv := hv.2 q8
        refine ⟨fun q10 => ?_, fun q10 => ?_⟩
        · have hv := hv.1 q10
          refine ⟨rfl, ?_⟩
          obtain ⟨g11, hv⟩ := hv
          refine ⟨qok_mk rfl g11, ?_⟩
          exact hQ _ _ _ hv
        · have hv := hv.2 q10
          refine ⟨fun q12 => ?_, fun q12 => ?_⟩
          · have hv := hv.1 q12
            refine ⟨rfl, ?_⟩
            refine u_M_whoIsOn N x1 I4 J4 _ _ (fun r13 I14 J14 hv => ?_) hv
            exact hQ _ _ _ hv
          · have hv := hv.2 q12
            exact hQ _ _ _ hv
  · have hv := hv.2 q3
    exact hQ _ _ _ hv
theorem u_M_person (N : Nat) (x1 : Int32) (x2 : Int32) (I : zI) (J : zJ) (Q : Int32 → zI → zJ → Prop) (Q' : Int32 → qH → Prop) (hQ : ∀ (r : Int32) (I : zI) (J : zJ), Q r I J → Q' r (zH I J)) (hv : v_M_person N x1 x2 I J Q) : w_M_person N 361 x1 x2 (zH I J) Q' := by
  unfold w_M_person
  unfold v_M_person at hv
  refine ⟨rfl, ?_⟩
  refine u_M_isPerson N x1 I J _ _ (fun r1 I2 J2 hv => ?_) hv
  refine ⟨fun q3 => ?_, fun q3 => ?_⟩
  · have hv := hv.1 q3
    refine ⟨rfl, ?_⟩
    refine u_M_copies N  I2 J2 _ _ (fun I4 J4 hv => ?_) hv
    refine ⟨fun q5 => ?_, fun q5 => ?_⟩
    · have hv := hv.1 q5
      refine ⟨rfl, ?_⟩
      obtain ⟨g6, hv⟩ := hv
      refine ⟨qok_mk rfl g6, ?_⟩
      exact hQ _ _ _ hv
    · have hv := hv.2 q5
      refine ⟨fun q7 => ?_, fun q7 => ?_⟩
      · have hv := hv.1 q7
        refine ⟨rfl, ?_⟩
        obtain ⟨g8, hv⟩ := hv
        refine ⟨qok_mk rfl g8, ?_⟩
        exact hQ _ _ _ hv
      · have hv := hv.2 q7
        refine ⟨fun q9 => ?_, fun q9 => ?_⟩
        · have hv := hv.1 q9
          refine ⟨rfl, ?_⟩
          obtain ⟨g10, hv⟩ := hv
          refine ⟨qok_mk rfl g10, ?_⟩
          exact hQ _ _ _ hv
        · have hv := hv.2 q9
          refine ⟨fun q11 => ?_, fun q11 => ?_⟩
          · have hv := hv.1 q11
            refine ⟨rfl, ?_⟩
            obtain ⟨g12, hv⟩ := hv
            refine ⟨qok_mk rfl g12, ?_⟩
            exact hQ _ _ _ hv
          · have hv := hv.2 q11
            refine ⟨fun q13 => ?_, fun q13 => ?_⟩
            · have hv := hv.1 q13
              refine ⟨rfl, ?_⟩
              obtain ⟨g14, hv⟩ := hv
              refine ⟨qok_mk rfl g14, ?_⟩
              exact hQ _ _ _ hv
            · have hv := hv.2 q13
              refine ⟨fun q15 => ?_, fun q15 => ?_⟩
              · have hv := hv.1 q15
                refine ⟨rfl, ?_⟩
                refine u_M_besideOf N x1 I4 J4 _ _ (fun r16 I17 J17 hv => ?_) hv
                exact hQ _ _ _ hv
              · have hv := hv.2 q15
                exact hQ _ _ _ hv
  · have hv := hv.2 q3
    exact hQ _ _ _ hv
theorem u_M_tells (N : Nat) (x1 : Int32) (x2 : Int32) (I : zI) (J : zJ) (Q : Int32 → zI → zJ → Prop) (Q' : Int32 → qH → Prop) (hQ : ∀ (r : Int32) (I : zI) (J : zJ), Q r I J → Q' r (zH I J)) (hv : v_M_tells N x1 x2 I J Q) : w_M_tells N 361 x1 x2 (zH I J) Q' := by
  unfold w_M_tells
  unfold v_M_tells at hv
  refine ⟨rfl, ?_⟩
  refine u_M_isPerson N x1 I J _ _ (fun r1 I2 J2 hv => ?_) hv
  refine ⟨fun q3 => ?_, fun q3 => ?_⟩
  · have hv := hv.1 q3
    exact hQ _ _ _ hv
  · have hv := hv.2 q3
    refine u_M_in N x2 (0 : Int32) (3 : Int32) I2 J2 _ _ (fun r4 I5 J5 hv => ?_) hv
    refine ⟨fun q6 => ?_, fun q6 => ?_⟩
    · have hv := hv.1 q6
      refine ⟨rfl, ?_⟩
      refine u_M_copies N  I5 J5 _ _ (fun I7 J7 hv => ?_) hv
      refine ⟨rfl, ?_⟩
      refine u_M_isUp N x1 I7 J7 _ _ (fun r8 I9 J9 hv => ?_) hv
      refine ⟨fun q10 => ?_, fun q10 => ?_⟩
      · have hv := hv.1 q10
        exact hQ _ _ _ hv
      · have hv := hv.2 q10
        refine ⟨rfl, ?_⟩
        refine u_M_toldOf N x1 x2 I9 J9 _ _ (fun r11 I12 J12 hv => ?_) hv
        exact hQ _ _ _ hv
    · have hv := hv.2 q6
      exact hQ _ _ _ hv
theorem u_M_records_51 (N k : Nat) (x1 : Int32) (I : zI) (J : zJ) (Q : zI → zJ → Prop) (Q' : qH → Prop) (hQ : ∀ (I : zI) (J : zJ), Q I J → Q' (zH I J)) (K83 : zI → zJ → Prop) (K83' : Nat → qH → Prop) (hK83 : ∀  (I : zI) (J : zJ), K83  I J → K83' 361 (zH I J)) (hv : v_M_records_51 N k x1 I J Q K83) : w_M_records_51 N k 361 x1 (zH I J) Q' K83' := by
  induction k generalizing x1 I J with
  | zero => exact hv.elim
  | succ k ih =>
    rw [w_M_records_51]
    rw [v_M_records_51] at hv
    refine ⟨fun q1 => ?_, fun q1 => ?_⟩
    · have hv := hv.1 q1
      exact hK83 I J hv
    · have hv := hv.2 q1
      refine ⟨rfl, ?_⟩
      obtain ⟨g2, hv⟩ := hv
      refine ⟨qok_mk rfl g2, ?_⟩
      obtain ⟨g3, hv⟩ := hv
      refine ⟨qok_mk rfl g3, ?_⟩
      obtain ⟨I4, eI4⟩ : ∃ z, z = qu I 399 ((((32 : Int32) * (I 361 57)) + x1)).toNatClampNeg (I 393 (x1).toNatClampNeg) := ⟨_, rfl⟩
      have hv := hv I4 eI4
      intro h4 eh4
      have eh4 : h4 = zH I4 J := by rw [eh4, eI4]; rfl
      subst eh4
      exact ih (x1 + (1 : Int32)) I4 J hv
theorem u_M_records_49 (N : Nat)  (I : zI) (J : zJ) (Q : zI → zJ → Prop) (Q' : qH → Prop) (hQ : ∀ (I : zI) (J : zJ), Q I J → Q' (zH I J)) (hv : v_M_records_49 N  I J Q ) : w_M_records_49 N 361 (zH I J) Q'  := by
  unfold w_M_records_49
  unfold v_M_records_49 at hv
  refine u_M_records_51 N N (0 : Int32) I J Q _ hQ _ _ (fun I1 J1 hv => ?_)  hv
  refine ⟨rfl, ?_⟩
  obtain ⟨I2, eI2⟩ : ∃ z, z = qu I1 361 57 ((I1 361 57) + (1 : Int32)) := ⟨_, rfl⟩
  have hv := hv I2 eI2
  intro h2 eh2
  have eh2 : h2 = zH I2 J1 := by rw [eh2, eI2]; rfl
  subst eh2
  refine ⟨rfl, ?_⟩
  refine u_M_keepsRow N  I2 J1 _ _ (fun I3 J3 hv => ?_) hv
  exact hQ _ _ hv
theorem u_M_records_11 (N k : Nat) (x1 : Int32) (I : zI) (J : zJ) (Q : zI → zJ → Prop) (Q' : qH → Prop) (hQ : ∀ (I : zI) (J : zJ), Q I J → Q' (zH I J)) (K39 : zI → zJ → Prop) (K39' : Nat → qH → Prop) (hK39 : ∀  (I : zI) (J : zJ), K39  I J → K39' 361 (zH I J)) (hv : v_M_records_11 N k x1 I J Q K39) : w_M_records_11 N k 361 x1 (zH I J) Q' K39' := by
  induction k generalizing x1 I J with
  | zero => exact hv.elim
  | succ k ih =>
    rw [w_M_records_11]
    rw [v_M_records_11] at hv
    refine ⟨fun q1 => ?_, fun q1 => ?_⟩
    · have hv := hv.1 q1
      exact hK39 I J hv
    · have hv := hv.2 q1
      refine ⟨rfl, ?_⟩
      obtain ⟨g2, hv⟩ := hv
      refine ⟨qok_mk rfl g2, ?_⟩
      obtain ⟨g3, hv⟩ := hv
      refine ⟨qok_mk rfl g3, ?_⟩
      obtain ⟨I4, eI4⟩ : ∃ z, z = qu I 399 (x1).toNatClampNeg (I 399 ((x1 + (32 : Int32))).toNatClampNeg) := ⟨_, rfl⟩
      have hv := hv I4 eI4
      intro h4 eh4
      have eh4 : h4 = zH I4 J := by rw [eh4, eI4]; rfl
      subst eh4
      exact ih (x1 + (1 : Int32)) I4 J hv
theorem u_M_records (N : Nat)  (I : zI) (J : zJ) (Q : zI → zJ → Prop) (Q' : qH → Prop) (hQ : ∀ (I : zI) (J : zJ), Q I J → Q' (zH I J)) (hv : v_M_records N  I J Q) : w_M_records N 361 (zH I J) Q' := by
  unfold w_M_records
  unfold v_M_records at hv
  refine ⟨rfl, ?_⟩
  refine ⟨fun q1 => ?_, fun q1 => ?_⟩
  · have hv := hv.1 q1
    exact u_M_records_49 N  I J Q _ hQ   hv
  · have hv := hv.2 q1
    refine u_M_records_11 N N (0 : Int32) I J Q _ hQ _ _ (fun I2 J2 hv => ?_)  hv
    refine ⟨rfl, ?_⟩
    obtain ⟨I3, eI3⟩ : ∃ z, z = qu I2 361 57 ((I2 361 57) - (1 : Int32)) := ⟨_, rfl⟩
    have hv := hv I3 eI3
    intro h3 eh3
    have eh3 : h3 = zH I3 J2 := by rw [eh3, eI3]; rfl
    subst eh3
    exact u_M_records_49 N  I3 J2 Q _ hQ   hv
theorem u_M_does (N : Nat) (x1 : Int32) (x2 : Int32) (I : zI) (J : zJ) (Q : zI → zJ → Prop) (Q' : qH → Prop) (hQ : ∀ (I : zI) (J : zJ), Q I J → Q' (zH I J)) (hv : v_M_does N x1 x2 I J Q) : w_M_does N 361 x1 x2 (zH I J) Q' := by
  unfold w_M_does
  unfold v_M_does at hv
  refine ⟨rfl, ?_⟩
  refine u_M_copies N  I J _ _ (fun I1 J1 hv => ?_) hv
  refine ⟨rfl, ?_⟩
  obtain ⟨g2, hv⟩ := hv
  refine ⟨qok_mk rfl g2, ?_⟩
  obtain ⟨I3, eI3⟩ : ∃ z, z = qu I1 394 (x1).toNatClampNeg x2 := ⟨_, rfl⟩
  have hv := hv I3 eI3
  intro h3 eh3
  have eh3 : h3 = zH I3 J1 := by rw [eh3, eI3]; rfl
  subst eh3
  refine ⟨rfl, ?_⟩
  refine u_M_records N  I3 J1 _ _ (fun I4 J4 hv => ?_) hv
  exact hQ _ _ hv
theorem u_M_hang (N : Nat) (x1 : Int32) (x2 : Int32) (I : zI) (J : zJ) (Q : Int32 → zI → zJ → Prop) (Q' : Int32 → qH → Prop) (hQ : ∀ (r : Int32) (I : zI) (J : zJ), Q r I J → Q' r (zH I J)) (hv : v_M_hang N x1 x2 I J Q) : w_M_hang N 361 x1 x2 (zH I J) Q' := by
  unfold w_M_hang
  unfold v_M_hang at hv
  refine ⟨rfl, ?_⟩
  refine u_M_isPerson N x1 I J _ _ (fun r1 I2 J2 hv => ?_) hv
  refine ⟨fun q3 => ?_, fun q3 => ?_⟩
  · have hv := hv.1 q3
    exact ⟨Or.inl rfl, hQ _ _ _ hv⟩
  · have hv := hv.2 q3
    refine ⟨rfl, ?_⟩
    refine u_M_isHanger N x2 I2 J2 _ _ (fun r4 I5 J5 hv => ?_) hv
    refine ⟨fun q6 => ?_, fun q6 => ?_⟩
    · have hv := hv.1 q6
      exact ⟨Or.inl rfl, hQ _ _ _ hv⟩
    · have hv := hv.2 q6
      refine ⟨rfl, ?_⟩
      obtain ⟨g7, hv⟩ := hv
      refine ⟨qok_mk rfl g7, ?_⟩
      refine ⟨fun q8 => ?_, fun q8 => ?_⟩
      · have hv := hv.1 q8
        refine u_M_copies N  I5 J5 _ _ (fun I9 J9 hv => ?_) hv
        refine ⟨rfl, ?_⟩
        refine u_M_whoIsOn N x2 I9 J9 _ _ (fun r10 I11 J11 hv => ?_) hv
        refine ⟨fun q12 => ?_, fun q12 => ?_⟩
        · have hv := hv.1 q12
          refine ⟨rfl, ?_⟩
          refine u_M_does N ((6 : Int32) + x1) x2 I11 J11 _ _ (fun I13 J13 hv => ?_) hv
          exact ⟨Or.inr rfl, hQ _ _ _ hv⟩
        · have hv := hv.2 q12
          exact ⟨Or.inl rfl, hQ _ _ _ hv⟩
      · have hv := hv.2 q8
        exact ⟨Or.inl rfl, hQ _ _ _ hv⟩
theorem u_M_take (N : Nat) (x1 : Int32) (I : zI) (J : zJ) (Q : Int32 → zI → zJ → Prop) (Q' : Int32 → qH → Prop) (hQ : ∀ (r : Int32) (I : zI) (J : zJ), Q r I J → Q' r (zH I J)) (hv : v_M_take N x1 I J Q) : w_M_take N 361 x1 (zH I J) Q' := by
  unfold w_M_take
  unfold v_M_take at hv
  refine ⟨rfl, ?_⟩
  refine u_M_isPerson N x1 I J _ _ (fun r1 I2 J2 hv => ?_) hv
  refine ⟨fun q3 => ?_, fun q3 => ?_⟩
  · have hv := hv.1 q3
    exact ⟨Or.inl rfl, hQ _ _ _ hv⟩
  · have hv := hv.2 q3
    refine ⟨rfl, ?_⟩
    obtain ⟨g4, hv⟩ := hv
    refine ⟨qok_mk rfl g4, ?_⟩
    refine ⟨fun q5 => ?_, fun q5 => ?_⟩
    · have hv := hv.1 q5
      refine u_M_does N ((6 : Int32) + x1) (-2 : Int32) I2 J2 _ _ (fun I6 J6 hv => ?_) hv
      exact ⟨Or.inr rfl, hQ _ _ _ hv⟩
    · have hv := hv.2 q5
      exact ⟨Or.inl rfl, hQ _ _ _ hv⟩
theorem u_M_areUp (N : Nat) (x1 : Int32) (x2 : Int32) (I : zI) (J : zJ) (Q : Int32 → zI → zJ → Prop) (Q' : Int32 → qH → Prop) (hQ : ∀ (r : Int32) (I : zI) (J : zJ), Q r I J → Q' r (zH I J)) (hv : v_M_areUp N x1 x2 I J Q) : w_M_areUp N 361 x1 x2 (zH I J) Q' := by
  unfold w_M_areUp
  unfold v_M_areUp at hv
  refine ⟨rfl, ?_⟩
  refine u_M_isPerson N x1 I J _ _ (fun r1 I2 J2 hv => ?_) hv
  refine ⟨fun q3 => ?_, fun q3 => ?_⟩
  · have hv := hv.1 q3
    exact ⟨Or.inl rfl, hQ _ _ _ hv⟩
  · have hv := hv.2 q3
    refine ⟨rfl, ?_⟩
    refine u_M_isPerson N x2 I2 J2 _ _ (fun r4 I5 J5 hv => ?_) hv
    refine ⟨fun q6 => ?_, fun q6 => ?_⟩
    · have hv := hv.1 q6
      exact ⟨Or.inl rfl, hQ _ _ _ hv⟩
    · have hv := hv.2 q6
      refine ⟨fun q7 => ?_, fun q7 => ?_⟩
      · have hv := hv.1 q7
        exact ⟨Or.inl rfl, hQ _ _ _ hv⟩
      · have hv := hv.2 q7
        refine ⟨rfl, ?_⟩
        obtain ⟨g8, hv⟩ := hv
        refine ⟨qok_mk rfl g8, ?_⟩
        refine ⟨fun q9 => ?_, fun q9 => ?_⟩
        · have hv := hv.1 q9
          exact ⟨Or.inl rfl, hQ _ _ _ hv⟩
        · have hv := hv.2 q9
          obtain ⟨g10, hv⟩ := hv
          refine ⟨qok_mk rfl g10, ?_⟩
          refine ⟨fun q11 => ?_, fun q11 => ?_⟩
          · have hv := hv.1 q11
            exact ⟨Or.inl rfl, hQ _ _ _ hv⟩
          · have hv := hv.2 q11
            exact ⟨Or.inr rfl, hQ _ _ _ hv⟩
theorem u_M_changesFor (N : Nat) (x1 : Int32) (x2 : Int32) (I : zI) (J : zJ) (Q : zI → zJ → Prop) (Q' : qH → Prop) (hQ : ∀ (I : zI) (J : zJ), Q I J → Q' (zH I J)) (hv : v_M_changesFor N x1 x2 I J Q) : w_M_changesFor N 361 x1 x2 (zH I J) Q' := by
  unfold w_M_changesFor
  unfold v_M_changesFor at hv
  refine ⟨rfl, ?_⟩
  refine u_M_copiesStill N  I J _ _ (fun I1 J1 hv => ?_) hv
  refine ⟨rfl, ?_⟩
  obtain ⟨g2, hv⟩ := hv
  refine ⟨qok_mk rfl g2, ?_⟩
  obtain ⟨g3, hv⟩ := hv
  refine ⟨qok_mk rfl g3, ?_⟩
  obtain ⟨I4, eI4⟩ : ∃ z, z = qu I1 394 (((6 : Int32) + x1)).toNatClampNeg (I1 393 (((6 : Int32) + x2)).toNatClampNeg) := ⟨_, rfl⟩
  have hv := hv I4 eI4
  intro h4 eh4
  have eh4 : h4 = zH I4 J1 := by rw [eh4, eI4]; rfl
  subst eh4
  refine ⟨rfl, ?_⟩
  obtain ⟨g5, hv⟩ := hv
  refine ⟨qok_mk rfl g5, ?_⟩
  obtain ⟨g6, hv⟩ := hv
  refine ⟨qok_mk rfl g6, ?_⟩
  obtain ⟨I7, eI7⟩ : ∃ z, z = qu I4 394 (((6 : Int32) + x2)).toNatClampNeg (I4 393 (((6 : Int32) + x1)).toNatClampNeg) := ⟨_, rfl⟩
  have hv := hv I7 eI7
  intro h7 eh7
  have eh7 : h7 = zH I7 J1 := by rw [eh7, eI7]; rfl
  subst eh7
  exact hQ _ _ hv
theorem u_M_change (N : Nat) (x1 : Int32) (x2 : Int32) (I : zI) (J : zJ) (Q : Int32 → zI → zJ → Prop) (Q' : Int32 → qH → Prop) (hQ : ∀ (r : Int32) (I : zI) (J : zJ), Q r I J → Q' r (zH I J)) (hv : v_M_change N x1 x2 I J Q) : w_M_change N 361 x1 x2 (zH I J) Q' := by
  unfold w_M_change
  unfold v_M_change at hv
  refine ⟨rfl, ?_⟩
  refine u_M_areUp N x1 x2 I J _ _ (fun r1 I2 J2 hv => ?_) hv
  refine ⟨fun q3 => ?_, fun q3 => ?_⟩
  · have hv := hv.1 q3
    refine ⟨rfl, ?_⟩
    refine u_M_changesFor N x1 x2 I2 J2 _ _ (fun I4 J4 hv => ?_) hv
    refine ⟨rfl, ?_⟩
    refine u_M_records N  I4 J4 _ _ (fun I5 J5 hv => ?_) hv
    exact ⟨Or.inr rfl, hQ _ _ _ hv⟩
  · have hv := hv.2 q3
    exact ⟨Or.inl rfl, hQ _ _ _ hv⟩
