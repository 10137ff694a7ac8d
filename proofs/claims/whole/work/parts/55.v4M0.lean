/-! over the layout: written by wip/whole/emitv.py -/
def v_M_begins_2 (N : Nat) : Nat → Int32 → zI → zJ → (zI → zJ → Prop) → (zI → zJ → Prop) → Prop
  | 0 => fun _ _ _ _ _ => False
  | k + 1 => fun x1 I J Q K21 => (((32 : Int32) ≤ x1 → (K21 I J)) ∧ (¬ (32 : Int32) ≤ x1 → (vp_in x1 32 ∧ ∀ I3 : zI, I3 = qu I 394 (x1).toNatClampNeg (0 : Int32) → (v_M_begins_2 N k (x1 + (1 : Int32)) I3 J Q K21))))
def v_M_begins_23 (N : Nat) : Nat → Int32 → zI → zJ → (zI → zJ → Prop) → (zI → zJ → Prop) → Prop
  | 0 => fun _ _ _ _ _ => False
  | k + 1 => fun x1 I J Q K56 => (((6 : Int32) ≤ x1 → (K56 I J)) ∧ (¬ (6 : Int32) ≤ x1 → (vp_in ((6 : Int32) + x1) 32 ∧ ∀ I3 : zI, I3 = qu I 394 (((6 : Int32) + x1)).toNatClampNeg (-2 : Int32) → (vp_in ((12 : Int32) + x1) 32 ∧ ∀ I5 : zI, I5 = qu I3 394 (((12 : Int32) + x1)).toNatClampNeg x1 → (v_M_begins_23 N k (x1 + (1 : Int32)) I5 J Q K56)))))
def v_M_begins_58 (N : Nat) : Nat → Int32 → zI → zJ → (zI → zJ → Prop) → (zI → zJ → Prop) → Prop
  | 0 => fun _ _ _ _ _ => False
  | k + 1 => fun x1 I J Q K120 => (vp_in (I 361 18) 2 ∧ (((I 374 ((I 361 18)).toNatClampNeg) ≤ x1 → (K120 I J)) ∧ (¬ (I 374 ((I 361 18)).toNatClampNeg) ≤ x1 → (vp_in (((6 : Int32) * (I 361 18)) + x1) 12 ∧ (vp_in x1 32 ∧ ∀ I5 : zI, I5 = qu I 394 (x1).toNatClampNeg (I 375 ((((6 : Int32) * (I 361 18)) + x1)).toNatClampNeg) → (vp_in (((6 : Int32) * (I5 361 18)) + x1) 12 ∧ (vp_in ((6 : Int32) + x1) 32 ∧ ∀ I8 : zI, I8 = qu I5 394 (((6 : Int32) + x1)).toNatClampNeg (I5 377 ((((6 : Int32) * (I5 361 18)) + x1)).toNatClampNeg) → (v_M_begins_58 N k (x1 + (1 : Int32)) I8 J Q K120))))))))
def v_M_begins (N : Nat)  (I : zI) (J : zJ) (Q : zI → zJ → Prop) : Prop := (v_M_begins_2 N N (0 : Int32) I J Q (fun I1 J1 => (v_M_begins_23 N N (0 : Int32) I1 J1 Q (fun I2 J2 => (v_M_begins_58 N N (0 : Int32) I2 J2 Q (fun I3 J3 => (vp_in (I3 361 18) 2 ∧ (∀ I5 : zI, I5 = qu I3 361 51 (I3 380 ((I3 361 18)).toNatClampNeg) → (∀ I6 : zI, I6 = qu I5 361 52 (0 : Int32) → Q I6 J3)))))))))
def v_M_keepsRow_2 (N : Nat) : Nat → Int32 → zI → zJ → (zI → zJ → Prop) → Prop
  | 0 => fun _ _ _ _ => False
  | k + 1 => fun x1 I J Q  => (((32 : Int32) ≤ x1 → Q I J) ∧ (¬ (32 : Int32) ≤ x1 → (vp_in x1 32 ∧ (vp_in x1 32 ∧ ∀ I4 : zI, I4 = qu I 393 (x1).toNatClampNeg (I 394 (x1).toNatClampNeg) → (v_M_keepsRow_2 N k (x1 + (1 : Int32)) I4 J Q)))))
def v_M_keepsRow (N : Nat)  (I : zI) (J : zJ) (Q : zI → zJ → Prop) : Prop := (v_M_keepsRow_2 N N (0 : Int32) I J Q )
def v_M_plain_37 (N : Nat) : Nat → Int32 → Int32 → zI → zJ → (zI → zJ → Prop) → (Int32 → zI → zJ → Prop) → Prop
  | 0 => fun _ _ _ _ _ _ => False
  | k + 1 => fun x1 x2 I J Q K62 => (((6 : Int32) ≤ x2 → (K62 x1 I J)) ∧ (¬ (6 : Int32) ≤ x2 → (vp_in (((6 : Int32) * x1) + x2) 12 ∧ ∀ I3 : zI, I3 = qu I 377 ((((6 : Int32) * x1) + x2)).toNatClampNeg (-2 : Int32) → (v_M_plain_37 N k x1 (x2 + (1 : Int32)) I3 J Q K62))))
def v_M_plain_64 (N : Nat) : Nat → Int32 → Int32 → zI → zJ → (zI → zJ → Prop) → Prop
  | 0 => fun _ _ _ _ _ => False
  | k + 1 => fun x1 x2 I J Q  => (((4 : Int32) ≤ x2 → Q I J) ∧ (¬ (4 : Int32) ≤ x2 → (vp_in (((4 : Int32) * x1) + x2) 8 ∧ ∀ I3 : zI, I3 = qu I 381 ((((4 : Int32) * x1) + x2)).toNatClampNeg (0 : Int32) → (vp_in (((4 : Int32) * x1) + x2) 8 ∧ ∀ I5 : zI, I5 = qu I3 382 ((((4 : Int32) * x1) + x2)).toNatClampNeg (0 : Int32) → (v_M_plain_64 N k x1 (x2 + (1 : Int32)) I5 J Q)))))
def v_M_plain (N : Nat) (x1 : Int32) (I : zI) (J : zJ) (Q : zI → zJ → Prop) : Prop := (vp_in x1 2 ∧ ∀ I2 : zI, I2 = qu I 371 (x1).toNatClampNeg (0 : Int32) → (vp_in x1 2 ∧ ∀ I4 : zI, I4 = qu I2 374 (x1).toNatClampNeg (0 : Int32) → (vp_in x1 2 ∧ ∀ I6 : zI, I6 = qu I4 378 (x1).toNatClampNeg (0 : Int32) → (vp_in x1 2 ∧ ∀ I8 : zI, I8 = qu I6 379 (x1).toNatClampNeg (0 : Int32) → (vp_in x1 2 ∧ ∀ I10 : zI, I10 = qu I8 380 (x1).toNatClampNeg (0 : Int32) → (v_M_plain_37 N N x1 (0 : Int32) I10 J Q (fun w11 I12 J12 => (v_M_plain_64 N N w11 (0 : Int32) I12 J12 Q ))))))))
def v_M_appends (N : Nat) (x0 : Int64) (x2 : Int32) (I : zI) (J : zJ) (Q : Int64 → zI → zJ → Prop) : Prop := ((¬ x2 = 0 → Q (((27 : Int64) * x0) + ((((x2 - (97 : Int32)) + (1 : Int32))).toInt64)) I J) ∧ (x2 = 0 → Q x0 I J))
def v_M_word (N : Nat) (x0 : Int32) (x1 : Int32) (x2 : Int32) (x3 : Int32) (x4 : Int32) (x5 : Int32) (x6 : Int32) (I : zI) (J : zJ) (Q : Int64 → zI → zJ → Prop) : Prop := (v_M_appends N (0 : Int64) x0 I J (fun r1 I2 J2 => (v_M_appends N r1 x1 I2 J2 (fun r3 I4 J4 => (v_M_appends N r3 x2 I4 J4 (fun r5 I6 J6 => (v_M_appends N r5 x3 I6 J6 (fun r7 I8 J8 => (v_M_appends N r7 x4 I8 J8 (fun r9 I10 J10 => (v_M_appends N r9 x5 I10 J10 (fun r11 I12 J12 => (v_M_appends N r11 x6 I12 J12 (fun r13 I14 J14 => Q r13 I14 J14))))))))))))))
def v_M_put_3 (N : Nat) : Nat → Int32 → Int32 → zI → zJ → (zI → zJ → Prop) → Prop
  | 0 => fun _ _ _ _ _ => False
  | k + 1 => fun x1 x2 I J Q  => ((x2 < 0 → Q I J) ∧ (¬ x2 < 0 → (vp_in (I 361 2) 2000 ∧ ∀ I3 : zI, I3 = qu I 362 ((I 361 2)).toNatClampNeg (vp_nar .byte (((x1 >>> (x2 &&& 31))).toInt8.toInt32)) → (∀ I4 : zI, I4 = qu I3 361 2 ((I3 361 2) + (1 : Int32)) → (v_M_put_3 N k x1 (x2 + (-8 : Int32)) I4 J Q)))))
def v_M_put (N : Nat) (x1 : Int32) (I : zI) (J : zJ) (Q : zI → zJ → Prop) : Prop := (v_M_put_3 N N x1 (24 : Int32) I J Q )
def v_M_feed (N : Nat) (x1 : Int32) (x2 : Int32) (x3 : Int32) (x4 : Int32) (x5 : Int32) (I : zI) (J : zJ) (Q : Int32 → zI → zJ → Prop) : Prop := ((((I 361 2) + (20 : Int32)) ≤ (2000 : Int32) → (v_M_put N x1 I J (fun I2 J2 => (v_M_put N x2 I2 J2 (fun I3 J3 => (v_M_put N x3 I3 J3 (fun I4 J4 => (v_M_put N x4 I4 J4 (fun I5 J5 => (v_M_put N x5 I5 J5 (fun I6 J6 => Q (I6 361 2) I6 J6))))))))))) ∧ (¬ ((I 361 2) + (20 : Int32)) ≤ (2000 : Int32) → Q (-1 : Int32) I J))
def v_M_back (N : Nat) (x1 : Int32) (I : zI) (J : zJ) (Q : Int32 → zI → zJ → Prop) : Prop := ((x1 < 0 → Q (-1 : Int32) I J) ∧ (¬ x1 < 0 → ((x1 ≤ (I 361 2) → (∀ I3 : zI, I3 = qu I 361 2 ((I 361 2) - x1) → Q (I3 361 2) I3 J)) ∧ (¬ x1 ≤ (I 361 2) → Q (-1 : Int32) I J))))
def v_M_byteAt (N : Nat) (x1 : Int32) (I : zI) (J : zJ) (Q : Int32 → zI → zJ → Prop) : Prop := (((I 361 4) ≤ x1 → Q (0 : Int32) I J) ∧ (¬ (I 361 4) ≤ x1 → (vp_in x1 2000 ∧ Q ((I 363 (x1).toNatClampNeg) &&& (255 : Int32)) I J)))
def v_M_isDigit (N : Nat) (x0 : Int32) (I : zI) (J : zJ) (Q : Int32 → zI → zJ → Prop) : Prop := ((x0 < (48 : Int32) → Q (0 : Int32) I J) ∧ (¬ x0 < (48 : Int32) → (((57 : Int32) < x0 → Q (0 : Int32) I J) ∧ (¬ (57 : Int32) < x0 → Q (1 : Int32) I J))))
def v_M_isLetter (N : Nat) (x0 : Int32) (I : zI) (J : zJ) (Q : Int32 → zI → zJ → Prop) : Prop := ((x0 < (97 : Int32) → Q (0 : Int32) I J) ∧ (¬ x0 < (97 : Int32) → (((122 : Int32) < x0 → Q (0 : Int32) I J) ∧ (¬ (122 : Int32) < x0 → Q (1 : Int32) I J))))
def v_M_token (N : Nat) (x1 : Int32) (x2 : Int32) (x3 : Int32) (x4 : Int64) (I : zI) (J : zJ) (Q : zI → zJ → Prop) : Prop := (vp_in (I 361 10) 403 ∧ ∀ I2 : zI, I2 = qu I 364 ((I 361 10)).toNatClampNeg x1 → (vp_in (I2 361 10) 403 ∧ ∀ I4 : zI, I4 = qu I2 365 ((I2 361 10)).toNatClampNeg x2 → (vp_in (I4 361 10) 403 ∧ ∀ I6 : zI, I6 = qu I4 366 ((I4 361 10)).toNatClampNeg x3 → (vp_in (I6 361 10) 403 ∧ ∀ J8 : zJ, J8 = qu J 367 ((I6 361 10)).toNatClampNeg x4 → (∀ I9 : zI, I9 = qu I6 361 10 ((I6 361 10) + (1 : Int32)) → Q I9 J8)))))
def v_M_sign_85 (N : Nat) (x1 : Int32) (x2 : Int32) (x4 : Int32) (I : zI) (J : zJ) (Q : Int32 → zI → zJ → Prop)  : Prop := ((¬ x2 = (60 : Int32) → (v_M_token N x4 x1 (0 : Int32) (0 : Int64) I J (fun I2 J2 => Q (1 : Int32) I2 J2))) ∧ (x2 = (60 : Int32) → (v_M_token N (13 : Int32) x1 (0 : Int32) (0 : Int64) I J (fun I3 J3 => Q (1 : Int32) I3 J3))))
def v_M_sign_75 (N : Nat) (x1 : Int32) (x2 : Int32) (x4 : Int32) (I : zI) (J : zJ) (Q : Int32 → zI → zJ → Prop)  : Prop := ((¬ x2 = (47 : Int32) → (v_M_sign_85 N x1 x2 x4 I J Q )) ∧ (x2 = (47 : Int32) → (v_M_sign_85 N x1 x2 (15 : Int32) I J Q )))
def v_M_sign_65 (N : Nat) (x1 : Int32) (x2 : Int32) (x4 : Int32) (I : zI) (J : zJ) (Q : Int32 → zI → zJ → Prop)  : Prop := ((¬ x2 = (42 : Int32) → (v_M_sign_75 N x1 x2 x4 I J Q )) ∧ (x2 = (42 : Int32) → (v_M_sign_75 N x1 x2 (10 : Int32) I J Q )))
def v_M_sign_55 (N : Nat) (x1 : Int32) (x2 : Int32) (x4 : Int32) (I : zI) (J : zJ) (Q : Int32 → zI → zJ → Prop)  : Prop := ((¬ x2 = (45 : Int32) → (v_M_sign_65 N x1 x2 x4 I J Q )) ∧ (x2 = (45 : Int32) → (v_M_sign_65 N x1 x2 (9 : Int32) I J Q )))
def v_M_sign_43 (N : Nat) (x1 : Int32) (x2 : Int32) (z0 : Int32) (I : zI) (J : zJ) (Q : Int32 → zI → zJ → Prop)  : Prop := ((¬ x2 = (43 : Int32) → (v_M_sign_55 N x1 x2 z0 I J Q )) ∧ (x2 = (43 : Int32) → (v_M_sign_55 N x1 x2 (8 : Int32) I J Q )))
def v_M_sign (N : Nat) (x1 : Int32) (x2 : Int32) (x3 : Int32) (I : zI) (J : zJ) (Q : Int32 → zI → zJ → Prop) : Prop := ((¬ x2 = (59 : Int32) → ((¬ x2 = (61 : Int32) → ((¬ x2 = (40 : Int32) → ((¬ x2 = (41 : Int32) → (v_M_sign_43 N x1 x2 (3 : Int32) I J Q )) ∧ (x2 = (41 : Int32) → (v_M_sign_43 N x1 x2 (7 : Int32) I J Q )))) ∧ (x2 = (40 : Int32) → (v_M_sign_43 N x1 x2 (6 : Int32) I J Q )))) ∧ (x2 = (61 : Int32) → (v_M_sign_43 N x1 x2 (5 : Int32) I J Q )))) ∧ (x2 = (59 : Int32) → (v_M_sign_43 N x1 x2 (4 : Int32) I J Q )))
def v_M_cut_208 (N : Nat) : Nat → Int32 → Int32 → Int32 → zI → zJ → (zI → zJ → Prop) → (Int32 → Int32 → Int32 → zI → zJ → Prop) → Prop
  | 0 => fun _ _ _ _ _ _ _ => False
  | k + 1 => fun x1 x3 x4 I J Q K250 => (v_M_byteAt N (x1 + x3) I J (fun r1 I2 J2 => (v_M_isDigit N r1 I2 J2 (fun r3 I4 J4 => ((r3 = 0 → (K250 x1 x3 x4 I4 J4)) ∧ (¬ r3 = 0 → (((4 : Int32) ≤ x3 → (v_M_cut_208 N k x1 (x3 + (1 : Int32)) x4 I4 J4 Q K250)) ∧ (¬ (4 : Int32) ≤ x3 → (v_M_byteAt N (x1 + x3) I4 J4 (fun r7 I8 J8 => (∀ y9 : Int32, y9 = ((((10 : Int32) * x4) + r7) - (48 : Int32)) → (v_M_cut_208 N k x1 (x3 + (1 : Int32)) y9 I8 J8 Q K250))))))))))))
def v_M_cut_85 (N : Nat) : Nat → Int32 → Int32 → Int64 → zI → zJ → (zI → zJ → Prop) → (Int32 → Int32 → Int64 → zI → zJ → Prop) → Prop
  | 0 => fun _ _ _ _ _ _ _ => False
  | k + 1 => fun x1 x3 x4 I J Q K124 => (v_M_byteAt N (x1 + x3) I J (fun r1 I2 J2 => (v_M_isLetter N r1 I2 J2 (fun r3 I4 J4 => ((r3 = 0 → (K124 x1 x3 x4 I4 J4)) ∧ (¬ r3 = 0 → (((8 : Int32) ≤ x3 → (v_M_cut_85 N k x1 (x3 + (1 : Int32)) x4 I4 J4 Q K124)) ∧ (¬ (8 : Int32) ≤ x3 → (v_M_byteAt N (x1 + x3) I4 J4 (fun r7 I8 J8 => (v_M_appends N x4 r7 I8 J8 (fun r9 I10 J10 => (v_M_cut_85 N k x1 (x3 + (1 : Int32)) r9 I10 J10 Q K124)))))))))))))
def v_M_cut_179 (N : Nat) (x1 : Int32) (x3 : Int32) (x4 : Int64) (x6 : Int32) (I : zI) (J : zJ) (Q : zI → zJ → Prop) (K7 : Int32 → zI → zJ → Prop) : Prop := (v_M_token N x6 x1 (0 : Int32) x4 I J (fun I1 J1 => (∀ y2 : Int32, y2 = (x1 + x3) → (K7 y2 I1 J1))))
def v_M_cut_146 (N : Nat) : Nat → Int32 → Int32 → Int64 → Int32 → Int32 → zI → zJ → (zI → zJ → Prop) → (Int32 → Int32 → Int64 → Int32 → zI → zJ → Prop) → Prop
  | 0 => fun _ _ _ _ _ _ _ _ _ => False
  | k + 1 => fun x1 x3 x4 x6 x7 I J Q K179 => (((21 : Int32) ≤ x7 → (K179 x1 x3 x4 x6 I J)) ∧ (¬ (21 : Int32) ≤ x7 → (vp_in x7 21 ∧ ((¬ (lg_cmp (J 368 (x7).toNatClampNeg) x4) = 0 → (v_M_cut_146 N k x1 x3 x4 x6 (x7 + (1 : Int32)) I J Q K179)) ∧ ((lg_cmp (J 368 (x7).toNatClampNeg) x4) = 0 → (∀ y4 : Int32, y4 = ((20 : Int32) + x7) → (v_M_cut_146 N k x1 x3 x4 y4 (x7 + (1 : Int32)) I J Q K179)))))))
def v_M_cut_135 (N : Nat) (x1 : Int32) (x3 : Int32) (x4 : Int64) (z0 : Int32) (I : zI) (J : zJ) (Q : zI → zJ → Prop) (K7 : Int32 → zI → zJ → Prop) : Prop := (((8 : Int32) < x3 → (v_M_cut_179 N x1 x3 x4 z0 I J Q K7)) ∧ (¬ (8 : Int32) < x3 → (v_M_cut_146 N N x1 x3 x4 z0 (0 : Int32) I J Q (fun w2 w3 w4 w5 I6 J6 => (v_M_cut_179 N w2 w3 w4 w5 I6 J6 Q K7)))))
def v_M_cut_7 (N : Nat) : Nat → Int32 → zI → zJ → (zI → zJ → Prop) → Prop
  | 0 => fun _ _ _ _ => False
  | k + 1 => fun x1 I J Q  => (((400 : Int32) < (I 361 10) → Q I J) ∧ (¬ (400 : Int32) < (I 361 10) → (v_M_byteAt N x1 I J (fun r2 I3 J3 => ((x1 < (I3 361 4) → ((r2 = (9 : Int32) → (v_M_cut_7 N k (x1 + (1 : Int32)) I3 J3 Q)) ∧ (¬ r2 = (9 : Int32) → ((r2 = (10 : Int32) → (v_M_cut_7 N k (x1 + (1 : Int32)) I3 J3 Q)) ∧ (¬ r2 = (10 : Int32) → ((r2 = (13 : Int32) → (v_M_cut_7 N k (x1 + (1 : Int32)) I3 J3 Q)) ∧ (¬ r2 = (13 : Int32) → ((¬ r2 = (32 : Int32) → (v_M_isLetter N r2 I3 J3 (fun r9 I10 J10 => ((r9 = 0 → (v_M_isDigit N r2 I10 J10 (fun r12 I13 J13 => ((r12 = 0 → (v_M_byteAt N (x1 + (1 : Int32)) I13 J13 (fun r15 I16 J16 => (v_M_sign N x1 r2 r15 I16 J16 (fun r17 I18 J18 => (∀ y19 : Int32, y19 = (x1 + r17) → (v_M_cut_7 N k y19 I18 J18 Q))))))) ∧ (¬ r12 = 0 → (v_M_cut_208 N N x1 (0 : Int32) (0 : Int32) I13 J13 Q (fun w20 w21 w22 I23 J23 => ((w21 ≤ (4 : Int32) → (v_M_token N (2 : Int32) w20 w22 (0 : Int64) I23 J23 (fun I25 J25 => (∀ y26 : Int32, y26 = (w20 + w21) → (v_M_cut_7 N k y26 I25 J25 Q))))) ∧ (¬ w21 ≤ (4 : Int32) → (v_M_token N (3 : Int32) w20 w22 (0 : Int64) I23 J23 (fun I27 J27 => (∀ y28 : Int32, y28 = (w20 + w21) → (v_M_cut_7 N k y28 I27 J27 Q))))))))))))) ∧ (¬ r9 = 0 → (v_M_cut_85 N N x1 (0 : Int32) (0 : Int64) I10 J10 Q (fun w29 w30 w31 I32 J32 => ((w30 ≤ (8 : Int32) → (v_M_cut_135 N w29 w30 w31 (1 : Int32) I32 J32 Q (fun x1 I J => v_M_cut_7 N k x1 I J Q))) ∧ (¬ w30 ≤ (8 : Int32) → (v_M_cut_135 N w29 w30 w31 (3 : Int32) I32 J32 Q (fun x1 I J => v_M_cut_7 N k x1 I J Q))))))))))) ∧ (r2 = (32 : Int32) → (v_M_cut_7 N k (x1 + (1 : Int32)) I3 J3 Q)))))))))) ∧ (¬ x1 < (I3 361 4) → (v_M_token N (0 : Int32) (I3 361 4) (0 : Int32) (0 : Int64) I3 J3 (fun I34 J34 => Q I34 J34))))))))
def v_M_cut (N : Nat)  (I : zI) (J : zJ) (Q : zI → zJ → Prop) : Prop := (∀ I1 : zI, I1 = qu I 361 10 (0 : Int32) → (v_M_cut_7 N N (0 : Int32) I1 J Q ))
def v_M_is (N : Nat) (x1 : Int32) (I : zI) (J : zJ) (Q : Int32 → zI → zJ → Prop) : Prop := ((¬ (I 361 13) = 0 → Q (0 : Int32) I J) ∧ ((I 361 13) = 0 → (vp_in (I 361 11) 403 ∧ ((¬ (I 364 ((I 361 11)).toNatClampNeg) = x1 → Q (0 : Int32) I J) ∧ ((I 364 ((I 361 11)).toNatClampNeg) = x1 → Q (1 : Int32) I J)))))
def v_M_fail (N : Nat) (x1 : Int32) (I : zI) (J : zJ) (Q : zI → zJ → Prop) : Prop := (((I 361 13) ≤ 0 → (∀ I2 : zI, I2 = qu I 361 13 x1 → (vp_in (I2 361 11) 403 ∧ (∀ I4 : zI, I4 = qu I2 361 14 (I2 365 ((I2 361 11)).toNatClampNeg) → Q I4 J)))) ∧ (¬ (I 361 13) ≤ 0 → Q I J))
def v_M_wrong (N : Nat) (x1 : Int32) (x2 : Int32) (I : zI) (J : zJ) (Q : zI → zJ → Prop) : Prop := (vp_in x2 403 ∧ (∀ y2 : Int32, y2 = (I 365 (x2).toNatClampNeg) → ((0 < (I 361 13) → Q I J) ∧ (¬ 0 < (I 361 13) → (((I 361 15) = 0 → (∀ I5 : zI, I5 = qu I 361 15 x1 → (∀ I6 : zI, I6 = qu I5 361 16 y2 → Q I6 J))) ∧ (¬ (I 361 15) = 0 → (((I 361 16) < y2 → Q I J) ∧ (¬ (I 361 16) < y2 → ((¬ y2 = (I 361 16) → (∀ I9 : zI, I9 = qu I 361 15 x1 → (∀ I10 : zI, I10 = qu I9 361 16 y2 → Q I10 J))) ∧ (y2 = (I 361 16) → ((x1 < (I 361 15) → (∀ I12 : zI, I12 = qu I 361 15 x1 → (∀ I13 : zI, I13 = qu I12 361 16 y2 → Q I13 J))) ∧ (¬ x1 < (I 361 15) → Q I J))))))))))))
def v_M_goesOn (N : Nat)  (I : zI) (J : zJ) (Q : zI → zJ → Prop) : Prop := ((¬ (I 361 11) = (400 : Int32) → (∀ I2 : zI, I2 = qu I 361 11 ((I 361 11) + (1 : Int32)) → Q I2 J)) ∧ ((I 361 11) = (400 : Int32) → (v_M_fail N (2 : Int32) I J (fun I3 J3 => Q I3 J3))))
def v_M_must (N : Nat) (x1 : Int32) (I : zI) (J : zJ) (Q : zI → zJ → Prop) : Prop := (v_M_is N x1 I J (fun r1 I2 J2 => ((r1 = 0 → (v_M_fail N (1 : Int32) I2 J2 (fun I4 J4 => Q I4 J4))) ∧ (¬ r1 = 0 → (v_M_goesOn N  I2 J2 (fun I5 J5 => Q I5 J5))))))
def v_M_bounded (N : Nat) (x1 : Int32) (x2 : Int32) (I : zI) (J : zJ) (Q : Int32 → zI → zJ → Prop) : Prop := ((0 < (I 361 13) → (v_M_fail N (1 : Int32) I J (fun I2 J2 => Q x1 I2 J2))) ∧ (¬ 0 < (I 361 13) → (v_M_is N (2 : Int32) I J (fun r3 I4 J4 => ((¬ r3 = 0 → (vp_in (I4 361 11) 403 ∧ (∀ y7 : Int32, y7 = (I4 366 ((I4 361 11)).toNatClampNeg) → ((y7 < x1 → (v_M_wrong N (5 : Int32) (I4 361 11) I4 J4 (fun I9 J9 => (v_M_goesOn N  I9 J9 (fun I10 J10 => Q y7 I10 J10))))) ∧ (¬ y7 < x1 → ((y7 ≤ x2 → (v_M_goesOn N  I4 J4 (fun I12 J12 => Q y7 I12 J12))) ∧ (¬ y7 ≤ x2 → (v_M_wrong N (5 : Int32) (I4 361 11) I4 J4 (fun I13 J13 => (v_M_goesOn N  I13 J13 (fun I14 J14 => Q y7 I14 J14))))))))))) ∧ (r3 = 0 → (v_M_fail N (1 : Int32) I4 J4 (fun I15 J15 => Q x1 I15 J15))))))))
def v_M_endsName (N : Nat) (x1 : Int32) (x2 : Int32) (I : zI) (J : zJ) (Q : zI → zJ → Prop) : Prop := (v_M_must N (4 : Int32) I J (fun I1 J1 => (((I1 361 13) ≤ 0 → (vp_in x1 403 ∧ (vp_in (I1 361 20) 13 ∧ ∀ J5 : zJ, J5 = qu J1 369 ((I1 361 20)).toNatClampNeg (J1 367 (x1).toNatClampNeg) → (vp_in (I1 361 20) 13 ∧ ∀ I7 : zI, I7 = qu I1 370 ((I1 361 20)).toNatClampNeg x2 → (∀ I8 : zI, I8 = qu I7 361 20 ((I7 361 20) + (1 : Int32)) → Q I8 J5))))) ∧ (¬ (I1 361 13) ≤ 0 → Q I1 J1))))
def v_M_named_12 (N : Nat) : Nat → Int32 → Int32 → zI → zJ → (Int32 → zI → zJ → Prop) → Prop
  | 0 => fun _ _ _ _ _ => False
  | k + 1 => fun x1 x2 I J Q  => (((I 361 20) ≤ x2 → Q x1 I J) ∧ (¬ (I 361 20) ≤ x2 → ((¬ (I 361 13) = 0 → Q x1 I J) ∧ ((I 361 13) = 0 → (vp_in x2 13 ∧ (vp_in x1 403 ∧ ((¬ (lg_cmp (J 369 (x2).toNatClampNeg) (J 367 (x1).toNatClampNeg)) = 0 → (v_M_named_12 N k x1 (x2 + (1 : Int32)) I J Q)) ∧ ((lg_cmp (J 369 (x2).toNatClampNeg) (J 367 (x1).toNatClampNeg)) = 0 → (v_M_wrong N (3 : Int32) x1 I J (fun I6 J6 => (v_M_named_12 N k x1 (x2 + (1 : Int32)) I6 J6 Q)))))))))))
def v_M_named (N : Nat)  (I : zI) (J : zJ) (Q : Int32 → zI → zJ → Prop) : Prop := (∀ y1 : Int32, y1 = (I 361 11) → (v_M_must N (1 : Int32) I J (fun I2 J2 => (v_M_named_12 N N y1 (0 : Int32) I2 J2 Q ))))
def v_M_roomFor (N : Nat) (x1 : Int32) (x2 : Int32) (I : zI) (J : zJ) (Q : zI → zJ → Prop) : Prop := ((¬ x1 = x2 → ((¬ (I 361 13) = 0 → Q I J) ∧ ((I 361 13) = 0 → (v_M_goesOn N  I J (fun I3 J3 => Q I3 J3))))) ∧ (x1 = x2 → (v_M_fail N (2 : Int32) I J (fun I4 J4 => ((¬ (I4 361 13) = 0 → Q I4 J4) ∧ ((I4 361 13) = 0 → (v_M_goesOn N  I4 J4 (fun I6 J6 => Q I6 J6))))))))
def v_M_known_21 (N : Nat) : Nat → Int32 → Int32 → Int32 → zI → zJ → (Int32 → zI → zJ → Prop) → Prop
  | 0 => fun _ _ _ _ _ _ => False
  | k + 1 => fun x1 x2 x3 I J Q  => (((I 361 20) ≤ x3 → (v_M_wrong N (4 : Int32) x2 I J (fun I2 J2 => Q (-1 : Int32) I2 J2))) ∧ (¬ (I 361 20) ≤ x3 → (vp_in x3 13 ∧ (vp_in x2 403 ∧ ((¬ (lg_cmp (J 369 (x3).toNatClampNeg) (J 367 (x2).toNatClampNeg)) = 0 → (v_M_known_21 N k x1 x2 (x3 + (1 : Int32)) I J Q)) ∧ ((lg_cmp (J 369 (x3).toNatClampNeg) (J 367 (x2).toNatClampNeg)) = 0 → (vp_in x3 13 ∧ (((I 370 (x3).toNatClampNeg) < x1 → (v_M_known_21 N k x1 x2 (x3 + (1 : Int32)) I J Q)) ∧ (¬ (I 370 (x3).toNatClampNeg) < x1 → (((x1 + (10 : Int32)) ≤ (I 370 (x3).toNatClampNeg) → (v_M_known_21 N k x1 x2 (x3 + (1 : Int32)) I J Q)) ∧ (¬ (x1 + (10 : Int32)) ≤ (I 370 (x3).toNatClampNeg) → Q ((I 370 (x3).toNatClampNeg) - x1) I J)))))))))))
def v_M_known (N : Nat) (x1 : Int32) (I : zI) (J : zJ) (Q : Int32 → zI → zJ → Prop) : Prop := (∀ y1 : Int32, y1 = (I 361 11) → (v_M_must N (1 : Int32) I J (fun I2 J2 => (((I2 361 13) ≤ 0 → (v_M_known_21 N N x1 y1 (0 : Int32) I2 J2 Q )) ∧ (¬ (I2 361 13) ≤ 0 → Q (-1 : Int32) I2 J2)))))
def v_M_tellHangs_60 (N : Nat) : Nat → Int32 → Int32 → Int32 → Int32 → zI → zJ → (zI → zJ → Prop) → (Int32 → Int32 → zI → zJ → Prop) → Prop
  | 0 => fun _ _ _ _ _ _ _ _ => False
  | k + 1 => fun x1 x2 x3 x4 I J Q K109 => (((6 : Int32) ≤ x4 → (K109 x2 x3 I J)) ∧ (¬ (6 : Int32) ≤ x4 → ((¬ (I 361 13) = 0 → (K109 x2 x3 I J)) ∧ ((I 361 13) = 0 → ((x3 < 0 → (K109 x2 x3 I J)) ∧ (¬ x3 < 0 → (vp_in (((6 : Int32) * (I 361 19)) + x4) 12 ∧ ((¬ (I 377 ((((6 : Int32) * (I 361 19)) + x4)).toNatClampNeg) = x3 → (v_M_tellHangs_60 N k x1 x2 x3 (x4 + (1 : Int32)) I J Q K109)) ∧ ((I 377 ((((6 : Int32) * (I 361 19)) + x4)).toNatClampNeg) = x3 → (v_M_wrong N (3 : Int32) x1 I J (fun I6 J6 => (v_M_tellHangs_60 N k x1 x2 x3 (x4 + (1 : Int32)) I6 J6 Q K109))))))))))))
def v_M_tellHangs_109 (N : Nat) (x2 : Int32) (x3 : Int32) (I : zI) (J : zJ) (Q : zI → zJ → Prop)  : Prop := (v_M_must N (4 : Int32) I J (fun I1 J1 => (((I1 361 13) ≤ 0 → (vp_in (I1 361 19) 2 ∧ (∀ I4 : zI, I4 = qu I1 378 ((I1 361 19)).toNatClampNeg ((I1 378 ((I1 361 19)).toNatClampNeg) + (1 : Int32)) → ((x2 < 0 → Q I4 J1) ∧ (¬ x2 < 0 → ((x3 < 0 → Q I4 J1) ∧ (¬ x3 < 0 → (vp_in (((6 : Int32) * (I4 361 19)) + x2) 12 ∧ ∀ I8 : zI, I8 = qu I4 377 ((((6 : Int32) * (I4 361 19)) + x2)).toNatClampNeg x3 → Q I8 J1)))))))) ∧ (¬ (I1 361 13) ≤ 0 → Q I1 J1))))
def v_M_tellHangs_46 (N : Nat) (x2 : Int32) (I : zI) (J : zJ) (Q : zI → zJ → Prop)  : Prop := (∀ y1 : Int32, y1 = (I 361 11) → (v_M_known N (0 : Int32) I J (fun r2 I3 J3 => (v_M_tellHangs_60 N N y1 x2 r2 (0 : Int32) I3 J3 Q (fun w4 w5 I6 J6 => (v_M_tellHangs_109 N w4 w5 I6 J6 Q ))))))
def v_M_tellHangs (N : Nat)  (I : zI) (J : zJ) (Q : zI → zJ → Prop) : Prop := (∀ y1 : Int32, y1 = (I 361 11) → (v_M_known N (10 : Int32) I J (fun r2 I3 J3 => ((¬ (I3 361 13) = 0 → (v_M_tellHangs_46 N r2 I3 J3 Q )) ∧ ((I3 361 13) = 0 → ((r2 < 0 → (v_M_tellHangs_46 N r2 I3 J3 Q )) ∧ (¬ r2 < 0 → (vp_in (((6 : Int32) * (I3 361 19)) + r2) 12 ∧ (((I3 377 ((((6 : Int32) * (I3 361 19)) + r2)).toNatClampNeg) < 0 → (v_M_tellHangs_46 N r2 I3 J3 Q )) ∧ (¬ (I3 377 ((((6 : Int32) * (I3 361 19)) + r2)).toNatClampNeg) < 0 → (v_M_wrong N (3 : Int32) y1 I3 J3 (fun I8 J8 => (v_M_tellHangs_46 N r2 I8 J8 Q )))))))))))))
def v_M_emit (N : Nat) (x1 : Int32) (x2 : Int32) (I : zI) (J : zJ) (Q : zI → zJ → Prop) : Prop := (vp_in (I 361 41) 840 ∧ ∀ I2 : zI, I2 = qu I 388 ((I 361 41)).toNatClampNeg x1 → (vp_in (I2 361 41) 840 ∧ ∀ I4 : zI, I4 = qu I2 389 ((I2 361 41)).toNatClampNeg x2 → (∀ I5 : zI, I5 = qu I4 361 41 ((I4 361 41) + (1 : Int32)) → Q I5 J)))
def v_M_comesOut_42 (N : Nat) (x1 : Int32) (x2 : Int32) (I : zI) (J : zJ) (Q : zI → zJ → Prop) (K0 : Int32 → zI → zJ → Prop) : Prop := (∀ I1 : zI, I1 = qu I 361 45 ((I 361 45) - (1 : Int32)) → ((¬ x2 = (8 : Int32) → ((¬ x2 = (9 : Int32) → ((¬ x2 = (10 : Int32) → (v_M_emit N (5 : Int32) (0 : Int32) I1 J (fun I5 J5 => (K0 x1 I5 J5)))) ∧ (x2 = (10 : Int32) → (v_M_emit N (4 : Int32) (0 : Int32) I1 J (fun I6 J6 => (K0 x1 I6 J6)))))) ∧ (x2 = (9 : Int32) → (v_M_emit N (3 : Int32) (0 : Int32) I1 J (fun I7 J7 => (K0 x1 I7 J7)))))) ∧ (x2 = (8 : Int32) → (v_M_emit N (2 : Int32) (0 : Int32) I1 J (fun I8 J8 => (K0 x1 I8 J8))))))
def v_M_comesOut_0 (N : Nat) : Nat → Int32 → zI → zJ → (zI → zJ → Prop) → Prop
  | 0 => fun _ _ _ _ => False
  | k + 1 => fun x1 I J Q  => (((I 361 45) ≤ 0 → Q I J) ∧ (¬ (I 361 45) ≤ 0 → (vp_in ((I 361 45) - (1 : Int32)) 64 ∧ (∀ y3 : Int32, y3 = (I 390 (((I 361 45) - (1 : Int32))).toNatClampNeg) → ((y3 = (6 : Int32) → Q I J) ∧ (¬ y3 = (6 : Int32) → ((x1 = 0 → (v_M_comesOut_42 N x1 y3 I J Q (fun x1 I J => v_M_comesOut_0 N k x1 I J Q))) ∧ (¬ x1 = 0 → ((y3 = (8 : Int32) → Q I J) ∧ (¬ y3 = (8 : Int32) → ((¬ y3 = (9 : Int32) → (v_M_comesOut_42 N x1 y3 I J Q (fun x1 I J => v_M_comesOut_0 N k x1 I J Q))) ∧ (y3 = (9 : Int32) → Q I J))))))))))))
def v_M_comesOut (N : Nat) (x1 : Int32) (I : zI) (J : zJ) (Q : zI → zJ → Prop) : Prop := (v_M_comesOut_0 N N x1 I J Q )
def v_M_unit (N : Nat)  (I : zI) (J : zJ) (Q : zI → zJ → Prop) : Prop := (v_M_is N (2 : Int32) I J (fun r1 I2 J2 => ((r1 = 0 → ((¬ (I2 361 13) = 0 → (v_M_fail N (1 : Int32) I2 J2 (fun I5 J5 => Q I5 J5))) ∧ ((I2 361 13) = 0 → (vp_in (I2 361 11) 403 ∧ (((I2 364 ((I2 361 11)).toNatClampNeg) < (32 : Int32) → (v_M_fail N (1 : Int32) I2 J2 (fun I8 J8 => Q I8 J8))) ∧ (¬ (I2 364 ((I2 361 11)).toNatClampNeg) < (32 : Int32) → (((40 : Int32) < (I2 364 ((I2 361 11)).toNatClampNeg) → (v_M_fail N (1 : Int32) I2 J2 (fun I10 J10 => Q I10 J10))) ∧ (¬ (40 : Int32) < (I2 364 ((I2 361 11)).toNatClampNeg) → (v_M_emit N (1 : Int32) ((I2 364 ((I2 361 11)).toNatClampNeg) - (32 : Int32)) I2 J2 (fun I11 J11 => (v_M_goesOn N  I11 J11 (fun I12 J12 => Q I12 J12)))))))))))) ∧ (¬ r1 = 0 → (vp_in (I2 361 11) 403 ∧ (v_M_emit N (0 : Int32) (I2 366 ((I2 361 11)).toNatClampNeg) I2 J2 (fun I14 J14 => (v_M_goesOn N  I14 J14 (fun I15 J15 => Q I15 J15)))))))))
def v_M_expression_46 (N : Nat) (x1 : Int32) (I : zI) (J : zJ) (Q : zI → zJ → Prop) (K23 : Int32 → zI → zJ → Prop) : Prop := (∀ I1 : zI, I1 = qu I 361 12 ((I 361 12) + (1 : Int32)) → (v_M_goesOn N  I1 J (fun I2 J2 => (vp_in (I2 361 45) 64 ∧ ∀ I4 : zI, I4 = qu I2 390 ((I2 361 45)).toNatClampNeg (6 : Int32) → (∀ I5 : zI, I5 = qu I4 361 45 ((I4 361 45) + (1 : Int32)) → (K23 x1 I5 J2))))))
def v_M_expression_23 (N : Nat) : Nat → Int32 → zI → zJ → (zI → zJ → Prop) → (Int32 → zI → zJ → Prop) → Prop
  | 0 => fun _ _ _ _ _ => False
  | k + 1 => fun x1 I J Q K84 => (v_M_is N (6 : Int32) I J (fun r1 I2 J2 => ((r1 = 0 → (K84 x1 I2 J2)) ∧ (¬ r1 = 0 → ((¬ (I2 361 12) = (6 : Int32) → (v_M_expression_46 N x1 I2 J2 Q (fun x1 I J => v_M_expression_23 N k x1 I J Q K84))) ∧ ((I2 361 12) = (6 : Int32) → (v_M_fail N (2 : Int32) I2 J2 (fun I5 J5 => (v_M_expression_46 N x1 I5 J5 Q (fun x1 I J => v_M_expression_23 N k x1 I J Q K84))))))))))
def v_M_expression_96 (N : Nat) : Nat → Int32 → zI → zJ → (zI → zJ → Prop) → (Int32 → zI → zJ → Prop) → Prop
  | 0 => fun _ _ _ _ _ => False
  | k + 1 => fun x1 I J Q K145 => (v_M_is N (7 : Int32) I J (fun r1 I2 J2 => ((r1 = 0 → (K145 x1 I2 J2)) ∧ (¬ r1 = 0 → (((I2 361 12) ≤ x1 → (K145 x1 I2 J2)) ∧ (¬ (I2 361 12) ≤ x1 → (v_M_comesOut N (0 : Int32) I2 J2 (fun I5 J5 => (∀ I6 : zI, I6 = qu I5 361 45 ((I5 361 45) - (1 : Int32)) → (∀ I7 : zI, I7 = qu I6 361 12 ((I6 361 12) - (1 : Int32)) → (v_M_goesOn N  I7 J5 (fun I8 J8 => (v_M_expression_96 N k x1 I8 J8 Q K145)))))))))))))
def v_M_expression_234 (N : Nat) (x1 : Int32) (x2 : Int32) (z0 : Int32) (I : zI) (J : zJ) (Q : zI → zJ → Prop) (K12 : Int32 → Int32 → zI → zJ → Prop) : Prop := (v_M_comesOut N z0 I J (fun I1 J1 => (vp_in (I1 361 11) 403 ∧ (vp_in (I1 361 45) 64 ∧ ∀ I4 : zI, I4 = qu I1 390 ((I1 361 45)).toNatClampNeg (I1 364 ((I1 361 11)).toNatClampNeg) → (∀ I5 : zI, I5 = qu I4 361 45 ((I4 361 45) + (1 : Int32)) → (v_M_goesOn N  I5 J1 (fun I6 J6 => (K12 x1 x2 I6 J6))))))))
def v_M_expression_229 (N : Nat) (x1 : Int32) (x2 : Int32) (I : zI) (J : zJ) (Q : zI → zJ → Prop) (K12 : Int32 → Int32 → zI → zJ → Prop) : Prop := (v_M_expression_234 N x1 x2 (1 : Int32) I J Q K12)
def v_M_expression_186 (N : Nat) (x1 : Int32) (z0 : Int32) (I : zI) (J : zJ) (Q : zI → zJ → Prop) (K12 : Int32 → Int32 → zI → zJ → Prop) (K191 : Int32 → zI → zJ → Prop) : Prop := ((¬ z0 = 0 → (v_M_is N (10 : Int32) I J (fun r2 I3 J3 => ((¬ r2 = 0 → (v_M_expression_229 N x1 z0 I3 J3 Q K12)) ∧ (r2 = 0 → (v_M_is N (15 : Int32) I3 J3 (fun r5 I6 J6 => ((r5 = 0 → (v_M_expression_234 N x1 z0 (0 : Int32) I6 J6 Q K12)) ∧ (¬ r5 = 0 → (v_M_expression_229 N x1 z0 I6 J6 Q K12)))))))))) ∧ (z0 = 0 → (K191 x1 I J)))
def v_M_expression_181 (N : Nat) (x1 : Int32) (I : zI) (J : zJ) (Q : zI → zJ → Prop) (K12 : Int32 → Int32 → zI → zJ → Prop) (K191 : Int32 → zI → zJ → Prop) : Prop := (v_M_expression_186 N x1 (1 : Int32) I J Q K12 K191)
def v_M_expression_145 (N : Nat) (x1 : Int32) (I : zI) (J : zJ) (Q : zI → zJ → Prop) (K12 : Int32 → Int32 → zI → zJ → Prop) (K191 : Int32 → zI → zJ → Prop) : Prop := (v_M_is N (8 : Int32) I J (fun r1 I2 J2 => ((¬ r1 = 0 → (v_M_expression_181 N x1 I2 J2 Q K12 K191)) ∧ (r1 = 0 → (v_M_is N (9 : Int32) I2 J2 (fun r4 I5 J5 => ((¬ r4 = 0 → (v_M_expression_181 N x1 I5 J5 Q K12 K191)) ∧ (r4 = 0 → (v_M_is N (10 : Int32) I5 J5 (fun r7 I8 J8 => ((¬ r7 = 0 → (v_M_expression_181 N x1 I8 J8 Q K12 K191)) ∧ (r7 = 0 → (v_M_is N (15 : Int32) I8 J8 (fun r10 I11 J11 => ((r10 = 0 → (v_M_expression_186 N x1 (0 : Int32) I11 J11 Q K12 K191)) ∧ (¬ r10 = 0 → (v_M_expression_181 N x1 I11 J11 Q K12 K191)))))))))))))))))
def v_M_expression_12 (N : Nat) : Nat → Int32 → Int32 → zI → zJ → (zI → zJ → Prop) → (Int32 → zI → zJ → Prop) → Prop
  | 0 => fun _ _ _ _ _ _ => False
  | k + 1 => fun x1 x2 I J Q K191 => ((x2 = 0 → Q I J) ∧ (¬ x2 = 0 → ((¬ (I 361 13) = 0 → Q I J) ∧ ((I 361 13) = 0 → (v_M_expression_23 N N x1 I J Q (fun w3 I4 J4 => (v_M_unit N  I4 J4 (fun I5 J5 => (((I5 361 13) ≤ 0 → (v_M_expression_96 N N w3 I5 J5 Q (fun w7 I8 J8 => (v_M_expression_145 N w7 I8 J8 Q (fun x1 x2 I J => v_M_expression_12 N k x1 x2 I J Q K191) K191)))) ∧ (¬ (I5 361 13) ≤ 0 → Q I5 J5))))))))))
def v_M_expression (N : Nat)  (I : zI) (J : zJ) (Q : zI → zJ → Prop) : Prop := (∀ I1 : zI, I1 = qu I 361 45 (0 : Int32) → (∀ y2 : Int32, y2 = (I1 361 12) → (v_M_expression_12 N N y2 (1 : Int32) I1 J Q (fun w3 I4 J4 => (((I4 361 12) ≤ w3 → (v_M_comesOut N (0 : Int32) I4 J4 (fun I6 J6 => Q I6 J6))) ∧ (¬ (I4 361 12) ≤ w3 → (v_M_fail N (1 : Int32) I4 J4 (fun I7 J7 => (v_M_comesOut N (0 : Int32) I7 J7 (fun I8 J8 => Q I8 J8))))))))))
def v_M_term_24 (N : Nat)  (I : zI) (J : zJ) (Q : zI → zJ → Prop)  : Prop := (vp_in (I 361 35) 260 ∧ ∀ I2 : zI, I2 = qu I 387 ((I 361 35)).toNatClampNeg (I 361 41) → (∀ I3 : zI, I3 = qu I2 361 35 ((I2 361 35) + (1 : Int32)) → Q I3 J))
def v_M_term (N : Nat)  (I : zI) (J : zJ) (Q : zI → zJ → Prop) : Prop := (vp_in (I 361 35) 260 ∧ ∀ I2 : zI, I2 = qu I 386 ((I 361 35)).toNatClampNeg (I 361 41) → ((¬ (I2 361 13) = 0 → (v_M_term_24 N  I2 J Q )) ∧ ((I2 361 13) = 0 → (v_M_expression N  I2 J (fun I4 J4 => (v_M_term_24 N  I4 J4 Q ))))))
def v_M_tellLaw_38 (N : Nat) (x1 : Int32) (x2 : Int32) (x3 : Int32) (I : zI) (J : zJ) (Q : zI → zJ → Prop) (K12 : Int32 → Int32 → Int32 → zI → zJ → Prop) : Prop := (((I 361 13) ≤ 0 → (v_M_goesOn N  I J (fun I2 J2 => (vp_in (I2 361 35) 260 ∧ ∀ I4 : zI, I4 = qu I2 383 ((I2 361 35)).toNatClampNeg (vp_nar .boolean (1 : Int32)) → (vp_in (I4 361 35) 260 ∧ ∀ I6 : zI, I6 = qu I4 384 ((I4 361 35)).toNatClampNeg (I4 361 41) → (v_M_expression N  I6 J2 (fun I7 J7 => (v_M_must N (13 : Int32) I7 J7 (fun I8 J8 => (vp_in (I8 361 35) 260 ∧ ∀ I10 : zI, I10 = qu I8 385 ((I8 361 35)).toNatClampNeg (I8 361 41) → ((¬ (I10 361 13) = 0 → (v_M_must N (30 : Int32) I10 J8 (fun I12 J12 => (v_M_term N  I12 J12 (fun I13 J13 => (v_M_must N (31 : Int32) I13 J13 (fun I14 J14 => (K12 x1 x2 (x3 + (1 : Int32)) I14 J14)))))))) ∧ ((I10 361 13) = 0 → (v_M_expression N  I10 J8 (fun I15 J15 => (v_M_must N (30 : Int32) I15 J15 (fun I16 J16 => (v_M_term N  I16 J16 (fun I17 J17 => (v_M_must N (31 : Int32) I17 J17 (fun I18 J18 => (K12 x1 x2 (x3 + (1 : Int32)) I18 J18))))))))))))))))))))) ∧ (¬ (I 361 13) ≤ 0 → Q I J))
def v_M_tellLaw_12 (N : Nat) : Nat → Int32 → Int32 → Int32 → zI → zJ → (zI → zJ → Prop) → (Int32 → Int32 → zI → zJ → Prop) → Prop
  | 0 => fun _ _ _ _ _ _ _ => False
  | k + 1 => fun x1 x2 x3 I J Q K129 => ((¬ (I 361 13) = 0 → (K129 x1 x2 I J)) ∧ ((I 361 13) = 0 → (v_M_is N (29 : Int32) I J (fun r2 I3 J3 => ((r2 = 0 → (K129 x1 x2 I3 J3)) ∧ (¬ r2 = 0 → ((¬ x3 = (4 : Int32) → (v_M_tellLaw_38 N x1 x2 x3 I3 J3 Q (fun x1 x2 x3 I J => v_M_tellLaw_12 N k x1 x2 x3 I J Q K129))) ∧ (x3 = (4 : Int32) → (v_M_fail N (2 : Int32) I3 J3 (fun I6 J6 => (v_M_tellLaw_38 N x1 x2 x3 I6 J6 Q (fun x1 x2 x3 I J => v_M_tellLaw_12 N k x1 x2 x3 I J Q K129))))))))))))
def v_M_tellLaw_129 (N : Nat) (x1 : Int32) (x2 : Int32) (I : zI) (J : zJ) (Q : zI → zJ → Prop)  : Prop := (vp_in (I 361 35) 260 ∧ ∀ I2 : zI, I2 = qu I 383 ((I 361 35)).toNatClampNeg (vp_nar .boolean (0 : Int32)) → (v_M_term N  I2 J (fun I3 J3 => (v_M_must N (4 : Int32) I3 J3 (fun I4 J4 => (((I4 361 13) ≤ 0 → (vp_in (((4 : Int32) * (I4 361 19)) + x1) 8 ∧ ∀ I7 : zI, I7 = qu I4 381 ((((4 : Int32) * (I4 361 19)) + x1)).toNatClampNeg x2 → (vp_in (((4 : Int32) * (I7 361 19)) + x1) 8 ∧ ∀ I9 : zI, I9 = qu I7 382 ((((4 : Int32) * (I7 361 19)) + x1)).toNatClampNeg (I7 361 35) → Q I9 J4))) ∧ (¬ (I4 361 13) ≤ 0 → Q I4 J4)))))))
def v_M_tellLaw (N : Nat) (x1 : Int32) (I : zI) (J : zJ) (Q : zI → zJ → Prop) : Prop := (v_M_must N (5 : Int32) I J (fun I1 J1 => (∀ y2 : Int32, y2 = (I1 361 35) → (v_M_tellLaw_12 N N x1 y2 (0 : Int32) I1 J1 Q (fun w3 w4 I5 J5 => (v_M_tellLaw_129 N w3 w4 I5 J5 Q ))))))
def v_M_tellOne_397 (N : Nat) (x1 : Int32) (I : zI) (J : zJ) (Q : zI → zJ → Prop)  : Prop := (v_M_fail N (1 : Int32) I J (fun I1 J1 => (((I1 361 13) ≤ 0 → (v_M_goesOn N  I1 J1 (fun I3 J3 => (v_M_tellLaw N x1 I3 J3 (fun I4 J4 => Q I4 J4))))) ∧ (¬ (I1 361 13) ≤ 0 → Q I1 J1))))
def v_M_tellOne (N : Nat)  (I : zI) (J : zJ) (Q : zI → zJ → Prop) : Prop := (vp_in (I 361 11) 403 ∧ (∀ y2 : Int32, y2 = (I 364 ((I 361 11)).toNatClampNeg) → ((y2 = (20 : Int32) → (vp_in (I 361 19) 2 ∧ (v_M_roomFor N (I 371 ((I 361 19)).toNatClampNeg) (7 : Int32) I J (fun I5 J5 => (((I5 361 13) ≤ 0 → (vp_in (I5 361 19) 2 ∧ (∀ y8 : Int32, y8 = (((7 : Int32) * (I5 361 19)) + (I5 371 ((I5 361 19)).toNatClampNeg)) → (v_M_named N  I5 J5 (fun r9 I10 J10 => (v_M_bounded N (0 : Int32) (4 : Int32) I10 J10 (fun r11 I12 J12 => (vp_in y8 14 ∧ ∀ I14 : zI, I14 = qu I12 372 (y8).toNatClampNeg r11 → (v_M_bounded N (0 : Int32) (99 : Int32) I14 J12 (fun r15 I16 J16 => (vp_in y8 14 ∧ ∀ I18 : zI, I18 = qu I16 373 (y8).toNatClampNeg r15 → (vp_in (I18 361 19) 2 ∧ (v_M_endsName N r9 (I18 371 ((I18 361 19)).toNatClampNeg) I18 J16 (fun I20 J20 => ((¬ (I20 361 13) = 0 → Q I20 J20) ∧ ((I20 361 13) = 0 → (vp_in (I20 361 19) 2 ∧ (∀ I23 : zI, I23 = qu I20 371 ((I20 361 19)).toNatClampNeg ((I20 371 ((I20 361 19)).toNatClampNeg) + (1 : Int32)) → Q I23 J20)))))))))))))))))) ∧ (¬ (I5 361 13) ≤ 0 → Q I5 J5)))))) ∧ (¬ y2 = (20 : Int32) → ((y2 = (21 : Int32) → (vp_in (I 361 19) 2 ∧ (v_M_roomFor N (I 374 ((I 361 19)).toNatClampNeg) (6 : Int32) I J (fun I26 J26 => (((I26 361 13) ≤ 0 → (vp_in (I26 361 19) 2 ∧ (∀ y29 : Int32, y29 = (((6 : Int32) * (I26 361 19)) + (I26 374 ((I26 361 19)).toNatClampNeg)) → (v_M_named N  I26 J26 (fun r30 I31 J31 => (v_M_bounded N (0 : Int32) (99 : Int32) I31 J31 (fun r32 I33 J33 => (vp_in y29 12 ∧ ∀ I35 : zI, I35 = qu I33 375 (y29).toNatClampNeg r32 → (v_M_bounded N (0 : Int32) (9 : Int32) I35 J33 (fun r36 I37 J37 => (vp_in y29 12 ∧ ∀ I39 : zI, I39 = qu I37 376 (y29).toNatClampNeg r36 → (vp_in (I39 361 19) 2 ∧ (v_M_endsName N r30 ((10 : Int32) + (I39 374 ((I39 361 19)).toNatClampNeg)) I39 J37 (fun I41 J41 => ((¬ (I41 361 13) = 0 → Q I41 J41) ∧ ((I41 361 13) = 0 → (vp_in (I41 361 19) 2 ∧ (∀ I44 : zI, I44 = qu I41 374 ((I41 361 19)).toNatClampNeg ((I41 374 ((I41 361 19)).toNatClampNeg) + (1 : Int32)) → Q I44 J41)))))))))))))))))) ∧ (¬ (I26 361 13) ≤ 0 → Q I26 J26)))))) ∧ (¬ y2 = (21 : Int32) → ((y2 = (22 : Int32) → (vp_in (I 361 19) 2 ∧ (v_M_roomFor N (I 378 ((I 361 19)).toNatClampNeg) (6 : Int32) I J (fun I47 J47 => ((¬ (I47 361 13) = 0 → Q I47 J47) ∧ ((I47 361 13) = 0 → (v_M_tellHangs N  I47 J47 (fun I49 J49 => Q I49 J49)))))))) ∧ (¬ y2 = (22 : Int32) → ((y2 = (23 : Int32) → (∀ y51 : Int32, y51 = ((I 364 ((I 361 11)).toNatClampNeg) - (23 : Int32)) → ((y51 < 0 → (v_M_tellOne_397 N y51 I J Q )) ∧ (¬ y51 < 0 → (((I 364 ((I 361 11)).toNatClampNeg) ≤ (26 : Int32) → (((I 361 13) ≤ 0 → (v_M_goesOn N  I J (fun I55 J55 => (v_M_tellLaw N y51 I55 J55 (fun I56 J56 => Q I56 J56))))) ∧ (¬ (I 361 13) ≤ 0 → Q I J))) ∧ (¬ (I 364 ((I 361 11)).toNatClampNeg) ≤ (26 : Int32) → (v_M_tellOne_397 N y51 I J Q ))))))) ∧ (¬ y2 = (23 : Int32) → ((y2 = (24 : Int32) → (∀ y58 : Int32, y58 = ((I 364 ((I 361 11)).toNatClampNeg) - (23 : Int32)) → ((y58 < 0 → (v_M_tellOne_397 N y58 I J Q )) ∧ (¬ y58 < 0 → (((I 364 ((I 361 11)).toNatClampNeg) ≤ (26 : Int32) → (((I 361 13) ≤ 0 → (v_M_goesOn N  I J (fun I62 J62 => (v_M_tellLaw N y58 I62 J62 (fun I63 J63 => Q I63 J63))))) ∧ (¬ (I 361 13) ≤ 0 → Q I J))) ∧ (¬ (I 364 ((I 361 11)).toNatClampNeg) ≤ (26 : Int32) → (v_M_tellOne_397 N y58 I J Q ))))))) ∧ (¬ y2 = (24 : Int32) → ((y2 = (25 : Int32) → (∀ y65 : Int32, y65 = ((I 364 ((I 361 11)).toNatClampNeg) - (23 : Int32)) → ((y65 < 0 → (v_M_tellOne_397 N y65 I J Q )) ∧ (¬ y65 < 0 → (((I 364 ((I 361 11)).toNatClampNeg) ≤ (26 : Int32) → (((I 361 13) ≤ 0 → (v_M_goesOn N  I J (fun I69 J69 => (v_M_tellLaw N y65 I69 J69 (fun I70 J70 => Q I70 J70))))) ∧ (¬ (I 361 13) ≤ 0 → Q I J))) ∧ (¬ (I 364 ((I 361 11)).toNatClampNeg) ≤ (26 : Int32) → (v_M_tellOne_397 N y65 I J Q ))))))) ∧ (¬ y2 = (25 : Int32) → ((y2 = (26 : Int32) → (∀ y72 : Int32, y72 = ((I 364 ((I 361 11)).toNatClampNeg) - (23 : Int32)) → ((y72 < 0 → (v_M_tellOne_397 N y72 I J Q )) ∧ (¬ y72 < 0 → (((I 364 ((I 361 11)).toNatClampNeg) ≤ (26 : Int32) → (((I 361 13) ≤ 0 → (v_M_goesOn N  I J (fun I76 J76 => (v_M_tellLaw N y72 I76 J76 (fun I77 J77 => Q I77 J77))))) ∧ (¬ (I 361 13) ≤ 0 → Q I J))) ∧ (¬ (I 364 ((I 361 11)).toNatClampNeg) ≤ (26 : Int32) → (v_M_tellOne_397 N y72 I J Q ))))))) ∧ (¬ y2 = (26 : Int32) → ((y2 = (27 : Int32) → (v_M_goesOn N  I J (fun I79 J79 => (v_M_bounded N (0 : Int32) (100 : Int32) I79 J79 (fun r80 I81 J81 => (vp_in (I79 361 19) 2 ∧ ∀ I83 : zI, I83 = qu I81 379 ((I79 361 19)).toNatClampNeg r80 → (v_M_must N (4 : Int32) I83 J81 (fun I84 J84 => Q I84 J84)))))))) ∧ (¬ y2 = (27 : Int32) → ((y2 = (28 : Int32) → (v_M_goesOn N  I J (fun I86 J86 => (v_M_bounded N (0 : Int32) (9999 : Int32) I86 J86 (fun r87 I88 J88 => (vp_in (I86 361 19) 2 ∧ ∀ I90 : zI, I90 = qu I88 380 ((I86 361 19)).toNatClampNeg r87 → (v_M_must N (4 : Int32) I90 J88 (fun I91 J91 => Q I91 J91)))))))) ∧ (¬ y2 = (28 : Int32) → (∀ y92 : Int32, y92 = ((I 364 ((I 361 11)).toNatClampNeg) - (23 : Int32)) → ((y92 < 0 → (v_M_tellOne_397 N y92 I J Q )) ∧ (¬ y92 < 0 → (((I 364 ((I 361 11)).toNatClampNeg) ≤ (26 : Int32) → (((I 361 13) ≤ 0 → (v_M_goesOn N  I J (fun I96 J96 => (v_M_tellLaw N y92 I96 J96 (fun I97 J97 => Q I97 J97))))) ∧ (¬ (I 361 13) ≤ 0 → Q I J))) ∧ (¬ (I 364 ((I 361 11)).toNatClampNeg) ≤ (26 : Int32) → (v_M_tellOne_397 N y92 I J Q ))))))))))))))))))))))))))
theorem u_M_begins_2 (N k : Nat) (x1 : Int32) (I : zI) (J : zJ) (Q : zI → zJ → Prop) (Q' : qH → Prop) (hQ : ∀ (I : zI) (J : zJ), Q I J → Q' (zH I J)) (K21 : zI → zJ → Prop) (K21' : Nat → qH → Prop) (hK21 : ∀  (I : zI) (J : zJ), K21  I J → K21' 361 (zH I J)) (hv : v_M_begins_2 N k x1 I J Q K21) : w_M_begins_2 N k 361 x1 (zH I J) Q' K21' := by
  induction k generalizing x1 I J with
  | zero => exact hv.elim
  | succ k ih =>
    rw [w_M_begins_2]
    rw [v_M_begins_2] at hv
    refine ⟨fun q1 => ?_, fun q1 => ?_⟩
    · have hv := hv.1 q1
      exact hK21 I J hv
    · have hv := hv.2 q1
      refine ⟨rfl, ?_⟩
      obtain ⟨g2, hv⟩ := hv
      refine ⟨qok_mk rfl g2, ?_⟩
      obtain ⟨I3, eI3⟩ : ∃ z, z = qu I 394 (x1).toNatClampNeg (0 : Int32) := ⟨_, rfl⟩
      have hv := hv I3 eI3
      intro h3 eh3
      have eh3 : h3 = zH I3 J := by rw [eh3, eI3]; rfl
      subst eh3
      exact ih (x1 + (1 : Int32)) I3 J hv
theorem u_M_begins_23 (N k : Nat) (x1 : Int32) (I : zI) (J : zJ) (Q : zI → zJ → Prop) (Q' : qH → Prop) (hQ : ∀ (I : zI) (J : zJ), Q I J → Q' (zH I J)) (K56 : zI → zJ → Prop) (K56' : Nat → qH → Prop) (hK56 : ∀  (I : zI) (J : zJ), K56  I J → K56' 361 (zH I J)) (hv : v_M_begins_23 N k x1 I J Q K56) : w_M_begins_23 N k 361 x1 (zH I J) Q' K56' := by
  induction k generalizing x1 I J with
  | zero => exact hv.elim
  | succ k ih =>
    rw [w_M_begins_23]
    rw [v_M_begins_23] at hv
    refine ⟨fun q1 => ?_, fun q1 => ?_⟩
    · have hv := hv.1 q1
      exact hK56 I J hv
    · have hv := hv.2 q1
      refine ⟨rfl, ?_⟩
      obtain ⟨g2, hv⟩ := hv
      refine ⟨qok_mk rfl g2, ?_⟩
      obtain ⟨I3, eI3⟩ : ∃ z, z = qu I 394 (((6 : Int32) + x1)).toNatClampNeg (-2 : Int32) := ⟨_, rfl⟩
      have hv := hv I3 eI3
      intro h3 eh3
      have eh3 : h3 = zH I3 J := by rw [eh3, eI3]; rfl
      subst eh3
      refine ⟨rfl, ?_⟩
      obtain ⟨g4, hv⟩ := hv
      refine ⟨qok_mk rfl g4, ?_⟩
      obtain ⟨I5, eI5⟩ : ∃ z, z = qu I3 394 (((12 : Int32) + x1)).toNatClampNeg x1 := ⟨_, rfl⟩
      have hv := hv I5 eI5
      intro h5 eh5
      have eh5 : h5 = zH I5 J := by rw [eh5, eI5]; rfl
      subst eh5
      exact ih (x1 + (1 : Int32)) I5 J hv
theorem u_M_begins_58 (N k : Nat) (x1 : Int32) (I : zI) (J : zJ) (Q : zI → zJ → Prop) (Q' : qH → Prop) (hQ : ∀ (I : zI) (J : zJ), Q I J → Q' (zH I J)) (K120 : zI → zJ → Prop) (K120' : Nat → qH → Prop) (hK120 : ∀  (I : zI) (J : zJ), K120  I J → K120' 361 (zH I J)) (hv : v_M_begins_58 N k x1 I J Q K120) : w_M_begins_58 N k 361 x1 (zH I J) Q' K120' := by
  induction k generalizing x1 I J with
  | zero => exact hv.elim
  | succ k ih =>
    rw [w_M_begins_58]
    rw [v_M_begins_58] at hv
    refine ⟨rfl, ?_⟩
    obtain ⟨g1, hv⟩ := hv
    refine ⟨qok_mk rfl g1, ?_⟩
    refine ⟨fun q2 => ?_, fun q2 => ?_⟩
    · have hv := hv.1 q2
      exact hK120 I J hv
    · have hv := hv.2 q2
      obtain ⟨g3, hv⟩ := hv
      refine ⟨qok_mk rfl g3, ?_⟩
      obtain ⟨g4, hv⟩ := hv
      refine ⟨qok_mk rfl g4, ?_⟩
      obtain ⟨I5, eI5⟩ : ∃ z, z = qu I 394 (x1).toNatClampNeg (I 375 ((((6 : Int32) * (I 361 18)) + x1)).toNatClampNeg) := ⟨_, rfl⟩
      have hv := hv I5 eI5
      intro h5 eh5
      have eh5 : h5 = zH I5 J := by rw [eh5, eI5]; rfl
      subst eh5
      refine ⟨rfl, ?_⟩
      obtain ⟨g6, hv⟩ := hv
      refine ⟨qok_mk rfl g6, ?_⟩
      obtain ⟨g7, hv⟩ := hv
      refine ⟨qok_mk rfl g7, ?_⟩
      obtain ⟨I8, eI8⟩ : ∃ z, z = qu I5 394 (((6 : Int32) + x1)).toNatClampNeg (I5 377 ((((6 : Int32) * (I5 361 18)) + x1)).toNatClampNeg) := ⟨_, rfl⟩
      have hv := hv I8 eI8
      intro h8 eh8
      have eh8 : h8 = zH I8 J := by rw [eh8, eI8]; rfl
      subst eh8
      exact ih (x1 + (1 : Int32)) I8 J hv
theorem u_M_begins (N : Nat)  (I : zI) (J : zJ) (Q : zI → zJ → Prop) (Q' : qH → Prop) (hQ : ∀ (I : zI) (J : zJ), Q I J → Q' (zH I J)) (hv : v_M_begins N  I J Q) : w_M_begins N 361 (zH I J) Q' := by
  unfold w_M_begins
  unfold v_M_begins at hv
  refine u_M_begins_2 N N (0 : Int32) I J Q _ hQ _ _ (fun I1 J1 hv => ?_)  hv
  refine u_M_begins_23 N N (0 : Int32) I1 J1 Q _ hQ _ _ (fun I2 J2 hv => ?_)  hv
  refine u_M_begins_58 N N (0 : Int32) I2 J2 Q _ hQ _ _ (fun I3 J3 hv => ?_)  hv
  refine ⟨rfl, ?_⟩
  obtain ⟨g4, hv⟩ := hv
  refine ⟨qok_mk rfl g4, ?_⟩
  obtain ⟨I5, eI5⟩ : ∃ z, z = qu I3 361 51 (I3 380 ((I3 361 18)).toNatClampNeg) := ⟨_, rfl⟩
  have hv := hv I5 eI5
  intro h5 eh5
  have eh5 : h5 = zH I5 J3 := by rw [eh5, eI5]; rfl
  subst eh5
  refine ⟨rfl, ?_⟩
  refine ⟨Or.inl rfl, ?_⟩
  obtain ⟨I6, eI6⟩ : ∃ z, z = qu I5 361 52 (0 : Int32) := ⟨_, rfl⟩
  have hv := hv I6 eI6
  intro h6 eh6
  have eh6 : h6 = zH I6 J3 := by rw [eh6, eI6]; rfl
  subst eh6
  exact hQ _ _ hv
theorem u_M_keepsRow_2 (N k : Nat) (x1 : Int32) (I : zI) (J : zJ) (Q : zI → zJ → Prop) (Q' : qH → Prop) (hQ : ∀ (I : zI) (J : zJ), Q I J → Q' (zH I J)) (hv : v_M_keepsRow_2 N k x1 I J Q ) : w_M_keepsRow_2 N k 361 x1 (zH I J) Q'  := by
  induction k generalizing x1 I J with
  | zero => exact hv.elim
  | succ k ih =>
    rw [w_M_keepsRow_2]
    rw [v_M_keepsRow_2] at hv
    refine ⟨fun q1 => ?_, fun q1 => ?_⟩
    · have hv := hv.1 q1
      exact hQ _ _ hv
    · have hv := hv.2 q1
      refine ⟨rfl, ?_⟩
      obtain ⟨g2, hv⟩ := hv
      refine ⟨qok_mk rfl g2, ?_⟩
      obtain ⟨g3, hv⟩ := hv
      refine ⟨qok_mk rfl g3, ?_⟩
      obtain ⟨I4, eI4⟩ : ∃ z, z = qu I 393 (x1).toNatClampNeg (I 394 (x1).toNatClampNeg) := ⟨_, rfl⟩
      have hv := hv I4 eI4
      intro h4 eh4
      have eh4 : h4 = zH I4 J := by rw [eh4, eI4]; rfl
      subst eh4
      exact ih (x1 + (1 : Int32)) I4 J hv
theorem u_M_keepsRow (N : Nat)  (I : zI) (J : zJ) (Q : zI → zJ → Prop) (Q' : qH → Prop) (hQ : ∀ (I : zI) (J : zJ), Q I J → Q' (zH I J)) (hv : v_M_keepsRow N  I J Q) : w_M_keepsRow N 361 (zH I J) Q' := by
  unfold w_M_keepsRow
  unfold v_M_keepsRow at hv
  exact u_M_keepsRow_2 N N (0 : Int32) I J Q _ hQ   hv
theorem u_M_plain_37 (N k : Nat) (x1 : Int32) (x2 : Int32) (I : zI) (J : zJ) (Q : zI → zJ → Prop) (Q' : qH → Prop) (hQ : ∀ (I : zI) (J : zJ), Q I J → Q' (zH I J)) (K62 : Int32 → zI → zJ → Prop) (K62' : Nat → Int32 → qH → Prop) (hK62 : ∀ (x1 : Int32) (I : zI) (J : zJ), K62 x1 I J → K62' 361 x1 (zH I J)) (hv : v_M_plain_37 N k x1 x2 I J Q K62) : w_M_plain_37 N k 361 x1 x2 (zH I J) Q' K62' := by
  induction k generalizing x1 x2 I J with
  | zero => exact hv.elim
  | succ k ih =>
    rw [w_M_plain_37]
    rw [v_M_plain_37] at hv
    refine ⟨fun q1 => ?_, fun q1 => ?_⟩
    · have hv := hv.1 q1
      exact hK62 x1 I J hv
    · have hv := hv.2 q1
      refine ⟨rfl, ?_⟩
      obtain ⟨g2, hv⟩ := hv
      refine ⟨qok_mk rfl g2, ?_⟩
      obtain ⟨I3, eI3⟩ : ∃ z, z = qu I 377 ((((6 : Int32) * x1) + x2)).toNatClampNeg (-2 : Int32) := ⟨_, rfl⟩
      have hv := hv I3 eI3
      intro h3 eh3
      have eh3 : h3 = zH I3 J := by rw [eh3, eI3]; rfl
      subst eh3
      exact ih x1 (x2 + (1 : Int32)) I3 J hv
theorem u_M_plain_64 (N k : Nat) (x1 : Int32) (x2 : Int32) (I : zI) (J : zJ) (Q : zI → zJ → Prop) (Q' : qH → Prop) (hQ : ∀ (I : zI) (J : zJ), Q I J → Q' (zH I J)) (hv : v_M_plain_64 N k x1 x2 I J Q ) : w_M_plain_64 N k 361 x1 x2 (zH I J) Q'  := by
  induction k generalizing x1 x2 I J with
  | zero => exact hv.elim
  | succ k ih =>
    rw [w_M_plain_64]
    rw [v_M_plain_64] at hv
    refine ⟨fun q1 => ?_, fun q1 => ?_⟩
    · have hv := hv.1 q1
      exact hQ _ _ hv
    · have hv := hv.2 q1
      refine ⟨rfl, ?_⟩
      obtain ⟨g2, hv⟩ := hv
      refine ⟨qok_mk rfl g2, ?_⟩
      obtain ⟨I3, eI3⟩ : ∃ z, z = qu I 381 ((((4 : Int32) * x1) + x2)).toNatClampNeg (0 : Int32) := ⟨_, rfl⟩
      have hv := hv I3 eI3
      intro h3 eh3
      have eh3 : h3 = zH I3 J := by rw [eh3, eI3]; rfl
      subst eh3
      refine ⟨rfl, ?_⟩
      obtain ⟨g4, hv⟩ := hv
      refine ⟨qok_mk rfl g4, ?_⟩
      obtain ⟨I5, eI5⟩ : ∃ z, z = qu I3 382 ((((4 : Int32) * x1) + x2)).toNatClampNeg (0 : Int32) := ⟨_, rfl⟩
      have hv := hv I5 eI5
      intro h5 eh5
      have eh5 : h5 = zH I5 J := by rw [eh5, eI5]; rfl
      subst eh5
      exact ih x1 (x2 + (1 : Int32)) I5 J hv
theorem u_M_plain (N : Nat) (x1 : Int32) (I : zI) (J : zJ) (Q : zI → zJ → Prop) (Q' : qH → Prop) (hQ : ∀ (I : zI) (J : zJ), Q I J → Q' (zH I J)) (hv : v_M_plain N x1 I J Q) : w_M_plain N 361 x1 (zH I J) Q' := by
  unfold w_M_plain
  unfold v_M_plain at hv
  refine ⟨rfl, ?_⟩
  obtain ⟨g1, hv⟩ := hv
  refine ⟨qok_mk rfl g1, ?_⟩
  obtain ⟨I2, eI2⟩ : ∃ z, z = qu I 371 (x1).toNatClampNeg (0 : Int32) := ⟨_, rfl⟩
  have hv := hv I2 eI2
  intro h2 eh2
  have eh2 : h2 = zH I2 J := by rw [eh2, eI2]; rfl
  subst eh2
  refine ⟨rfl, ?_⟩
  obtain ⟨g3, hv⟩ := hv
  refine ⟨qok_mk rfl g3, ?_⟩
  obtain ⟨I4, eI4⟩ : ∃ z, z = qu I2 374 (x1).toNatClampNeg (0 : Int32) := ⟨_, rfl⟩
  have hv := hv I4 eI4
  intro h4 eh4
  have eh4 : h4 = zH I4 J := by rw [eh4, eI4]; rfl
  subst eh4
  refine ⟨rfl, ?_⟩
  obtain ⟨g5, hv⟩ := hv
  refine ⟨qok_mk rfl g5, ?_⟩
  obtain ⟨I6, eI6⟩ : ∃ z, z = qu I4 378 (x1).toNatClampNeg (0 : Int32) := ⟨_, rfl⟩
  have hv := hv I6 eI6
  intro h6 eh6
  have eh6 : h6 = zH I6 J := by rw [eh6, eI6]; rfl
  subst eh6
  refine ⟨rfl, ?_⟩
  obtain ⟨g7, hv⟩ := hv
  refine ⟨qok_mk rfl g7, ?_⟩
  obtain ⟨I8, eI8⟩ : ∃ z, z = qu I6 379 (x1).toNatClampNeg (0 : Int32) := ⟨_, rfl⟩
  have hv := hv I8 eI8
  intro h8 eh8
  have eh8 : h8 = zH I8 J := by rw [eh8, eI8]; rfl
  subst eh8
  refine ⟨rfl, ?_⟩
  obtain ⟨g9, hv⟩ := hv
  refine ⟨qok_mk rfl g9, ?_⟩
  obtain ⟨I10, eI10⟩ : ∃ z, z = qu I8 380 (x1).toNatClampNeg (0 : Int32) := ⟨_, rfl⟩
  have hv := hv I10 eI10
  intro h10 eh10
  have eh10 : h10 = zH I10 J := by rw [eh10, eI10]; rfl
  subst eh10
  refine u_M_plain_37 N N x1 (0 : Int32) I10 J Q _ hQ _ _ (fun w11 I12 J12 hv => ?_)  hv
  exact u_M_plain_64 N N w11 (0 : Int32) I12 J12 Q _ hQ   hv
theorem u_M_appends (N : Nat) (x0 : Int64) (x2 : Int32) (I : zI) (J : zJ) (Q : Int64 → zI → zJ → Prop) (Q' : Int64 → qH → Prop) (hQ : ∀ (r : Int64) (I : zI) (J : zJ), Q r I J → Q' r (zH I J)) (hv : v_M_appends N x0 x2 I J Q) : w_M_appends N x0 x2 (zH I J) Q' := by
  unfold w_M_appends
  unfold v_M_appends at hv
  refine ⟨fun q1 => ?_, fun q1 => ?_⟩
  · have hv := hv.1 q1
    exact hQ _ _ _ hv
  · have hv := hv.2 q1
    exact hQ _ _ _ hv
theorem u_M_word (N : Nat) (x0 : Int32) (x1 : Int32) (x2 : Int32) (x3 : Int32) (x4 : Int32) (x5 : Int32) (x6 : Int32) (I : zI) (J : zJ) (Q : Int64 → zI → zJ → Prop) (Q' : Int64 → qH → Prop) (hQ : ∀ (r : Int64) (I : zI) (J : zJ), Q r I J → Q' r (zH I J)) (hv : v_M_word N x0 x1 x2 x3 x4 x5 x6 I J Q) : w_M_word N x0 x1 x2 x3 x4 x5 x6 (zH I J) Q' := by
  unfold w_M_word
  unfold v_M_word at hv
  refine u_M_appends N (0 : Int64) x0 I J _ _ (fun r1 I2 J2 hv => ?_) hv
  refine u_M_appends N r1 x1 I2 J2 _ _ (fun r3 I4 J4 hv => ?_) hv
  refine u_M_appends N r3 x2 I4 J4 _ _ (fun r5 I6 J6 hv => ?_) hv
  refine u_M_appends N r5 x3 I6 J6 _ _ (fun r7 I8 J8 hv => ?_) hv
  refine u_M_appends N r7 x4 I8 J8 _ _ (fun r9 I10 J10 hv => ?_) hv
  refine u_M_appends N r9 x5 I10 J10 _ _ (fun r11 I12 J12 hv => ?_) hv
  refine u_M_appends N r11 x6 I12 J12 _ _ (fun r13 I14 J14 hv => ?_) hv
  exact hQ _ _ _ hv
theorem u_M_put_3 (N k : Nat) (x1 : Int32) (x2 : Int32) (I : zI) (J : zJ) (Q : zI → zJ → Prop) (Q' : qH → Prop) (hQ : ∀ (I : zI) (J : zJ), Q I J → Q' (zH I J)) (hv : v_M_put_3 N k x1 x2 I J Q ) : w_M_put_3 N k 361 x1 x2 (zH I J) Q'  := by
  induction k generalizing x1 x2 I J with
  | zero => exact hv.elim
  | succ k ih =>
    rw [w_M_put_3]
    rw [v_M_put_3] at hv
    refine ⟨fun q1 => ?_, fun q1 => ?_⟩
    · have hv := hv.1 q1
      exact hQ _ _ hv
    · have hv := hv.2 q1
      refine ⟨rfl, ?_⟩
      obtain ⟨g2, hv⟩ := hv
      refine ⟨qok_mk rfl g2, ?_⟩
      obtain ⟨I3, eI3⟩ : ∃ z, z = qu I 362 ((I 361 2)).toNatClampNeg (vp_nar .byte (((x1 >>> (x2 &&& 31))).toInt8.toInt32)) := ⟨_, rfl⟩
      have hv := hv I3 eI3
      intro h3 eh3
      have eh3 : h3 = zH I3 J := by rw [eh3, eI3]; rfl
      subst eh3
      refine ⟨rfl, ?_⟩
      obtain ⟨I4, eI4⟩ : ∃ z, z = qu I3 361 2 ((I3 361 2) + (1 : Int32)) := ⟨_, rfl⟩
      have hv := hv I4 eI4
      intro h4 eh4
      have eh4 : h4 = zH I4 J := by rw [eh4, eI4]; rfl
      subst eh4
      exact ih x1 (x2 + (-8 : Int32)) I4 J hv
theorem u_M_put (N : Nat) (x1 : Int32) (I : zI) (J : zJ) (Q : zI → zJ → Prop) (Q' : qH → Prop) (hQ : ∀ (I : zI) (J : zJ), Q I J → Q' (zH I J)) (hv : v_M_put N x1 I J Q) : w_M_put N 361 x1 (zH I J) Q' := by
  unfold w_M_put
  unfold v_M_put at hv
  exact u_M_put_3 N N x1 (24 : Int32) I J Q _ hQ   hv
theorem u_M_feed (N : Nat) (x1 : Int32) (x2 : Int32) (x3 : Int32) (x4 : Int32) (x5 : Int32) (I : zI) (J : zJ) (Q : Int32 → zI → zJ → Prop) (Q' : Int32 → qH → Prop) (hQ : ∀ (r : Int32) (I : zI) (J : zJ), Q r I J → Q' r (zH I J)) (hv : v_M_feed N x1 x2 x3 x4 x5 I J Q) : w_M_feed N 361 x1 x2 x3 x4 x5 (zH I J) Q' := by
  unfold w_M_feed
  unfold v_M_feed at hv
  refine ⟨rfl, ?_⟩
  refine ⟨fun q1 => ?_, fun q1 => ?_⟩
  · have hv := hv.1 q1
    refine u_M_put N x1 I J _ _ (fun I2 J2 hv => ?_) hv
    refine ⟨rfl, ?_⟩
    refine u_M_put N x2 I2 J2 _ _ (fun I3 J3 hv => ?_) hv
    refine ⟨rfl, ?_⟩
    refine u_M_put N x3 I3 J3 _ _ (fun I4 J4 hv => ?_) hv
    refine ⟨rfl, ?_⟩
    refine u_M_put N x4 I4 J4 _ _ (fun I5 J5 hv => ?_) hv
    refine ⟨rfl, ?_⟩
    refine u_M_put N x5 I5 J5 _ _ (fun I6 J6 hv => ?_) hv
    refine ⟨rfl, ?_⟩
    exact hQ _ _ _ hv
  · have hv := hv.2 q1
    exact hQ _ _ _ hv
theorem u_M_back (N : Nat) (x1 : Int32) (I : zI) (J : zJ) (Q : Int32 → zI → zJ → Prop) (Q' : Int32 → qH → Prop) (hQ : ∀ (r : Int32) (I : zI) (J : zJ), Q r I J → Q' r (zH I J)) (hv : v_M_back N x1 I J Q) : w_M_back N 361 x1 (zH I J) Q' := by
  unfold w_M_back
  unfold v_M_back at hv
  refine ⟨fun q1 => ?_, fun q1 => ?_⟩
  · have hv := hv.1 q1
    exact hQ _ _ _ hv
  · have hv := hv.2 q1
    refine ⟨rfl, ?_⟩
    refine ⟨fun q2 => ?_, fun q2 => ?_⟩
    · have hv := hv.1 q2
      obtain ⟨I3, eI3⟩ : ∃ z, z = qu I 361 2 ((I 361 2) - x1) := ⟨_, rfl⟩
      have hv := hv I3 eI3
      intro h3 eh3
      have eh3 : h3 = zH I3 J := by rw [eh3, eI3]; rfl
      subst eh3
      refine ⟨rfl, ?_⟩
      exact hQ _ _ _ hv
    · have hv := hv.2 q2
      exact hQ _ _ _ hv
theorem u_M_byteAt (N : Nat) (x1 : Int32) (I : zI) (J : zJ) (Q : Int32 → zI → zJ → Prop) (Q' : Int32 → qH → Prop) (hQ : ∀ (r : Int32) (I : zI) (J : zJ), Q r I J → Q' r (zH I J)) (hv : v_M_byteAt N x1 I J Q) : w_M_byteAt N 361 x1 (zH I J) Q' := by
  unfold w_M_byteAt
  unfold v_M_byteAt at hv
  refine ⟨rfl, ?_⟩
  refine ⟨fun q1 => ?_, fun q1 => ?_⟩
  · have hv := hv.1 q1
    exact hQ _ _ _ hv
  · have hv := hv.2 q1
    obtain ⟨g2, hv⟩ := hv
    refine ⟨qok_mk rfl g2, ?_⟩
    exact hQ _ _ _ hv
theorem u_M_isDigit (N : Nat) (x0 : Int32) (I : zI) (J : zJ) (Q : Int32 → zI → zJ → Prop) (Q' : Int32 → qH → Prop) (hQ : ∀ (r : Int32) (I : zI) (J : zJ), Q r I J → Q' r (zH I J)) (hv : v_M_isDigit N x0 I J Q) : w_M_isDigit N x0 (zH I J) Q' := by
  unfold w_M_isDigit
  unfold v_M_isDigit at hv
  refine ⟨fun q1 => ?_, fun q1 => ?_⟩
  · have hv := hv.1 q1
    exact ⟨Or.inl rfl, hQ _ _ _ hv⟩
  · have hv := hv.2 q1
    refine ⟨fun q2 => ?_, fun q2 => ?_⟩
    · have hv := hv.1 q2
      exact ⟨Or.inl rfl, hQ _ _ _ hv⟩
    · have hv := hv.2 q2
      exact ⟨Or.inr rfl, hQ _ _ _ hv⟩
theorem u_M_isLetter (N : Nat) (x0 : Int32) (I : zI) (J : zJ) (Q : Int32 → zI → zJ → Prop) (Q' : Int32 → qH → Prop) (hQ : ∀ (r : Int32) (I : zI) (J : zJ), Q r I J → Q' r (zH I J)) (hv : v_M_isLetter N x0 I J Q) : w_M_isLetter N x0 (zH I J) Q' := by
  unfold w_M_isLetter
  unfold v_M_isLetter at hv
  refine ⟨fun q1 => ?_, fun q1 => ?_⟩
  · have hv := hv.1 q1
    exact ⟨Or.inl rfl, hQ _ _ _ hv⟩
  · have hv := hv.2 q1
    refine ⟨fun q2 => ?_, fun q2 => ?_⟩
    · have hv := hv.1 q2
      exact ⟨Or.inl rfl, hQ _ _ _ hv⟩
    · have hv := hv.2 q2
      exact ⟨Or.inr rfl, hQ _ _ _ hv⟩
theorem u_M_token (N : Nat) (x1 : Int32) (x2 : Int32) (x3 : Int32) (x4 : Int64) (I : zI) (J : zJ) (Q : zI → zJ → Prop) (Q' : qH → Prop) (hQ : ∀ (I : zI) (J : zJ), Q I J → Q' (zH I J)) (hv : v_M_token N x1 x2 x3 x4 I J Q) : w_M_token N 361 x1 x2 x3 x4 (zH I J) Q' := by
  unfold w_M_token
  unfold v_M_token at hv
  refine ⟨rfl, ?_⟩
  obtain ⟨g1, hv⟩ := hv
  refine ⟨qok_mk rfl g1, ?_⟩
  obtain ⟨I2, eI2⟩ : ∃ z, z = qu I 364 ((I 361 10)).toNatClampNeg x1 := ⟨_, rfl⟩
  have hv := hv I2 eI2
  intro h2 eh2
  have eh2 : h2 = zH I2 J := by rw [eh2, eI2]; rfl
  subst eh2
  refine ⟨rfl, ?_⟩
  obtain ⟨g3, hv⟩ := hv
  refine ⟨qok_mk rfl g3, ?_⟩
  obtain ⟨I4, eI4⟩ : ∃ z, z = qu I2 365 ((I2 361 10)).toNatClampNeg x2 := ⟨_, rfl⟩
  have hv := hv I4 eI4
  intro h4 eh4
  have eh4 : h4 = zH I4 J := by rw [eh4, eI4]; rfl
  subst eh4
  refine ⟨rfl, ?_⟩
  obtain ⟨g5, hv⟩ := hv
  refine ⟨qok_mk rfl g5, ?_⟩
  obtain ⟨I6, eI6⟩ : ∃ z, z = qu I4 366 ((I4 361 10)).toNatClampNeg x3 := ⟨_, rfl⟩
  have hv := hv I6 eI6
  intro h6 eh6
  have eh6 : h6 = zH I6 J := by rw [eh6, eI6]; rfl
  subst eh6
  refine ⟨rfl, ?_⟩
  obtain ⟨g7, hv⟩ := hv
  refine ⟨qok_mk rfl g7, ?_⟩
  obtain ⟨J8, eJ8⟩ : ∃ z, z = qu J 367 ((I6 361 10)).toNatClampNeg x4 := ⟨_, rfl⟩
  have hv := hv J8 eJ8
  intro h8 eh8
  have eh8 : h8 = zH I6 J8 := by rw [eh8, eJ8]; rfl
  subst eh8
  refine ⟨rfl, ?_⟩
  obtain ⟨I9, eI9⟩ : ∃ z, z = qu I6 361 10 ((I6 361 10) + (1 : Int32)) := ⟨_, rfl⟩
  have hv := hv I9 eI9
  intro h9 eh9
  have eh9 : h9 = zH I9 J8 := by rw [eh9, eI9]; rfl
  subst eh9
  exact hQ _ _ hv
theorem u_M_sign_85 (N : Nat) (x1 : Int32) (x2 : Int32) (x4 : Int32) (I : zI) (J : zJ) (Q : Int32 → zI → zJ → Prop) (Q' : Int32 → qH → Prop) (hQ : ∀ (r : Int32) (I : zI) (J : zJ), Q r I J → Q' r (zH I J)) (hv : v_M_sign_85 N x1 x2 x4 I J Q ) : w_M_sign_85 N 361 x1 x2 x4 (zH I J) Q'  := by
  unfold w_M_sign_85
  unfold v_M_sign_85 at hv
  refine ⟨fun q1 => ?_, fun q1 => ?_⟩
  · have hv := hv.1 q1
    refine ⟨rfl, ?_⟩
    refine u_M_token N x4 x1 (0 : Int32) (0 : Int64) I J _ _ (fun I2 J2 hv => ?_) hv
    exact hQ _ _ _ hv
  · have hv := hv.2 q1
    refine ⟨rfl, ?_⟩
    refine u_M_token N (13 : Int32) x1 (0 : Int32) (0 : Int64) I J _ _ (fun I3 J3 hv => ?_) hv
    exact hQ _ _ _ hv
theorem u_M_sign_75 (N : Nat) (x1 : Int32) (x2 : Int32) (x4 : Int32) (I : zI) (J : zJ) (Q : Int32 → zI → zJ → Prop) (Q' : Int32 → qH → Prop) (hQ : ∀ (r : Int32) (I : zI) (J : zJ), Q r I J → Q' r (zH I J)) (hv : v_M_sign_75 N x1 x2 x4 I J Q ) : w_M_sign_75 N 361 x1 x2 x4 (zH I J) Q'  := by
  unfold w_M_sign_75
  unfold v_M_sign_75 at hv
  refine ⟨fun q1 => ?_, fun q1 => ?_⟩
  · have hv := hv.1 q1
    exact u_M_sign_85 N x1 x2 x4 I J Q _ hQ   hv
  · have hv := hv.2 q1
    exact u_M_sign_85 N x1 x2 (15 : Int32) I J Q _ hQ   hv
theorem u_M_sign_65 (N : Nat) (x1 : Int32) (x2 : Int32) (x4 : Int32) (I : zI) (J : zJ) (Q : Int32 → zI → zJ → Prop) (Q' : Int32 → qH → Prop) (hQ : ∀ (r : Int32) (I : zI) (J : zJ), Q r I J → Q' r (zH I J)) (hv : v_M_sign_65 N x1 x2 x4 I J Q ) : w_M_sign_65 N 361 x1 x2 x4 (zH I J) Q'  := by
  unfold w_M_sign_65
  unfold v_M_sign_65 at hv
  refine ⟨fun q1 => ?_, fun q1 => ?_⟩
  · have hv := hv.1 q1
    exact u_M_sign_75 N x1 x2 x4 I J Q _ hQ   hv
  · have hv := hv.2 q1
    exact u_M_sign_75 N x1 x2 (10 : Int32) I J Q _ hQ   hv
theorem u_M_sign_55 (N : Nat) (x1 : Int32) (x2 : Int32) (x4 : Int32) (I : zI) (J : zJ) (Q : Int32 → zI → zJ → Prop) (Q' : Int32 → qH → Prop) (hQ : ∀ (r : Int32) (I : zI) (J : zJ), Q r I J → Q' r (zH I J)) (hv : v_M_sign_55 N x1 x2 x4 I J Q ) : w_M_sign_55 N 361 x1 x2 x4 (zH I J) Q'  := by
  unfold w_M_sign_55
  unfold v_M_sign_55 at hv
  refine ⟨fun q1 => ?_, fun q1 => ?_⟩
  · have hv := hv.1 q1
    exact u_M_sign_65 N x1 x2 x4 I J Q _ hQ   hv
  · have hv := hv.2 q1
    exact u_M_sign_65 N x1 x2 (9 : Int32) I J Q _ hQ   hv
theorem u_M_sign_43 (N : Nat) (x1 : Int32) (x2 : Int32) (z0 : Int32) (I : zI) (J : zJ) (Q : Int32 → zI → zJ → Prop) (Q' : Int32 → qH → Prop) (hQ : ∀ (r : Int32) (I : zI) (J : zJ), Q r I J → Q' r (zH I J)) (hv : v_M_sign_43 N x1 x2 z0 I J Q ) : w_M_sign_43 N 361 x1 x2 z0 (zH I J) Q'  := by
  unfold w_M_sign_43
  unfold v_M_sign_43 at hv
  refine ⟨fun q1 => ?_, fun q1 => ?_⟩
  · have hv := hv.1 q1
    exact u_M_sign_55 N x1 x2 z0 I J Q _ hQ   hv
  · have hv := hv.2 q1
    exact u_M_sign_55 N x1 x2 (8 : Int32) I J Q _ hQ   hv
theorem u_M_sign (N : Nat) (x1 : Int32) (x2 : Int32) (x3 : Int32) (I : zI) (J : zJ) (Q : Int32 → zI → zJ → Prop) (Q' : Int32 → qH → Prop) (hQ : ∀ (r : Int32) (I : zI) (J : zJ), Q r I J → Q' r (zH I J)) (hv : v_M_sign N x1 x2 x3 I J Q) : w_M_sign N 361 x1 x2 x3 (zH I J) Q' := by
  unfold w_M_sign
  unfold v_M_sign at hv
  refine ⟨fun q1 => ?_, fun q1 => ?_⟩
  · have hv := hv.1 q1
    refine ⟨fun q2 => ?_, fun q2 => ?_⟩
    · have hv := hv.1 q2
      refine ⟨fun q3 => ?_, fun q3 => ?_⟩
      · have hv := hv.1 q3
        refine ⟨fun q4 => ?_, fun q4 => ?_⟩
        · have hv := hv.1 q4
          exact u_M_sign_43 N x1 x2 (3 : Int32) I J Q _ hQ   hv
        · have hv := hv.2 q4
          exact u_M_sign_43 N x1 x2 (7 : Int32) I J Q _ hQ   hv
      · have hv := hv.2 q3
        exact u_M_sign_43 N x1 x2 (6 : Int32) I J Q _ hQ   hv
    · have hv := hv.2 q2
      exact u_M_sign_43 N x1 x2 (5 : Int32) I J Q _ hQ   hv
  · have hv := hv.2 q1
    exact u_M_sign_43 N x1 x2 (4 : Int32) I J Q _ hQ   hv
theorem u_M_cut_208 (N k : Nat) (x1 : Int32) (x3 : Int32) (x4 : Int32) (I : zI) (J : zJ) (Q : zI → zJ → Prop) (Q' : qH → Prop) (hQ : ∀ (I : zI) (J : zJ), Q I J → Q' (zH I J)) (K250 : Int32 → Int32 → Int32 → zI → zJ → Prop) (K250' : Nat → Int32 → Int32 → Int32 → qH → Prop) (hK250 : ∀ (x1 : Int32) (x3 : Int32) (x4 : Int32) (I : zI) (J : zJ), K250 x1 x3 x4 I J → K250' 361 x1 x3 x4 (zH I J)) (hv : v_M_cut_208 N k x1 x3 x4 I J Q K250) : w_M_cut_208 N k 361 x1 x3 x4 (zH I J) Q' K250' := by
  induction k generalizing x1 x3 x4 I J with
  | zero => exact hv.elim
  | succ k ih =>
    rw [w_M_cut_208]
    rw [v_M_cut_208] at hv
    refine ⟨rfl, ?_⟩
    refine u_M_byteAt N (x1 + x3) I J _ _ (fun r1 I2 J2 hv => ?_) hv
    refine u_M_isDigit N r1 I2 J2 _ _ (fun r3 I4 J4 hv => ?_) hv
    refine ⟨fun q5 => ?_, fun q5 => ?_⟩
    · have hv := hv.1 q5
      exact hK250 x1 x3 x4 I4 J4 hv
    · have hv := hv.2 q5
      refine ⟨fun q6 => ?_, fun q6 => ?_⟩
      · have hv := hv.1 q6
        exact ih x1 (x3 + (1 : Int32)) x4 I4 J4 hv
      · have hv := hv.2 q6
        refine ⟨rfl, ?_⟩
        refine u_M_byteAt N (x1 + x3) I4 J4 _ _ (fun r7 I8 J8 hv => ?_) hv
        intro y9 ey9
        have hv := hv y9 ey9
        exact ih x1 (x3 + (1 : Int32)) y9 I8 J8 hv
theorem u_M_cut_85 (N k : Nat) (x1 : Int32) (x3 : Int32) (x4 : Int64) (I : zI) (J : zJ) (Q : zI → zJ → Prop) (Q' : qH → Prop) (hQ : ∀ (I : zI) (J : zJ), Q I J → Q' (zH I J)) (K124 : Int32 → Int32 → Int64 → zI → zJ → Prop) (K124' : Nat → Int32 → Int32 → Int64 → qH → Prop) (hK124 : ∀ (x1 : Int32) (x3 : Int32) (x4 : Int64) (I : zI) (J : zJ), K124 x1 x3 x4 I J → K124' 361 x1 x3 x4 (zH I J)) (hv : v_M_cut_85 N k x1 x3 x4 I J Q K124) : w_M_cut_85 N k 361 x1 x3 x4 (zH I J) Q' K124' := by
  induction k generalizing x1 x3 x4 I J with
  | zero => exact hv.elim
  | succ k ih =>
    rw [w_M_cut_85]
    rw [v_M_cut_85] at hv
    refine ⟨rfl, ?_⟩
    refine u_M_byteAt N (x1 + x3) I J _ _ (fun r1 I2 J2 hv => ?_) hv
    refine u_M_isLetter N r1 I2 J2 _ _ (fun r3 I4 J4 hv => ?_) hv
    refine ⟨fun q5 => ?_, fun q5 => ?_⟩
    · have hv := hv.1 q5
      exact hK124 x1 x3 x4 I4 J4 hv
    · have hv := hv.2 q5
      refine ⟨fun q6 => ?_, fun q6 => ?_⟩
      · have hv := hv.1 q6
        exact ih x1 (x3 + (1 : Int32)) x4 I4 J4 hv
      · have hv := hv.2 q6
        refine ⟨rfl, ?_⟩
        refine u_M_byteAt N (x1 + x3) I4 J4 _ _ (fun r7 I8 J8 hv => ?_) hv
        refine u_M_appends N x4 r7 I8 J8 _ _ (fun r9 I10 J10 hv => ?_) hv
        exact ih x1 (x3 + (1 : Int32)) r9 I10 J10 hv
theorem u_M_cut_179 (N : Nat) (x1 : Int32) (x3 : Int32) (x4 : Int64) (x6 : Int32) (I : zI) (J : zJ) (Q : zI → zJ → Prop) (Q' : qH → Prop) (hQ : ∀ (I : zI) (J : zJ), Q I J → Q' (zH I J)) (K7 : Int32 → zI → zJ → Prop) (K7' : Nat → Int32 → qH → Prop) (hK7 : ∀ (x1 : Int32) (I : zI) (J : zJ), K7 x1 I J → K7' 361 x1 (zH I J)) (hv : v_M_cut_179 N x1 x3 x4 x6 I J Q K7) : w_M_cut_179 N 361 x1 x3 x4 x6 (zH I J) Q' K7' := by
  unfold w_M_cut_179
  unfold v_M_cut_179 at hv
  refine ⟨rfl, ?_⟩
  refine u_M_token N x6 x1 (0 : Int32) x4 I J _ _ (fun I1 J1 hv => ?_) hv
  intro y2 ey2
  have hv := hv y2 ey2
  exact hK7 y2 I1 J1 hv
theorem u_M_cut_146 (N k : Nat) (x1 : Int32) (x3 : Int32) (x4 : Int64) (x6 : Int32) (x7 : Int32) (I : zI) (J : zJ) (Q : zI → zJ → Prop) (Q' : qH → Prop) (hQ : ∀ (I : zI) (J : zJ), Q I J → Q' (zH I J)) (K179 : Int32 → Int32 → Int64 → Int32 → zI → zJ → Prop) (K179' : Nat → Int32 → Int32 → Int64 → Int32 → qH → Prop) (hK179 : ∀ (x1 : Int32) (x3 : Int32) (x4 : Int64) (x6 : Int32) (I : zI) (J : zJ), K179 x1 x3 x4 x6 I J → K179' 361 x1 x3 x4 x6 (zH I J)) (hv : v_M_cut_146 N k x1 x3 x4 x6 x7 I J Q K179) : w_M_cut_146 N k 361 x1 x3 x4 x6 x7 (zH I J) Q' K179' := by
  induction k generalizing x1 x3 x4 x6 x7 I J with
  | zero => exact hv.elim
  | succ k ih =>
    rw [w_M_cut_146]
    rw [v_M_cut_146] at hv
    refine ⟨fun q1 => ?_, fun q1 => ?_⟩
    · have hv := hv.1 q1
      exact hK179 x1 x3 x4 x6 I J hv
    · have hv := hv.2 q1
      refine ⟨rfl, ?_⟩
      obtain ⟨g2, hv⟩ := hv
      refine ⟨qok_mk rfl g2, ?_⟩
      refine ⟨fun q3 => ?_, fun q3 => ?_⟩
      · have hv := hv.1 q3
        exact ih x1 x3 x4 x6 (x7 + (1 : Int32)) I J hv
      · have hv := hv.2 q3
        intro y4 ey4
        have hv := hv y4 ey4
        exact ih x1 x3 x4 y4 (x7 + (1 : Int32)) I J hv
theorem u_M_cut_135 (N : Nat) (x1 : Int32) (x3 : Int32) (x4 : Int64) (z0 : Int32) (I : zI) (J : zJ) (Q : zI → zJ → Prop) (Q' : qH → Prop) (hQ : ∀ (I : zI) (J : zJ), Q I J → Q' (zH I J)) (K7 : Int32 → zI → zJ → Prop) (K7' : Nat → Int32 → qH → Prop) (hK7 : ∀ (x1 : Int32) (I : zI) (J : zJ), K7 x1 I J → K7' 361 x1 (zH I J)) (hv : v_M_cut_135 N x1 x3 x4 z0 I J Q K7) : w_M_cut_135 N 361 x1 x3 x4 z0 (zH I J) Q' K7' := by
  unfold w_M_cut_135
  unfold v_M_cut_135 at hv
  refine ⟨fun q1 => ?_, fun q1 => ?_⟩
  · have hv := hv.1 q1
    exact u_M_cut_179 N x1 x3 x4 z0 I J Q _ hQ _ _ (fun x1 I J hv => hK7 x1 I J hv)  hv
  · have hv := hv.2 q1
    refine u_M_cut_146 N N x1 x3 x4 z0 (0 : Int32) I J Q _ hQ _ _ (fun w2 w3 w4 w5 I6 J6 hv => ?_)  hv
    exact u_M_cut_179 N w2 w3 w4 w5 I6 J6 Q _ hQ _ _ (fun x1 I J hv => hK7 x1 I J hv)  hv
theorem u_M_cut_7 (N k : Nat) (x1 : Int32) (I : zI) (J : zJ) (Q : zI → zJ → Prop) (Q' : qH → Prop) (hQ : ∀ (I : zI) (J : zJ), Q I J → Q' (zH I J)) (hv : v_M_cut_7 N k x1 I J Q ) : w_M_cut_7 N k 361 x1 (zH I J) Q'  := by
  induction k generalizing x1 I J with
  | zero => exact hv.elim
  | succ k ih =>
    rw [w_M_cut_7]
    rw [v_M_cut_7] at hv
    refine ⟨rfl, ?_⟩
    refine ⟨fun q1 => ?_, fun q1 => ?_⟩
    · have hv := hv.1 q1
      exact hQ _ _ hv
    · have hv := hv.2 q1
      refine u_M_byteAt N x1 I J _ _ (fun r2 I3 J3 hv => ?_) hv
      refine ⟨rfl, ?_⟩
      refine ⟨fun q4 => ?_, fun q4 => ?_⟩
      · have hv := hv.1 q4
        refine ⟨fun q5 => ?_, fun q5 => ?_⟩
        · have hv := hv.1 q5
          exact ih (x1 + (1 : Int32)) I3 J3 hv
        · have hv := hv.2 q5
          refine ⟨fun q6 => ?_, fun q6 => ?_⟩
          · have hv := hv.1 q6
            exact ih (x1 + (1 : Int32)) I3 J3 hv
          · have hv := hv.2 q6
            refine ⟨fun q7 => ?_, fun q7 => ?_⟩
            · have hv := hv.1 q7
              exact ih (x1 + (1 : Int32)) I3 J3 hv
            · have hv := hv.2 q7
              refine ⟨fun q8 => ?_, fun q8 => ?_⟩
              · have hv := hv.1 q8
                refine u_M_isLetter N r2 I3 J3 _ _ (fun r9 I10 J10 hv => ?_) hv
                refine ⟨fun q11 => ?_, fun q11 => ?_⟩
                · have hv := hv.1 q11
                  refine u_M_isDigit N r2 I10 J10 _ _ (fun r12 I13 J13 hv => ?_) hv
                  refine ⟨fun q14 => ?_, fun q14 => ?_⟩
                  · have hv := hv.1 q14
                    refine ⟨rfl, ?_⟩
                    refine u_M_byteAt N (x1 + (1 : Int32)) I13 J13 _ _ (fun r15 I16 J16 hv => ?_) hv
                    refine ⟨rfl, ?_⟩
                    refine u_M_sign N x1 r2 r15 I16 J16 _ _ (fun r17 I18 J18 hv => ?_) hv
                    intro y19 ey19
                    have hv := hv y19 ey19
                    exact ih y19 I18 J18 hv
                  · have hv := hv.2 q14
                    refine u_M_cut_208 N N x1 (0 : Int32) (0 : Int32) I13 J13 Q _ hQ _ _ (fun w20 w21 w22 I23 J23 hv => ?_)  hv
                    refine ⟨fun q24 => ?_, fun q24 => ?_⟩
                    · have hv := hv.1 q24
                      refine ⟨rfl, ?_⟩
                      refine u_M_token N (2 : Int32) w20 w22 (0 : Int64) I23 J23 _ _ (fun I25 J25 hv => ?_) hv
                      intro y26 ey26
                      have hv := hv y26 ey26
                      exact ih y26 I25 J25 hv
                    · have hv := hv.2 q24
                      refine ⟨rfl, ?_⟩
                      refine u_M_token N (3 : Int32) w20 w22 (0 : Int64) I23 J23 _ _ (fun I27 J27 hv => ?_) hv
                      intro y28 ey28
                      have hv := hv y28 ey28
                      exact ih y28 I27 J27 hv
                · have hv := hv.2 q11
                  refine u_M_cut_85 N N x1 (0 : Int32) (0 : Int64) I10 J10 Q _ hQ _ _ (fun w29 w30 w31 I32 J32 hv => ?_)  hv
                  refine ⟨fun q33 => ?_, fun q33 => ?_⟩
                  · have hv := hv.1 q33
                    exact u_M_cut_135 N w29 w30 w31 (1 : Int32) I32 J32 Q _ hQ _ _ (fun x1 I J hv => ih x1 I J hv)  hv
                  · have hv := hv.2 q33
                    exact u_M_cut_135 N w29 w30 w31 (3 : Int32) I32 J32 Q _ hQ _ _ (fun x1 I J hv => ih x1 I J hv)  hv
              · have hv := hv.2 q8
                exact ih (x1 + (1 : Int32)) I3 J3 hv
      · have hv := hv.2 q4
        refine u_M_token N (0 : Int32) (I3 361 4) (0 : Int32) (0 : Int64) I3 J3 _ _ (fun I34 J34 hv => ?_) hv
        exact hQ _ _ hv
theorem u_M_cut (N : Nat)  (I : zI) (J : zJ) (Q : zI → zJ → Prop) (Q' : qH → Prop) (hQ : ∀ (I : zI) (J : zJ), Q I J → Q' (zH I J)) (hv : v_M_cut N  I J Q) : w_M_cut N 361 (zH I J) Q' := by
  unfold w_M_cut
  unfold v_M_cut at hv
  refine ⟨rfl, ?_⟩
  obtain ⟨I1, eI1⟩ : ∃ z, z = qu I 361 10 (0 : Int32) := ⟨_, rfl⟩
  have hv := hv I1 eI1
  intro h1 eh1
  have eh1 : h1 = zH I1 J := by rw [eh1, eI1]; rfl
  subst eh1
  exact u_M_cut_7 N N (0 : Int32) I1 J Q _ hQ   hv
theorem u_M_is (N : Nat) (x1 : Int32) (I : zI) (J : zJ) (Q : Int32 → zI → zJ → Prop) (Q' : Int32 → qH → Prop) (hQ : ∀ (r : Int32) (I : zI) (J : zJ), Q r I J → Q' r (zH I J)) (hv : v_M_is N x1 I J Q) : w_M_is N 361 x1 (zH I J) Q' := by
  unfold w_M_is
  unfold v_M_is at hv
  refine ⟨rfl, ?_⟩
  refine ⟨fun q1 => ?_, fun q1 => ?_⟩
  · have hv := hv.1 q1
    exact ⟨Or.inl rfl, hQ _ _ _ hv⟩
  · have hv := hv.2 q1
    obtain ⟨g2, hv⟩ := hv
    refine ⟨qok_mk rfl g2, ?_⟩
    refine ⟨fun q3 => ?_, fun q3 => ?_⟩
    · have hv := hv.1 q3
      exact ⟨Or.inl rfl, hQ _ _ _ hv⟩
    · have hv := hv.2 q3
      exact ⟨Or.inr rfl, hQ _ _ _ hv⟩
theorem u_M_fail (N : Nat) (x1 : Int32) (I : zI) (J : zJ) (Q : zI → zJ → Prop) (Q' : qH → Prop) (hQ : ∀ (I : zI) (J : zJ), Q I J → Q' (zH I J)) (hv : v_M_fail N x1 I J Q) : w_M_fail N 361 x1 (zH I J) Q' := by
  unfold w_M_fail
  unfold v_M_fail at hv
  refine ⟨rfl, ?_⟩
  refine ⟨fun q1 => ?_, fun q1 => ?_⟩
  · have hv := hv.1 q1
    obtain ⟨I2, eI2⟩ : ∃ z, z = qu I 361 13 x1 := ⟨_, rfl⟩
    have hv := hv I2 eI2
    intro h2 eh2
    have eh2 : h2 = zH I2 J := by rw [eh2, eI2]; rfl
    subst eh2
    refine ⟨rfl, ?_⟩
    obtain ⟨g3, hv⟩ := hv
    refine ⟨qok_mk rfl g3, ?_⟩
    obtain ⟨I4, eI4⟩ : ∃ z, z = qu I2 361 14 (I2 365 ((I2 361 11)).toNatClampNeg) := ⟨_, rfl⟩
    have hv := hv I4 eI4
    intro h4 eh4
    have eh4 : h4 = zH I4 J := by rw [eh4, eI4]; rfl
    subst eh4
    exact hQ _ _ hv
  · have hv := hv.2 q1
    exact hQ _ _ hv
theorem u_M_wrong (N : Nat) (x1 : Int32) (x2 : Int32) (I : zI) (J : zJ) (Q : zI → zJ → Prop) (Q' : qH → Prop) (hQ : ∀ (I : zI) (J : zJ), Q I J → Q' (zH I J)) (hv : v_M_wrong N x1 x2 I J Q) : w_M_wrong N 361 x1 x2 (zH I J) Q' := by
  unfold w_M_wrong
  unfold v_M_wrong at hv
  refine ⟨rfl, ?_⟩
  obtain ⟨g1, hv⟩ := hv
  refine ⟨qok_mk rfl g1, ?_⟩
  intro y2 ey2
  have hv := hv y2 ey2
  refine ⟨fun q3 => ?_, fun q3 => ?_⟩
  · have hv := hv.1 q3
    exact hQ _ _ hv
  · have hv := hv.2 q3
    refine ⟨fun q4 => ?_, fun q4 => ?_⟩
    · have hv := hv.1 q4
      obtain ⟨I5, eI5⟩ : ∃ z, z = qu I 361 15 x1 := ⟨_, rfl⟩
      have hv := hv I5 eI5
      intro h5 eh5
      have eh5 : h5 = zH I5 J := by rw [eh5, eI5]; rfl
      subst eh5
      refine ⟨rfl, ?_⟩
      obtain ⟨I6, eI6⟩ : ∃ z, z = qu I5 361 16 y2 := ⟨_, rfl⟩
      have hv := hv I6 eI6
      intro h6 eh6
      have eh6 : h6 = zH I6 J := by rw [eh6, eI6]; rfl
      subst eh6
      exact hQ _ _ hv
    · have hv := hv.2 q4
      refine ⟨fun q7 => ?_, fun q7 => ?_⟩
      · have hv := hv.1 q7
        exact hQ _ _ hv
      · have hv := hv.2 q7
        refine ⟨fun q8 => ?_, fun q8 => ?_⟩
        · have hv := hv.1 q8
          obtain ⟨I9, eI9⟩ : ∃ z, z = qu I 361 15 x1 := ⟨_, rfl⟩
          have hv := hv I9 eI9
          intro h9 eh9
          have eh9 : h9 = zH I9 J := by rw [eh9, eI9]; rfl
          subst eh9
          refine ⟨rfl, ?_⟩
          obtain ⟨I10, eI10⟩ : ∃ z, z = qu I9 361 16 y2 := ⟨_, rfl⟩
          have hv := hv I10 eI10
          intro h10 eh10
          have eh10 : h10 = zH I10 J := by rw [eh10, eI10]; rfl
          subst eh10
          exact hQ _ _ hv
        · have hv := hv.2 q8
          refine ⟨fun q11 => ?_, fun q11 => ?_⟩
          · have hv := hv.1 q11
            obtain ⟨I12, eI12⟩ : ∃ z, z = qu I 361 15 x1 := ⟨_, rfl⟩
            have hv := hv I12 eI12
            intro h12 eh12
            have eh12 : h12 = zH I12 J := by rw [eh12, eI12]; rfl
            subst eh12
            refine ⟨rfl, ?_⟩
            obtain ⟨I13, eI13⟩ : ∃ z, z = qu I12 361 16 y2 := ⟨_, rfl⟩
            have hv := hv I13 eI13
            intro h13 eh13
            have eh13 : h13 = zH I13 J := by rw [eh13, eI13]; rfl
            subst eh13
            exact hQ _ _ hv
          · have hv := hv.2 q11
            exact hQ _ _ hv
theorem u_M_goesOn (N : Nat)  (I : zI) (J : zJ) (Q : zI → zJ → Prop) (Q' : qH → Prop) (hQ : ∀ (I : zI) (J : zJ), Q I J → Q' (zH I J)) (hv : v_M_goesOn N  I J Q) : w_M_goesOn N 361 (zH I J) Q' := by
  unfold w_M_goesOn
  unfold v_M_goesOn at hv
  refine ⟨rfl, ?_⟩
  refine ⟨fun q1 => ?_, fun q1 => ?_⟩
  · have hv := hv.1 q1
    obtain ⟨I2, eI2⟩ : ∃ z, z = qu I 361 11 ((I 361 11) + (1 : Int32)) := ⟨_, rfl⟩
    have hv := hv I2 eI2
    intro h2 eh2
    have eh2 : h2 = zH I2 J := by rw [eh2, eI2]; rfl
    subst eh2
    exact hQ _ _ hv
  · have hv := hv.2 q1
    refine u_M_fail N (2 : Int32) I J _ _ (fun I3 J3 hv => ?_) hv
    exact hQ _ _ hv
theorem u_M_must (N : Nat) (x1 : Int32) (I : zI) (J : zJ) (Q : zI → zJ → Prop) (Q' : qH → Prop) (hQ : ∀ (I : zI) (J : zJ), Q I J → Q' (zH I J)) (hv : v_M_must N x1 I J Q) : w_M_must N 361 x1 (zH I J) Q' := by
  unfold w_M_must
  unfold v_M_must at hv
  refine ⟨rfl, ?_⟩
  refine u_M_is N x1 I J _ _ (fun r1 I2 J2 hv => ?_) hv
  refine ⟨fun q3 => ?_, fun q3 => ?_⟩
  · have hv := hv.1 q3
    refine ⟨rfl, ?_⟩
    refine u_M_fail N (1 : Int32) I2 J2 _ _ (fun I4 J4 hv => ?_) hv
    exact hQ _ _ hv
  · have hv := hv.2 q3
    refine ⟨rfl, ?_⟩
    refine u_M_goesOn N  I2 J2 _ _ (fun I5 J5 hv => ?_) hv
    exact hQ _ _ hv
theorem u_M_bounded (N : Nat) (x1 : Int32) (x2 : Int32) (I : zI) (J : zJ) (Q : Int32 → zI → zJ → Prop) (Q' : Int32 → qH → Prop) (hQ : ∀ (r : Int32) (I : zI) (J : zJ), Q r I J → Q' r (zH I J)) (hv : v_M_bounded N x1 x2 I J Q) : w_M_bounded N 361 x1 x2 (zH I J) Q' := by
  unfold w_M_bounded
  unfold v_M_bounded at hv
  refine ⟨rfl, ?_⟩
  refine ⟨fun q1 => ?_, fun q1 => ?_⟩
  · have hv := hv.1 q1
    refine u_M_fail N (1 : Int32) I J _ _ (fun I2 J2 hv => ?_) hv
    exact hQ _ _ _ hv
  · have hv := hv.2 q1
    refine u_M_is N (2 : Int32) I J _ _ (fun r3 I4 J4 hv => ?_) hv
    refine ⟨fun q5 => ?_, fun q5 => ?_⟩
    · have hv := hv.1 q5
      refine ⟨rfl, ?_⟩
      obtain ⟨g6, hv⟩ := hv
      refine ⟨qok_mk rfl g6, ?_⟩
      intro y7 ey7
      have hv := hv y7 ey7
      refine ⟨fun q8 => ?_, fun q8 => ?_⟩
      · have hv := hv.1 q8
        refine u_M_wrong N (5 : Int32) (I4 361 11) I4 J4 _ _ (fun I9 J9 hv => ?_) hv
        refine ⟨rfl, ?_⟩
        refine u_M_goesOn N  I9 J9 _ _ (fun I10 J10 hv => ?_) hv
        exact hQ _ _ _ hv
      · have hv := hv.2 q8
        refine ⟨fun q11 => ?_, fun q11 => ?_⟩
        · have hv := hv.1 q11
          refine u_M_goesOn N  I4 J4 _ _ (fun I12 J12 hv => ?_) hv
          exact hQ _ _ _ hv
        · have hv := hv.2 q11
          refine u_M_wrong N (5 : Int32) (I4 361 11) I4 J4 _ _ (fun I13 J13 hv => ?_) hv
          refine ⟨rfl, ?_⟩
          refine u_M_goesOn N  I13 J13 _ _ (fun I14 J14 hv => ?_) hv
          exact hQ _ _ _ hv
    · have hv := hv.2 q5
      refine ⟨rfl, ?_⟩
      refine u_M_fail N (1 : Int32) I4 J4 _ _ (fun I15 J15 hv => ?_) hv
      exact hQ _ _ _ hv
theorem u_M_endsName (N : Nat) (x1 : Int32) (x2 : Int32) (I : zI) (J : zJ) (Q : zI → zJ → Prop) (Q' : qH → Prop) (hQ : ∀ (I : zI) (J : zJ), Q I J → Q' (zH I J)) (hv : v_M_endsName N x1 x2 I J Q) : w_M_endsName N 361 x1 x2 (zH I J) Q' := by
  unfold w_M_endsName
  unfold v_M_endsName at hv
  refine ⟨rfl, ?_⟩
  refine u_M_must N (4 : Int32) I J _ _ (fun I1 J1 hv => ?_) hv
  refine ⟨rfl, ?_⟩
  refine ⟨fun q2 => ?_, fun q2 => ?_⟩
  · have hv := hv.1 q2
    obtain ⟨g3, hv⟩ := hv
    refine ⟨qok_mk rfl g3, ?_⟩
    obtain ⟨g4, hv⟩ := hv
    refine ⟨qok_mk rfl g4, ?_⟩
    obtain ⟨J5, eJ5⟩ : ∃ z, z = qu J1 369 ((I1 361 20)).toNatClampNeg (J1 367 (x1).toNatClampNeg) := ⟨_, rfl⟩
    have hv := hv J5 eJ5
    intro h5 eh5
    have eh5 : h5 = zH I1 J5 := by rw [eh5, eJ5]; rfl
    subst eh5
    refine ⟨rfl, ?_⟩
    obtain ⟨g6, hv⟩ := hv
    refine ⟨qok_mk rfl g6, ?_⟩
    obtain ⟨I7, eI7⟩ : ∃ z, z = qu I1 370 ((I1 361 20)).toNatClampNeg x2 := ⟨_, rfl⟩
    have hv := hv I7 eI7
    intro h7 eh7
    have eh7 : h7 = zH I7 J5 := by rw [eh7, eI7]; rfl
    subst eh7
    refine ⟨rfl, ?_⟩
    obtain ⟨I8, eI8⟩ : ∃ z, z = qu I7 361 20 ((I7 361 20) + (1 : Int32)) := ⟨_, rfl⟩
    have hv := hv I8 eI8
    intro h8 eh8
    have eh8 : h8 = zH I8 J5 := by rw [eh8, eI8]; rfl
    subst eh8
    exact hQ _ _ hv
  · have hv := hv.2 q2
    exact hQ _ _ hv
theorem u_M_named_12 (N k : Nat) (x1 : Int32) (x2 : Int32) (I : zI) (J : zJ) (Q : Int32 → zI → zJ → Prop) (Q' : Int32 → qH → Prop) (hQ : ∀ (r : Int32) (I : zI) (J : zJ), Q r I J → Q' r (zH I J)) (hv : v_M_named_12 N k x1 x2 I J Q ) : w_M_named_12 N k 361 x1 x2 (zH I J) Q'  := by
  induction k generalizing x1 x2 I J with
  | zero => exact hv.elim
  | succ k ih =>
    rw [w_M_named_12]
    rw [v_M_named_12] at hv
    refine ⟨rfl, ?_⟩
    refine ⟨fun q1 => ?_, fun q1 => ?_⟩
    · have hv := hv.1 q1
      exact hQ _ _ _ hv
    · have hv := hv.2 q1
      refine ⟨fun q2 => ?_, fun q2 => ?_⟩
      · have hv := hv.1 q2
        exact hQ _ _ _ hv
      · have hv := hv.2 q2
        obtain ⟨g3, hv⟩ := hv
        refine ⟨qok_mk rfl g3, ?_⟩
        obtain ⟨g4, hv⟩ := hv
        refine ⟨qok_mk rfl g4, ?_⟩
        refine ⟨fun q5 => ?_, fun q5 => ?_⟩
        · have hv := hv.1 q5
          exact ih x1 (x2 + (1 : Int32)) I J hv
        · have hv := hv.2 q5
          refine u_M_wrong N (3 : Int32) x1 I J _ _ (fun I6 J6 hv => ?_) hv
          exact ih x1 (x2 + (1 : Int32)) I6 J6 hv
theorem u_M_named (N : Nat)  (I : zI) (J : zJ) (Q : Int32 → zI → zJ → Prop) (Q' : Int32 → qH → Prop) (hQ : ∀ (r : Int32) (I : zI) (J : zJ), Q r I J → Q' r (zH I J)) (hv : v_M_named N  I J Q) : w_M_named N 361 (zH I J) Q' := by
  unfold w_M_named
  unfold v_M_named at hv
  refine ⟨rfl, ?_⟩
  intro y1 ey1
  have hv := hv y1 ey1
  refine u_M_must N (1 : Int32) I J _ _ (fun I2 J2 hv => ?_) hv
  exact u_M_named_12 N N y1 (0 : Int32) I2 J2 Q _ hQ   hv
theorem u_M_roomFor (N : Nat) (x1 : Int32) (x2 : Int32) (I : zI) (J : zJ) (Q : zI → zJ → Prop) (Q' : qH → Prop) (hQ : ∀ (I : zI) (J : zJ), Q I J → Q' (zH I J)) (hv : v_M_roomFor N x1 x2 I J Q) : w_M_roomFor N 361 x1 x2 (zH I J) Q' := by
  unfold w_M_roomFor
  unfold v_M_roomFor at hv
  refine ⟨fun q1 => ?_, fun q1 => ?_⟩
  · have hv := hv.1 q1
    refine ⟨rfl, ?_⟩
    refine ⟨fun q2 => ?_, fun q2 => ?_⟩
    · have hv := hv.1 q2
      exact hQ _ _ hv
    · have hv := hv.2 q2
      refine u_M_goesOn N  I J _ _ (fun I3 J3 hv => ?_) hv
      exact hQ _ _ hv
  · have hv := hv.2 q1
    refine ⟨rfl, ?_⟩
    refine u_M_fail N (2 : Int32) I J _ _ (fun I4 J4 hv => ?_) hv
    refine ⟨rfl, ?_⟩
    refine ⟨fun q5 => ?_, fun q5 => ?_⟩
    · have hv := hv.1 q5
      exact hQ _ _ hv
    · have hv := hv.2 q5
      refine u_M_goesOn N  I4 J4 _ _ (fun I6 J6 hv => ?_) hv
      exact hQ _ _ hv
theorem u_M_known_21 (N k : Nat) (x1 : Int32) (x2 : Int32) (x3 : Int32) (I : zI) (J : zJ) (Q : Int32 → zI → zJ → Prop) (Q' : Int32 → qH → Prop) (hQ : ∀ (r : Int32) (I : zI) (J : zJ), Q r I J → Q' r (zH I J)) (hv : v_M_known_21 N k x1 x2 x3 I J Q ) : w_M_known_21 N k 361 x1 x2 x3 (zH I J) Q'  := by
  induction k generalizing x1 x2 x3 I J with
  | zero => exact hv.elim
  | succ k ih =>
    rw [w_M_known_21]
    rw [v_M_known_21] at hv
    refine ⟨rfl, ?_⟩
    refine ⟨fun q1 => ?_, fun q1 => ?_⟩
    · have hv := hv.1 q1
      refine u_M_wrong N (4 : Int32) x2 I J _ _ (fun I2 J2 hv => ?_) hv
      exact hQ _ _ _ hv
    · have hv := hv.2 q1
      obtain ⟨g3, hv⟩ := hv
      refine ⟨qok_mk rfl g3, ?_⟩
      obtain ⟨g4, hv⟩ := hv
      refine ⟨qok_mk rfl g4, ?_⟩
      refine ⟨fun q5 => ?_, fun q5 => ?_⟩
      · have hv := hv.1 q5
        exact ih x1 x2 (x3 + (1 : Int32)) I J hv
      · have hv := hv.2 q5
        obtain ⟨g6, hv⟩ := hv
        refine ⟨qok_mk rfl g6, ?_⟩
        refine ⟨fun q7 => ?_, fun q7 => ?_⟩
        · have hv := hv.1 q7
          exact ih x1 x2 (x3 + (1 : Int32)) I J hv
        · have hv := hv.2 q7
          refine ⟨fun q8 => ?_, fun q8 => ?_⟩
          · have hv := hv.1 q8
            exact ih x1 x2 (x3 + (1 : Int32)) I J hv
          · have hv := hv.2 q8
            exact hQ _ _ _ hv
theorem u_M_known (N : Nat) (x1 : Int32) (I : zI) (J : zJ) (Q : Int32 → zI → zJ → Prop) (Q' : Int32 → qH → Prop) (hQ : ∀ (r : Int32) (I : zI) (J : zJ), Q r I J → Q' r (zH I J)) (hv : v_M_known N x1 I J Q) : w_M_known N 361 x1 (zH I J) Q' := by
  unfold w_M_known
  unfold v_M_known at hv
  refine ⟨rfl, ?_⟩
  intro y1 ey1
  have hv := hv y1 ey1
  refine u_M_must N (1 : Int32) I J _ _ (fun I2 J2 hv => ?_) hv
  refine ⟨rfl, ?_⟩
  refine ⟨fun q3 => ?_, fun q3 => ?_⟩
  · have hv := hv.1 q3
    exact u_M_known_21 N N x1 y1 (0 : Int32) I2 J2 Q _ hQ   hv
  · have hv := hv.2 q3
    exact hQ _ _ _ hv
theorem u_M_tellHangs_60 (N k : Nat) (x1 : Int32) (x2 : Int32) (x3 : Int32) (x4 : Int32) (I : zI) (J : zJ) (Q : zI → zJ → Prop) (Q' : qH → Prop) (hQ : ∀ (I : zI) (J : zJ), Q I J → Q' (zH I J)) (K109 : Int32 → Int32 → zI → zJ → Prop) (K109' : Nat → Int32 → Int32 → qH → Prop) (hK109 : ∀ (x2 : Int32) (x3 : Int32) (I : zI) (J : zJ), K109 x2 x3 I J → K109' 361 x2 x3 (zH I J)) (hv : v_M_tellHangs_60 N k x1 x2 x3 x4 I J Q K109) : w_M_tellHangs_60 N k 361 x1 x2 x3 x4 (zH I J) Q' K109' := by
  induction k generalizing x1 x2 x3 x4 I J with
  | zero => exact hv.elim
  | succ k ih =>
    rw [w_M_tellHangs_60]
    rw [v_M_tellHangs_60] at hv
    refine ⟨fun q1 => ?_, fun q1 => ?_⟩
    · have hv := hv.1 q1
      exact hK109 x2 x3 I J hv
    · have hv := hv.2 q1
      refine ⟨rfl, ?_⟩
      refine ⟨fun q2 => ?_, fun q2 => ?_⟩
      · have hv := hv.1 q2
        exact hK109 x2 x3 I J hv
      · have hv := hv.2 q2
        refine ⟨fun q3 => ?_, fun q3 => ?_⟩
        · have hv := hv.1 q3
          exact hK109 x2 x3 I J hv
        · have hv := hv.2 q3
          obtain ⟨g4, hv⟩ := hv
          refine ⟨qok_mk rfl g4, ?_⟩
          refine ⟨fun q5 => ?_, fun q5 => ?_⟩
          · have hv := hv.1 q5
            exact ih x1 x2 x3 (x4 + (1 : Int32)) I J hv
          · have hv := hv.2 q5
            refine u_M_wrong N (3 : Int32) x1 I J _ _ (fun I6 J6 hv => ?_) hv
            exact ih x1 x2 x3 (x4 + (1 : Int32)) I6 J6 hv
theorem u_M_tellHangs_109 (N : Nat) (x2 : Int32) (x3 : Int32) (I : zI) (J : zJ) (Q : zI → zJ → Prop) (Q' : qH → Prop) (hQ : ∀ (I : zI) (J : zJ), Q I J → Q' (zH I J)) (hv : v_M_tellHangs_109 N x2 x3 I J Q ) : w_M_tellHangs_109 N 361 x2 x3 (zH I J) Q'  := by
  unfold w_M_tellHangs_109
  unfold v_M_tellHangs_109 at hv
  refine ⟨rfl, ?_⟩
  refine u_M_must N (4 : Int32) I J _ _ (fun I1 J1 hv => ?_) hv
  refine ⟨rfl, ?_⟩
  refine ⟨fun q2 => ?_, fun q2 => ?_⟩
  · have hv := hv.1 q2
    obtain ⟨g3, hv⟩ := hv
    refine ⟨qok_mk rfl g3, ?_⟩
    obtain ⟨I4, eI4⟩ : ∃ z, z = qu I1 378 ((I1 361 19)).toNatClampNeg ((I1 378 ((I1 361 19)).toNatClampNeg) + (1 : Int32)) := ⟨_, rfl⟩
    have hv := hv I4 eI4
    intro h4 eh4
    have eh4 : h4 = zH I4 J1 := by rw [eh4, eI4]; rfl
    subst eh4
    refine ⟨fun q5 => ?_, fun q5 => ?_⟩
    · have hv := hv.1 q5
      exact hQ _ _ hv
    · have hv := hv.2 q5
      refine ⟨fun q6 => ?_, fun q6 => ?_⟩
      · have hv := hv.1 q6
        exact hQ _ _ hv
      · have hv := hv.2 q6
        refine ⟨rfl, ?_⟩
        obtain ⟨g7, hv⟩ := hv
        refine ⟨qok_mk rfl g7, ?_⟩
        obtain ⟨I8, eI8⟩ : ∃ z, z = qu I4 377 ((((6 : Int32) * (I4 361 19)) + x2)).toNatClampNeg x3 := ⟨_, rfl⟩
        have hv := hv I8 eI8
        intro h8 eh8
        have eh8 : h8 = zH I8 J1 := by rw [eh8, eI8]; rfl
        subst eh8
        exact hQ _ _ hv
  · have hv := hv.2 q2
    exact hQ _ _ hv
theorem u_M_tellHangs_46 (N : Nat) (x2 : Int32) (I : zI) (J : zJ) (Q : zI → zJ → Prop) (Q' : qH → Prop) (hQ : ∀ (I : zI) (J : zJ), Q I J → Q' (zH I J)) (hv : v_M_tellHangs_46 N x2 I J Q ) : w_M_tellHangs_46 N 361 x2 (zH I J) Q'  := by
  unfold w_M_tellHangs_46
  unfold v_M_tellHangs_46 at hv
  refine ⟨rfl, ?_⟩
  intro y1 ey1
  have hv := hv y1 ey1
  refine u_M_known N (0 : Int32) I J _ _ (fun r2 I3 J3 hv => ?_) hv
  refine u_M_tellHangs_60 N N y1 x2 r2 (0 : Int32) I3 J3 Q _ hQ _ _ (fun w4 w5 I6 J6 hv => ?_)  hv
  exact u_M_tellHangs_109 N w4 w5 I6 J6 Q _ hQ   hv
theorem u_M_tellHangs (N : Nat)  (I : zI) (J : zJ) (Q : zI → zJ → Prop) (Q' : qH → Prop) (hQ : ∀ (I : zI) (J : zJ), Q I J → Q' (zH I J)) (hv : v_M_tellHangs N  I J Q) : w_M_tellHangs N 361 (zH I J) Q' := by
  unfold w_M_tellHangs
  unfold v_M_tellHangs at hv
  refine ⟨rfl, ?_⟩
  intro y1 ey1
  have hv := hv y1 ey1
  refine u_M_known N (10 : Int32) I J _ _ (fun r2 I3 J3 hv => ?_) hv
  refine ⟨rfl, ?_⟩
  refine ⟨fun q4 => ?_, fun q4 => ?_⟩
  · have hv := hv.1 q4
    exact u_M_tellHangs_46 N r2 I3 J3 Q _ hQ   hv
  · have hv := hv.2 q4
    refine ⟨fun q5 => ?_, fun q5 => ?_⟩
    · have hv := hv.1 q5
      exact u_M_tellHangs_46 N r2 I3 J3 Q _ hQ   hv
    · have hv := hv.2 q5
      obtain ⟨g6, hv⟩ := hv
      refine ⟨qok_mk rfl g6, ?_⟩
      refine ⟨fun q7 => ?_, fun q7 => ?_⟩
      · have hv := hv.1 q7
        exact u_M_tellHangs_46 N r2 I3 J3 Q _ hQ   hv
      · have hv := hv.2 q7
        refine u_M_wrong N (3 : Int32) y1 I3 J3 _ _ (fun I8 J8 hv => ?_) hv
        exact u_M_tellHangs_46 N r2 I8 J8 Q _ hQ   hv
theorem u_M_emit (N : Nat) (x1 : Int32) (x2 : Int32) (I : zI) (J : zJ) (Q : zI → zJ → Prop) (Q' : qH → Prop) (hQ : ∀ (I : zI) (J : zJ), Q I J → Q' (zH I J)) (hv : v_M_emit N x1 x2 I J Q) : w_M_emit N 361 x1 x2 (zH I J) Q' := by
  unfold w_M_emit
  unfold v_M_emit at hv
  refine ⟨rfl, ?_⟩
  obtain ⟨g1, hv⟩ := hv
  refine ⟨qok_mk rfl g1, ?_⟩
  obtain ⟨I2, eI2⟩ : ∃ z, z = qu I 388 ((I 361 41)).toNatClampNeg x1 := ⟨_, rfl⟩
  have hv := hv I2 eI2
  intro h2 eh2
  have eh2 : h2 = zH I2 J := by rw [eh2, eI2]; rfl
  subst eh2
  refine ⟨rfl, ?_⟩
  obtain ⟨g3, hv⟩ := hv
  refine ⟨qok_mk rfl g3, ?_⟩
  obtain ⟨I4, eI4⟩ : ∃ z, z = qu I2 389 ((I2 361 41)).toNatClampNeg x2 := ⟨_, rfl⟩
  have hv := hv I4 eI4
  intro h4 eh4
  have eh4 : h4 = zH I4 J := by rw [eh4, eI4]; rfl
  subst eh4
  refine ⟨rfl, ?_⟩
  obtain ⟨I5, eI5⟩ : ∃ z, z = qu I4 361 41 ((I4 361 41) + (1 : Int32)) := ⟨_, rfl⟩
  have hv := hv I5 eI5
  intro h5 eh5
  have eh5 : h5 = zH I5 J := by rw [eh5, eI5]; rfl
  subst eh5
  exact hQ _ _ hv
theorem u_M_comesOut_42 (N : Nat) (x1 : Int32) (x2 : Int32) (I : zI) (J : zJ) (Q : zI → zJ → Prop) (Q' : qH → Prop) (hQ : ∀ (I : zI) (J : zJ), Q I J → Q' (zH I J)) (K0 : Int32 → zI → zJ → Prop) (K0' : Nat → Int32 → qH → Prop) (hK0 : ∀ (x1 : Int32) (I : zI) (J : zJ), K0 x1 I J → K0' 361 x1 (zH I J)) (hv : v_M_comesOut_42 N x1 x2 I J Q K0) : w_M_comesOut_42 N 361 x1 x2 (zH I J) Q' K0' := by
  unfold w_M_comesOut_42
  unfold v_M_comesOut_42 at hv
  refine ⟨rfl, ?_⟩
  obtain ⟨I1, eI1⟩ : ∃ z, z = qu I 361 45 ((I 361 45) - (1 : Int32)) := ⟨_, rfl⟩
  have hv := hv I1 eI1
  intro h1 eh1
  have eh1 : h1 = zH I1 J := by rw [eh1, eI1]; rfl
  subst eh1
  refine ⟨fun q2 => ?_, fun q2 => ?_⟩
  · have hv := hv.1 q2
    refine ⟨fun q3 => ?_, fun q3 => ?_⟩
    · have hv := hv.1 q3
      refine ⟨fun q4 => ?_, fun q4 => ?_⟩
      · have hv := hv.1 q4
        refine ⟨rfl, ?_⟩
        refine u_M_emit N (5 : Int32) (0 : Int32) I1 J _ _ (fun I5 J5 hv => ?_) hv
        exact hK0 x1 I5 J5 hv
      · have hv := hv.2 q4
        refine ⟨rfl, ?_⟩
        refine u_M_emit N (4 : Int32) (0 : Int32) I1 J _ _ (fun I6 J6 hv => ?_) hv
        exact hK0 x1 I6 J6 hv
    · have hv := hv.2 q3
      refine ⟨rfl, ?_⟩
      refine u_M_emit N (3 : Int32) (0 : Int32) I1 J _ _ (fun I7 J7 hv => ?_) hv
      exact hK0 x1 I7 J7 hv
  · have hv := hv.2 q2
    refine ⟨rfl, ?_⟩
    refine u_M_emit N (2 : Int32) (0 : Int32) I1 J _ _ (fun I8 J8 hv => ?_) hv
    exact hK0 x1 I8 J8 hv
theorem u_M_comesOut_0 (N k : Nat) (x1 : Int32) (I : zI) (J : zJ) (Q : zI → zJ → Prop) (Q' : qH → Prop) (hQ : ∀ (I : zI) (J : zJ), Q I J → Q' (zH I J)) (hv : v_M_comesOut_0 N k x1 I J Q ) : w_M_comesOut_0 N k 361 x1 (zH I J) Q'  := by
  induction k generalizing x1 I J with
  | zero => exact hv.elim
  | succ k ih =>
    rw [w_M_comesOut_0]
    rw [v_M_comesOut_0] at hv
    refine ⟨rfl, ?_⟩
    refine ⟨fun q1 => ?_, fun q1 => ?_⟩
    · have hv := hv.1 q1
      exact hQ _ _ hv
    · have hv := hv.2 q1
      obtain ⟨g2, hv⟩ := hv
      refine ⟨qok_mk rfl g2, ?_⟩
      intro y3 ey3
      have hv := hv y3 ey3
      refine ⟨fun q4 => ?_, fun q4 => ?_⟩
      · have hv := hv.1 q4
        exact hQ _ _ hv
      · have hv := hv.2 q4
        refine ⟨fun q5 => ?_, fun q5 => ?_⟩
        · have hv := hv.1 q5
          exact u_M_comesOut_42 N x1 y3 I J Q _ hQ _ _ (fun x1 I J hv => ih x1 I J hv)  hv
        · have hv := hv.2 q5
          refine ⟨fun q6 => ?_, fun q6 => ?_⟩
          · have hv := hv.1 q6
            exact hQ _ _ hv
          · have hv := hv.2 q6
            refine ⟨fun q7 => ?_, fun q7 => ?_⟩
            · have hv := hv.1 q7
              exact u_M_comesOut_42 N x1 y3 I J Q _ hQ _ _ (fun x1 I J hv => ih x1 I J hv)  hv
            · have hv := hv.2 q7
              exact hQ _ _ hv
theorem u_M_comesOut (N : Nat) (x1 : Int32) (I : zI) (J : zJ) (Q : zI → zJ → Prop) (Q' : qH → Prop) (hQ : ∀ (I : zI) (J : zJ), Q I J → Q' (zH I J)) (hv : v_M_comesOut N x1 I J Q) : w_M_comesOut N 361 x1 (zH I J) Q' := by
  unfold w_M_comesOut
  unfold v_M_comesOut at hv
  exact u_M_comesOut_0 N N x1 I J Q _ hQ   hv
theorem u_M_unit (N : Nat)  (I : zI) (J : zJ) (Q : zI → zJ → Prop) (Q' : qH → Prop) (hQ : ∀ (I : zI) (J : zJ), Q I J → Q' (zH I J)) (hv : v_M_unit N  I J Q) : w_M_unit N 361 (zH I J) Q' := by
  unfold w_M_unit
  unfold v_M_unit at hv
  refine ⟨rfl, ?_⟩
  refine u_M_is N (2 : Int32) I J _ _ (fun r1 I2 J2 hv => ?_) hv
  refine ⟨fun q3 => ?_, fun q3 => ?_⟩
  · have hv := hv.1 q3
    refine ⟨rfl, ?_⟩
    refine ⟨fun q4 => ?_, fun q4 => ?_⟩
    · have hv := hv.1 q4
      refine u_M_fail N (1 : Int32) I2 J2 _ _ (fun I5 J5 hv => ?_) hv
      exact hQ _ _ hv
    · have hv := hv.2 q4
      obtain ⟨g6, hv⟩ := hv
      refine ⟨qok_mk rfl g6, ?_⟩
      refine ⟨fun q7 => ?_, fun q7 => ?_⟩
      · have hv := hv.1 q7
        refine u_M_fail N (1 : Int32) I2 J2 _ _ (fun I8 J8 hv => ?_) hv
        exact hQ _ _ hv
      · have hv := hv.2 q7
        refine ⟨fun q9 => ?_, fun q9 => ?_⟩
        · have hv := hv.1 q9
          refine u_M_fail N (1 : Int32) I2 J2 _ _ (fun I10 J10 hv => ?_) hv
          exact hQ _ _ hv
        · have hv := hv.2 q9
          refine u_M_emit N (1 : Int32) ((I2 364 ((I2 361 11)).toNatClampNeg) - (32 : Int32)) I2 J2 _ _ (fun I11 J11 hv => ?_) hv
          refine ⟨rfl, ?_⟩
          refine u_M_goesOn N  I11 J11 _ _ (fun I12 J12 hv => ?_) hv
          exact hQ _ _ hv
  · have hv := hv.2 q3
    refine ⟨rfl, ?_⟩
    obtain ⟨g13, hv⟩ := hv
    refine ⟨qok_mk rfl g13, ?_⟩
    refine u_M_emit N (0 : Int32) (I2 366 ((I2 361 11)).toNatClampNeg) I2 J2 _ _ (fun I14 J14 hv => ?_) hv
    refine ⟨rfl, ?_⟩
    refine u_M_goesOn N  I14 J14 _ _ (fun I15 J15 hv => ?_) hv
    exact hQ _ _ hv
theorem u_M_expression_46 (N : Nat) (x1 : Int32) (I : zI) (J : zJ) (Q : zI → zJ → Prop) (Q' : qH → Prop) (hQ : ∀ (I : zI) (J : zJ), Q I J → Q' (zH I J)) (K23 : Int32 → zI → zJ → Prop) (K23' : Nat → Int32 → qH → Prop) (hK23 : ∀ (x1 : Int32) (I : zI) (J : zJ), K23 x1 I J → K23' 361 x1 (zH I J)) (hv : v_M_expression_46 N x1 I J Q K23) : w_M_expression_46 N 361 x1 (zH I J) Q' K23' := by
  unfold w_M_expression_46
  unfold v_M_expression_46 at hv
  refine ⟨rfl, ?_⟩
  obtain ⟨I1, eI1⟩ : ∃ z, z = qu I 361 12 ((I 361 12) + (1 : Int32)) := ⟨_, rfl⟩
  have hv := hv I1 eI1
  intro h1 eh1
  have eh1 : h1 = zH I1 J := by rw [eh1, eI1]; rfl
  subst eh1
  refine ⟨rfl, ?_⟩
  refine u_M_goesOn N  I1 J _ _ (fun I2 J2 hv => ?_) hv
  refine ⟨rfl, ?_⟩
  obtain ⟨g3, hv⟩ := hv
  refine ⟨qok_mk rfl g3, ?_⟩
  obtain ⟨I4, eI4⟩ : ∃ z, z = qu I2 390 ((I2 361 45)).toNatClampNeg (6 : Int32) := ⟨_, rfl⟩
  have hv := hv I4 eI4
  intro h4 eh4
  have eh4 : h4 = zH I4 J2 := by rw [eh4, eI4]; rfl
  subst eh4
  refine ⟨rfl, ?_⟩
  obtain ⟨I5, eI5⟩ : ∃ z, z = qu I4 361 45 ((I4 361 45) + (1 : Int32)) := ⟨_, rfl⟩
  have hv := hv I5 eI5
  intro h5 eh5
  have eh5 : h5 = zH I5 J2 := by rw [eh5, eI5]; rfl
  subst eh5
  exact hK23 x1 I5 J2 hv
theorem u_M_expression_23 (N k : Nat) (x1 : Int32) (I : zI) (J : zJ) (Q : zI → zJ → Prop) (Q' : qH → Prop) (hQ : ∀ (I : zI) (J : zJ), Q I J → Q' (zH I J)) (K84 : Int32 → zI → zJ → Prop) (K84' : Nat → Int32 → qH → Prop) (hK84 : ∀ (x1 : Int32) (I : zI) (J : zJ), K84 x1 I J → K84' 361 x1 (zH I J)) (hv : v_M_expression_23 N k x1 I J Q K84) : w_M_expression_23 N k 361 x1 (zH I J) Q' K84' := by
  induction k generalizing x1 I J with
  | zero => exact hv.elim
  | succ k ih =>
    rw [w_M_expression_23]
    rw [v_M_expression_23] at hv
    refine ⟨rfl, ?_⟩
    refine u_M_is N (6 : Int32) I J _ _ (fun r1 I2 J2 hv => ?_) hv
    refine ⟨fun q3 => ?_, fun q3 => ?_⟩
    · have hv := hv.1 q3
      exact hK84 x1 I2 J2 hv
    · have hv := hv.2 q3
      refine ⟨rfl, ?_⟩
      refine ⟨fun q4 => ?_, fun q4 => ?_⟩
      · have hv := hv.1 q4
        exact u_M_expression_46 N x1 I2 J2 Q _ hQ _ _ (fun x1 I J hv => ih x1 I J hv)  hv
      · have hv := hv.2 q4
        refine u_M_fail N (2 : Int32) I2 J2 _ _ (fun I5 J5 hv => ?_) hv
        exact u_M_expression_46 N x1 I5 J5 Q _ hQ _ _ (fun x1 I J hv => ih x1 I J hv)  hv
theorem u_M_expression_96 (N k : Nat) (x1 : Int32) (I : zI) (J : zJ) (Q : zI → zJ → Prop) (Q' : qH → Prop) (hQ : ∀ (I : zI) (J : zJ), Q I J → Q' (zH I J)) (K145 : Int32 → zI → zJ → Prop) (K145' : Nat → Int32 → qH → Prop) (hK145 : ∀ (x1 : Int32) (I : zI) (J : zJ), K145 x1 I J → K145' 361 x1 (zH I J)) (hv : v_M_expression_96 N k x1 I J Q K145) : w_M_expression_96 N k 361 x1 (zH I J) Q' K145' := by
  induction k generalizing x1 I J with
  | zero => exact hv.elim
  | succ k ih =>
    rw [w_M_expression_96]
    rw [v_M_expression_96] at hv
    refine ⟨rfl, ?_⟩
    refine u_M_is N (7 : Int32) I J _ _ (fun r1 I2 J2 hv => ?_) hv
    refine ⟨fun q3 => ?_, fun q3 => ?_⟩
    · have hv := hv.1 q3
      exact hK145 x1 I2 J2 hv
    · have hv := hv.2 q3
      refine ⟨rfl, ?_⟩
      refine ⟨fun q4 => ?_, fun q4 => ?_⟩
      · have hv := hv.1 q4
        exact hK145 x1 I2 J2 hv
      · have hv := hv.2 q4
        refine u_M_comesOut N (0 : Int32) I2 J2 _ _ (fun I5 J5 hv => ?_) hv
        refine ⟨rfl, ?_⟩
        obtain ⟨I6, eI6⟩ : ∃ z, z = qu I5 361 45 ((I5 361 45) - (1 : Int32)) := ⟨_, rfl⟩
        have hv := hv I6 eI6
        intro h6 eh6
        have eh6 : h6 = zH I6 J5 := by rw [eh6, eI6]; rfl
        subst eh6
        refine ⟨rfl, ?_⟩
        obtain ⟨I7, eI7⟩ : ∃ z, z = qu I6 361 12 ((I6 361 12) - (1 : Int32)) := ⟨_, rfl⟩
        have hv := hv I7 eI7
        intro h7 eh7
        have eh7 : h7 = zH I7 J5 := by rw [eh7, eI7]; rfl
        subst eh7
        refine ⟨rfl, ?_⟩
        refine u_M_goesOn N  I7 J5 _ _ (fun I8 J8 hv => ?_) hv
        exact ih x1 I8 J8 hv
theorem u_M_expression_234 (N : Nat) (x1 : Int32) (x2 : Int32) (z0 : Int32) (I : zI) (J : zJ) (Q : zI → zJ → Prop) (Q' : qH → Prop) (hQ : ∀ (I : zI) (J : zJ), Q I J → Q' (zH I J)) (K12 : Int32 → Int32 → zI → zJ → Prop) (K12' : Nat → Int32 → Int32 → qH → Prop) (hK12 : ∀ (x1 : Int32) (x2 : Int32) (I : zI) (J : zJ), K12 x1 x2 I J → K12' 361 x1 x2 (zH I J)) (hv : v_M_expression_234 N x1 x2 z0 I J Q K12) : w_M_expression_234 N 361 x1 x2 z0 361 (zH I J) Q' K12' := by
  unfold w_M_expression_234
  unfold v_M_expression_234 at hv
  refine ⟨rfl, ?_⟩
  refine u_M_comesOut N z0 I J _ _ (fun I1 J1 hv => ?_) hv
  refine ⟨rfl, ?_⟩
  obtain ⟨g2, hv⟩ := hv
  refine ⟨qok_mk rfl g2, ?_⟩
  obtain ⟨g3, hv⟩ := hv
  refine ⟨qok_mk rfl g3, ?_⟩
  obtain ⟨I4, eI4⟩ : ∃ z, z = qu I1 390 ((I1 361 45)).toNatClampNeg (I1 364 ((I1 361 11)).toNatClampNeg) := ⟨_, rfl⟩
  have hv := hv I4 eI4
  intro h4 eh4
  have eh4 : h4 = zH I4 J1 := by rw [eh4, eI4]; rfl
  subst eh4
  refine ⟨rfl, ?_⟩
  obtain ⟨I5, eI5⟩ : ∃ z, z = qu I4 361 45 ((I4 361 45) + (1 : Int32)) := ⟨_, rfl⟩
  have hv := hv I5 eI5
  intro h5 eh5
  have eh5 : h5 = zH I5 J1 := by rw [eh5, eI5]; rfl
  subst eh5
  refine ⟨rfl, ?_⟩
  refine u_M_goesOn N  I5 J1 _ _ (fun I6 J6 hv => ?_) hv
  exact hK12 x1 x2 I6 J6 hv
theorem u_M_expression_229 (N : Nat) (x1 : Int32) (x2 : Int32) (I : zI) (J : zJ) (Q : zI → zJ → Prop) (Q' : qH → Prop) (hQ : ∀ (I : zI) (J : zJ), Q I J → Q' (zH I J)) (K12 : Int32 → Int32 → zI → zJ → Prop) (K12' : Nat → Int32 → Int32 → qH → Prop) (hK12 : ∀ (x1 : Int32) (x2 : Int32) (I : zI) (J : zJ), K12 x1 x2 I J → K12' 361 x1 x2 (zH I J)) (hv : v_M_expression_229 N x1 x2 I J Q K12) : w_M_expression_229 N 361 x1 x2 361 (zH I J) Q' K12' := by
  unfold w_M_expression_229
  unfold v_M_expression_229 at hv
  exact u_M_expression_234 N x1 x2 (1 : Int32) I J Q _ hQ _ _ (fun x1 x2 I J hv => hK12 x1 x2 I J hv)  hv
theorem u_M_expression_186 (N : Nat) (x1 : Int32) (z0 : Int32) (I : zI) (J : zJ) (Q : zI → zJ → Prop) (Q' : qH → Prop) (hQ : ∀ (I : zI) (J : zJ), Q I J → Q' (zH I J)) (K12 : Int32 → Int32 → zI → zJ → Prop) (K12' : Nat → Int32 → Int32 → qH → Prop) (hK12 : ∀ (x1 : Int32) (x2 : Int32) (I : zI) (J : zJ), K12 x1 x2 I J → K12' 361 x1 x2 (zH I J)) (K191 : Int32 → zI → zJ → Prop) (K191' : Nat → Int32 → qH → Prop) (hK191 : ∀ (x1 : Int32) (I : zI) (J : zJ), K191 x1 I J → K191' 361 x1 (zH I J)) (hv : v_M_expression_186 N x1 z0 I J Q K12 K191) : w_M_expression_186 N 361 x1 z0 (zH I J) Q' K12' K191' := by
  unfold w_M_expression_186
  unfold v_M_expression_186 at hv
  refine ⟨fun q1 => ?_, fun q1 => ?_⟩
  · have hv := hv.1 q1
    refine ⟨rfl, ?_⟩
    refine u_M_is N (10 : Int32) I J _ _ (fun r2 I3 J3 hv => ?_) hv
    refine ⟨fun q4 => ?_, fun q4 => ?_⟩
    · have hv := hv.1 q4
      exact u_M_expression_229 N x1 z0 I3 J3 Q _ hQ _ _ (fun x1 x2 I J hv => hK12 x1 x2 I J hv)  hv
    · have hv := hv.2 q4
      refine ⟨rfl, ?_⟩
      refine u_M_is N (15 : Int32) I3 J3 _ _ (fun r5 I6 J6 hv => ?_) hv
      refine ⟨fun q7 => ?_, fun q7 => ?_⟩
      · have hv := hv.1 q7
        exact u_M_expression_234 N x1 z0 (0 : Int32) I6 J6 Q _ hQ _ _ (fun x1 x2 I J hv => hK12 x1 x2 I J hv)  hv
      · have hv := hv.2 q7
        exact u_M_expression_229 N x1 z0 I6 J6 Q _ hQ _ _ (fun x1 x2 I J hv => hK12 x1 x2 I J hv)  hv
  · have hv := hv.2 q1
    exact hK191 x1 I J hv
theorem u_M_expression_181 (N : Nat) (x1 : Int32) (I : zI) (J : zJ) (Q : zI → zJ → Prop) (Q' : qH → Prop) (hQ : ∀ (I : zI) (J : zJ), Q I J → Q' (zH I J)) (K12 : Int32 → Int32 → zI → zJ → Prop) (K12' : Nat → Int32 → Int32 → qH → Prop) (hK12 : ∀ (x1 : Int32) (x2 : Int32) (I : zI) (J : zJ), K12 x1 x2 I J → K12' 361 x1 x2 (zH I J)) (K191 : Int32 → zI → zJ → Prop) (K191' : Nat → Int32 → qH → Prop) (hK191 : ∀ (x1 : Int32) (I : zI) (J : zJ), K191 x1 I J → K191' 361 x1 (zH I J)) (hv : v_M_expression_181 N x1 I J Q K12 K191) : w_M_expression_181 N 361 x1 (zH I J) Q' K12' K191' := by
  unfold w_M_expression_181
  unfold v_M_expression_181 at hv
  exact u_M_expression_186 N x1 (1 : Int32) I J Q _ hQ _ _ (fun x1 x2 I J hv => hK12 x1 x2 I J hv) _ _ (fun x1 I J hv => hK191 x1 I J hv)  hv
theorem u_M_expression_145 (N : Nat) (x1 : Int32) (I : zI) (J : zJ) (Q : zI → zJ → Prop) (Q' : qH → Prop) (hQ : ∀ (I : zI) (J : zJ), Q I J → Q' (zH I J)) (K12 : Int32 → Int32 → zI → zJ → Prop) (K12' : Nat → Int32 → Int32 → qH → Prop) (hK12 : ∀ (x1 : Int32) (x2 : Int32) (I : zI) (J : zJ), K12 x1 x2 I J → K12' 361 x1 x2 (zH I J)) (K191 : Int32 → zI → zJ → Prop) (K191' : Nat → Int32 → qH → Prop) (hK191 : ∀ (x1 : Int32) (I : zI) (J : zJ), K191 x1 I J → K191' 361 x1 (zH I J)) (hv : v_M_expression_145 N x1 I J Q K12 K191) : w_M_expression_145 N 361 x1 (zH I J) Q' K12' K191' := by
  unfold w_M_expression_145
  unfold v_M_expression_145 at hv
  refine ⟨rfl, ?_⟩
  refine u_M_is N (8 : Int32) I J _ _ (fun r1 I2 J2 hv => ?_) hv
  refine ⟨fun q3 => ?_, fun q3 => ?_⟩
  · have hv := hv.1 q3
    exact u_M_expression_181 N x1 I2 J2 Q _ hQ _ _ (fun x1 x2 I J hv => hK12 x1 x2 I J hv) _ _ (fun x1 I J hv => hK191 x1 I J hv)  hv
  · have hv := hv.2 q3
    refine ⟨rfl, ?_⟩
    refine u_M_is N (9 : Int32) I2 J2 _ _ (fun r4 I5 J5 hv => ?_) hv
    refine ⟨fun q6 => ?_, fun q6 => ?_⟩
    · have hv := hv.1 q6
      exact u_M_expression_181 N x1 I5 J5 Q _ hQ _ _ (fun x1 x2 I J hv => hK12 x1 x2 I J hv) _ _ (fun x1 I J hv => hK191 x1 I J hv)  hv
    · have hv := hv.2 q6
      refine ⟨rfl, ?_⟩
      refine u_M_is N (10 : Int32) I5 J5 _ _ (fun r7 I8 J8 hv => ?_) hv
      refine ⟨fun q9 => ?_, fun q9 => ?_⟩
      · have hv := hv.1 q9
        exact u_M_expression_181 N x1 I8 J8 Q _ hQ _ _ (fun x1 x2 I J hv => hK12 x1 x2 I J hv) _ _ (fun x1 I J hv => hK191 x1 I J hv)  hv
      · have hv := hv.2 q9
        refine ⟨rfl, ?_⟩
        refine u_M_is N (15 : Int32) I8 J8 _ _ (fun r10 I11 J11 hv => ?_) hv
        refine ⟨fun q12 => ?_, fun q12 => ?_⟩
        · have hv := hv.1 q12
          exact u_M_expression_186 N x1 (0 : Int32) I11 J11 Q _ hQ _ _ (fun x1 x2 I J hv => hK12 x1 x2 I J hv) _ _ (fun x1 I J hv => hK191 x1 I J hv)  hv
        · have hv := hv.2 q12
          exact u_M_expression_181 N x1 I11 J11 Q _ hQ _ _ (fun x1 x2 I J hv => hK12 x1 x2 I J hv) _ _ (fun x1 I J hv => hK191 x1 I J hv)  hv
theorem u_M_expression_12 (N k : Nat) (x1 : Int32) (x2 : Int32) (I : zI) (J : zJ) (Q : zI → zJ → Prop) (Q' : qH → Prop) (hQ : ∀ (I : zI) (J : zJ), Q I J → Q' (zH I J)) (K191 : Int32 → zI → zJ → Prop) (K191' : Nat → Int32 → qH → Prop) (hK191 : ∀ (x1 : Int32) (I : zI) (J : zJ), K191 x1 I J → K191' 361 x1 (zH I J)) (hv : v_M_expression_12 N k x1 x2 I J Q K191) : w_M_expression_12 N k 361 x1 x2 (zH I J) Q' K191' := by
  induction k generalizing x1 x2 I J with
  | zero => exact hv.elim
  | succ k ih =>
    rw [w_M_expression_12]
    rw [v_M_expression_12] at hv
    refine ⟨fun q1 => ?_, fun q1 => ?_⟩
    · have hv := hv.1 q1
      exact hQ _ _ hv
    · have hv := hv.2 q1
      refine ⟨rfl, ?_⟩
      refine ⟨fun q2 => ?_, fun q2 => ?_⟩
      · have hv := hv.1 q2
        exact hQ _ _ hv
      · have hv := hv.2 q2
        refine u_M_expression_23 N N x1 I J Q _ hQ _ _ (fun w3 I4 J4 hv => ?_)  hv
        refine ⟨rfl, ?_⟩
        refine u_M_unit N  I4 J4 _ _ (fun I5 J5 hv => ?_) hv
        refine ⟨rfl, ?_⟩
        refine ⟨fun q6 => ?_, fun q6 => ?_⟩
        · have hv := hv.1 q6
          refine u_M_expression_96 N N w3 I5 J5 Q _ hQ _ _ (fun w7 I8 J8 hv => ?_)  hv
          exact u_M_expression_145 N w7 I8 J8 Q _ hQ _ _ (fun x1 x2 I J hv => ih x1 x2 I J hv) _ _ (fun x1 I J hv => hK191 x1 I J hv)  hv
        · have hv := hv.2 q6
          exact hQ _ _ hv
theorem u_M_expression (N : Nat)  (I : zI) (J : zJ) (Q : zI → zJ → Prop) (Q' : qH → Prop) (hQ : ∀ (I : zI) (J : zJ), Q I J → Q' (zH I J)) (hv : v_M_expression N  I J Q) : w_M_expression N 361 (zH I J) Q' := by
  unfold w_M_expression
  unfold v_M_expression at hv
  refine ⟨rfl, ?_⟩
  obtain ⟨I1, eI1⟩ : ∃ z, z = qu I 361 45 (0 : Int32) := ⟨_, rfl⟩
  have hv := hv I1 eI1
  intro h1 eh1
  have eh1 : h1 = zH I1 J := by rw [eh1, eI1]; rfl
  subst eh1
  refine ⟨rfl, ?_⟩
  intro y2 ey2
  have hv := hv y2 ey2
  refine u_M_expression_12 N N y2 (1 : Int32) I1 J Q _ hQ _ _ (fun w3 I4 J4 hv => ?_)  hv
  refine ⟨rfl, ?_⟩
  refine ⟨fun q5 => ?_, fun q5 => ?_⟩
  · have hv := hv.1 q5
    refine u_M_comesOut N (0 : Int32) I4 J4 _ _ (fun I6 J6 hv => ?_) hv
    exact hQ _ _ hv
  · have hv := hv.2 q5
    refine u_M_fail N (1 : Int32) I4 J4 _ _ (fun I7 J7 hv => ?_) hv
    refine ⟨rfl, ?_⟩
    refine u_M_comesOut N (0 : Int32) I7 J7 _ _ (fun I8 J8 hv => ?_) hv
    exact hQ _ _ hv
theorem u_M_term_24 (N : Nat)  (I : zI) (J : zJ) (Q : zI → zJ → Prop) (Q' : qH → Prop) (hQ : ∀ (I : zI) (J : zJ), Q I J → Q' (zH I J)) (hv : v_M_term_24 N  I J Q ) : w_M_term_24 N 361 (zH I J) Q'  := by
  unfold w_M_term_24
  unfold v_M_term_24 at hv
  refine ⟨rfl, ?_⟩
  obtain ⟨g1, hv⟩ := hv
  refine ⟨qok_mk rfl g1, ?_⟩
  obtain ⟨I2, eI2⟩ : ∃ z, z = qu I 387 ((I 361 35)).toNatClampNeg (I 361 41) := ⟨_, rfl⟩
  have hv := hv I2 eI2
  intro h2 eh2
  have eh2 : h2 = zH I2 J := by rw [eh2, eI2]; rfl
  subst eh2
  refine ⟨rfl, ?_⟩
  obtain ⟨I3, eI3⟩ : ∃ z, z = qu I2 361 35 ((I2 361 35) + (1 : Int32)) := ⟨_, rfl⟩
  have hv := hv I3 eI3
  intro h3 eh3
  have eh3 : h3 = zH I3 J := by rw [eh3, eI3]; rfl
  subst eh3
  exact hQ _ _ hv
theorem u_M_term (N : Nat)  (I : zI) (J : zJ) (Q : zI → zJ → Prop) (Q' : qH → Prop) (hQ : ∀ (I : zI) (J : zJ), Q I J → Q' (zH I J)) (hv : v_M_term N  I J Q) : w_M_term N 361 (zH I J) Q' := by
  unfold w_M_term
  unfold v_M_term at hv
  refine ⟨rfl, ?_⟩
  obtain ⟨g1, hv⟩ := hv
  refine ⟨qok_mk rfl g1, ?_⟩
  obtain ⟨I2, eI2⟩ : ∃ z, z = qu I 386 ((I 361 35)).toNatClampNeg (I 361 41) := ⟨_, rfl⟩
  have hv := hv I2 eI2
  intro h2 eh2
  have eh2 : h2 = zH I2 J := by rw [eh2, eI2]; rfl
  subst eh2
  refine ⟨rfl, ?_⟩
  refine ⟨fun q3 => ?_, fun q3 => ?_⟩
  · have hv := hv.1 q3
    exact u_M_term_24 N  I2 J Q _ hQ   hv
  · have hv := hv.2 q3
    refine u_M_expression N  I2 J _ _ (fun I4 J4 hv => ?_) hv
    exact u_M_term_24 N  I4 J4 Q _ hQ   hv
theorem u_M_tellLaw_38 (N : Nat) (x1 : Int32) (x2 : Int32) (x3 : Int32) (I : zI) (J : zJ) (Q : zI → zJ → Prop) (Q' : qH → Prop) (hQ : ∀ (I : zI) (J : zJ), Q I J → Q' (zH I J)) (K12 : Int32 → Int32 → Int32 → zI → zJ → Prop) (K12' : Nat → Int32 → Int32 → Int32 → qH → Prop) (hK12 : ∀ (x1 : Int32) (x2 : Int32) (x3 : Int32) (I : zI) (J : zJ), K12 x1 x2 x3 I J → K12' 361 x1 x2 x3 (zH I J)) (hv : v_M_tellLaw_38 N x1 x2 x3 I J Q K12) : w_M_tellLaw_38 N 361 x1 x2 x3 (zH I J) Q' K12' := by
  unfold w_M_tellLaw_38
  unfold v_M_tellLaw_38 at hv
  refine ⟨rfl, ?_⟩
  refine ⟨fun q1 => ?_, fun q1 => ?_⟩
  · have hv := hv.1 q1
    refine u_M_goesOn N  I J _ _ (fun I2 J2 hv => ?_) hv
    refine ⟨rfl, ?_⟩
    obtain ⟨g3, hv⟩ := hv
    refine ⟨qok_mk rfl g3, ?_⟩
    obtain ⟨I4, eI4⟩ : ∃ z, z = qu I2 383 ((I2 361 35)).toNatClampNeg (vp_nar .boolean (1 : Int32)) := ⟨_, rfl⟩
    have hv := hv I4 eI4
    intro h4 eh4
    have eh4 : h4 = zH I4 J2 := by rw [eh4, eI4]; rfl
    subst eh4
    refine ⟨rfl, ?_⟩
    obtain ⟨g5, hv⟩ := hv
    refine ⟨qok_mk rfl g5, ?_⟩
    obtain ⟨I6, eI6⟩ : ∃ z, z = qu I4 384 ((I4 361 35)).toNatClampNeg (I4 361 41) := ⟨_, rfl⟩
    have hv := hv I6 eI6
    intro h6 eh6
    have eh6 : h6 = zH I6 J2 := by rw [eh6, eI6]; rfl
    subst eh6
    refine ⟨rfl, ?_⟩
    refine u_M_expression N  I6 J2 _ _ (fun I7 J7 hv => ?_) hv
    refine ⟨rfl, ?_⟩
    refine u_M_must N (13 : Int32) I7 J7 _ _ (fun I8 J8 hv => ?_) hv
    refine ⟨rfl, ?_⟩
    obtain ⟨g9, hv⟩ := hv
    refine ⟨qok_mk rfl g9, ?_⟩
    obtain ⟨I10, eI10⟩ : ∃ z, z = qu I8 385 ((I8 361 35)).toNatClampNeg (I8 361 41) := ⟨_, rfl⟩
    have hv := hv I10 eI10
    intro h10 eh10
    have eh10 : h10 = zH I10 J8 := by rw [eh10, eI10]; rfl
    subst eh10
    refine ⟨rfl, ?_⟩
    refine ⟨fun q11 => ?_, fun q11 => ?_⟩
    · have hv := hv.1 q11
      refine u_M_must N (30 : Int32) I10 J8 _ _ (fun I12 J12 hv => ?_) hv
      refine ⟨rfl, ?_⟩
      refine u_M_term N  I12 J12 _ _ (fun I13 J13 hv => ?_) hv
      refine ⟨rfl, ?_⟩
      refine u_M_must N (31 : Int32) I13 J13 _ _ (fun I14 J14 hv => ?_) hv
      exact hK12 x1 x2 (x3 + (1 : Int32)) I14 J14 hv
    · have hv := hv.2 q11
      refine u_M_expression N  I10 J8 _ _ (fun I15 J15 hv => ?_) hv
      refine ⟨rfl, ?_⟩
      refine u_M_must N (30 : Int32) I15 J15 _ _ (fun I16 J16 hv => ?_) hv
      refine ⟨rfl, ?_⟩
      refine u_M_term N  I16 J16 _ _ (fun I17 J17 hv => ?_) hv
      refine ⟨rfl, ?_⟩
      refine u_M_must N (31 : Int32) I17 J17 _ _ (fun I18 J18 hv => ?_) hv
      exact hK12 x1 x2 (x3 + (1 : Int32)) I18 J18 hv
  · have hv := hv.2 q1
    exact hQ _ _ hv
theorem u_M_tellLaw_12 (N k : Nat) (x1 : Int32) (x2 : Int32) (x3 : Int32) (I : zI) (J : zJ) (Q : zI → zJ → Prop) (Q' : qH → Prop) (hQ : ∀ (I : zI) (J : zJ), Q I J → Q' (zH I J)) (K129 : Int32 → Int32 → zI → zJ → Prop) (K129' : Nat → Int32 → Int32 → qH → Prop) (hK129 : ∀ (x1 : Int32) (x2 : Int32) (I : zI) (J : zJ), K129 x1 x2 I J → K129' 361 x1 x2 (zH I J)) (hv : v_M_tellLaw_12 N k x1 x2 x3 I J Q K129) : w_M_tellLaw_12 N k 361 x1 x2 x3 (zH I J) Q' K129' := by
  induction k generalizing x1 x2 x3 I J with
  | zero => exact hv.elim
  | succ k ih =>
    rw [w_M_tellLaw_12]
    rw [v_M_tellLaw_12] at hv
    refine ⟨rfl, ?_⟩
    refine ⟨fun q1 => ?_, fun q1 => ?_⟩
    · have hv := hv.1 q1
      exact hK129 x1 x2 I J hv
    · have hv := hv.2 q1
      refine u_M_is N (29 : Int32) I J _ _ (fun r2 I3 J3 hv => ?_) hv
      refine ⟨fun q4 => ?_, fun q4 => ?_⟩
      · have hv := hv.1 q4
        exact hK129 x1 x2 I3 J3 hv
      · have hv := hv.2 q4
        refine ⟨fun q5 => ?_, fun q5 => ?_⟩
        · have hv := hv.1 q5
          exact u_M_tellLaw_38 N x1 x2 x3 I3 J3 Q _ hQ _ _ (fun x1 x2 x3 I J hv => ih x1 x2 x3 I J hv)  hv
        · have hv := hv.2 q5
          refine ⟨rfl, ?_⟩
          refine u_M_fail N (2 : Int32) I3 J3 _ _ (fun I6 J6 hv => ?_) hv
          exact u_M_tellLaw_38 N x1 x2 x3 I6 J6 Q _ hQ _ _ (fun x1 x2 x3 I J hv => ih x1 x2 x3 I J hv)  hv
theorem u_M_tellLaw_129 (N : Nat) (x1 : Int32) (x2 : Int32) (I : zI) (J : zJ) (Q : zI → zJ → Prop) (Q' : qH → Prop) (hQ : ∀ (I : zI) (J : zJ), Q I J → Q' (zH I J)) (hv : v_M_tellLaw_129 N x1 x2 I J Q ) : w_M_tellLaw_129 N 361 x1 x2 (zH I J) Q'  := by
  unfold w_M_tellLaw_129
  unfold v_M_tellLaw_129 at hv
  refine ⟨rfl, ?_⟩
  obtain ⟨g1, hv⟩ := hv
  refine ⟨qok_mk rfl g1, ?_⟩
  obtain ⟨I2, eI2⟩ : ∃ z, z = qu I 383 ((I 361 35)).toNatClampNeg (vp_nar .boolean (0 : Int32)) := ⟨_, rfl⟩
  have hv := hv I2 eI2
  intro h2 eh2
  have eh2 : h2 = zH I2 J := by rw [eh2, eI2]; rfl
  subst eh2
  refine ⟨rfl, ?_⟩
  refine u_M_term N  I2 J _ _ (fun I3 J3 hv => ?_) hv
  refine ⟨rfl, ?_⟩
  refine u_M_must N (4 : Int32) I3 J3 _ _ (fun I4 J4 hv => ?_) hv
  refine ⟨rfl, ?_⟩
  refine ⟨fun q5 => ?_, fun q5 => ?_⟩
  · have hv := hv.1 q5
    obtain ⟨g6, hv⟩ := hv
    refine ⟨qok_mk rfl g6, ?_⟩
    obtain ⟨I7, eI7⟩ : ∃ z, z = qu I4 381 ((((4 : Int32) * (I4 361 19)) + x1)).toNatClampNeg x2 := ⟨_, rfl⟩
    have hv := hv I7 eI7
    intro h7 eh7
    have eh7 : h7 = zH I7 J4 := by rw [eh7, eI7]; rfl
    subst eh7
    refine ⟨rfl, ?_⟩
    obtain ⟨g8, hv⟩ := hv
    refine ⟨qok_mk rfl g8, ?_⟩
    obtain ⟨I9, eI9⟩ : ∃ z, z = qu I7 382 ((((4 : Int32) * (I7 361 19)) + x1)).toNatClampNeg (I7 361 35) := ⟨_, rfl⟩
    have hv := hv I9 eI9
    intro h9 eh9
    have eh9 : h9 = zH I9 J4 := by rw [eh9, eI9]; rfl
    subst eh9
    exact hQ _ _ hv
  · have hv := hv.2 q5
    exact hQ _ _ hv
theorem u_M_tellLaw (N : Nat) (x1 : Int32) (I : zI) (J : zJ) (Q : zI → zJ → Prop) (Q' : qH → Prop) (hQ : ∀ (I : zI) (J : zJ), Q I J → Q' (zH I J)) (hv : v_M_tellLaw N x1 I J Q) : w_M_tellLaw N 361 x1 (zH I J) Q' := by
  unfold w_M_tellLaw
  unfold v_M_tellLaw at hv
  refine ⟨rfl, ?_⟩
  refine u_M_must N (5 : Int32) I J _ _ (fun I1 J1 hv => ?_) hv
  refine ⟨rfl, ?_⟩
  intro y2 ey2
  have hv := hv y2 ey2
  refine u_M_tellLaw_12 N N x1 y2 (0 : Int32) I1 J1 Q _ hQ _ _ (fun w3 w4 I5 J5 hv => ?_)  hv
  exact u_M_tellLaw_129 N w3 w4 I5 J5 Q _ hQ   hv
theorem u_M_tellOne_397 (N : Nat) (x1 : Int32) (I : zI) (J : zJ) (Q : zI → zJ → Prop) (Q' : qH → Prop) (hQ : ∀ (I : zI) (J : zJ), Q I J → Q' (zH I J)) (hv : v_M_tellOne_397 N x1 I J Q ) : w_M_tellOne_397 N 361 x1 (zH I J) Q'  := by
  unfold w_M_tellOne_397
  unfold v_M_tellOne_397 at hv
  refine ⟨rfl, ?_⟩
  refine u_M_fail N (1 : Int32) I J _ _ (fun I1 J1 hv => ?_) hv
  refine ⟨rfl, ?_⟩
  refine ⟨fun q2 => ?_, fun q2 => ?_⟩
  · have hv := hv.1 q2
    refine u_M_goesOn N  I1 J1 _ _ (fun I3 J3 hv => ?_) hv
    refine ⟨rfl, ?_⟩
    refine u_M_tellLaw N x1 I3 J3 _ _ (fun I4 J4 hv => ?_) hv
    exact hQ _ _ hv
  · have hv := hv.2 q2
    exact hQ _ _ hv
theorem u_M_tellOne (N : Nat)  (I : zI) (J : zJ) (Q : zI → zJ → Prop) (Q' : qH → Prop) (hQ : ∀ (I : zI) (J : zJ), Q I J → Q' (zH I J)) (hv : v_M_tellOne N  I J Q) : w_M_tellOne N 361 (zH I J) Q' := by
  unfold w_M_tellOne
  unfold v_M_tellOne at hv
  refine ⟨rfl, ?_⟩
  obtain ⟨g1, hv⟩ := hv
  refine ⟨qok_mk rfl g1, ?_⟩
  intro y2 ey2
  have hv := hv y2 ey2
  refine ⟨fun q3 => ?_, fun q3 => ?_⟩
  · have hv := hv.1 q3
    obtain ⟨g4, hv⟩ := hv
    refine ⟨qok_mk rfl g4, ?_⟩
    refine u_M_roomFor N (I 371 ((I 361 19)).toNatClampNeg) (7 : Int32) I J _ _ (fun I5 J5 hv => ?_) hv
    refine ⟨rfl, ?_⟩
    refine ⟨fun q6 => ?_, fun q6 => ?_⟩
    · have hv := hv.1 q6
      obtain ⟨g7, hv⟩ := hv
      refine ⟨qok_mk rfl g7, ?_⟩
      intro y8 ey8
      have hv := hv y8 ey8
      refine u_M_named N  I5 J5 _ _ (fun r9 I10 J10 hv => ?_) hv
      refine ⟨rfl, ?_⟩
      refine u_M_bounded N (0 : Int32) (4 : Int32) I10 J10 _ _ (fun r11 I12 J12 hv => ?_) hv
      obtain ⟨g13, hv⟩ := hv
      refine ⟨qok_mk rfl g13, ?_⟩
      obtain ⟨I14, eI14⟩ : ∃ z, z = qu I12 372 (y8).toNatClampNeg r11 := ⟨_, rfl⟩
      have hv := hv I14 eI14
      intro h14 eh14
      have eh14 : h14 = zH I14 J12 := by rw [eh14, eI14]; rfl
      subst eh14
      refine ⟨rfl, ?_⟩
      refine u_M_bounded N (0 : Int32) (99 : Int32) I14 J12 _ _ (fun r15 I16 J16 hv => ?_) hv
      obtain ⟨g17, hv⟩ := hv
      refine ⟨qok_mk rfl g17, ?_⟩
      obtain ⟨I18, eI18⟩ : ∃ z, z = qu I16 373 (y8).toNatClampNeg r15 := ⟨_, rfl⟩
      have hv := hv I18 eI18
      intro h18 eh18
      have eh18 : h18 = zH I18 J16 := by rw [eh18, eI18]; rfl
      subst eh18
      refine ⟨rfl, ?_⟩
      obtain ⟨g19, hv⟩ := hv
      refine ⟨qok_mk rfl g19, ?_⟩
      refine u_M_endsName N r9 (I18 371 ((I18 361 19)).toNatClampNeg) I18 J16 _ _ (fun I20 J20 hv => ?_) hv
      refine ⟨rfl, ?_⟩
      refine ⟨fun q21 => ?_, fun q21 => ?_⟩
      · have hv := hv.1 q21
        exact hQ _ _ hv
      · have hv := hv.2 q21
        obtain ⟨g22, hv⟩ := hv
        refine ⟨qok_mk rfl g22, ?_⟩
        obtain ⟨I23, eI23⟩ : ∃ z, z = qu I20 371 ((I20 361 19)).toNatClampNeg ((I20 371 ((I20 361 19)).toNatClampNeg) + (1 : Int32)) := ⟨_, rfl⟩
        have hv := hv I23 eI23
        intro h23 eh23
        have eh23 : h23 = zH I23 J20 := by rw [eh23, eI23]; rfl
        subst eh23
        exact hQ _ _ hv
    · have hv := hv.2 q6
      exact hQ _ _ hv
  · have hv := hv.2 q3
    refine ⟨fun q24 => ?_, fun q24 => ?_⟩
    · have hv := hv.1 q24
      obtain ⟨g25, hv⟩ := hv
      refine ⟨qok_mk rfl g25, ?_⟩
      refine u_M_roomFor N (I 374 ((I 361 19)).toNatClampNeg) (6 : Int32) I J _ _ (fun I26 J26 hv => ?_) hv
      refine ⟨rfl, ?_⟩
      refine ⟨fun q27 => ?_, fun q27 => ?_⟩
      · have hv := hv.1 q27
        obtain ⟨g28, hv⟩ := hv
        refine ⟨qok_mk rfl g28, ?_⟩
        intro y29 ey29
        have hv := hv y29 ey29
        refine u_M_named N  I26 J26 _ _ (fun r30 I31 J31 hv => ?_) hv
        refine ⟨rfl, ?_⟩
        refine u_M_bounded N (0 : Int32) (99 : Int32) I31 J31 _ _ (fun r32 I33 J33 hv => ?_) hv
        obtain ⟨g34, hv⟩ := hv
        refine ⟨qok_mk rfl g34, ?_⟩
        obtain ⟨I35, eI35⟩ : ∃ z, z = qu I33 375 (y29).toNatClampNeg r32 := ⟨_, rfl⟩
        have hv := hv I35 eI35
        intro h35 eh35
        have eh35 : h35 = zH I35 J33 := by rw [eh35, eI35]; rfl
        subst eh35
        refine ⟨rfl, ?_⟩
        refine u_M_bounded N (0 : Int32) (9 : Int32) I35 J33 _ _ (fun r36 I37 J37 hv => ?_) hv
        obtain ⟨g38, hv⟩ := hv
        refine ⟨qok_mk rfl g38, ?_⟩
        obtain ⟨I39, eI39⟩ : ∃ z, z = qu I37 376 (y29).toNatClampNeg r36 := ⟨_, rfl⟩
        have hv := hv I39 eI39
        intro h39 eh39
        have eh39 : h39 = zH I39 J37 := by rw [eh39, eI39]; rfl
        subst eh39
        refine ⟨rfl, ?_⟩
        obtain ⟨g40, hv⟩ := hv
        refine ⟨qok_mk rfl g40, ?_⟩
        refine u_M_endsName N r30 ((10 : Int32) + (I39 374 ((I39 361 19)).toNatClampNeg)) I39 J37 _ _ (fun I41 J41 hv => ?_) hv
        refine ⟨rfl, ?_⟩
        refine ⟨fun q42 => ?_, fun q42 => ?_⟩
        · have hv := hv.1 q42
          exact hQ _ _ hv
        · have hv := hv.2 q42
          obtain ⟨g43, hv⟩ := hv
          refine ⟨qok_mk rfl g43, ?_⟩
          obtain ⟨I44, eI44⟩ : ∃ z, z = qu I41 374 ((I41 361 19)).toNatClampNeg ((I41 374 ((I41 361 19)).toNatClampNeg) + (1 : Int32)) := ⟨_, rfl⟩
          have hv := hv I44 eI44
          intro h44 eh44
          have eh44 : h44 = zH I44 J41 := by rw [eh44, eI44]; rfl
          subst eh44
          exact hQ _ _ hv
      · have hv := hv.2 q27
        exact hQ _ _ hv
    · have hv := hv.2 q24
      refine ⟨fun q45 => ?_, fun q45 => ?_⟩
      · have hv := hv.1 q45
        obtain ⟨g46, hv⟩ := hv
        refine ⟨qok_mk rfl g46, ?_⟩
        refine u_M_roomFor N (I 378 ((I 361 19)).toNatClampNeg) (6 : Int32) I J _ _ (fun I47 J47 hv => ?_) hv
        refine ⟨rfl, ?_⟩
        refine ⟨fun q48 => ?_, fun q48 => ?_⟩
        · have hv := hv.1 q48
          exact hQ _ _ hv
        · have hv := hv.2 q48
          refine u_M_tellHangs N  I47 J47 _ _ (fun I49 J49 hv => ?_) hv
          exact hQ _ _ hv
      · have hv := hv.2 q45
        refine ⟨fun q50 => ?_, fun q50 => ?_⟩
        · have hv := hv.1 q50
          intro y51 ey51
          have hv := hv y51 ey51
          refine ⟨fun q52 => ?_, fun q52 => ?_⟩
          · have hv := hv.1 q52
            exact u_M_tellOne_397 N y51 I J Q _ hQ   hv
          · have hv := hv.2 q52
            refine ⟨fun q53 => ?_, fun q53 => ?_⟩
            · have hv := hv.1 q53
              refine ⟨fun q54 => ?_, fun q54 => ?_⟩
              · have hv := hv.1 q54
                refine u_M_goesOn N  I J _ _ (fun I55 J55 hv => ?_) hv
                refine ⟨rfl, ?_⟩
                refine u_M_tellLaw N y51 I55 J55 _ _ (fun I56 J56 hv => ?_) hv
                exact hQ _ _ hv
              · have hv := hv.2 q54
                exact hQ _ _ hv
            · have hv := hv.2 q53
              exact u_M_tellOne_397 N y51 I J Q _ hQ   hv
        · have hv := hv.2 q50
          refine ⟨fun q57 => ?_, fun q57 => ?_⟩
          · have hv := hv.1 q57
            intro y58 ey58
            have hv := hv y58 ey58
            refine ⟨fun q59 => ?_, fun q59 => ?_⟩
            · have hv := hv.1 q59
              exact u_M_tellOne_397 N y58 I J Q _ hQ   hv
            · have hv := hv.2 q59
              refine ⟨fun q60 => ?_, fun q60 => ?_⟩
              · have hv := hv.1 q60
                refine ⟨fun q61 => ?_, fun q61 => ?_⟩
                · have hv := hv.1 q61
                  refine u_M_goesOn N  I J _ _ (fun I62 J62 hv => ?_) hv
                  refine ⟨rfl, ?_⟩
                  refine u_M_tellLaw N y58 I62 J62 _ _ (fun I63 J63 hv => ?_) hv
                  exact hQ _ _ hv
                · have hv := hv.2 q61
                  exact hQ _ _ hv
              · have hv := hv.2 q60
                exact u_M_tellOne_397 N y58 I J Q _ hQ   hv
          · have hv := hv.2 q57
            refine ⟨fun q64 => ?_, fun q64 => ?_⟩
            · have hv := hv.1 q64
              intro y65 ey65
              have hv := hv y65 ey65
              refine ⟨fun q66 => ?_, fun q66 => ?_⟩
              · have hv := hv.1 q66
                exact u_M_tellOne_397 N y65 I J Q _ hQ   hv
              · have hv := hv.2 q66
                refine ⟨fun q67 => ?_, fun q67 => ?_⟩
                · have hv := hv.1 q67
                  refine ⟨fun q68 => ?_, fun q68 => ?_⟩
                  · have hv := hv.1 q68
                    refine u_M_goesOn N  I J _ _ (fun I69 J69 hv => ?_) hv
                    refine ⟨rfl, ?_⟩
                    refine u_M_tellLaw N y65 I69 J69 _ _ (fun I70 J70 hv => ?_) hv
                    exact hQ _ _ hv
                  · have hv := hv.2 q68
                    exact hQ _ _ hv
                · have hv := hv.2 q67
                  exact u_M_tellOne_397 N y65 I J Q _ hQ   hv
            · have hv := hv.2 q64
              refine ⟨fun q71 => ?_, fun q71 => ?_⟩
              · have hv := hv.1 q71
                intro y72 ey72
                have hv := hv y72 ey72
                refine ⟨fun q73 => ?_, fun q73 => ?_⟩
                · have hv := hv.1 q73
                  exact u_M_tellOne_397 N y72 I J Q _ hQ   hv
                · have hv := hv.2 q73
                  refine ⟨fun q74 => ?_, fun q74 => ?_⟩
                  · have hv := hv.1 q74
                    refine ⟨fun q75 => ?_, fun q75 => ?_⟩
                    · have hv := hv.1 q75
                      refine u_M_goesOn N  I J _ _ (fun I76 J76 hv => ?_) hv
                      refine ⟨rfl, ?_⟩
                      refine u_M_tellLaw N y72 I76 J76 _ _ (fun I77 J77 hv => ?_) hv
                      exact hQ _ _ hv
                    · have hv := hv.2 q75
                      exact hQ _ _ hv
                  · have hv := hv.2 q74
                    exact u_M_tellOne_397 N y72 I J Q _ hQ   hv
              · have hv := hv.2 q71
                refine ⟨fun q78 => ?_, fun q78 => ?_⟩
                · have hv := hv.1 q78
                  refine u_M_goesOn N  I J _ _ (fun I79 J79 hv => ?_) hv
                  refine ⟨rfl, ?_⟩
                  refine u_M_bounded N (0 : Int32) (100 : Int32) I79 J79 _ _ (fun r80 I81 J81 hv => ?_) hv
                  obtain ⟨g82, hv⟩ := hv
                  refine ⟨qok_mk rfl g82, ?_⟩
                  obtain ⟨I83, eI83⟩ : ∃ z, z = qu I81 379 ((I79 361 19)).toNatClampNeg r80 := ⟨_, rfl⟩
                  have hv := hv I83 eI83
                  intro h83 eh83
                  have eh83 : h83 = zH I83 J81 := by rw [eh83, eI83]; rfl
                  subst eh83
                  refine ⟨rfl, ?_⟩
                  refine u_M_must N (4 : Int32) I83 J81 _ _ (fun I84 J84 hv => ?_) hv
                  exact hQ _ _ hv
                · have hv := hv.2 q78
                  refine ⟨fun q85 => ?_, fun q85 => ?_⟩
                  · have hv := hv.1 q85
                    refine u_M_goesOn N  I J _ _ (fun I86 J86 hv => ?_) hv
                    refine ⟨rfl, ?_⟩
                    refine u_M_bounded N (0 : Int32) (9999 : Int32) I86 J86 _ _ (fun r87 I88 J88 hv => ?_) hv
                    obtain ⟨g89, hv⟩ := hv
                    refine ⟨qok_mk rfl g89, ?_⟩
                    obtain ⟨I90, eI90⟩ : ∃ z, z = qu I88 380 ((I86 361 19)).toNatClampNeg r87 := ⟨_, rfl⟩
                    have hv := hv I90 eI90
                    intro h90 eh90
                    have eh90 : h90 = zH I90 J88 := by rw [eh90, eI90]; rfl
                    subst eh90
                    refine ⟨rfl, ?_⟩
                    refine u_M_must N (4 : Int32) I90 J88 _ _ (fun I91 J91 hv => ?_) hv
                    exact hQ _ _ hv
                  · have hv := hv.2 q85
                    intro y92 ey92
                    have hv := hv y92 ey92
                    refine ⟨fun q93 => ?_, fun q93 => ?_⟩
                    · have hv := hv.1 q93
                      exact u_M_tellOne_397 N y92 I J Q _ hQ   hv
                    · have hv := hv.2 q93
                      refine ⟨fun q94 => ?_, fun q94 => ?_⟩
                      · have hv := hv.1 q94
                        refine ⟨fun q95 => ?_, fun q95 => ?_⟩
                        · have hv := hv.1 q95
                          refine u_M_goesOn N  I J _ _ (fun I96 J96 hv => ?_) hv
                          refine ⟨rfl, ?_⟩
                          refine u_M_tellLaw N y92 I96 J96 _ _ (fun I97 J97 hv => ?_) hv
                          exact hQ _ _ hv
                        · have hv := hv.2 q95
                          exact hQ _ _ hv
                      · have hv := hv.2 q94
                        exact u_M_tellOne_397 N y92 I J Q _ hQ   hv
