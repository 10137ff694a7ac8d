/-! reading: all of the reference's read -/
theorem z_nat256 (y : Int32) : ((y.toBitVec.toNat : Nat) : Int) % 256 = y.toInt % 256 := by
  have h : y.toInt = if 2 * y.toBitVec.toNat < 2 ^ 32 then (y.toBitVec.toNat : Int) else (y.toBitVec.toNat : Int) - ((2 ^ 32 : Nat) : Int) := BitVec.toInt_eq_toNat_cond y.toBitVec
  rw [h]
  split
  · rfl
  · generalize (y.toBitVec.toNat : Int) = a
    have e : ((2 ^ 32 : Nat) : Int) = 256 * 16777216 := by decide
    rw [e]
    generalize (16777216 : Int) = k
    omega
theorem z_by8 (x : Int32) : x.toInt8.toInt32 &&& 255 = x &&& 255 := by
  have hm : (255 : Int32).toBitVec.toNat = 2 ^ 8 - 1 := by decide
  rw [pk_and _ 8 hm, pk_and x 8 hm]
  have e : (x.toInt8.toInt32).toInt = (x.toInt).bmod 256 := by simp [Int32.toInt_toInt8]
  have h1 := z_nat256 x
  have h2 := z_nat256 (x.toInt8.toInt32)
  rw [e] at h2
  refine congrArg nI ?_
  generalize (x.toInt8.toInt32).toBitVec.toNat = b at *
  generalize x.toBitVec.toNat = a at *
  generalize x.toInt = t at *
  have h3 : t.bmod 256 % 256 = t % 256 := by
    unfold Int.bmod
    simp only []
    split <;> omega
  rw [h3, ← h1] at h2
  show b % 256 = a % 256
  omega
section
variable {B : Nat → Nat} {n : Nat}
abbrev zRd (s b l : Nat) : Prop := b = 363 ∨ (364 ≤ b ∧ b ≤ 366) ∨ (b = 361 ∧ (l = 2 ∨ l = 4 ∨ 10 ≤ l ∧ l ≤ 17 ∨ l = 19 ∨ l = 20 ∨ l = 35 ∨ l = 41 ∨ l = 45)) ∨ zOwn s b l
theorem mT_of {I : zI} {J : zJ} {s i o b : Nat} {g : zG} {af : Nat → Nat} (hs : s < 2) (h18 : I 361 18 = nI s) (hi : i ≤ 400) (hG : zGm I J B n s i g o b af) : mT I (zXg g) s := by
  obtain ⟨hH, hP, hN, hHg, hML, hMo, ⟨hW, hWb⟩, h12, ⟨h41, ho1, ho2⟩, ⟨h35, hb1, hb2⟩, hon⟩ := hG
  refine ⟨hs, h18, hH.1, hP.1, fun h hh => (hH.2.2 h hh).1, fun h hh => (hH.2.2 h hh).2, fun p hp => (hP.2.2 p hp).2, hMo.1, hMo.2, fun k hk => ?_⟩
  have h := hML k hk
  show mLaw I s k ((gL g k).getD (zplain k))
  cases e : gL g k with
  | none =>
    rw [e] at h
    exact Or.inl ⟨h.1.trans h.2.symm, rfl⟩
  | some w =>
    rw [e] at h
    obtain ⟨b1, g1, g2, g3, g4, g5, g6⟩ := h
    exact Or.inr ⟨b1, ⟨by show b1 + w.1.length < 260; omega, by omega, by show (b1 + w.1.length) / 130 = s; omega⟩, g3, g4, zBs_br w.1 b1 g5 g6⟩
theorem s_M_read {I : zI} {J : zJ} {live s : Nat} (hl : live < 2) (es : s = 1 - live) (h18 : I 361 18 = nI live) (hn : n ≤ 2000) (h2 : I 361 2 = nI n) (hB : ∀ i, i < n → I 362 i &&& 255 = nI (B i)) (hB2 : ∀ i, B i < 256) (hK : rKeys J) {Q : Int32 → zI → zJ → Prop} (hbad : ¬ zrF (zR1 B n) = 0 → ∀ (I' : zI) (J' : zJ), (∀ b l, ¬ zRd s b l → I' b l = I b l) → (∀ b l, b ≠ 367 → b ≠ 369 → J' b l = J b l) → I' 361 17 = zrP (zpsn B n) (zR1 B n) → I' 361 2 = 0 → Q (nI (zrF (zR1 B n))) I' J') (hok : ∀ g, zR1 B n = .inr g → (gW g).1 = 0 → ∀ (I' : zI) (J' : zJ), (∀ b l, b < 361 → I' b l = I b l) → (∀ b l, b ≠ 367 → b ≠ 369 → J' b l = J b l) → I' 361 17 = zrP (zpsn B n) (zR1 B n) → I' 361 2 = 0 → mT I' (zXg g) s → mS I' (gH g).1 (gP g).1 393 0 (zSg g) → I' 361 57 = 0 → I' 361 63 = 0 → (∀ p, p < 3 → I' 408 p = 0) → Q 0 I' J') : v_M_read 5000 I J Q := by
  have hs : s < 2 := by omega
  intro I1 e1
  rw [h2] at e1
  have o1 : ∀ b l, ¬ (b = 361 ∧ l = 4) → I1 b l = I b l := fun b l q => by rw [e1, qu_off (by omega)]
  refine m_read10 hn n 0 5000 I1 (by rw [e1, qu_same]) (by omega) (by omega) (fun I2 o2 _ h2' I3 e3 => ?_)
  have o3 : ∀ b l, ¬ (b = 361 ∧ l = 2) → I3 b l = I2 b l := fun b l q => by rw [e3, qu_off (by omega)]
  have hBm : zBm I3 B n := ⟨hn, by rw [o3 _ _ (by omega), o2 _ _ (by omega), e1, qu_same], fun i hi => by rw [o3 _ _ (by omega), h2' i (Nat.zero_le _) hi, z_by8, o1 _ _ (by omega)]; exact hB i hi, hB2⟩
  refine s_cut hBm hK (fun I4 J4 o4 j4 t4 I5 e5 I6 e6 I7 e7 I8 e8 I9 e9 I10 e10 => ?_)
  have x4 : ∀ b l, ¬ (b = 361 ∧ (l = 2 ∨ l = 4 ∨ l = 10)) → b ≠ 363 → ¬ (364 ≤ b ∧ b ≤ 366) → I4 b l = I b l := fun b l q1 q2 q3 => by rw [o4 b l (by omega) q3, o3 b l (by omega), o2 b l q2, o1 b l (by omega)]
  have v2 : I4 361 2 = 0 := by rw [o4 _ _ (by omega) (by omega), e3, qu_same]
  have o8 : ∀ b l, ¬ (b = 361 ∧ (l = 11 ∨ l = 12 ∨ l = 13 ∨ l = 15)) → I8 b l = I4 b l := fun b l q => by rw [e8, qu_off (by omega), e7, qu_off (by omega), e6, qu_off (by omega), e5, qu_off (by omega)]
  rw [o8 361 18 (by omega), x4 361 18 (by omega) (by omega) (by omega), h18, show (1 : Int32) - nI live = nI (1 - live) from nI_sub (a := 1) (by omega), ← es] at e9
  have o10 : ∀ b l, ¬ (b = 361 ∧ (l = 11 ∨ l = 12 ∨ l = 13 ∨ l = 15 ∨ l = 19 ∨ l = 20)) → I10 b l = I4 b l := fun b l q => by rw [e10, qu_off (by omega), e9, qu_off (by omega), o8 b l (by omega)]
  have v19 : I10 361 19 = nI s := by rw [e10, qu_off (by decide), e9, qu_same]
  have v20 : I10 361 20 = 0 := by rw [e10, qu_same]
  have v15 : I10 361 15 = 0 := by rw [e10, qu_off (by decide), e9, qu_off (by decide), e8, qu_same]
  have v13 : I10 361 13 = 0 := by rw [e10, qu_off (by decide), e9, qu_off (by decide), e8, qu_off (by decide), e7, qu_same]
  have v12 : I10 361 12 = 0 := by rw [e10, qu_off (by decide), e9, qu_off (by decide), e8, qu_off (by decide), e7, qu_off (by decide), e6, qu_same]
  have v11 : I10 361 11 = 0 := by rw [e10, qu_off (by decide), e9, qu_off (by decide), e8, qu_off (by decide), e7, qu_off (by decide), e6, qu_off (by decide), e5, qu_same]
  rw [v19]
  refine m_plain hs (fun I11 o11 c11 p11 l11 I12 e12 I13 e13 => ?_)
  have y11 : ∀ l, I11 361 l = I10 361 l := fun l => o11 _ _ (by omega) (by omega) (by omega)
  rw [y11, v19, show (130 : Int32) * nI s = nI (130 * s) from nI_mul 130 s] at e12
  have o12 : ∀ b l, ¬ (b = 361 ∧ l = 35) → I12 b l = I11 b l := fun b l q => by rw [e12, qu_off (by omega)]
  rw [o12 _ _ (by omega), y11, v19, show (420 : Int32) * nI s = nI (420 * s) from nI_mul 420 s] at e13
  have o13 : ∀ b l, ¬ (b = 361 ∧ (l = 35 ∨ l = 41)) → I13 b l = I11 b l := fun b l q => by rw [e13, qu_off (by omega), o12 b l (by omega)]
  have x13 : ∀ b l, ¬ zRd s b l → I13 b l = I b l := fun b l q => by
    have q1 : ¬ (b = 361 ∧ (l = 2 ∨ l = 4 ∨ 10 ≤ l ∧ l ≤ 17 ∨ l = 19 ∨ l = 20 ∨ l = 35 ∨ l = 41 ∨ l = 45)) := fun z => q (Or.inr (Or.inr (Or.inl z)))
    rw [o13 b l (by omega), o11 b l (fun z => q (Or.inr (Or.inr (Or.inr (own_one z.1 z.2))))) (fun z => q (Or.inr (Or.inr (Or.inr (own_on (by omega) z.2.1 z.2.2))))) (fun z => q (Or.inr (Or.inr (Or.inr (own_law z.1 z.2.1 z.2.2))))), o10 b l (by omega), x4 b l (by omega) (fun z => q (Or.inl z)) (fun z => q (Or.inr (Or.inl z)))]
  have y13 : ∀ l, l ≠ 35 → l ≠ 41 → I13 361 l = I10 361 l := fun l q1 q2 => by rw [o13 _ _ (by omega), y11]
  have hM : zM I13 J4 B n s 0 := by
    refine ⟨by rw [y13 _ (by omega) (by omega), v11]; rfl, by rw [y13 _ (by omega) (by omega)]; exact v13, by rw [y13 _ (by omega) (by omega)]; exact v19, hs, fun j hj hg => ?_, by decide, fun j hj => absurd hj (Nat.not_lt_zero _)⟩
    obtain ⟨g1, g2, g3, g4⟩ := t4 j hj hg
    have ee : ∀ b l, 364 ≤ b → b ≤ 366 → I13 b l = I4 b l := fun b l q1 q2 => by rw [o13 b l (by omega), o11 b l (by omega) (by omega) (by omega), o10 b l (by omega)]
    exact ⟨by rw [ee _ _ (by omega) (by omega)]; exact g1, by rw [ee _ _ (by omega) (by omega)]; exact g2, fun z => by rw [ee _ _ (by omega) (by omega)]; exact g3 z, g4⟩
  have c13 : ∀ b, b = 371 ∨ b = 374 ∨ b = 378 ∨ b = 379 ∨ b = 380 → I13 b s = 0 := fun b hb => by rw [o13 _ _ (by omega)]; exact c11 b hb
  have hG : zGm I13 J4 B n s 0 zg0 (420 * s) (130 * s) (fun _ => 0) := by
    refine ⟨⟨by rw [c13 _ (by omega)]; rfl, Nat.zero_le _, fun j hj => absurd hj (Nat.not_lt_zero _)⟩, ⟨by rw [c13 _ (by omega)]; rfl, Nat.zero_le _, fun j hj => absurd hj (Nat.not_lt_zero _)⟩, ⟨by rw [y13 _ (by omega) (by omega), v20]; rfl, fun k hk => absurd hk (Nat.not_lt_zero _), fun w => rfl, fun w => rfl, fun w => rfl⟩, ⟨by rw [c13 _ (by omega)]; rfl, Nat.zero_le _, fun p hp => by rw [o13 _ _ (by omega)]; exact p11 p hp⟩, fun k hk => ⟨by rw [o13 _ _ (by omega)]; exact (l11 k hk).1, by rw [o13 _ _ (by omega)]; exact (l11 k hk).2⟩, ⟨by rw [c13 _ (by omega)]; rfl, by rw [c13 _ (by omega)]; rfl⟩, ⟨⟨by rw [y13 _ (by omega) (by omega), v15]; rfl, fun z => absurd rfl z, by decide, Nat.zero_le _⟩, fun z => absurd rfl z⟩, by rw [y13 _ (by omega) (by omega)]; exact v12, ⟨by rw [e13, qu_same], Nat.le_refl _, by omega⟩, ⟨by rw [e13, qu_off (by decide), e12, qu_same], Nat.le_refl _, by omega⟩, fun p _ => rfl⟩
  have v2' : I13 361 2 = 0 := by rw [y13 _ (by omega) (by omega), o10 _ _ (by omega)]; exact v2
  have v18 : I13 361 18 = nI live := by rw [x13 _ _ (by omega)]; exact h18
  have fj : ∀ {J' : zJ}, frMJ J4 J' → ∀ b l, b ≠ 367 → b ≠ 369 → J' b l = J b l := fun h b l q1 q2 => by rw [h b l q2, j4 b l q1]
  refine m_112 hn 401 0 5000 zg0 (420 * s) (130 * s) (fun _ => 0) I13 J4 hM hG (by decide) (by decide) (fun g eg I14 J14 i' o' b' af' f14 j14 m14 g14 => ?_) (fun k j ej I14 J14 f14 j14 d14 => ?_)
  · have eF : zrF (zR1 B n) = (gW g).1 := by unfold zrF; rw [show zR1 B n = _ from eg]
    have eP : zrP (zpsn B n) (zR1 B n) = if (gW g).1 = 0 then -1 else nI (gW g).2 := by unfold zrP; rw [show zR1 B n = _ from eg]
    rw [eF, eP] at hbad
    rw [eP] at hok
    obtain ⟨hH, hP, hN, hHg, hML, hMo, ⟨hW, hWb⟩, h12, ⟨h41, ho1, ho2⟩, ⟨h35, hb1, hb2⟩, hon⟩ := id g14
    have w10 := hW.2.2.1
    have lP := hP.2.1
    have lH := hH.2.1
    have i400 := m14.2.2.2.2.2.1
    unfold v_M_read_134
    rw [hW.1]
    refine z_y m14.le ⟨fun q => ?_, fun q => ?_⟩
    · have q := (nI_leI (b := 0) (by omega) (by decide)).mp q
      have q0 : (gW g).1 = 0 := by omega
      rw [if_pos q0] at hok
      intro A1 a1
      have oA : ∀ b l, ¬ (b = 361 ∧ l = 17) → A1 b l = I14 b l := fun b l q => by rw [a1, qu_off (by omega)]
      rw [oA 361 13 (by omega), oA 361 15 (by omega), hW.1, oA 361 19 (by omega), m14.2.2.1]
      refine z_y m14.le (z_y (by rw [q0]; decide) (fun A4 a4 => ?_))
      have oB : ∀ b l, ¬ (b = 361 ∧ (l = 17 ∨ l = 18)) → A4 b l = I14 b l := fun b l q => by rw [a4, qu_off (by omega), oA b l (by omega)]
      have w18 : A4 361 18 = nI s := by rw [a4, qu_same]
      refine m_begins2 32 0 5000 A4 (by decide) (by decide) (fun p hp => absurd hp (Nat.not_lt_zero _)) (fun A5 o5 h5 => m_begins23 6 0 5000 A5 (by decide) (by decide) (fun p hp => absurd hp (Nat.not_lt_zero _)) (fun A6 o6 h6 => m_begins58 hs lP (gP g).1 0 5000 A6 (by rw [o6 _ _ (by omega), o5 _ _ (by omega)]; exact w18) (by rw [o6 _ _ (by omega), o5 _ _ (by omega), oB _ _ (by omega)]; exact hP.1) (by omega) (by omega) (fun p hp => absurd hp (Nat.not_lt_zero _)) (fun A7 o7 h7 g7 => ?_)))
      have p7 : ∀ b l, b ≠ 394 → A7 b l = A4 b l := fun b l q => by rw [o7 b l (by omega), o6 b l (by omega), o5 b l q]
      rw [p7 361 18 (by omega), w18, nI_clamp (by omega)]
      refine ⟨vp_in_nI hs (by decide), fun A8 a8 A9 a9 => ?_⟩
      have o9 : ∀ b l, ¬ (b = 361 ∧ (l = 51 ∨ l = 52)) → A9 b l = A7 b l := fun b l q => by rw [a9, qu_off (by omega), a8, qu_off (by omega)]
      refine m_keepsRow 32 0 5000 A9 (by decide) (by decide) (fun p hp => absurd hp (Nat.not_lt_zero _)) (fun C1 oc1 hc1 C2 ec2 C3 ec3 => m_219 3 0 5000 C3 (by decide) (by decide) (fun p hp => absurd hp (Nat.not_lt_zero _)) (fun C4 oc4 hc4 => ?_))
      have oc3 : ∀ b l, ¬ (b = 361 ∧ (l = 57 ∨ l = 63)) → C3 b l = C1 b l := fun b l q => by rw [ec3, qu_off (by omega), ec2, qu_off (by omega)]
      have fin : ∀ b l, b ≠ 408 → b ≠ 393 → b ≠ 394 → ¬ (b = 361 ∧ (l = 57 ∨ l = 63 ∨ l = 51 ∨ l = 52)) → C4 b l = A4 b l := fun b l q1 q2 q3 q4 => by rw [oc4 b l q1, oc3 b l (by omega), oc1 b l q2, o9 b l (by omega), p7 b l q3]
      have fin2 : ∀ b l, b ≠ 408 → b ≠ 393 → b ≠ 394 → ¬ (b = 361 ∧ (l = 57 ∨ l = 63 ∨ l = 51 ∨ l = 52 ∨ l = 17 ∨ l = 18)) → C4 b l = I14 b l := fun b l q1 q2 q3 q4 => by rw [fin b l q1 q2 q3 (by omega), oB b l (by omega)]
      have now : ∀ p, p < 32 → C4 393 p = A7 394 p := fun p hp => by rw [oc4 _ _ (by omega), oc3 _ _ (by omega), hc1 p hp, o9 _ _ (by omega)]
      have gC : zGm C4 J14 B n s i' g o' b' af' := by
        have ff : ∀ b l, ¬ (b = 361 ∧ (l = 57 ∨ l = 63 ∨ l = 51 ∨ l = 52 ∨ l = 17 ∨ l = 18)) → 361 ≤ b → b ≤ 392 → C4 b l = I14 b l := fun b l q1 q2 q3 => fin2 b l (by omega) (by omega) (by omega) q1
        exact ⟨hH.kept (ff _ _ (by omega) (by omega) (by omega)) (fun j => ff _ _ (by omega) (by omega) (by omega)) (fun j => ff _ _ (by omega) (by omega) (by omega)), hP.kept (ff _ _ (by omega) (by omega) (by omega)) (fun j => ff _ _ (by omega) (by omega) (by omega)) (fun j => ff _ _ (by omega) (by omega) (by omega)), hN.kept (ff _ _ (by omega) (by omega) (by omega)) (fun j => ff _ _ (by omega) (by omega) (by omega)) rfl, hHg.kept (ff _ _ (by omega) (by omega) (by omega)) (fun j => ff _ _ (by omega) (by omega) (by omega)), hML.kept (fun a j q1 q2 => ff _ _ (by omega) (by omega) (by omega)), ⟨by rw [ff _ _ (by omega) (by omega) (by omega)]; exact hMo.1, by rw [ff _ _ (by omega) (by omega) (by omega)]; exact hMo.2⟩, ⟨hW.kept (fun l q => ff _ _ (by omega) (by omega) (by omega)), hWb⟩, by rw [ff _ _ (by omega) (by omega) (by omega)]; exact h12, ⟨by rw [ff _ _ (by omega) (by omega) (by omega)]; exact h41, ho1, ho2⟩, ⟨by rw [ff _ _ (by omega) (by omega) (by omega)]; exact h35, hb1, hb2⟩, hon⟩
      have z23 : ∀ p, p < 32 → ¬ (6 ≤ p ∧ p < 18) → A6 394 p = 0 := fun p h1 h2 => by rw [o6 _ _ (by omega)]; exact h5 p h1
      refine hok g eg q0 C4 J14 (fun b l q => ?_) (fj j14) ?_ ?_ (mT_of hs (by rw [fin _ _ (by omega) (by omega) (by omega) (by omega)]; exact w18) i400 gC) ⟨?_, fun p hp => ?_, fun p hp => ?_, fun p hp => ?_, fun p hp => ?_, fun h hh => ?_, fun p h1 h2 => ?_, fun h h1 h2 => ?_⟩ ?_ ?_ hc4
      · rw [fin2 b l (by omega) (by omega) (by omega) (by omega), f14 b l (by omega), x13 b l (by omega)]
      · rw [fin _ _ (by omega) (by omega) (by omega) (by omega), a4, qu_off (by omega), a1, qu_same]
      · rw [fin2 _ _ (by omega) (by omega) (by omega) (by omega), f14 _ _ (by omega)]; exact v2'
      · rw [now _ (by omega), o7 _ _ (by omega), z23 _ (by omega) (by omega)]; rfl
      · rw [now _ (by omega), Nat.zero_add, (h7 p hp).1, o6 _ _ (by omega), o5 _ _ (by omega), oB _ _ (by omega)]; exact (hP.2.2 p hp).1
      · rw [now _ (by omega), Nat.zero_add, (h7 p hp).2, o6 _ _ (by omega), o5 _ _ (by omega), oB _ _ (by omega)]; exact hHg.2.2 p (by omega)
      · rw [now _ (by omega), Nat.zero_add, o7 _ _ (by omega), (h6 p (by omega)).2]; rfl
      · rw [now _ (by omega), o7 _ _ (by omega), z23 _ (by omega) (by omega)]; rfl
      · rw [now _ (by omega), o7 _ _ (by omega), z23 _ (by omega) (by omega)]; rfl
      · rw [now _ (by omega), o7 _ _ (by omega), z23 _ (by omega) (by omega)]
      · rw [now _ (by omega), o7 _ _ (by omega), z23 _ (by omega) (by omega)]
      · rw [oc4 _ _ (by omega), ec3, qu_off (by decide), ec2, qu_same]
      · rw [oc4 _ _ (by omega), ec3, qu_same]
    · have q0 : ¬ (gW g).1 = 0 := fun z => q (by rw [z]; decide)
      rw [if_neg q0] at hbad
      rw [hW.2.1 q0]
      intro A1 a1
      have oA : ∀ b l, ¬ (b = 361 ∧ l = 17) → A1 b l = I14 b l := fun b l q => by rw [a1, qu_off (by omega)]
      rw [oA 361 13 (by omega), oA 361 15 (by omega), hW.1]
      refine z_y m14.le (z_n (nI_nle (by omega) (by omega)) (hbad q0 A1 J14 (fun b l q => ?_) (fj j14) (by rw [a1, qu_same]) ?_))
      · rw [oA b l (fun z => q (Or.inr (Or.inr (Or.inl ⟨z.1, by have := z.2; omega⟩)))), f14 b l (fun z => q (Or.inr (Or.inr (Or.inr z)))), x13 b l q]
      · rw [oA _ _ (by omega), f14 _ _ (by omega)]; exact v2'
  · have eF : zrF (zR1 B n) = k := by unfold zrF; rw [show zR1 B n = _ from ej]
    have eP : zrP (zpsn B n) (zR1 B n) = nI (zpsn B n j) := by unfold zrP; rw [show zR1 B n = _ from ej]
    rw [eF, eP] at hbad
    have hk := d14.2.1
    unfold v_M_read_134
    refine z_n d14.nle ?_
    rw [d14.2.2.1]
    intro A1 a1
    have oA : ∀ b l, ¬ (b = 361 ∧ l = 17) → A1 b l = I14 b l := fun b l q => by rw [a1, qu_off (by omega)]
    have dA := d14.kept (I' := A1) (fun l q => oA _ _ (by omega))
    refine z_n dA.nle ?_
    rw [dA.1]
    refine hbad (by omega) A1 J14 (fun b l q => ?_) (fj j14) (by rw [a1, qu_same]) ?_
    · rw [oA b l (fun z => q (Or.inr (Or.inr (Or.inl ⟨z.1, by have := z.2; omega⟩)))), f14 b l (fun z => q (Or.inr (Or.inr (Or.inr z)))), x13 b l q]
    · rw [oA _ _ (by omega), f14 _ _ (by omega)]; exact v2'
end
/-! what of the relation is kept where the reference has written on its other side alone -/
theorem rMBr.half {I I' : zI} {live : Nat} (e : ∀ a j, 383 ≤ a → a ≤ 387 → j / 130 = live → I' a j = I a j) (f : ∀ a j, a = 388 ∨ a = 389 → j / 420 = live → I' a j = I a j) : ∀ (l : List (zPf × zPf × zPf)) (t : zPf) (b : Nat), b / 130 = live → (b + l.length) / 130 = live → rMBr I l t b → rMBr I' l t b := by
  have pf : ∀ {b o : Nat} {q : zPf}, b / 130 = live → rMPf I b o q → rMPf I' b o q := fun {b o q} hb h => ⟨h.1, fun i x hx => by
    have hi : i < q.length := by
      rcases Nat.lt_or_ge i q.length with z | z
      · exact z
      · rw [List.getElem?_eq_none z] at hx; cases hx
    have h1 := h.1
    rw [hb] at h1
    rw [f _ _ (by omega) (by omega), f _ _ (by omega) (by omega)]
    exact h.2 i x hx⟩
  intro l
  induction l with
  | nil =>
    intro t b hb _ h
    obtain ⟨h0, o, h1, h2, h3⟩ := h
    exact ⟨by rw [e _ _ (by omega) (by omega) hb]; exact h0, o, by rw [e _ _ (by omega) (by omega) hb]; exact h1, by rw [e _ _ (by omega) (by omega) hb]; exact h2, pf hb h3⟩
  | cons q l ih =>
    obtain ⟨u, v, w⟩ := q
    intro t b hb hb2 h
    have hb2 : (b + (l.length + 1)) / 130 = live := hb2
    rw [rMBr] at h ⊢
    obtain ⟨h0, ⟨o, h1, h2, h3, h4, h5, h6, h7⟩, h8⟩ := h
    exact ⟨by rw [e _ _ (by omega) (by omega) hb]; exact h0, ⟨o, by rw [e _ _ (by omega) (by omega) hb]; exact h1, by rw [e _ _ (by omega) (by omega) hb]; exact h2, by rw [e _ _ (by omega) (by omega) hb]; exact h3, by rw [e _ _ (by omega) (by omega) hb]; exact h4, pf hb h5, pf hb h6, pf hb h7⟩, ih t (b + 1) (by omega) (by omega) h8⟩
theorem rText.half {I I' : zI} {nH nP live : Nat} (h : rText I nH nP live) (ec : ∀ a k, 8 ≤ a → a ≤ 25 → I' a k = I a k) (e18 : I' 361 18 = I 361 18) (em : ∀ a k, 371 ≤ a → a ≤ 389 → ¬ zOwn (1 - live) a k → I' a k = I a k) : rText I' nH nP live := by
  obtain ⟨a1, a2, a3, a4, a5, a6, a7, a8, a9, a10, a11, a12, a13, a14⟩ := h
  have m1 : ∀ a, 371 ≤ a → a ≤ 380 → a = 371 ∨ a = 374 ∨ a = 378 ∨ a = 379 ∨ a = 380 → I' a live = I a live := fun a q1 q2 q3 => em a live q1 (by omega) (by omega)
  refine ⟨a1, a2, a3, by rw [e18]; exact a4, by rw [ec _ _ (by omega) (by omega)]; exact a5, by rw [m1 _ (by omega) (by omega) (by omega)]; exact a6, by rw [ec _ _ (by omega) (by omega)]; exact a7, by rw [m1 _ (by omega) (by omega) (by omega)]; exact a8, fun h hh => ?_, fun h hh => ?_, fun p hp => ?_, ?_, ?_, fun k hk => ?_⟩
  · rw [ec _ _ (by omega) (by omega), em _ _ (by omega) (by omega) (by omega)]; exact a9 h hh
  · rw [ec _ _ (by omega) (by omega), em _ _ (by omega) (by omega) (by omega)]; exact a10 h hh
  · rw [ec _ _ (by omega) (by omega), em _ _ (by omega) (by omega) (by omega)]; exact a11 p hp
  · rw [ec _ _ (by omega) (by omega), m1 _ (by omega) (by omega) (by omega)]; exact a12
  · rw [ec _ _ (by omega) (by omega), m1 _ (by omega) (by omega) (by omega)]; exact a13
  · obtain ⟨w, h0, h1, h2⟩ := a14 k hk
    refine ⟨w, h0, rCLaw.kept h1 (fun b j q1 q2 => ec b j (by omega) (by omega)), ?_⟩
    rw [em 381 _ (by omega) (by omega) (by omega), em 382 _ (by omega) (by omega) (by omega)]
    rcases h2 with h2 | ⟨b, ⟨h2, h2', h2''⟩, h3, h4, h5⟩
    · exact Or.inl h2
    · exact Or.inr ⟨b, ⟨h2, h2', h2''⟩, h3, h4, rMBr.half (live := live) (fun a j q1 q2 q3 => em a j (by omega) (by omega) (by omega)) (fun a j q1 q2 => em a j (by omega) (by omega) (by omega)) w.1 w.2 b h2' h2'' h5⟩
theorem zok_read : zOK_read Rel := by
  intro I J K hR hK
  obtain ⟨n, nH, nP, live, u, x, t, m, h1, h2, h3, h4, h5, h6, h7, h8⟩ := id hR
  obtain ⟨t1, t2, t3, t4⟩ := h1
  have hl := h3.1
  have h18 := h3.2.2.2.1
  obtain ⟨B, eB⟩ : ∃ B : Nat → Nat, B = fun i => (I 3 i).toBitVec.toNat % 2 ^ 8 := ⟨_, rfl⟩
  have hm : (255 : Int32).toBitVec.toNat = 2 ^ 8 - 1 := by decide
  have hB : ∀ i, I 3 i &&& 255 = nI (B i) := fun i => by rw [eB]; exact pk_and _ 8 hm
  have hB2 : ∀ i, B i < 256 := fun i => by rw [eB]; exact Nat.mod_lt _ (by decide)
  refine s_X_read (B := B) (n := n) ⟨t1, t2, fun i _ => hB i, hB2⟩ h8 (fun hne I1 J1 o1 p1 e13 e21 => ?_) (fun g eg hw I1 J1 o1 o3 p1 e13 e21 c1 on1 s1 v100 v83 v1 l7 l6 => ?_)
  · refine s_M_read (B := B) (n := n) (s := 1 - live) hl rfl (by rw [o1 _ _ (by omega) (by omega) (by omega) (by omega)]; exact h18) t1 (by rw [o1 _ _ (by omega) (by omega) (by omega) (by omega)]; exact t3) (fun i hi => by rw [o1 _ _ (by omega) (by omega) (by omega) (by omega), ← t4 i hi]; exact hB i) hB2 (fun k hk => by rw [p1 _ _ (by omega) (by omega) (by omega) (by omega), p1 _ _ (by omega) (by omega) (by omega) (by omega)]; exact h8 k hk) (fun hne2 I2 J2 o2 p2 e17 e2 => ⟨rfl, hK I2 J2 ?_⟩) (fun g eg hw => absurd (by rw [eg]; exact hw) hne)
    have oo : ∀ b l, b < 26 ∨ 48 < b → b ≠ 2 → b ≠ 5 → b ≠ 6 → ¬ zRd (1 - live) b l → I2 b l = I b l := fun b l q1 q2 q3 q4 q5 => by rw [o2 b l q5, o1 b l q1 q2 q3 q4]
    refine ⟨0, nH, nP, live, u, x, t, m, ⟨Nat.zero_le _, ?_, by rw [e2]; rfl, fun i hi => absurd hi (Nat.not_lt_zero _)⟩, ?_, h3.half (fun a k q1 q2 => oo a k (by omega) (by omega) (by omega) (by omega) (by omega)) (oo _ _ (by omega) (by omega) (by omega) (by omega) (by omega)) (fun a k q1 q2 q3 => oo a k (by omega) (by omega) (by omega) (by omega) (fun z => by
      rcases z with z | z | z | z
      · omega
      · omega
      · omega
      · exact q3 z)), rNow.kept (fun a k q => oo a k (by omega) (by omega) (by omega) (by omega) (by omega)) h4, h5.kept (fun a k q => oo a k (by omega) (by omega) (by omega) (by omega) (by omega)), h6.kept (fun a k q => oo a k (by omega) (by omega) (by omega) (by omega) (by omega)), h7.kept (fun a k q => oo a k (by omega) (by omega) (by omega) (by omega) (by omega)), fun k hk => ?_⟩
    · rw [o2 _ _ (by omega), e21]; rfl
    · rw [o2 _ _ (by omega), e13, e17]
    · rw [p2 _ _ (by omega) (by omega), p2 _ _ (by omega) (by omega), p1 _ _ (by omega) (by omega) (by omega) (by omega), p1 _ _ (by omega) (by omega) (by omega) (by omega)]; exact h8 k hk
  · refine s_M_read (B := B) (n := n) (s := 1 - live) hl rfl (by rw [o1 _ _ (by omega) (by omega) (by omega)]; exact h18) t1 (by rw [o1 _ _ (by omega) (by omega) (by omega)]; exact t3) (fun i hi => by rw [o1 _ _ (by omega) (by omega) (by omega), ← t4 i hi]; exact hB i) hB2 (fun k hk => by rw [p1 _ _ (by omega) (by omega) (by omega) (by omega), p1 _ _ (by omega) (by omega) (by omega) (by omega)]; exact h8 k hk) (fun hne2 => absurd (by rw [eg]; exact hw) hne2) (fun g2 eg2 hw2 I2 J2 o2 p2 e17 e2 m2 s2 v57 v63 v408 => ⟨rfl, hK I2 J2 ?_⟩)
    rw [eg] at eg2
    cases eg2
    obtain ⟨ok1, ok2⟩ := zXg_ok eg hw
    have c2 : cT I2 (zXg g) := c1.kept (fun b k q1 q2 => o2 b k (by omega))
    have s22 : cS I2 (gH g).1 (gP g).1 49 (zSg g) := s1.kept (fun b k q1 q2 => o2 b k (by omega))
    refine ⟨0, (gH g).1, (gP g).1, 1 - live, 0, x, 0, 0, ⟨Nat.zero_le _, ?_, by rw [e2]; rfl, fun i hi => absurd hi (Nat.not_lt_zero _)⟩, ?_, rText.mk ok1 c2 m2, zPair.mk ok2 s22 s2, ⟨Nat.zero_le _, h5.2.1, ?_, ?_, by rw [v57]; rfl, fun j hj => absurd hj (Nat.not_lt_zero _)⟩, ⟨Nat.zero_le _, ?_, by rw [v63]; rfl, fun i hi => absurd hi (Nat.not_lt_zero _)⟩, ⟨by decide, ?_, fun i hi => Or.inr ⟨Nat.zero_testBit i, v408 i hi⟩⟩, fun k hk => ?_⟩
    · rw [o2 _ _ (by omega), e21]; rfl
    · rw [o2 _ _ (by omega), e13, e17]
    · rw [o2 _ _ (by omega), v100]; rfl
    · rw [o2 _ _ (by omega), o1 _ _ (by omega) (by omega) (by omega)]; exact h5.2.2.2.1
    · rw [o2 _ _ (by omega), v83]; rfl
    · rw [o2 _ _ (by omega), v1]; rfl
    · rw [p2 _ _ (by omega) (by omega), p2 _ _ (by omega) (by omega), p1 _ _ (by omega) (by omega) (by omega) (by omega), p1 _ _ (by omega) (by omega) (by omega) (by omega)]; exact h8 k hk
