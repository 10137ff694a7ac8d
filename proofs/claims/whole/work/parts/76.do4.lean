/-! hold, restore, feed -/
theorem z_slot : ∀ m, m < 8 → ∀ i, i < 3 → ((nI m &&& ((1 : Int32) <<< (nI i &&& 31))) = 0 ↔ m.testBit i = false) ∧ nI m ||| ((1 : Int32) <<< (nI i &&& 31)) = nI (m ||| 2 ^ i) ∧ m ||| 2 ^ i < 8 := by decide
theorem z_isSlot1 {I : zI} {J : zJ} {i : Nat} (hi : i < 3) {Q : Int32 → zI → zJ → Prop} (hq : Q 1 I J) : v_X_isSlot 5000 (nI i) I J Q := z_n (nI_pos (by omega)) (z_n (nI_ge (b := 3) hi (by decide)) hq)
theorem z_isSlot0 {I : zI} {J : zJ} {x : Int32} (hx : ¬ zin x 3) {Q : Int32 → zI → zJ → Prop} (hq : Q 0 I J) : v_X_isSlot 5000 x I J Q := by
  rcases rng_no (n := 2) (by decide) hx with q | q
  · exact z_y q hq
  · exact z_n q.1 (z_y q.2.2.2 hq)
theorem s_M_hold_20 {J : zJ} {Q : Int32 → zI → zJ → Prop} {v : Nat} (hv : v < 3) : ∀ r i k (I : zI), i + r = 32 → r < k → (∀ I' : zI, (∀ b j, b ≠ 409 → I' b j = I b j) → (∀ j, ¬ (32 * v + i ≤ j ∧ j < 32 * v + 32) → I' 409 j = I 409 j) → (∀ j, i ≤ j → j < 32 → I' 409 (32 * v + j) = I 393 j) → Q 1 I' J) → v_M_hold_20 5000 k (nI v) (nI i) I J Q
  | _, _, 0, _, _, hk, _ => absurd hk (Nat.not_lt_zero _)
  | 0, i, k + 1, I, hi, hk, hq => by
    rw [v_M_hold_20]
    exact z_y (nI_le (a := 32) (by omega) (by omega)) (hq I (fun _ _ _ => rfl) (fun _ _ => rfl) (fun j h1 h2 => absurd h1 (by omega)))
  | r + 1, i, k + 1, I, hi, hk, hq => by
    rw [v_M_hold_20]; dsimp only; rw [z_m32, nI_clamp (n := i) (by omega), nI_clamp (n := 32 * v + i) (by omega)]
    refine z_n (nI_ge (b := 32) (by omega) (by decide)) ⟨vp_in_nI (by omega) (by decide), vp_in_nI (by omega) (by decide), fun I4 e4 => ?_⟩
    rw [nI_1]
    refine s_M_hold_20 hv r (i + 1) k I4 (by omega) (by omega) (fun I' o1 o2 o3 => hq I' (fun b j q => by rw [o1 b j q, e4, qu_off (Or.inl q)]) (fun j hj => by rw [o2 j (by omega), e4, qu_off (Or.inr (by omega))]) (fun j h1 h2 => ?_))
    by_cases hj : j = i
    · subst hj
      rw [o2 _ (by omega), e4, qu_same]
    · rw [o3 j (by omega) h2, e4, qu_off (Or.inl (by decide))]
theorem s_M_restore_22 {J : zJ} {Q : Int32 → zI → zJ → Prop} {v : Nat} (hv : v < 3) : ∀ r i k (I : zI), i + r = 32 → r < k → (∀ I' : zI, (∀ b j, b ≠ 393 → I' b j = I b j) → (∀ j, j < i → I' 393 j = I 393 j) → (∀ j, i ≤ j → j < 32 → I' 393 j = I 409 (32 * v + j)) → Q 1 (qu I' 361 57 0) J) → v_M_restore_22 5000 k (nI v) (nI i) I J Q
  | _, _, 0, _, _, hk, _ => absurd hk (Nat.not_lt_zero _)
  | 0, i, k + 1, I, hi, hk, hq => by
    rw [v_M_restore_22]
    exact z_y (nI_le (a := 32) (by omega) (by omega)) (fun I2 e2 => by rw [e2]; exact hq I (fun _ _ _ => rfl) (fun _ _ => rfl) (fun j h1 h2 => absurd h1 (by omega)))
  | r + 1, i, k + 1, I, hi, hk, hq => by
    rw [v_M_restore_22]; dsimp only; rw [z_m32, nI_clamp (n := i) (by omega), nI_clamp (n := 32 * v + i) (by omega)]
    refine z_n (nI_ge (b := 32) (by omega) (by decide)) ⟨vp_in_nI (by omega) (by decide), vp_in_nI (by omega) (by decide), fun I4 e4 => ?_⟩
    rw [nI_1]
    refine s_M_restore_22 hv r (i + 1) k I4 (by omega) (by omega) (fun I' o1 o2 o3 => hq I' (fun b j q => by rw [o1 b j q, e4, qu_off (Or.inl q)]) (fun j hj => by rw [o2 j (by omega), e4, qu_off (Or.inr (by omega))]) (fun j h1 h2 => ?_))
    by_cases hj : j = i
    · subst hj
      rw [o2 _ (by omega), e4, qu_same]
    · rw [o3 j (by omega) h2, e4, qu_off (Or.inl (by decide))]
theorem zok_hold : zOK_hold Rel := by
  intro a0 I J K hR hK
  obtain ⟨n, nH, nP, live, u, x, td, m, h1, h2, h3, h4, h5, h6, h7, h8⟩ := id hR
  have hH := h3.2.1
  have hP := h3.2.2.1
  obtain ⟨g1, g2, g3⟩ := id h7
  by_cases hz : zin a0 3
  · obtain ⟨i, hi, rfl⟩ := hz
    obtain ⟨s, hw, hc, hm⟩ := h4.get
    have hm := mS_zero.mp hm
    refine z_isSlot1 hi (z_nr z_10 ⟨vp_in_nI hi (by decide), ?_⟩)
    rw [nI_clamp (by omega)]
    refine s_become hP hH (by omega) hc (fun I1 c1 o1 I2 e2 => ?_)
    rw [o1 1 11 (by omega), g2, (z_slot m g1 i hi).2.1] at e2
    have o2 : ∀ b j, ¬ (b = 1 ∧ j = 11) → (b < 343 + 6 * i ∨ 343 + 6 * i + 5 < b) → I2 b j = I b j := fun b j q1 q2 => by rw [e2, qu_off (by omega), o1 b j q2]
    refine z_in1 (n := 3) (by decide) (by decide) hi (z_nr z_10 ⟨vp_in_nI hi (by decide), fun I3 e3 => ?_⟩)
    rw [nI_clamp (by omega), show vp_nar .boolean (1 : Int32) = 1 from z_nar (Or.inr rfl)] at e3
    refine s_M_hold_20 hi 32 0 5000 I3 (by omega) (by omega) (fun I4 p1 p2 p3 => ⟨rfl, hK I4 J ?_⟩)
    have e : ∀ b j, ¬ (b = 1 ∧ j = 11) → (b < 343 + 6 * i ∨ 343 + 6 * i + 5 < b) → ¬ (b = 408 ∧ j = i) → b ≠ 409 → I4 b j = I b j := fun b j q1 q2 q3 q4 => by rw [p1 b j q4, e3, qu_off (by omega), o2 b j q1 q2]
    refine ⟨n, nH, nP, live, u, x, td, m ||| 2 ^ i, h1.kept (fun a k q => e a k (by omega) (by omega) (by omega) (by omega)), ?_, h3.kept (fun a k q => e a k (by omega) (by omega) (by omega) (by omega)), rNow.kept (fun a k q => e a k (by omega) (by omega) (by omega) (by omega)) h4, h5.kept (fun a k q => e a k (by omega) (by omega) (by omega) (by omega)), h6.kept (fun a k q => e a k (by omega) (by omega) (by omega) (by omega)), ⟨(z_slot m g1 i hi).2.2, ?_, fun k hk => ?_⟩, h8⟩
    · rw [e 26 13 (by decide) (by omega) (by omega) (by decide), e 361 17 (by decide) (by omega) (by omega) (by decide)]; exact h2
    · rw [p1 _ _ (by decide), e3, qu_off (by omega), e2, qu_same]
    · by_cases hki : k = i
      · subst hki
        refine Or.inl ⟨by rw [Nat.testBit_or, Nat.testBit_two_pow_self, Bool.or_true], by rw [p1 _ _ (by decide), e3, qu_same], zPair.mk hw (c1.kept (fun b j q1 q2 => by rw [p1 b j (by omega), e3, qu_off (by omega), e2, qu_off (by omega)])) ?_⟩
        have g : ∀ j, j < 32 → I4 409 (32 * k + j) = I 393 j := fun j hj => by rw [p3 j (by omega) hj, e3, qu_off (by omega), o2 _ _ (by omega) (by omega)]
        obtain ⟨r0, r1, r2, r3, r4, r5, r6, r7⟩ := hm
        exact ⟨by rw [g _ (by omega), r0], fun p hp => by rw [g _ (by omega), r1 p hp], fun p hp => by rw [g _ (by omega), r2 p hp], fun p hp => by rw [g _ (by omega), r3 p hp], fun p hp => by rw [g _ (by omega), r4 p hp], fun p hp => by rw [g _ (by omega), r5 p hp], fun p hp hp' => by rw [g _ (by omega), r6 p hp hp'], fun p hp hp' => by rw [g _ (by omega), r7 p hp hp']⟩
      · have ht : (m ||| 2 ^ i).testBit k = m.testBit k := by
          rw [Nat.testBit_or, Nat.testBit_two_pow, decide_eq_false (fun z => hki z.symm), Bool.or_false]
        rw [ht, e 408 k (by omega) (by omega) (by omega) (by decide)]
        rcases g3 k hk with ⟨q1, q2, q3⟩ | q
        · refine Or.inl ⟨q1, q2, ?_⟩
          obtain ⟨s2, w2, c2, r2⟩ := q3.get
          refine zPair.mk w2 (c2.kept (fun b j n1 n2 => e b j (by omega) (by omega) (by omega) (by omega))) ?_
          have g : ∀ j, j < 32 → I4 409 (32 * k + j) = I 409 (32 * k + j) := fun j hj => by rw [p2 _ (by omega), e3, qu_off (by omega), o2 _ _ (by omega) (by omega)]
          obtain ⟨r0, r1, r2, r3, r4, r5, r6, r7⟩ := r2
          exact ⟨by rw [g _ (by omega), r0], fun p hp => by rw [g _ (by omega), r1 p hp], fun p hp => by rw [g _ (by omega), r2 p hp], fun p hp => by rw [g _ (by omega), r3 p hp], fun p hp => by rw [g _ (by omega), r4 p hp], fun p hp => by rw [g _ (by omega), r5 p hp], fun p hp hp' => by rw [g _ (by omega), r6 p hp hp'], fun p hp hp' => by rw [g _ (by omega), r7 p hp hp']⟩
        · exact Or.inr q
  · exact z_isSlot0 hz (z_yr z_00 (z_in0 (n := 3) (by decide) (by decide) hz (z_yr z_00 ⟨rfl, hK I J hR⟩)))
theorem zok_restore : zOK_restore Rel := by
  intro a0 I J K hR hK
  obtain ⟨n, nH, nP, live, u, x, td, m, h1, h2, h3, h4, h5, h6, h7, h8⟩ := id hR
  have hH := h3.2.1
  have hP := h3.2.2.1
  obtain ⟨g1, g2, g3⟩ := id h7
  by_cases hz : zin a0 3
  · obtain ⟨i, hi, rfl⟩ := hz
    refine z_isSlot1 hi (z_n z_10 ?_)
    rw [g2]
    rcases g3 i hi with ⟨q1, q2, q3⟩ | ⟨q1, q2⟩
    · refine z_nr (fun z => by have := (z_slot m g1 i hi).1.mp z; rw [q1] at this; cases this) ⟨vp_in_nI hi (by decide), ?_⟩
      obtain ⟨s, hw, hc, hm⟩ := q3.get
      rw [nI_clamp (by omega)]
      refine s_become hP hH (by omega) hc (fun I1 c1 o1 I2 e2 => ?_)
      have o2 : ∀ b j, ¬ (b = 100 ∧ j = 2) → (b < 49 ∨ 54 < b) → I2 b j = I b j := fun b j n1 n2 => by rw [e2, qu_off (by omega), o1 b j n2]
      refine z_in1 (n := 3) (by decide) (by decide) hi (z_n z_10 ⟨vp_in_nI hi (by decide), ?_⟩)
      rw [nI_clamp (by omega), o2 _ _ (by omega) (by omega), q2]
      refine z_nr z_10 (s_M_restore_22 hi 32 0 5000 I2 (by omega) (by omega) (fun I3 p1 p2 p3 => ⟨rfl, hK _ J ?_⟩))
      obtain ⟨I4, e4⟩ : ∃ z, z = qu I3 361 57 0 := ⟨_, rfl⟩
      rw [← e4]
      have e : ∀ b j, ¬ (b = 100 ∧ j = 2) → (b < 49 ∨ 54 < b) → ¬ (b = 361 ∧ j = 57) → b ≠ 393 → I4 b j = I b j := fun b j n1 n2 n3 n4 => by rw [e4, qu_off (by omega), p1 b j n4, o2 b j n1 n2]
      refine ⟨n, nH, nP, live, 0, x, td, m, h1.kept (fun a k q => e a k (by omega) (by omega) (by omega) (by omega)), ?_, h3.kept (fun a k q => e a k (by omega) (by omega) (by omega) (by omega)), ?_, ⟨by omega, h5.2.1, ?_, ?_, ?_, fun j hj => absurd hj (by omega)⟩, h6.kept (fun a k q => e a k (by omega) (by omega) (by omega) (by omega)), h7.kept (fun a k q => e a k (by omega) (by omega) (by omega) (by omega)), h8⟩
      · rw [e 26 13 (by decide) (by decide) (by decide) (by decide), e 361 17 (by decide) (by decide) (by decide) (by decide)]; exact h2
      · refine zPair.mk hw (c1.kept (fun b j n1 n2 => by rw [e4, qu_off (by omega), p1 b j (by omega), e2, qu_off (by omega)])) (mS_zero.mpr (hm.row hP hH (fun k hk => ?_)))
        rw [e4, qu_off (by omega), p3 k (by omega) hk, o2 _ _ (by omega) (by omega)]
      · rw [e4, qu_off (by decide), p1 _ _ (by decide), e2, qu_same]; rfl
      · rw [e 100 1 (by decide) (by decide) (by decide) (by decide)]; exact h5.2.2.2.1
      · rw [e4, qu_same]; rfl
    · refine z_yr ((z_slot m g1 i hi).1.mpr q1) ?_
      refine z_in1 (n := 3) (by decide) (by decide) hi (z_n z_10 ⟨vp_in_nI hi (by decide), ?_⟩)
      rw [nI_clamp (by omega), q2]
      exact z_yr rfl ⟨rfl, hK I J hR⟩
  · exact z_isSlot0 hz (z_y z_00 (z_in0 (n := 3) (by decide) (by decide) hz (z_y z_00 ⟨rfl, hK I J hR⟩)))
/-- one byte of four -/
def zbyC (w sh : Int32) : Int32 := vp_nar .byte ((((w).toUInt32 >>> ((sh).toUInt32 &&& Int32.toUInt32 31)).toInt32).toInt8.toInt32)
def zbyM (w sh : Int32) : Int32 := vp_nar .byte (((w >>> (sh &&& 31))).toInt8.toInt32)
theorem z_shr1 : ∀ n, n ≤ 24 → (((nI n).toUInt32 &&& Int32.toUInt32 31).toBitVec % 32).toNat = n ∧ ((nI n &&& 31).toBitVec.smod 32).toNat = n := by decide
theorem z_shr (w : Int32) (n : Nat) (hn : n ≤ 24) : zbyC w (nI n) = zbyM w (nI n) := by
  have h : ((w.toUInt32 >>> ((nI n).toUInt32 &&& Int32.toUInt32 31)).toInt32).toInt8 = (w >>> (nI n &&& 31)).toInt8 := by
    apply Int8.toBitVec_inj.1
    apply BitVec.eq_of_getLsbD_eq
    intro i hi
    rw [Int32.toBitVec_toInt8, UInt32.toBitVec_toInt32, UInt32.toBitVec_shiftRight, Int32.toBitVec_toInt8, Int32.toBitVec_shiftRight, BitVec.getLsbD_signExtend, BitVec.getLsbD_signExtend, BitVec.ushiftRight_eq', BitVec.getLsbD_ushiftRight]
    unfold BitVec.sshiftRight'
    rw [BitVec.getLsbD_sshiftRight, (z_shr1 n hn).1, (z_shr1 n hn).2]
    have h1 : i < 32 := by omega
    have h2 : n + i < 32 := by omega
    have h3 : ¬ 32 ≤ i := by omega
    simp [h1, h2, h3]
  unfold zbyC zbyM
  rw [h]
/-- four bytes more on the class' tape -/
theorem s_add1 {I : zI} {J : zJ} {n k : Nat} {w sh : Int32} (hs : ¬ sh < 0) (hn : n < 2000) (h2 : I 2 1 = nI n) {Q : zI → zJ → Prop} (hq : ∀ I' : zI, I' 2 1 = nI (n + 1) → I' 3 n = zbyC w sh → (∀ j, j ≠ n → I' 3 j = I 3 j) → (∀ b j, b ≠ 3 → ¬ (b = 2 ∧ j = 1) → I' b j = I b j) → v_Tape_addFour_3 5000 k w (sh + (-8 : Int32)) I' J Q) : v_Tape_addFour_3 5000 (k + 1) w sh I J Q := by
  rw [v_Tape_addFour_3]; dsimp only; rw [h2]
  refine z_n hs (z_n (nI_ge (b := 2000) hn (by decide)) ⟨vp_in_nI hn (by decide), fun I4 e4 I5 e5 => ?_⟩)
  rw [nI_clamp (by omega)] at e4
  have r4 : I4 2 1 = nI n := by rw [e4, qu_off (Or.inl (by decide)), h2]
  rw [r4, nI_1] at e5
  exact hq I5 (by rw [e5, qu_same]) (by rw [e5, qu_off (Or.inl (by decide)), e4, qu_same]; rfl) (fun j hj => by rw [e5, qu_off (Or.inl (by decide)), e4, qu_off (Or.inr hj)]) (fun b j q1 q2 => by rw [e5, qu_off (by omega), e4, qu_off (Or.inl q1)])
theorem s_addM {I : zI} {J : zJ} {n k : Nat} {w sh : Int32} (hs : ¬ sh < 0) (hn : n < 2000) (h2 : I 361 2 = nI n) {Q : zI → zJ → Prop} (hq : ∀ I' : zI, I' 361 2 = nI (n + 1) → I' 362 n = zbyM w sh → (∀ j, j ≠ n → I' 362 j = I 362 j) → (∀ b j, b ≠ 362 → ¬ (b = 361 ∧ j = 2) → I' b j = I b j) → v_M_put_3 5000 k w (sh + (-8 : Int32)) I' J Q) : v_M_put_3 5000 (k + 1) w sh I J Q := by
  rw [v_M_put_3]; dsimp only; rw [h2]
  refine z_n hs ⟨vp_in_nI hn (by decide), fun I4 e4 I5 e5 => ?_⟩
  rw [nI_clamp (by omega)] at e4
  have r4 : I4 361 2 = nI n := by rw [e4, qu_off (Or.inl (by decide)), h2]
  rw [r4, nI_1] at e5
  exact hq I5 (by rw [e5, qu_same]) (by rw [e5, qu_off (Or.inl (by decide)), e4, qu_same]; rfl) (fun j hj => by rw [e5, qu_off (Or.inl (by decide)), e4, qu_off (Or.inr hj)]) (fun b j q1 q2 => by rw [e5, qu_off (by omega), e4, qu_off (Or.inl q1)])
def zby4 (w : Int32) (j : Nat) : Int32 := zbyC w (nI (24 - 8 * j))
theorem s_addFour {I : zI} {J : zJ} {n : Nat} {w : Int32} (hn : n + 4 ≤ 2000) (h2 : I 2 1 = nI n) {Q : zI → zJ → Prop} (hq : ∀ I' : zI, I' 2 1 = nI (n + 4) → (∀ j, j < 4 → I' 3 (n + j) = zby4 w j) → (∀ j, j < n → I' 3 j = I 3 j) → (∀ b j, b ≠ 3 → ¬ (b = 2 ∧ j = 1) → I' b j = I b j) → Q I' J) : v_Tape_addFour 5000 w I J Q := by
  show v_Tape_addFour_3 5000 (4999 + 1) w 24 I J Q
  refine s_add1 (by decide) (by omega) h2 (fun I1 a1 b1 c1 d1 => ?_)
  rw [show (24 : Int32) + (-8) = 16 by decide]
  refine s_add1 (k := 4998) (by decide) (by omega) a1 (fun I2 a2 b2 c2 d2 => ?_)
  rw [show (16 : Int32) + (-8) = 8 by decide]
  refine s_add1 (k := 4997) (by decide) (by omega) a2 (fun I3 a3 b3 c3 d3 => ?_)
  rw [show (8 : Int32) + (-8) = 0 by decide]
  refine s_add1 (k := 4996) (by decide) (by omega) a3 (fun I4 a4 b4 c4 d4 => ?_)
  rw [show (0 : Int32) + (-8) = -8 by decide, v_Tape_addFour_3]
  refine z_y (by decide) (hq I4 a4 (fun j hj => ?_) (fun j hj => by rw [c4 j (by omega), c3 j (by omega), c2 j (by omega), c1 j (by omega)]) (fun b j q1 q2 => by rw [d4 b j q1 q2, d3 b j q1 q2, d2 b j q1 q2, d1 b j q1 q2]))
  have hj : j = 0 ∨ j = 1 ∨ j = 2 ∨ j = 3 := by omega
  rcases hj with rfl | rfl | rfl | rfl
  · rw [c4 _ (by omega), c3 _ (by omega), c2 _ (by omega), Nat.add_zero, b1]; rfl
  · rw [c4 _ (by omega), c3 _ (by omega), b2]; rfl
  · rw [c4 _ (by omega), b3]; rfl
  · rw [b4]; rfl
theorem s_M_put {I : zI} {J : zJ} {n : Nat} {w : Int32} (hn : n + 4 ≤ 2000) (h2 : I 361 2 = nI n) {Q : zI → zJ → Prop} (hq : ∀ I' : zI, I' 361 2 = nI (n + 4) → (∀ j, j < 4 → I' 362 (n + j) = zby4 w j) → (∀ j, j < n → I' 362 j = I 362 j) → (∀ b j, b ≠ 362 → ¬ (b = 361 ∧ j = 2) → I' b j = I b j) → Q I' J) : v_M_put 5000 w I J Q := by
  show v_M_put_3 5000 (4999 + 1) w 24 I J Q
  refine s_addM (by decide) (by omega) h2 (fun I1 a1 b1 c1 d1 => ?_)
  rw [show (24 : Int32) + (-8) = 16 by decide]
  refine s_addM (k := 4998) (by decide) (by omega) a1 (fun I2 a2 b2 c2 d2 => ?_)
  rw [show (16 : Int32) + (-8) = 8 by decide]
  refine s_addM (k := 4997) (by decide) (by omega) a2 (fun I3 a3 b3 c3 d3 => ?_)
  rw [show (8 : Int32) + (-8) = 0 by decide]
  refine s_addM (k := 4996) (by decide) (by omega) a3 (fun I4 a4 b4 c4 d4 => ?_)
  rw [show (0 : Int32) + (-8) = -8 by decide, v_M_put_3]
  refine z_y (by decide) (hq I4 a4 (fun j hj => ?_) (fun j hj => by rw [c4 j (by omega), c3 j (by omega), c2 j (by omega), c1 j (by omega)]) (fun b j q1 q2 => by rw [d4 b j q1 q2, d3 b j q1 q2, d2 b j q1 q2, d1 b j q1 q2]))
  have hj : j = 0 ∨ j = 1 ∨ j = 2 ∨ j = 3 := by omega
  rcases hj with rfl | rfl | rfl | rfl
  · rw [c4 _ (by omega), c3 _ (by omega), c2 _ (by omega), Nat.add_zero, b1]; exact (z_shr w 24 (by decide)).symm
  · rw [c4 _ (by omega), c3 _ (by omega), b2]; exact (z_shr w 16 (by decide)).symm
  · rw [c4 _ (by omega), b3]; exact (z_shr w 8 (by decide)).symm
  · rw [b4]; exact (z_shr w 0 (by decide)).symm
theorem z_fed {A B : Nat → Int32} {n : Nat} {w : Int32} {A' B' : Nat → Int32} (h : ∀ j, j < n → A j = B j) (a1 : ∀ j, j < 4 → A' (n + j) = zby4 w j) (a2 : ∀ j, j < n → A' j = A j) (b1 : ∀ j, j < 4 → B' (n + j) = zby4 w j) (b2 : ∀ j, j < n → B' j = B j) : ∀ j, j < n + 4 → A' j = B' j := fun j hj => by
  by_cases hjn : j < n
  · rw [a2 j hjn, b2 j hjn, h j hjn]
  · obtain ⟨d, rfl⟩ : ∃ d, j = n + d := ⟨j - n, by omega⟩
    rw [a1 d (by omega), b1 d (by omega)]
theorem zok_feed : zOK_feed Rel := by
  intro w0 w1 w2 w3 w4 I J K hR hK
  obtain ⟨n, nH, nP, live, u, x, td, m, h1, h2, h3, h4, h5, h6, h7, h8⟩ := id hR
  obtain ⟨t1, t2, t3, t4⟩ := id h1
  unfold v_X_feed v_Tape_hasRoomFor
  rw [t2, show nI n + (20 : Int32) = nI (n + 20) from nI_add n 20]
  by_cases hn : n + 20 ≤ 2000
  · refine z_n (nI_nlt (b := n + 20) (a := 2000) (by omega) (by decide)) (z_nr z_10 ?_)
    refine s_addFour (n := n) (by omega) t2 (fun I1 a1 b1 c1 d1 => ?_)
    refine s_addFour (n := n + 4) (by omega) a1 (fun I2 a2 b2 c2 d2 => ?_)
    refine s_addFour (n := n + 4 + 4) (by omega) a2 (fun I3 a3 b3 c3 d3 => ?_)
    refine s_addFour (n := n + 4 + 4 + 4) (by omega) a3 (fun I4 a4 b4 c4 d4 => ?_)
    refine s_addFour (n := n + 4 + 4 + 4 + 4) (by omega) a4 (fun I5 a5 b5 c5 d5 => ?_)
    have dd : ∀ b j, b ≠ 3 → ¬ (b = 2 ∧ j = 1) → I5 b j = I b j := fun b j q1 q2 => by rw [d5 b j q1 q2, d4 b j q1 q2, d3 b j q1 q2, d2 b j q1 q2, d1 b j q1 q2]
    rw [a5]
    show v_M_feed 5000 w0 w1 w2 w3 w4 I5 J _
    unfold v_M_feed
    rw [dd 361 2 (by decide) (by decide), t3, show nI n + (20 : Int32) = nI (n + 20) from nI_add n 20]
    refine z_y (nI_le (b := 2000) (by omega) (by decide)) ?_
    refine s_M_put (n := n) (by omega) (by rw [dd 361 2 (by decide) (by decide), t3]) (fun L1 f1 g1 k1 l1 => ?_)
    refine s_M_put (n := n + 4) (by omega) f1 (fun L2 f2 g2 k2 l2 => ?_)
    refine s_M_put (n := n + 4 + 4) (by omega) f2 (fun L3 f3 g3 k3 l3 => ?_)
    refine s_M_put (n := n + 4 + 4 + 4) (by omega) f3 (fun L4 f4 g4 k4 l4 => ?_)
    refine s_M_put (n := n + 4 + 4 + 4 + 4) (by omega) f4 (fun L5 f5 g5 k5 l5 => ?_)
    have ll : ∀ b j, b ≠ 362 → ¬ (b = 361 ∧ j = 2) → L5 b j = I5 b j := fun b j q1 q2 => by rw [l5 b j q1 q2, l4 b j q1 q2, l3 b j q1 q2, l2 b j q1 q2, l1 b j q1 q2]
    have e : ∀ b j, b ≠ 3 → ¬ (b = 2 ∧ j = 1) → b ≠ 362 → ¬ (b = 361 ∧ j = 2) → L5 b j = I b j := fun b j q1 q2 q3 q4 => by rw [ll b j q3 q4, dd b j q1 q2]
    have s0 : ∀ j, j < n → I 3 j = I5 362 j := fun j hj => by rw [dd 362 j (by decide) (by omega)]; exact t4 j hj
    have s1 := z_fed s0 b1 c1 g1 k1
    have s2 := z_fed s1 b2 c2 g2 k2
    have s3 := z_fed s2 b3 c3 g3 k3
    have s4 := z_fed s3 b4 c4 g4 k4
    have s5 := z_fed s4 b5 c5 g5 k5
    refine ⟨f5.symm, hK L5 J ⟨n + 4 + 4 + 4 + 4 + 4, nH, nP, live, u, x, td, m, ⟨by omega, by rw [ll 2 1 (by decide) (by decide), a5], f5, fun j hj => ?_⟩, ?_, h3.kept (fun a k q => e a k (by omega) (by omega) (by omega) (by omega)), rNow.kept (fun a k q => e a k (by omega) (by omega) (by omega) (by omega)) h4, h5.kept (fun a k q => e a k (by omega) (by omega) (by omega) (by omega)), h6.kept (fun a k q => e a k (by omega) (by omega) (by omega) (by omega)), h7.kept (fun a k q => e a k (by omega) (by omega) (by omega) (by omega)), h8⟩⟩
    · rw [ll 3 j (by decide) (by omega)]; exact s5 j hj
    · rw [e 26 13 (by decide) (by decide) (by decide) (by decide), e 361 17 (by decide) (by decide) (by decide) (by decide)]; exact h2
  · refine z_y (nI_lt (a := 2000) (by omega) (by omega)) (z_yr z_00 ?_)
    show v_M_feed 5000 w0 w1 w2 w3 w4 I J _
    unfold v_M_feed
    rw [t3, show nI n + (20 : Int32) = nI (n + 20) from nI_add n 20]
    exact z_n (nI_ge (a := 2000) (by omega) (by omega)) ⟨rfl, hK I J hR⟩
