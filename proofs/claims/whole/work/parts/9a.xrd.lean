/-! reading: what the class has then -/
def zXg (g : zG) : zX := ((gH g).1, (gP g).1, (gH g).2.2.1, (gH g).2.2.2, (gP g).2.2.2, (gM g).1, (gM g).2, fun k => (gL g k).getD (zplain k))
def zSg (g : zG) : zT := ((gP g).2.2.1, (gG g).2, nI, fun _ => 0, fun _ => 0, 0)
theorem s_lawBecome {I : zI} {J : zJ} {x y : Nat} {w : zLw} (hxy : x + 2 < y) (hL : rCLaw I y w) {Q : zI → zJ → Prop} (hq : ∀ I' : zI, (∀ b l, ¬ (x ≤ b ∧ b ≤ x + 2) → I' b l = I b l) → rCLaw I' x w → Q I' J) : v_Law_become 5000 x y I J Q := by
  obtain ⟨h1, h2, h3⟩ := hL
  have hz : zcpok (0 : Int32) (0 : Int32) (nI (zcLaw w.1 w.2 0).length) 400 400 := by
    unfold zcpok
    rw [z_l0, nI_clamp (by omega), Nat.zero_add]
    exact ⟨by decide, by decide, nI_pos (by omega), h1, h1⟩
  unfold v_Law_become
  rw [h2, z_l0, nI_clamp (by omega)]
  refine ⟨hz, fun I2 e2 => ?_⟩
  have o2 : ∀ b, b ≠ x + 1 → I2 b = I b := fun b q => by rw [e2, zcp_off q]
  rw [o2 y (by omega), h2, nI_clamp (by omega)]
  refine ⟨hz, fun I5 e5 I7 e7 => ?_⟩
  have o5 : ∀ b, b ≠ x + 2 → I5 b = I2 b := fun b q => by rw [e5, zcp_off q]
  rw [o5 y (by omega), o2 y (by omega), h2] at e7
  have o7 : ∀ b l, ¬ (b = x ∧ l = 2) → I7 b l = I5 b l := fun b l q => by rw [e7, qu_off (by omega)]
  refine hq I7 (fun b l q => by rw [o7 b l (by omega), o5 b (by omega), o2 b (by omega)]) ⟨h1, by rw [e7, qu_same], fun i q hq => ?_⟩
  have hi : i < (zcLaw w.1 w.2 0).length := by
    rcases Nat.lt_or_ge i (zcLaw w.1 w.2 0).length with z | z
    · exact z
    · rw [List.getElem?_eq_none z] at hq; cases hq
  obtain ⟨g1, g2⟩ := h3 i q hq
  refine ⟨?_, ?_⟩
  · rw [o7 _ _ (by omega), o5 _ (by omega), e2, zcp_same, cpy0 hi]; exact g1
  · rw [o7 _ _ (by omega), e5, zcp_same, cpy0 hi, o2 _ (by omega)]; exact g2
theorem s_textBecome {I : zI} {J : zJ} {w0 w1 w2 w3 : zLw} (h0 : rCLaw I 33 w0) (h1 : rCLaw I 36 w1) (h2 : rCLaw I 39 w2) (h3 : rCLaw I 42 w3) {Q : zI → zJ → Prop} (hq : ∀ I' : zI, (∀ b l, ¬ (8 ≤ b ∧ b ≤ 25) → I' b l = I b l) → (∀ s, s = 0 ∨ s = 3 ∨ s = 11 ∨ s = 12 → I' 8 s = I 27 s) → (∀ j, j < 7 → I' 9 j = I 28 j ∧ I' 10 j = I 29 j) → (∀ j, j < 6 → I' 11 j = I 30 j ∧ I' 12 j = I 31 j ∧ I' 13 j = I 32 j) → rCLaw I' 14 w0 → rCLaw I' 17 w1 → rCLaw I' 20 w2 → rCLaw I' 23 w3 → Q I' J) : v_Text_become 5000 8 27 I J Q := by
  intro I1 e1 I2 e2 I3 e3 I4 e4
  refine ⟨zcpok7, fun I6 e6 => ⟨zcpok7, fun I9 e9 => ⟨zcpok6, fun I12 e12 => ⟨zcpok6, fun I15 e15 => ⟨zcpok6, fun I18 e18 => ?_⟩⟩⟩⟩⟩
  rw [z_l0, z_l7] at e6 e9
  rw [z_l0, z_l6] at e12 e15 e18
  have o1 : ∀ b l, ¬ (b = 8 ∧ l = 0) → I1 b l = I b l := fun b l q => by rw [e1, qu_off (by omega)]
  have o2 : ∀ b l, ¬ (b = 8 ∧ l = 3) → I2 b l = I1 b l := fun b l q => by rw [e2, qu_off (by omega)]
  have o3 : ∀ b l, ¬ (b = 8 ∧ l = 11) → I3 b l = I2 b l := fun b l q => by rw [e3, qu_off (by omega)]
  have o4 : ∀ b l, ¬ (b = 8 ∧ l = 12) → I4 b l = I3 b l := fun b l q => by rw [e4, qu_off (by omega)]
  have o4' : ∀ b l, b ≠ 8 → I4 b l = I b l := fun b l q => by rw [o4 b l (by omega), o3 b l (by omega), o2 b l (by omega), o1 b l (by omega)]
  have o6 : ∀ b, b ≠ 8 + 1 → I6 b = I4 b := fun b q => by rw [e6, zcp_off q]
  have o9 : ∀ b, b ≠ 8 + 2 → I9 b = I6 b := fun b q => by rw [e9, zcp_off q]
  have o12 : ∀ b, b ≠ 8 + 3 → I12 b = I9 b := fun b q => by rw [e12, zcp_off q]
  have o15 : ∀ b, b ≠ 8 + 4 → I15 b = I12 b := fun b q => by rw [e15, zcp_off q]
  have o18 : ∀ b, b ≠ 8 + 5 → I18 b = I15 b := fun b q => by rw [e18, zcp_off q]
  have oA : ∀ b l, ¬ (8 ≤ b ∧ b ≤ 13) → I18 b l = I b l := fun b l q => by rw [o18 b (by omega), o15 b (by omega), o12 b (by omega), o9 b (by omega), o6 b (by omega), o4' b l (by omega)]
  refine s_lawBecome (x := 14) (by decide) (h0.kept (fun b j q1 q2 => oA b j (by omega))) (fun A1 p1 g1 => s_lawBecome (x := 17) (by decide) (h1.kept (fun b j q1 q2 => by rw [p1 b j (by omega), oA b j (by omega)])) (fun A2 p2 g2 => s_lawBecome (x := 20) (by decide) (h2.kept (fun b j q1 q2 => by rw [p2 b j (by omega), p1 b j (by omega), oA b j (by omega)])) (fun A3 p3 g3 => s_lawBecome (x := 23) (by decide) (h3.kept (fun b j q1 q2 => by rw [p3 b j (by omega), p2 b j (by omega), p1 b j (by omega), oA b j (by omega)])) (fun A4 p4 g4 => ?_))))
  have pp : ∀ b l, ¬ (14 ≤ b ∧ b ≤ 25) → A4 b l = I18 b l := fun b l q => by rw [p4 b l (by omega), p3 b l (by omega), p2 b l (by omega), p1 b l (by omega)]
  refine hq A4 (fun b l q => by rw [pp b l (by omega), oA b l (by omega)]) (fun s hs => ?_) (fun j hj => ⟨?_, ?_⟩) (fun j hj => ⟨?_, ?_, ?_⟩) (g1.kept (fun b j q1 q2 => by rw [p4 b j (by omega), p3 b j (by omega), p2 b j (by omega)])) (g2.kept (fun b j q1 q2 => by rw [p4 b j (by omega), p3 b j (by omega)])) (g3.kept (fun b j q1 q2 => by rw [p4 b j (by omega)])) g4
  · rw [pp _ _ (by omega), o18 _ (by omega), o15 _ (by omega), o12 _ (by omega), o9 _ (by omega), o6 _ (by omega)]
    rcases hs with rfl | rfl | rfl | rfl
    · rw [o4 _ _ (by omega), o3 _ _ (by omega), o2 _ _ (by omega), e1, qu_same]
    · rw [o4 _ _ (by omega), o3 _ _ (by omega), e2, qu_same, o1 _ _ (by omega)]
    · rw [o4 _ _ (by omega), e3, qu_same, o2 _ _ (by omega), o1 _ _ (by omega)]
    · rw [e4, qu_same, o3 _ _ (by omega), o2 _ _ (by omega), o1 _ _ (by omega)]
  · rw [pp _ _ (by omega), o18 _ (by omega), o15 _ (by omega), o12 _ (by omega), o9 _ (by omega), e6, zcp_same, cpy0 hj, o4' _ _ (by omega)]
  · rw [pp _ _ (by omega), o18 _ (by omega), o15 _ (by omega), o12 _ (by omega), e9, zcp_same, cpy0 hj, o6 _ (by omega), o4' _ _ (by omega)]
  · rw [pp _ _ (by omega), o18 _ (by omega), o15 _ (by omega), e12, zcp_same, cpy0 hj, o9 _ (by omega), o6 _ (by omega), o4' _ _ (by omega)]
  · rw [pp _ _ (by omega), o18 _ (by omega), e15, zcp_same, cpy0 hj, o12 _ (by omega), o9 _ (by omega), o6 _ (by omega), o4' _ _ (by omega)]
  · rw [pp _ _ (by omega), e18, zcp_same, cpy0 hj, o15 _ (by omega), o12 _ (by omega), o9 _ (by omega), o6 _ (by omega), o4' _ _ (by omega)]
theorem s_begin7 {J : zJ} {a : Nat} (ha : 13 < a) {Q K : zI → zJ → Prop} : ∀ r i k (I : zI), i + r = 6 → r < k → (∀ p, p < i → I (a + 1) p = I 11 p ∧ I (a + 2) p = I 13 p ∧ I (a + 3) p = nI p ∧ I (a + 4) p = 0) → (∀ I' : zI, (∀ b l, ¬ (a + 1 ≤ b ∧ b ≤ a + 4) → I' b l = I b l) → (∀ p, p < 6 → I' (a + 1) p = I 11 p ∧ I' (a + 2) p = I 13 p ∧ I' (a + 3) p = nI p ∧ I' (a + 4) p = 0) → K I' J) → v_State_begin_7 5000 k a (nI i) I J Q K
  | _, _, 0, _, _, hk, _, _ => absurd hk (Nat.not_lt_zero _)
  | 0, i, k + 1, I, hi, hk, hd, hq => z_y (nI_le (a := 6) (by omega) (by omega)) (hq I (fun _ _ _ => rfl) (fun p hp => hd p (by omega)))
  | r + 1, i, k + 1, I, hi, hk, hd, hq => by
    have v : vp_in (nI i) 6 := vp_in_nI (by omega) (by decide)
    rw [v_State_begin_7]; dsimp only; rw [nI_clamp (by omega), nI_1]
    refine z_n (nI_ge (b := 6) (by omega) (by decide)) ⟨v, v, fun I4 e4 => ⟨v, v, fun I7 e7 => ⟨v, fun I9 e9 => ⟨v, fun I11 e11 => ?_⟩⟩⟩⟩
    have o4 : ∀ b l, ¬ (b = a + 1 ∧ l = i) → I4 b l = I b l := fun b l q => by rw [e4, qu_off (by omega)]
    have o7 : ∀ b l, ¬ (b = a + 2 ∧ l = i) → I7 b l = I4 b l := fun b l q => by rw [e7, qu_off (by omega)]
    have o9 : ∀ b l, ¬ (b = a + 3 ∧ l = i) → I9 b l = I7 b l := fun b l q => by rw [e9, qu_off (by omega)]
    have o11 : ∀ b l, ¬ (b = a + 4 ∧ l = i) → I11 b l = I9 b l := fun b l q => by rw [e11, qu_off (by omega)]
    have oo : ∀ b l, ¬ (a + 1 ≤ b ∧ b ≤ a + 4 ∧ l = i) → I11 b l = I b l := fun b l q => by rw [o11 b l (by omega), o9 b l (by omega), o7 b l (by omega), o4 b l (by omega)]
    refine s_begin7 ha r (i + 1) k I11 (by omega) (by omega) (fun p hp => ?_) (fun I' o' h' => hq I' (fun b l q => by rw [o' b l q, oo b l (by omega)]) (fun p hp => ?_))
    · by_cases e : p = i
      · subst e
        refine ⟨?_, ?_, ?_, ?_⟩
        · rw [o11 _ _ (by omega), o9 _ _ (by omega), o7 _ _ (by omega), e4, qu_same, oo _ _ (by omega)]
        · rw [o11 _ _ (by omega), o9 _ _ (by omega), e7, qu_same, oo _ _ (by omega), o4 _ _ (by omega)]
        · rw [o11 _ _ (by omega), e9, qu_same]
        · rw [e11, qu_same]
      · rw [oo _ _ (by omega), oo _ _ (by omega), oo _ _ (by omega), oo _ _ (by omega), oo _ _ (by omega), oo _ _ (by omega)]
        exact hd p (by omega)
    · have := h' p hp
      rw [oo 11 _ (by omega), oo 13 _ (by omega)] at this
      exact this
theorem s_begin65 {J : zJ} {a : Nat} {Q : zI → zJ → Prop} : ∀ r i k (I : zI), i + r = 7 → r < k → (∀ p, p < i → I (a + 5) p = 0) → (∀ I' : zI, (∀ b l, b ≠ a + 5 → I' b l = I b l) → (∀ p, p < 7 → I' (a + 5) p = 0) → Q I' J) → v_State_begin_65 5000 k a (nI i) I J Q
  | _, _, 0, _, _, hk, _, _ => absurd hk (Nat.not_lt_zero _)
  | 0, i, k + 1, I, hi, hk, hd, hq => z_y (nI_le (a := 7) (by omega) (by omega)) (hq I (fun _ _ _ => rfl) (fun p hp => hd p (by omega)))
  | r + 1, i, k + 1, I, hi, hk, hd, hq => by
    rw [v_State_begin_65]; dsimp only; rw [nI_clamp (by omega), nI_1]
    refine z_n (nI_ge (b := 7) (by omega) (by decide)) ⟨vp_in_nI (by omega) (by decide), fun I3 e3 => ?_⟩
    refine s_begin65 r (i + 1) k I3 (by omega) (by omega) (fun p hp => ?_) (fun I' o' h' => hq I' (fun b l q => by rw [o' b l q, e3, qu_off (Or.inl q)]) h')
    by_cases e : p = i
    · subst e; rw [e3, qu_same]
    · rw [e3, qu_off (Or.inr e)]; exact hd p (by omega)
theorem s_begin {I : zI} {J : zJ} {a : Nat} (ha : 13 < a) {Q : zI → zJ → Prop} (hq : ∀ I' : zI, (∀ b l, ¬ (a ≤ b ∧ b ≤ a + 5) → I' b l = I b l) → I' a 1 = 0 → (∀ p, p < 6 → I' (a + 1) p = I 11 p ∧ I' (a + 2) p = I 13 p ∧ I' (a + 3) p = nI p ∧ I' (a + 4) p = 0) → (∀ p, p < 7 → I' (a + 5) p = 0) → Q I' J) : v_State_begin 5000 a I J Q := by
  intro I1 e1
  have o1 : ∀ b l, b ≠ a → I1 b l = I b l := fun b l q => by rw [e1, qu_off (by omega)]
  refine s_begin7 ha 6 0 5000 I1 (by decide) (by decide) (fun p hp => absurd hp (Nat.not_lt_zero _)) (fun I2 o2 h2 => s_begin65 7 0 5000 I2 (by decide) (by decide) (fun p hp => absurd hp (Nat.not_lt_zero _)) (fun I3 o3 h3 => hq I3 (fun b l q => by rw [o3 b l (by omega), o2 b l (by omega), o1 b l (by omega)]) ?_ (fun p hp => ?_) h3))
  · rw [o3 _ _ (by omega), o2 _ _ (by omega), e1, qu_same]
  · rw [o3 _ _ (by omega), o3 _ _ (by omega), o3 _ _ (by omega), o3 _ _ (by omega)]
    have := h2 p hp
    rw [o1 _ _ (by omega), o1 _ _ (by omega)] at this
    exact this
section
variable {B : Nat → Nat} {n : Nat}
theorem s_X_read {I : zI} {J : zJ} (hB : zBy I B n) (hK : rKeys J) {Q : Int32 → zI → zJ → Prop} (hbad : ¬ zrF (zR1 B n) = 0 → ∀ (I' : zI) (J' : zJ), (∀ b j, b < 26 ∨ 48 < b → b ≠ 2 → b ≠ 5 → b ≠ 6 → I' b j = I b j) → (∀ b j, b ≠ 7 → b ≠ 26 → b ≠ 45 → b ≠ 46 → J' b j = J b j) → I' 26 13 = zrP (zpsn B n) (zR1 B n) → I' 2 1 = 0 → Q (nI (zrF (zR1 B n))) I' J') (hok : ∀ g, zR1 B n = .inr g → (gW g).1 = 0 → ∀ (I' : zI) (J' : zJ), (∀ b j, 54 < b → ¬ (b = 100 ∧ j = 2) → ¬ (b = 83 ∧ j = 7) → I' b j = I b j) → (∀ i, I' 3 i = I 3 i) → (∀ b j, b ≠ 7 → b ≠ 26 → b ≠ 45 → b ≠ 46 → J' b j = J b j) → I' 26 13 = zrP (zpsn B n) (zR1 B n) → I' 2 1 = 0 → cT I' (zXg g) → (∀ p, p < 6 → I' 13 p = (gG g).2 p) → cS I' (gH g).1 (gP g).1 49 (zSg g) → I' 100 2 = 0 → I' 83 7 = 0 → I' 1 11 = 0 → (gH g).1 ≤ 7 → (gP g).1 ≤ 6 → Q 0 I' J') : v_X_read 5000 I J Q := by
  refine s_readAll hB hK (fun I1 J1 o1 p1 h13 hlt hnz hg I3 e3 => ?_)
  have o3 : ∀ b j, ¬ (b = 2 ∧ j = 1) → I3 b j = I1 b j := fun b j q => by rw [e3, qu_off (by omega)]
  refine ⟨fun q => ?_, fun q => ?_⟩
  · refine hbad (fun z => q (by rw [z]; rfl)) I3 J1 (fun b j q1 q2 q3 q4 => by rw [o3 b j (by omega), o1 b j q1 (by omega) q3 q4]) p1 (by rw [o3 _ _ (by omega)]; exact h13) (by rw [e3, qu_same])
  · have q0 := (nI_eq (b := 0) (by omega) (by decide)).mp q
    rw [q0, nI_0]
    cases eR : zR1 B n with
    | inl e =>
      rw [eR] at q0
      exact absurd q0 (hnz e eR)
    | inr g =>
      have hw : (gW g).1 = 0 := by rw [eR] at q0; exact q0
      obtain ⟨hH, hP, hGG, hGL, hGM, hW, h12, h13'⟩ := hg g eR hw
      have hl7 := hH.2.1
      have hl6 := hP.2.1
      have l0 := (hGL 0 (by decide)).kept (I' := I3) (fun b j q1 q2 => o3 b j (by omega))
      have l1 := (hGL 1 (by decide)).kept (I' := I3) (fun b j q1 q2 => o3 b j (by omega))
      have l2 := (hGL 2 (by decide)).kept (I' := I3) (fun b j q1 q2 => o3 b j (by omega))
      have l3 := (hGL 3 (by decide)).kept (I' := I3) (fun b j q1 q2 => o3 b j (by omega))
      refine s_textBecome l0 l1 l2 l3 (fun I5 o5 s5 h5 p5 g0 g1 g2 g3 => s_begin (a := 49) (by decide) (fun I6 o6 n6 p6 b6 I7 e7 I8 e8 I9 e9 => ?_))
      have o9 : ∀ b j, ¬ (b = 100 ∧ j = 2) → ¬ (b = 83 ∧ j = 7) → ¬ (b = 1 ∧ j = 11) → I9 b j = I6 b j := fun b j q1 q2 q3 => by rw [e9, qu_off (by omega), e8, qu_off (by omega), e7, qu_off (by omega)]
      have o95 : ∀ b j, 8 ≤ b → b ≤ 25 → I9 b j = I5 b j := fun b j q1 q2 => by rw [o9 b j (by omega) (by omega) (by omega), o6 b j (by omega)]
      refine hok g eR hw I9 J1 (fun b j q1 q2 q3 => ?_) (fun i => ?_) p1 ?_ ?_ ⟨?_, ?_, fun h hh => ?_, fun h hh => ?_, fun p hp => ?_, ?_, ?_, fun k hk => ?_⟩ (fun p hp => ?_) ⟨?_, fun p hp => ?_, fun p hp => ?_, fun p hp => ?_, fun p hp => ?_, fun h hh => ?_⟩ ?_ ?_ ?_ hl7 hl6
      · rw [o9 b j q2 q3 (by omega), o6 b j (by omega), o5 b j (by omega), o3 b j (by omega), o1 b j (by omega) (by omega) (by omega) (by omega)]
      · rw [o9 _ _ (by omega) (by omega) (by omega), o6 _ _ (by omega), o5 _ _ (by omega), o3 _ _ (by omega), o1 _ _ (by omega) (by omega) (by omega) (by omega)]
      · rw [o9 _ _ (by omega) (by omega) (by omega), o6 _ _ (by omega), o5 _ _ (by omega), o3 _ _ (by omega)]; exact h13
      · rw [o9 _ _ (by omega) (by omega) (by omega), o6 _ _ (by omega), o5 _ _ (by omega), e3, qu_same]
      · rw [o95 _ _ (by omega) (by omega), s5 0 (by omega), o3 _ _ (by omega)]; exact hH.1
      · rw [o95 _ _ (by omega) (by omega), s5 3 (by omega), o3 _ _ (by omega)]; exact hP.1
      · have hh' : h < (gH g).1 := hh
        rw [o95 _ _ (by omega) (by omega), (h5 h (by omega)).1, o3 _ _ (by omega)]; exact (hH.2.2 h hh).2.1
      · have hh' : h < (gH g).1 := hh
        rw [o95 _ _ (by omega) (by omega), (h5 h (by omega)).2, o3 _ _ (by omega)]; exact (hH.2.2 h hh).2.2
      · have hp' : p < (gP g).1 := hp
        rw [o95 _ _ (by omega) (by omega), (p5 p (by omega)).2.1, o3 _ _ (by omega)]; exact (hP.2.2 p hp).2.2
      · rw [o95 _ _ (by omega) (by omega), s5 11 (by omega), o3 _ _ (by omega)]; exact hGM.1
      · rw [o95 _ _ (by omega) (by omega), s5 12 (by omega), o3 _ _ (by omega)]; exact hGM.2
      · rcases (show k = 0 ∨ k = 1 ∨ k = 2 ∨ k = 3 by omega) with rfl | rfl | rfl | rfl
        · exact g0.kept (fun b j q1 q2 => o95 b j (by omega) (by omega))
        · exact g1.kept (fun b j q1 q2 => o95 b j (by omega) (by omega))
        · exact g2.kept (fun b j q1 q2 => o95 b j (by omega) (by omega))
        · exact g3.kept (fun b j q1 q2 => o95 b j (by omega) (by omega))
      · rw [o95 _ _ (by omega) (by omega), (p5 p hp).2.2, o3 _ _ (by omega)]; exact hGG.2.2 p hp
      · rw [o9 _ _ (by omega) (by omega) (by omega)]; exact n6
      · rw [o9 _ _ (by omega) (by omega) (by omega), (p6 p (by omega)).1, (p5 p (by omega)).1, o3 _ _ (by omega)]; exact (hP.2.2 p hp).2.1
      · rw [o9 _ _ (by omega) (by omega) (by omega), (p6 p (by omega)).2.1, (p5 p (by omega)).2.2, o3 _ _ (by omega)]; exact hGG.2.2 p (by omega)
      · rw [o9 _ _ (by omega) (by omega) (by omega), (p6 p (by omega)).2.2.1]; rfl
      · rw [o9 _ _ (by omega) (by omega) (by omega), (p6 p (by omega)).2.2.2]; rfl
      · rw [o9 _ _ (by omega) (by omega) (by omega), b6 h (by omega)]; rfl
      · rw [e9, qu_off (by decide), e8, qu_off (by decide), e7, qu_same]
      · rw [e9, qu_off (by decide), e8, qu_same]
      · rw [e9, qu_same]
end
