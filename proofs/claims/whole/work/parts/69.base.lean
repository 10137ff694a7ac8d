/-! calls that only ask: how one is shown; the reference's copy of the row -/
theorem z_y {c A B : Prop} (hc : c) (h : A) : (c → A) ∧ (¬ c → B) := ⟨fun _ => h, fun q => absurd hc q⟩
theorem z_n {c A B : Prop} (hc : ¬ c) (h : B) : (c → A) ∧ (¬ c → B) := ⟨fun q => absurd q hc, fun _ => h⟩
theorem z_yr {c A B : Prop} (hc : c) (h : A) : (¬ c → B) ∧ (c → A) := ⟨fun q => absurd hc q, fun _ => h⟩
theorem z_nr {c A B : Prop} (hc : ¬ c) (h : B) : (¬ c → B) ∧ (c → A) := ⟨fun _ => h, fun q => absurd q hc⟩
theorem z_10 : ¬ (1 : Int32) = 0 := by decide
theorem z_00 : (0 : Int32) = 0 := rfl
theorem zK.of {I I' : zI} {J : zJ} (e : ∀ b j, zE b j → I' b j = I b j) : zK I I' J J := ⟨e, fun _ _ _ => Eq.refl _⟩
theorem zE_out {b j : Nat} (h : zE b j) : ((1 ≤ b ∧ b ≤ 3) ∨ (8 ≤ b ∧ b ≤ 26) ∨ (49 ≤ b ∧ b ≤ 54) ∨ (83 ≤ b ∧ b ≤ 86) ∨ b = 100 ∨ (102 ≤ b ∧ b ≤ 341) ∨ (343 ≤ b ∧ b ≤ 362) ∨ (371 ≤ b ∧ b ≤ 389) ∨ b = 393 ∨ b = 399 ∨ (403 ≤ b ∧ b ≤ 405) ∨ b = 408 ∨ b = 409) ∧ (b = 361 → j = 2 ∨ j = 17 ∨ j = 18 ∨ j = 57 ∨ j = 63) ∧ (b = 83 → j = 7) ∧ (b = 26 → j = 13) ∧ (b = 2 → j = 1) ∧ (b = 1 → j = 11) := by
  rcases h with h | h | h | h | h | h | h <;> omega
theorem zK.text {I I' : zI} {J J' : zJ} (e : zK I I' J J') {b j : Nat} (h : cText b j) : I' b j = I b j := e.1 b j (Or.inr (Or.inr (Or.inl h)))
theorem zK.now {I I' : zI} {J J' : zJ} (e : zK I I' J J') {b j : Nat} (h : cNow b j) : I' b j = I b j := e.1 b j (Or.inr (Or.inr (Or.inr (Or.inl h))))
theorem zK.told {I I' : zI} {J J' : zJ} (e : zK I I' J J') {b j : Nat} (h : cTold b j) : I' b j = I b j := e.1 b j (Or.inr (Or.inr (Or.inr (Or.inr (Or.inr (Or.inl h))))))
theorem zK.fC {I I' : zI} {J : zJ} (e : frC I I') : zK I I' J J := zK.of (fun b j q => by
  have := zE_out q
  exact e b j (by omega) (by omega))
theorem zK.fM {I I' : zI} {J : zJ} (e : frM I I') : zK I I' J J := zK.of (fun b j q => by
  have := zE_out q
  exact e b j (by omega) (by omega) (by omega))
abbrev frS (I I' : zI) : Prop := ∀ b j, b ≠ 394 → ¬ (b = 361 ∧ (j = 51 ∨ j = 52)) → I' b j = I b j
theorem zK.fS {I I' : zI} {J : zJ} (e : frS I I') : zK I I' J J := zK.of (fun b j q => by
  have := zE_out q
  exact e b j (by omega) (by omega))
def zQ (I : zI) (t : zX) (live : Nat) (s : zT) : Prop := cX I t 49 s ∧ mT I t live ∧ mR I (xH t) (xP t) 393 s
theorem Rel.q {I : zI} {J : zJ} (h : Rel I J) : ∃ t live s, zQ I t live s := by
  obtain ⟨n, nH, nP, live, u, x, t, m, h1, h2, h3, h4, h5, h6, h7, h8⟩ := h
  obtain ⟨t, rfl, rfl, hx, hc, hm⟩ := h3.get
  obtain ⟨s, hw, hs, hr⟩ := h4.get
  exact ⟨t, live, s, ⟨hx, hc, hw, hs, by omega, by omega⟩, hm, mS_zero.mp hr⟩
theorem zQ.kept {I I' : zI} {J J' : zJ} {t : zX} {live : Nat} {s : zT} (h : zQ I t live s) (e : zK I I' J J') : zQ I' t live s :=
  ⟨h.1.kept (fun b j q => by
    rcases q with q | q
    · exact e.text (Or.inl q)
    · exact e.now (Or.inl q)), h.2.1.kept (fun b j q1 q2 => e.text (Or.inr (Or.inl ⟨q1, q2⟩))) (e.text (Or.inr (Or.inr ⟨rfl, rfl⟩))), h.2.2.kept (fun k => e.now (Or.inr rfl))⟩
theorem zok_q {vX vM : zI → zJ → (Int32 → zI → zJ → Prop) → Prop} (h : ∀ I J, Rel I J → ∀ t live s, zQ I t live s → ∃ r, (∀ Q : Int32 → zI → zJ → Prop, (∀ I1, zK I I1 J J → Q r I1 J) → vX I J Q) ∧ (∀ (I1 : zI) (Q : Int32 → zI → zJ → Prop), zK I I1 J J → zQ I1 t live s → (∀ I2, zK I1 I2 J J → Q r I2 J) → vM I1 J Q)) (I : zI) (J : zJ) (K : zI → zJ → Prop) (hR : Rel I J) (hK : ∀ I J, Rel I J → K I J) : vX I J (fun r I1 J1 => vM I1 J1 (fun r2 I2 J2 => r = r2 ∧ K I2 J2)) := by
  obtain ⟨t, live, s, hQ⟩ := hR.q
  obtain ⟨r, h1, h2⟩ := h I J hR t live s hQ
  exact h1 _ (fun I1 k1 => h2 I1 _ k1 (hQ.kept k1) (fun I2 k2 => ⟨rfl, hK I2 J (hR.kept (k1.trans k2))⟩))
theorem s_M_copies_2 {J : zJ} {Q K : zI → zJ → Prop} : ∀ r i k (I : zI), i + r = 32 → r < k → (∀ I' : zI, (∀ b j, b ≠ 394 → I' b j = I b j) → (∀ j, j < i → I' 394 j = I 394 j) → (∀ j, i ≤ j → j < 32 → I' 394 j = I 393 j) → K I' J) → v_M_copies_2 5000 k (nI i) I J Q K
  | _, _, 0, _, _, hk, _ => absurd hk (Nat.not_lt_zero _)
  | 0, i, k + 1, I, hi, hk, hq => by
    rw [v_M_copies_2]
    exact z_y (nI_le (a := 32) (by omega) (by omega)) (hq I (fun _ _ _ => rfl) (fun _ _ => rfl) (fun j h1 h2 => absurd h1 (by omega)))
  | r + 1, i, k + 1, I, hi, hk, hq => by
    rw [v_M_copies_2]
    refine z_n (nI_ge (b := 32) (by omega) (by decide)) ⟨vp_in_nI (by omega) (by decide), vp_in_nI (by omega) (by decide), fun I4 e4 => ?_⟩
    rw [nI_clamp (by omega)] at e4
    rw [nI_1]
    refine s_M_copies_2 r (i + 1) k I4 (by omega) (by omega) (fun I' o1 o2 o3 => hq I' (fun b j q => by rw [o1 b j q, e4, qu_off (Or.inl q)]) (fun j hj => by rw [o2 j (by omega), e4, qu_off (Or.inr (by omega))]) (fun j h1 h2 => ?_))
    by_cases hj : j = i
    · subst hj
      rw [o2 j (by omega), e4, qu_same]
    · rw [o3 j (by omega) h2, e4, qu_off (Or.inl (by decide))]
theorem s_M_copies {I : zI} {J : zJ} {t : zX} {live : Nat} {s : zT} (hx : zX_ok t) (hT : mT I t live) (hw : zW (xH t) (xP t) s) (hR : mR I (xH t) (xP t) 393 s) {Q : zI → zJ → Prop} (hq : ∀ I' : zI, frS I I' → mX I' t live s → I' 361 51 = xD t → I' 361 52 = 0 → Q I' J) : v_M_copies 5000 I J Q := by
  have hP := hx.2.1
  have hH := hx.1
  refine s_M_copies_2 32 0 5000 I (by omega) (by omega) (fun I1 o1 _ o2 => ?_)
  have hT1 : mT I1 t live := hT.kept (fun b j q1 q2 => o1 b j (by omega)) (o1 _ _ (by decide))
  have o2 : ∀ j, j < 32 → I1 394 j = I 393 j := fun j hj => o2 j (Nat.zero_le _) hj
  have hl := hT.1
  rw [hT1.2.1, nI_clamp (by omega), hT1.2.2.2.2.2.2.2.2.1]
  refine ⟨vp_in_nI hl (by decide), fun I3 e3 I4 e4 => ?_⟩
  have o4 : ∀ b j, ¬ (b = 361 ∧ (j = 51 ∨ j = 52)) → I4 b j = I1 b j := fun b j q => by rw [e4, qu_off (by omega), e3, qu_off (by omega)]
  have o5 : ∀ j, j < 32 → I4 394 j = I 393 j := fun j hj => by rw [o4 _ _ (by omega), o2 j hj]
  refine hq I4 (fun b j q1 q2 => by rw [o4 b j q2, o1 b j q1]) ⟨hx, hT1.kept (fun b j q1 q2 => o4 b j (by omega)) (o4 _ _ (by decide)), hw, ?_⟩ (by rw [e4, qu_off (by decide), e3, qu_same]) (by rw [e4, qu_same])
  obtain ⟨m0, m1, m2, m3, m4, m5, m6, m7⟩ := hR
  exact ⟨by rw [o5 _ (by decide)]; exact m0, fun p hp => by rw [o5 _ (by omega)]; exact m1 p hp, fun p hp => by rw [o5 _ (by omega)]; exact m2 p hp, fun p hp => by rw [o5 _ (by omega)]; exact m3 p hp, fun p hp => by rw [o5 _ (by omega)]; exact m4 p hp, fun p hp => by rw [o5 _ (by omega)]; exact m5 p hp, fun p h1 h2 => by rw [o5 _ (by omega)]; exact m6 p h1 h2, fun p h1 h2 => by rw [o5 _ (by omega)]; exact m7 p h1 h2⟩
abbrev frS1 (I I' : zI) : Prop := frS I I'
theorem s_M_copiesStill {I : zI} {J : zJ} {t : zX} {live : Nat} {s : zT} (hx : zX_ok t) (hT : mT I t live) (hw : zW (xH t) (xP t) s) (hR : mR I (xH t) (xP t) 393 s) {Q : zI → zJ → Prop} (hq : ∀ I' : zI, frS I I' → mX I' t live s → I' 361 51 = xD t → I' 361 52 = 1 → Q I' J) : v_M_copiesStill 5000 I J Q :=
  s_M_copies hx hT hw hR (fun I1 o1 hX h51 h52 I2 e2 => by
    have o2 : ∀ b j, ¬ (b = 361 ∧ (j = 51 ∨ j = 52)) → I2 b j = I1 b j := fun b j q => by rw [e2, qu_off (by omega)]
    exact hq I2 (fun b j q1 q2 => by rw [o2 b j q2, o1 b j q1 q2]) (hX.kept (fun b j q => o2 b j (by omega))) (by rw [e2, qu_off (by decide), h51]) (by rw [e2, qu_same]))
theorem zQ.copies {I : zI} {J : zJ} {t : zX} {live : Nat} {s : zT} (h : zQ I t live s) {Q : zI → zJ → Prop} (hq : ∀ I' : zI, frS I I' → mX I' t live s → I' 361 51 = xD t → I' 361 52 = 0 → Q I' J) : v_M_copies 5000 I J Q := s_M_copies h.1.1 h.2.1 h.1.2.2.1 h.2.2 hq
theorem zQ.still {I : zI} {J : zJ} {t : zX} {live : Nat} {s : zT} (h : zQ I t live s) {Q : zI → zJ → Prop} (hq : ∀ I' : zI, frS I I' → mX I' t live s → I' 361 51 = xD t → I' 361 52 = 1 → Q I' J) : v_M_copiesStill 5000 I J Q := s_M_copiesStill h.1.1 h.2.1 h.1.2.2.1 h.2.2 hq
/-- persons, hangers that are some, or none -/
theorem zQ.xP1 {I : zI} {J : zJ} {t : zX} {live p : Nat} {s : zT} (h : zQ I t live s) (hp : p < xP t) {Q : Int32 → zI → zJ → Prop} (hq : Q 1 I J) : v_X_isPerson 5000 (nI p) I J Q := s_X_isPerson h.1.1 h.1.2.1 (fun _ _ _ => hq) (fun z => absurd ⟨p, hp, rfl⟩ z)
theorem zQ.xP0 {I : zI} {J : zJ} {t : zX} {live : Nat} {x : Int32} {s : zT} (h : zQ I t live s) (hp : ¬ zin x (xP t)) {Q : Int32 → zI → zJ → Prop} (hq : Q 0 I J) : v_X_isPerson 5000 x I J Q := s_X_isPerson h.1.1 h.1.2.1 (fun p q e => absurd ⟨p, q, e⟩ hp) (fun _ => hq)
theorem zQ.xH1 {I : zI} {J : zJ} {t : zX} {live p : Nat} {s : zT} (h : zQ I t live s) (hp : p < xH t) {Q : Int32 → zI → zJ → Prop} (hq : Q 1 I J) : v_X_isHanger 5000 (nI p) I J Q := s_X_isHanger h.1.1 h.1.2.1 (fun _ _ _ => hq) (fun z => absurd ⟨p, hp, rfl⟩ z)
theorem zQ.xH0 {I : zI} {J : zJ} {t : zX} {live : Nat} {x : Int32} {s : zT} (h : zQ I t live s) (hp : ¬ zin x (xH t)) {Q : Int32 → zI → zJ → Prop} (hq : Q 0 I J) : v_X_isHanger 5000 x I J Q := s_X_isHanger h.1.1 h.1.2.1 (fun p q e => absurd ⟨p, q, e⟩ hp) (fun _ => hq)
theorem zQ.mP1 {I : zI} {J : zJ} {t : zX} {live p : Nat} {s : zT} (h : zQ I t live s) (hp : p < xP t) {Q : Int32 → zI → zJ → Prop} (hq : Q 1 I J) : v_M_isPerson 5000 (nI p) I J Q := s_M_isPerson h.1.1 h.2.1 (fun _ _ _ => hq) (fun z => absurd ⟨p, hp, rfl⟩ z)
theorem zQ.mP0 {I : zI} {J : zJ} {t : zX} {live : Nat} {x : Int32} {s : zT} (h : zQ I t live s) (hp : ¬ zin x (xP t)) {Q : Int32 → zI → zJ → Prop} (hq : Q 0 I J) : v_M_isPerson 5000 x I J Q := s_M_isPerson h.1.1 h.2.1 (fun p q e => absurd ⟨p, q, e⟩ hp) (fun _ => hq)
theorem zQ.mH1 {I : zI} {J : zJ} {t : zX} {live p : Nat} {s : zT} (h : zQ I t live s) (hp : p < xH t) {Q : Int32 → zI → zJ → Prop} (hq : Q 1 I J) : v_M_isHanger 5000 (nI p) I J Q := s_M_isHanger h.1.1 h.2.1 (fun _ _ _ => hq) (fun z => absurd ⟨p, hp, rfl⟩ z)
theorem zQ.mH0 {I : zI} {J : zJ} {t : zX} {live : Nat} {x : Int32} {s : zT} (h : zQ I t live s) (hp : ¬ zin x (xH t)) {Q : Int32 → zI → zJ → Prop} (hq : Q 0 I J) : v_M_isHanger 5000 x I J Q := s_M_isHanger h.1.1 h.2.1 (fun p q e => absurd ⟨p, q, e⟩ hp) (fun _ => hq)
/-- who is on a hanger -/
def zwho (o : Nat → Int32) (x : Int32) : Nat → Nat → Int32
  | 0, _ => -2
  | r + 1, i => if o i = x then nI i else zwho o x r (i + 1)
theorem zwho_cases (o : Nat → Int32) (x : Int32) : ∀ r i, (zwho o x r i = -2 ∧ ∀ p, i ≤ p → p < i + r → ¬ o p = x) ∨ ∃ p, i ≤ p ∧ p < i + r ∧ zwho o x r i = nI p ∧ o p = x
  | 0, i => Or.inl ⟨rfl, fun p h1 h2 => absurd h1 (by omega)⟩
  | r + 1, i => by
    rw [zwho]
    by_cases h : o i = x
    · rw [if_pos h]
      exact Or.inr ⟨i, Nat.le_refl _, by omega, rfl, h⟩
    · rw [if_neg h]
      rcases zwho_cases o x r (i + 1) with ⟨h1, h2⟩ | ⟨p, h1, h2, h3⟩
      · refine Or.inl ⟨h1, fun p q1 q2 => ?_⟩
        by_cases hp : p = i
        · rw [hp]; exact h
        · exact h2 p (by omega) (by omega)
      · exact Or.inr ⟨p, by omega, by omega, h3⟩
theorem s_whoIsOn_2 {I : zI} {J : zJ} {t : zX} {a : Nat} {s : zT} (hX : cX I t a s) {x : Int32} {Q : Int32 → zI → zJ → Prop} : ∀ r i k, i + r = xP t → r < k → Q (zwho (sO s) x r i) I J → v_State_whoIsOn_2 5000 k a x (nI i) I J Q
  | _, _, 0, _, hk, _ => absurd hk (Nat.not_lt_zero _)
  | 0, i, k + 1, hi, hk, hq => by
    have hP := hX.1.2.1
    rw [v_State_whoIsOn_2]; dsimp only; rw [hX.2.1.2.1]
    exact z_y (nI_le (by omega) (by omega)) hq
  | r + 1, i, k + 1, hi, hk, hq => by
    have hP := hX.1.2.1
    rw [v_State_whoIsOn_2]; dsimp only; rw [hX.2.1.2.1, nI_clamp (by omega), hX.2.2.2.1.2.2.1 i (by omega)]
    rw [zwho] at hq
    refine z_n (nI_ge (by omega) (by omega)) ⟨vp_in_nI (by omega) (by decide), fun q => ?_, fun q => ?_⟩
    · rw [if_neg q] at hq
      rw [nI_1]
      exact s_whoIsOn_2 hX r (i + 1) k (by omega) (by omega) hq
    · rw [if_pos q] at hq
      exact hq
theorem s_whoIsOn {I : zI} {J : zJ} {t : zX} {a : Nat} {s : zT} (hX : cX I t a s) {x : Int32} {Q : Int32 → zI → zJ → Prop} (hq : Q (zwho (sO s) x (xP t) 0) I J) : v_State_whoIsOn 5000 a x I J Q := s_whoIsOn_2 hX (xP t) 0 5000 (by omega) (by have := hX.1.2.1; omega) hq
theorem s_M_whoIsOn_2 {I : zI} {J : zJ} {t : zX} {live : Nat} {s : zT} (hX : mX I t live s) {x : Int32} {Q : Int32 → zI → zJ → Prop} : ∀ r i k, i + r = xP t → r < k → Q (zwho (sO s) x r i) I J → v_M_whoIsOn_2 5000 k x (nI i) I J Q
  | _, _, 0, _, hk, _ => absurd hk (Nat.not_lt_zero _)
  | 0, i, k + 1, hi, hk, hq => by
    have hP := hX.1.2.1
    have hl := hX.2.1.1
    rw [v_M_whoIsOn_2]; dsimp only; rw [hX.2.1.2.1, nI_clamp (by omega), hX.2.1.2.2.2.1]
    exact ⟨vp_in_nI hl (by decide), z_y (nI_le (by omega) (by omega)) hq⟩
  | r + 1, i, k + 1, hi, hk, hq => by
    have hP := hX.1.2.1
    have hl := hX.2.1.1
    rw [v_M_whoIsOn_2]; dsimp only; rw [hX.2.1.2.1, nI_clamp (n := live) (by omega), hX.2.1.2.2.2.1, z_c6, nI_clamp (by omega), hX.2.2.2.2.2.1 i (by omega)]
    rw [zwho] at hq
    refine ⟨vp_in_nI hl (by decide), z_n (nI_ge (by omega) (by omega)) ⟨vp_in_nI (by omega) (by decide), fun q => ?_, fun q => ?_⟩⟩
    · rw [if_neg q] at hq
      rw [nI_1]
      exact s_M_whoIsOn_2 hX r (i + 1) k (by omega) (by omega) hq
    · rw [if_pos q] at hq
      exact hq
theorem s_M_whoIsOn {I : zI} {J : zJ} {t : zX} {live : Nat} {s : zT} (hX : mX I t live s) {x : Int32} {Q : Int32 → zI → zJ → Prop} (hq : Q (zwho (sO s) x (xP t) 0) I J) : v_M_whoIsOn 5000 x I J Q := s_M_whoIsOn_2 hX (xP t) 0 5000 (by omega) (by have := hX.1.2.1; omega) hq
theorem zwho_neg {o : Nat → Int32} {x : Int32} {n : Nat} (hn : n ≤ 6) : (zwho o x n 0 < 0 ∧ ∀ p, p < n → ¬ o p = x) ∨ (¬ zwho o x n 0 < 0 ∧ ∃ p, p < n ∧ o p = x) := by
  rcases zwho_cases o x n 0 with ⟨h1, h2⟩ | ⟨p, h1, h2, h3, h4⟩
  · exact Or.inl ⟨by rw [h1]; decide, fun p hp => h2 p (Nat.zero_le _) (by omega)⟩
  · exact Or.inr ⟨by rw [h3]; exact nI_pos (by omega), p, by omega, h4⟩
/-- taken or not -/
theorem s_isTaken {I : zI} {J : zJ} {t : zX} {a : Nat} {s : zT} (hX : cX I t a s) {x : Int32} {Q : Int32 → zI → zJ → Prop} (h0 : zwho (sO s) x (xP t) 0 < 0 → Q 0 I J) (h1 : ¬ zwho (sO s) x (xP t) 0 < 0 → Q 1 I J) : v_State_isTaken 5000 a x I J Q := s_whoIsOn hX ⟨h0, h1⟩
theorem zok_hanger : zOK_hanger Rel := fun a0 a1 => zok_q (vX := v_X_hanger 5000 a0 a1) (vM := v_M_hanger 5000 a0 a1) (fun I J hR t live s hQ => by
  have hX := hQ.1
  have hH := hX.1.1
  have hl := hQ.2.1.1
  by_cases hz : zin a0 (xH t)
  · obtain ⟨h, hh, rfl⟩ := hz
    by_cases c0 : a1 = 0
    · exact ⟨xN t h, fun Q hq => hQ.xH1 hh (z_nr z_10 (z_y c0 ⟨vp_in_nI (by omega) (by decide), by rw [nI_clamp (by omega), hX.2.1.2.2.1 h hh]; exact hq I zK.rfl⟩)), fun I1 Q k1 hQ1 hq => hQ1.mH1 hh (z_nr z_10 (hQ1.copies (fun I2 o2 hX2 _ _ => z_y c0 (s_M_nailAt hX2.1 hX2.2.1 hh (hq I2 (zK.fS o2))))))⟩
    by_cases c1 : a1 = 1
    · exact ⟨xB t h, fun Q hq => hQ.xH1 hh (z_nr z_10 (z_n c0 (z_y c1 ⟨vp_in_nI (by omega) (by decide), by rw [nI_clamp (by omega), hX.2.1.2.2.2.1 h hh]; exact hq I zK.rfl⟩))), fun I1 Q k1 hQ1 hq => hQ1.mH1 hh (z_nr z_10 (hQ1.copies (fun I2 o2 hX2 _ _ => z_n c0 (z_y c1 (by rw [hX2.2.1.2.1, z_m7, nI_clamp (by omega), hX2.2.1.2.2.2.2.2.1 h hh]; exact ⟨vp_in_nI (by omega) (by decide), hq I2 (zK.fS o2)⟩)))))⟩
    by_cases c2 : a1 = 2
    · exact ⟨sB s h, fun Q hq => hQ.xH1 hh (z_nr z_10 (z_n c0 (z_n c1 (z_y c2 ⟨vp_in_nI (by omega) (by decide), by rw [nI_clamp (by omega), hX.2.2.2.1.2.2.2.2.2 h hh]; exact hq I zK.rfl⟩)))), fun I1 Q k1 hQ1 hq => hQ1.mH1 hh (z_nr z_10 (hQ1.copies (fun I2 o2 hX2 _ _ => z_n c0 (z_n c1 (z_y c2 (by rw [z_c24, nI_clamp (by omega), hX2.2.2.2.2.2.2.2.2.1 h hh]; exact ⟨vp_in_nI (by omega) (by decide), hq I2 (zK.fS o2)⟩))))))⟩
    by_cases c3 : a1 = 3
    · exact ⟨zwho (sO s) (nI h) (xP t) 0, fun Q hq => hQ.xH1 hh (z_nr z_10 (z_n c0 (z_n c1 (z_n c2 (z_y c3 (s_whoIsOn hX (hq I zK.rfl))))))), fun I1 Q k1 hQ1 hq => hQ1.mH1 hh (z_nr z_10 (hQ1.copies (fun I2 o2 hX2 _ _ => z_n c0 (z_n c1 (z_n c2 (z_y c3 (s_M_whoIsOn hX2 (hq I2 (zK.fS o2)))))))))⟩
    · exact ⟨-1, fun Q hq => hQ.xH1 hh (z_nr z_10 (z_n c0 (z_n c1 (z_n c2 (z_n c3 (hq I zK.rfl)))))), fun I1 Q k1 hQ1 hq => hQ1.mH1 hh (z_nr z_10 (hQ1.copies (fun I2 o2 hX2 _ _ => z_n c0 (z_n c1 (z_n c2 (z_n c3 (hq I2 (zK.fS o2))))))))⟩
  · exact ⟨-1, fun Q hq => hQ.xH0 hz (z_yr z_00 (hq I zK.rfl)), fun I1 Q k1 hQ1 hq => hQ1.mH0 hz (z_yr z_00 (hq I1 zK.rfl))⟩)
theorem zok_person : zOK_person Rel := fun a0 a1 => zok_q (vX := v_X_person 5000 a0 a1) (vM := v_M_person 5000 a0 a1) (fun I J hR t live s hQ => by
  have hX := hQ.1
  have hP := hX.1.2.1
  have hl := hQ.2.1.1
  by_cases hz : zin a0 (xP t)
  · obtain ⟨h, hh, rfl⟩ := hz
    by_cases c0 : a1 = 0
    · exact ⟨sW s h, fun Q hq => hQ.xP1 hh (z_nr z_10 (z_y c0 ⟨vp_in_nI (by omega) (by decide), by rw [nI_clamp (by omega), hX.2.2.2.1.2.1 h hh]; exact hq I zK.rfl⟩)), fun I1 Q k1 hQ1 hq => hQ1.mP1 hh (z_nr z_10 (hQ1.copies (fun I2 o2 hX2 _ _ => z_y c0 (by rw [nI_clamp (by omega), hX2.2.2.2.2.1 h hh]; exact ⟨vp_in_nI (by omega) (by decide), hq I2 (zK.fS o2)⟩))))⟩
    by_cases c1 : a1 = 1
    · exact ⟨xR t h, fun Q hq => hQ.xP1 hh (z_nr z_10 (z_n c0 (z_y c1 ⟨vp_in_nI (by omega) (by decide), by rw [nI_clamp (by omega), hX.2.1.2.2.2.2.1 h hh]; exact hq I zK.rfl⟩))), fun I1 Q k1 hQ1 hq => hQ1.mP1 hh (z_nr z_10 (hQ1.copies (fun I2 o2 hX2 _ _ => z_n c0 (z_y c1 (by rw [hX2.2.1.2.1, z_m6, nI_clamp (by omega), hX2.2.1.2.2.2.2.2.2.1 h hh]; exact ⟨vp_in_nI (by omega) (by decide), hq I2 (zK.fS o2)⟩)))))⟩
    by_cases c2 : a1 = 2
    · exact ⟨sO s h, fun Q hq => hQ.xP1 hh (z_nr z_10 (z_n c0 (z_n c1 (z_y c2 ⟨vp_in_nI (by omega) (by decide), by rw [nI_clamp (by omega), hX.2.2.2.1.2.2.1 h hh]; exact hq I zK.rfl⟩)))), fun I1 Q k1 hQ1 hq => hQ1.mP1 hh (z_nr z_10 (hQ1.copies (fun I2 o2 hX2 _ _ => z_n c0 (z_n c1 (z_y c2 (by rw [z_c6, nI_clamp (by omega), hX2.2.2.2.2.2.1 h hh]; exact ⟨vp_in_nI (by omega) (by decide), hq I2 (zK.fS o2)⟩))))))⟩
    by_cases c3 : a1 = 3
    · exact ⟨sS s h, fun Q hq => hQ.xP1 hh (z_nr z_10 (z_n c0 (z_n c1 (z_n c2 (z_y c3 ⟨vp_in_nI (by omega) (by decide), by rw [nI_clamp (by omega), hX.2.2.2.1.2.2.2.1 h hh]; exact hq I zK.rfl⟩))))), fun I1 Q k1 hQ1 hq => hQ1.mP1 hh (z_nr z_10 (hQ1.copies (fun I2 o2 hX2 _ _ => z_n c0 (z_n c1 (z_n c2 (z_y c3 (by rw [z_c12, nI_clamp (by omega), hX2.2.2.2.2.2.2.1 h hh]; exact ⟨vp_in_nI (by omega) (by decide), hq I2 (zK.fS o2)⟩)))))))⟩
    by_cases c4 : a1 = 4
    · exact ⟨sC s h, fun Q hq => hQ.xP1 hh (z_nr z_10 (z_n c0 (z_n c1 (z_n c2 (z_n c3 (z_y c4 ⟨vp_in_nI (by omega) (by decide), by rw [nI_clamp (by omega), hX.2.2.2.1.2.2.2.2.1 h hh]; exact hq I zK.rfl⟩)))))), fun I1 Q k1 hQ1 hq => hQ1.mP1 hh (z_nr z_10 (hQ1.copies (fun I2 o2 hX2 _ _ => z_n c0 (z_n c1 (z_n c2 (z_n c3 (z_y c4 (by rw [z_c18, nI_clamp (by omega), hX2.2.2.2.2.2.2.2.1 h hh]; exact ⟨vp_in_nI (by omega) (by decide), hq I2 (zK.fS o2)⟩))))))))⟩
    by_cases c5 : a1 = 5
    · rcases z_on hX.2.2.1 hh with e | ⟨x, hx, e⟩
      · exact ⟨0, fun Q hq => hQ.xP1 hh (z_nr z_10 (z_n c0 (z_n c1 (z_n c2 (z_n c3 (z_n c4 (z_y c5 (s_othersBeside hX hh (fun _ => hq I zK.rfl) (fun y hy e' => absurd (e.symm.trans e') (fun z => absurd (z ▸ z_neg2) (nI_pos (by have := hX.1.1; omega)))))))))))), fun I1 Q k1 hQ1 hq => hQ1.mP1 hh (z_nr z_10 (hQ1.copies (fun I2 o2 hX2 _ _ => z_n c0 (z_n c1 (z_n c2 (z_n c3 (z_n c4 (z_y c5 (s_M_besideOf hX2 hh (fun _ => hq I2 (zK.fS o2)) (fun y hy e' => absurd (e.symm.trans e') (fun z => absurd (z ▸ z_neg2) (nI_pos (by have := hX.1.1; omega)))))))))))))⟩
      · exact ⟨zbes t s h, fun Q hq => hQ.xP1 hh (z_nr z_10 (z_n c0 (z_n c1 (z_n c2 (z_n c3 (z_n c4 (z_y c5 (s_othersBeside hX hh (fun e' => absurd (e'.symm.trans e) (fun z => absurd (z ▸ z_neg2) (nI_pos (by have := hX.1.1; omega)))) (fun y hy e' => hq I zK.rfl))))))))), fun I1 Q k1 hQ1 hq => hQ1.mP1 hh (z_nr z_10 (hQ1.copies (fun I2 o2 hX2 _ _ => z_n c0 (z_n c1 (z_n c2 (z_n c3 (z_n c4 (z_y c5 (s_M_besideOf hX2 hh (fun e' => absurd (e'.symm.trans e) (fun z => absurd (z ▸ z_neg2) (nI_pos (by have := hX.1.1; omega)))) (fun y hy e' => hq I2 (zK.fS o2))))))))))) ⟩
    · exact ⟨-1, fun Q hq => hQ.xP1 hh (z_nr z_10 (z_n c0 (z_n c1 (z_n c2 (z_n c3 (z_n c4 (z_n c5 (hq I zK.rfl)))))))), fun I1 Q k1 hQ1 hq => hQ1.mP1 hh (z_nr z_10 (hQ1.copies (fun I2 o2 hX2 _ _ => z_n c0 (z_n c1 (z_n c2 (z_n c3 (z_n c4 (z_n c5 (hq I2 (zK.fS o2))))))))))⟩
  · exact ⟨-1, fun Q hq => hQ.xP0 hz (z_yr z_00 (hq I zK.rfl)), fun I1 Q k1 hQ1 hq => hQ1.mP0 hz (z_yr z_00 (hq I1 zK.rfl))⟩)
