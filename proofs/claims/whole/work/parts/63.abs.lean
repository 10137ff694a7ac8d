/-! the abstract text and state, and what of the cells holds them -/
theorem z_c6 (p : Nat) : (6 : Int32) + nI p = nI (6 + p) := nI_add 6 p
theorem z_c12 (p : Nat) : (12 : Int32) + nI p = nI (12 + p) := nI_add 12 p
theorem z_c18 (p : Nat) : (18 : Int32) + nI p = nI (18 + p) := nI_add 18 p
theorem z_c24 (p : Nat) : (24 : Int32) + nI p = nI (24 + p) := nI_add 24 p
theorem nI_mul (a b : Nat) : nI a * nI b = nI (a * b) := (Int32.ofNat_mul a b).symm
theorem z_m7 (l h : Nat) : (7 : Int32) * nI l + nI h = nI (7 * l + h) := (congrArg (· + nI h) (nI_mul 7 l)).trans (nI_add _ _)
theorem z_m6 (l h : Nat) : (6 : Int32) * nI l + nI h = nI (6 * l + h) := (congrArg (· + nI h) (nI_mul 6 l)).trans (nI_add _ _)
theorem z_m4 (l h : Nat) : (4 : Int32) * nI l + nI h = nI (4 * l + h) := (congrArg (· + nI h) (nI_mul 4 l)).trans (nI_add _ _)
theorem z_v : vp_in (0 : Int32) 9 ∧ vp_in (1 : Int32) 9 ∧ vp_in (2 : Int32) 9 ∧ vp_in (3 : Int32) 9 ∧ vp_in (4 : Int32) 9 ∧ vp_in (5 : Int32) 9 ∧ vp_in (6 : Int32) 9 ∧ vp_in (7 : Int32) 9 ∧ vp_in (8 : Int32) 9 ∧ vp_in (31 : Int32) 32 ∧ vp_in (0 : Int32) 400 := ⟨vp_in_nI (n := 0) (by decide) (by decide), vp_in_nI (n := 1) (by decide) (by decide), vp_in_nI (n := 2) (by decide) (by decide), vp_in_nI (n := 3) (by decide) (by decide), vp_in_nI (n := 4) (by decide) (by decide), vp_in_nI (n := 5) (by decide) (by decide), vp_in_nI (n := 6) (by decide) (by decide), vp_in_nI (n := 7) (by decide) (by decide), vp_in_nI (n := 8) (by decide) (by decide), vp_in_nI (n := 31) (by decide) (by decide), vp_in_nI (n := 0) (by decide) (by decide)⟩
theorem z_l0 : (0 : Int32).toNatClampNeg = 0 := by decide
theorem z_l1 : (1 : Int32).toNatClampNeg = 1 := by decide
theorem z_l2 : (2 : Int32).toNatClampNeg = 2 := by decide
theorem z_l3 : (3 : Int32).toNatClampNeg = 3 := by decide
theorem z_l4 : (4 : Int32).toNatClampNeg = 4 := by decide
theorem z_l5 : (5 : Int32).toNatClampNeg = 5 := by decide
theorem z_l6 : (6 : Int32).toNatClampNeg = 6 := by decide
theorem z_l7 : (7 : Int32).toNatClampNeg = 7 := by decide
theorem z_l8 : (8 : Int32).toNatClampNeg = 8 := by decide
theorem z_l31 : (31 : Int32).toNatClampNeg = 31 := by decide
/-- a state: wide, on, self, crooked, bent, night -/
abbrev zT : Type := (Nat → Int32) × (Nat → Int32) × (Nat → Int32) × (Nat → Int32) × (Nat → Int32) × Int32
def sW (s : zT) : Nat → Int32 := s.1
def sO (s : zT) : Nat → Int32 := s.2.1
def sS (s : zT) : Nat → Int32 := s.2.2.1
def sC (s : zT) : Nat → Int32 := s.2.2.2.1
def sB (s : zT) : Nat → Int32 := s.2.2.2.2.1
def sN (s : zT) : Int32 := s.2.2.2.2.2
/-- a text: hangers, people, nail, breadth, rank, moth, seed, laws -/
abbrev zX : Type := Nat × Nat × (Nat → Int32) × (Nat → Int32) × (Nat → Int32) × Int32 × Int32 × (Nat → zLw)
def xH (t : zX) : Nat := t.1
def xP (t : zX) : Nat := t.2.1
def xN (t : zX) : Nat → Int32 := t.2.2.1
def xB (t : zX) : Nat → Int32 := t.2.2.2.1
def xR (t : zX) : Nat → Int32 := t.2.2.2.2.1
def xM (t : zX) : Int32 := t.2.2.2.2.2.1
def xD (t : zX) : Int32 := t.2.2.2.2.2.2.1
def xL (t : zX) : Nat → zLw := t.2.2.2.2.2.2.2
def cS (I : zI) (nH nP a : Nat) (s : zT) : Prop := I a 1 = sN s ∧ (∀ p, p < nP → I (a + 1) p = sW s p) ∧ (∀ p, p < nP → I (a + 2) p = sO s p) ∧ (∀ p, p < nP → I (a + 3) p = sS s p) ∧ (∀ p, p < nP → I (a + 4) p = sC s p) ∧ (∀ h, h < nH → I (a + 5) h = sB s h)
def mS (I : zI) (nH nP r o : Nat) (s : zT) : Prop := I r (o + 31) = sN s ∧ (∀ p, p < nP → I r (o + p) = sW s p) ∧ (∀ p, p < nP → I r (o + (6 + p)) = sO s p) ∧ (∀ p, p < nP → I r (o + (12 + p)) = sS s p) ∧ (∀ p, p < nP → I r (o + (18 + p)) = sC s p) ∧ (∀ h, h < nH → I r (o + (24 + h)) = sB s h) ∧ (∀ p, nP ≤ p → p < 6 → I r (o + (18 + p)) = 0) ∧ (∀ h, nH ≤ h → h < 7 → I r (o + (24 + h)) = 0)
def zW (nH nP : Nat) (s : zT) : Prop := (∀ p, p < nP → zin (sW s p) 100) ∧ (∀ p, p < nP → sO s p = -2 ∨ zin (sO s p) nH) ∧ (∀ p q, p < nP → q < nP → sO s p = sO s q → ¬ sO s p = -2 → p = q) ∧ (∀ p, p < nP → zin (sS s p) nP) ∧ (∀ p q, p < nP → q < nP → sS s p = sS s q → p = q) ∧ (∀ p, p < nP → zin (sC s p) 1000) ∧ (∀ h, h < nH → zin (sB s h) 100)
def zX_ok (t : zX) : Prop := xH t ≤ 7 ∧ xP t ≤ 6 ∧ (∀ h, h < xH t → zin (xN t h) 5) ∧ (∀ h, h < xH t → zin (xB t h) 100) ∧ ∀ k, k < 4 → zlwOK (xL t k)
def cT (I : zI) (t : zX) : Prop := I 8 0 = nI (xH t) ∧ I 8 3 = nI (xP t) ∧ (∀ h, h < xH t → I 9 h = xN t h) ∧ (∀ h, h < xH t → I 10 h = xB t h) ∧ (∀ p, p < xP t → I 12 p = xR t p) ∧ I 8 11 = xM t ∧ I 8 12 = xD t ∧ ∀ k, k < 4 → rCLaw I (14 + 3 * k) (xL t k)
def zplain (k : Nat) : zLw := ([], [(if k = 0 ∨ k = 3 then (1, 0) else (0, 0))])
def mLaw (I : zI) (live k : Nat) (w : zLw) : Prop := (I 381 (4 * live + k) = I 382 (4 * live + k) ∧ w = zplain k) ∨ ∃ b, (b + w.1.length < 260 ∧ b / 130 = live ∧ (b + w.1.length) / 130 = live) ∧ I 381 (4 * live + k) = nI b ∧ I 382 (4 * live + k) = nI (b + w.1.length + 1) ∧ rMBr I w.1 w.2 b
def mT (I : zI) (t : zX) (live : Nat) : Prop := live < 2 ∧ I 361 18 = nI live ∧ I 371 live = nI (xH t) ∧ I 374 live = nI (xP t) ∧ (∀ h, h < xH t → I 372 (7 * live + h) = xN t h) ∧ (∀ h, h < xH t → I 373 (7 * live + h) = xB t h) ∧ (∀ p, p < xP t → I 376 (6 * live + p) = xR t p) ∧ I 379 live = xM t ∧ I 380 live = xD t ∧ ∀ k, k < 4 → mLaw I live k (xL t k)
theorem cS.kept {I I' : zI} {nH nP a : Nat} {s : zT} (e : ∀ b k, a ≤ b → b ≤ a + 5 → I' b k = I b k) (h : cS I nH nP a s) : cS I' nH nP a s := by
  obtain ⟨h0, h1, h2, h3, h4, h5⟩ := h
  refine ⟨?_, fun p hp => ?_, fun p hp => ?_, fun p hp => ?_, fun p hp => ?_, fun p hp => ?_⟩ <;> rw [e _ _ (by omega) (by omega)]
  · exact h0
  · exact h1 p hp
  · exact h2 p hp
  · exact h3 p hp
  · exact h4 p hp
  · exact h5 p hp
theorem mS.kept {I I' : zI} {nH nP r o : Nat} {s : zT} (e : ∀ k, I' r k = I r k) (h : mS I nH nP r o s) : mS I' nH nP r o s := by
  unfold mS at *
  simp only [e]
  exact h
theorem cT.kept {I I' : zI} {t : zX} (e : ∀ b k, 8 ≤ b → b ≤ 25 → I' b k = I b k) (h : cT I t) : cT I' t := by
  obtain ⟨h0, h1, h2, h3, h4, h5, h6, h7⟩ := h
  refine ⟨?_, ?_, fun p hp => ?_, fun p hp => ?_, fun p hp => ?_, ?_, ?_, fun k hk => ?_⟩
  · rw [e _ _ (by omega) (by omega)]; exact h0
  · rw [e _ _ (by omega) (by omega)]; exact h1
  · rw [e _ _ (by omega) (by omega)]; exact h2 p hp
  · rw [e _ _ (by omega) (by omega)]; exact h3 p hp
  · rw [e _ _ (by omega) (by omega)]; exact h4 p hp
  · rw [e _ _ (by omega) (by omega)]; exact h5
  · rw [e _ _ (by omega) (by omega)]; exact h6
  · obtain ⟨g0, g1, g2⟩ := h7 k hk
    refine ⟨g0, ?_, fun i q hq => ?_⟩
    · rw [e _ _ (by omega) (by omega)]; exact g1
    · rw [e _ _ (by omega) (by omega), e _ _ (by omega) (by omega)]; exact g2 i q hq
theorem mT.kept {I I' : zI} {t : zX} {live : Nat} (e : ∀ b k, 371 ≤ b → b ≤ 389 → I' b k = I b k) (e0 : I' 361 18 = I 361 18) (h : mT I t live) : mT I' t live := by
  obtain ⟨h0, h1, h2, h3, h4, h5, h6, h7, h8, h9⟩ := h
  refine ⟨h0, ?_, ?_, ?_, fun p hp => ?_, fun p hp => ?_, fun p hp => ?_, ?_, ?_, fun k hk => ?_⟩
  · rw [e0]; exact h1
  · rw [e _ _ (by omega) (by omega)]; exact h2
  · rw [e _ _ (by omega) (by omega)]; exact h3
  · rw [e _ _ (by omega) (by omega)]; exact h4 p hp
  · rw [e _ _ (by omega) (by omega)]; exact h5 p hp
  · rw [e _ _ (by omega) (by omega)]; exact h6 p hp
  · rw [e _ _ (by omega) (by omega)]; exact h7
  · rw [e _ _ (by omega) (by omega)]; exact h8
  · rcases h9 k hk with g | ⟨b, g0, g1, g2, g3⟩
    · exact Or.inl ⟨by rw [e _ _ (by omega) (by omega), e _ _ (by omega) (by omega)]; exact g.1, g.2⟩
    · exact Or.inr ⟨b, g0, by rw [e _ _ (by omega) (by omega)]; exact g1, by rw [e _ _ (by omega) (by omega)]; exact g2, rMBr.kept (fun a k q1 q2 => e a k (by omega) (by omega)) _ _ _ g3⟩
/-- zPair by an abstract state -/
theorem zPair.get {I : zI} {nH nP a r o : Nat} (h : zPair I nH nP a r o) : ∃ s, zW nH nP s ∧ cS I nH nP a s ∧ mS I nH nP r o s := by
  obtain ⟨⟨w1, w2, w3, w4, w5, w6, w7⟩, e0, e1, e2, e3, e4, e5, e6, e7⟩ := h
  refine ⟨(I (a + 1), I (a + 2), I (a + 3), I (a + 4), I (a + 5), I a 1), ⟨w1, w2, w3, w4, w5, w6, w7⟩, ⟨rfl, fun p _ => rfl, fun p _ => rfl, fun p _ => rfl, fun p _ => rfl, fun p _ => rfl⟩, ⟨e0.symm, fun p hp => (e1 p hp).symm, fun p hp => ?_, fun p hp => ?_, fun p hp => ?_, fun p hp => ?_, fun p h1 h2 => ?_, fun p h1 h2 => ?_⟩⟩
  · rw [← Nat.add_assoc]; exact (e2 p hp).symm
  · rw [← Nat.add_assoc]; exact (e3 p hp).symm
  · rw [← Nat.add_assoc]; exact (e4 p hp).symm
  · rw [← Nat.add_assoc]; exact (e5 p hp).symm
  · rw [← Nat.add_assoc]; exact e6 p h1 h2
  · rw [← Nat.add_assoc]; exact e7 p h1 h2
theorem zPair.mk {I : zI} {nH nP a r o : Nat} {s : zT} (hw : zW nH nP s) (hc : cS I nH nP a s) (hm : mS I nH nP r o s) : zPair I nH nP a r o := by
  obtain ⟨w1, w2, w3, w4, w5, w6, w7⟩ := hw
  obtain ⟨c0, c1, c2, c3, c4, c5⟩ := hc
  obtain ⟨m0, m1, m2, m3, m4, m5, m6, m7⟩ := hm
  refine ⟨⟨fun p hp => ?_, fun p hp => ?_, fun p q hp hq => ?_, fun p hp => ?_, fun p q hp hq => ?_, fun p hp => ?_, fun p hp => ?_⟩, ?_, fun p hp => ?_, fun p hp => ?_, fun p hp => ?_, fun p hp => ?_, fun p hp => ?_, fun p h1 h2 => ?_, fun p h1 h2 => ?_⟩
  · rw [c1 p hp]; exact w1 p hp
  · rw [c2 p hp]; exact w2 p hp
  · rw [c2 p hp, c2 q hq]; exact w3 p q hp hq
  · rw [c3 p hp]; exact w4 p hp
  · rw [c3 p hp, c3 q hq]; exact w5 p q hp hq
  · rw [c4 p hp]; exact w6 p hp
  · rw [c5 p hp]; exact w7 p hp
  · rw [c0, m0]
  · rw [c1 p hp, m1 p hp]
  · rw [c2 p hp, Nat.add_assoc, m2 p hp]
  · rw [c3 p hp, Nat.add_assoc, m3 p hp]
  · rw [c4 p hp, Nat.add_assoc, m4 p hp]
  · rw [c5 p hp, Nat.add_assoc, m5 p hp]
  · rw [Nat.add_assoc]; exact m6 p h1 h2
  · rw [Nat.add_assoc]; exact m7 p h1 h2
theorem rText.get {I : zI} {nH nP live : Nat} (h : rText I nH nP live) : ∃ t : zX, xH t = nH ∧ xP t = nP ∧ zX_ok t ∧ cT I t ∧ mT I t live := by
  obtain ⟨a1, a2, a3, a4, a5, a6, a7, a8, a9, a10, a11, a12, a13, a14⟩ := h
  have hl : ∀ k, ∃ w : zLw, k < 4 → zlwOK w ∧ rCLaw I (14 + 3 * k) w ∧ mLaw I live k w := fun k => by
    by_cases hk : k < 4
    · obtain ⟨w, g⟩ := a14 k hk
      exact ⟨w, fun _ => g⟩
    · exact ⟨([], []), fun z => absurd z hk⟩
  refine ⟨(nH, nP, I 9, I 10, I 12, I 8 11, I 8 12, fun k => Classical.choose (hl k)), rfl, rfl, ⟨a2, a3, fun h hh => (a9 h hh).2, fun h hh => (a10 h hh).2, fun k hk => (Classical.choose_spec (hl k) hk).1⟩, ⟨a5, a7, fun _ _ => rfl, fun _ _ => rfl, fun _ _ => rfl, rfl, rfl, fun k hk => (Classical.choose_spec (hl k) hk).2.1⟩, a1, a4, a6, a8, fun h hh => (a9 h hh).1.symm, fun h hh => (a10 h hh).1.symm, fun p hp => (a11 p hp).symm, a12.symm, a13.symm, fun k hk => (Classical.choose_spec (hl k) hk).2.2⟩
theorem rText.mk {I : zI} {t : zX} {live : Nat} (hx : zX_ok t) (hc : cT I t) (hm : mT I t live) : rText I (xH t) (xP t) live := by
  obtain ⟨x1, x2, x3, x4, x5⟩ := hx
  obtain ⟨c0, c1, c2, c3, c4, c5, c6, c7⟩ := hc
  obtain ⟨m0, m1, m2, m3, m4, m5, m6, m7, m8, m9⟩ := hm
  exact ⟨m0, x1, x2, m1, c0, m2, c1, m3, fun h hh => ⟨by rw [c2 h hh, m4 h hh], by rw [c2 h hh]; exact x3 h hh⟩, fun h hh => ⟨by rw [c3 h hh, m5 h hh], by rw [c3 h hh]; exact x4 h hh⟩, fun p hp => by rw [c4 p hp, m6 p hp], by rw [c5, m7], by rw [c6, m8], fun k hk => ⟨xL t k, x5 k hk, c7 k hk, m9 k hk⟩⟩
/-- who is a person, a hanger -/
theorem s_X_isPerson {I : zI} {J : zJ} {t : zX} (hx : zX_ok t) (hT : cT I t) {x : Int32} {Q : Int32 → zI → zJ → Prop} (h1 : ∀ p, p < xP t → x = nI p → Q 1 I J) (h0 : ¬ zin x (xP t) → Q 0 I J) : v_X_isPerson 5000 x I J Q := by
  have hP := hx.2.1
  by_cases hz : zin x (xP t)
  · obtain ⟨p, hp, e⟩ := hz
    subst e
    unfold v_X_isPerson
    rw [hT.2.1]
    exact ⟨fun q => absurd q (nI_pos (by omega)), fun _ => ⟨fun q => absurd q (nI_ge hp (by omega)), fun _ => h1 p hp rfl⟩⟩
  · have hz' := zin_n (by omega) hz
    unfold v_X_isPerson
    rw [hT.2.1]
    refine ⟨fun _ => h0 hz, fun q => ⟨fun _ => h0 hz, fun z => ?_⟩⟩
    rcases hz' with g | g
    · exact absurd g q
    · exact absurd g.2 z
theorem s_X_isHanger {I : zI} {J : zJ} {t : zX} (hx : zX_ok t) (hT : cT I t) {x : Int32} {Q : Int32 → zI → zJ → Prop} (h1 : ∀ p, p < xH t → x = nI p → Q 1 I J) (h0 : ¬ zin x (xH t) → Q 0 I J) : v_X_isHanger 5000 x I J Q := by
  have hP := hx.1
  by_cases hz : zin x (xH t)
  · obtain ⟨p, hp, e⟩ := hz
    subst e
    unfold v_X_isHanger
    rw [hT.1]
    exact ⟨fun q => absurd q (nI_pos (by omega)), fun _ => ⟨fun q => absurd q (nI_ge hp (by omega)), fun _ => h1 p hp rfl⟩⟩
  · have hz' := zin_n (by omega) hz
    unfold v_X_isHanger
    rw [hT.1]
    refine ⟨fun _ => h0 hz, fun q => ⟨fun _ => h0 hz, fun z => ?_⟩⟩
    rcases hz' with g | g
    · exact absurd g q
    · exact absurd g.2 z
theorem z_in {I : zI} {J : zJ} {x : Int32} {n : Nat} (hn : n < 100) {Q : Int32 → zI → zJ → Prop} (h1 : ∀ p, p < n → x = nI p → Q 1 I J) (h0 : ¬ zin x n → Q 0 I J) : v_M_in 5000 x 0 (nI n - 1) I J Q := by
  by_cases hz : zin x n
  · obtain ⟨p, hp, e⟩ := hz
    subst e
    obtain ⟨m, rfl⟩ : ∃ m, n = m + 1 := ⟨n - 1, by omega⟩
    rw [nI_pred]
    exact ⟨fun q => absurd q (nI_pos (by omega)), fun _ => ⟨fun q => absurd q (nI_nlt (by omega) (by omega)), fun _ => h1 p hp rfl⟩⟩
  · have hz' := zin_n (by omega) hz
    refine ⟨fun _ => h0 hz, fun q => ⟨fun _ => h0 hz, fun z => absurd ?_ z⟩⟩
    rcases hz' with g | g
    · exact absurd g q
    · have g2 := Int32.le_iff_toInt_le.mp g.2
      rw [nI_toInt (by omega)] at g2
      refine Int32.lt_iff_toInt_lt.mpr ?_
      rcases Nat.eq_zero_or_pos n with e | e
      · subst e
        have : (nI 0 - 1).toInt = -1 := by decide
        rw [this]
        omega
      · obtain ⟨m, rfl⟩ : ∃ m, n = m + 1 := ⟨n - 1, by omega⟩
        rw [nI_pred, nI_toInt (by omega)]
        omega
theorem s_M_isPerson {I : zI} {J : zJ} {t : zX} {live : Nat} (hx : zX_ok t) (hT : mT I t live) {x : Int32} {Q : Int32 → zI → zJ → Prop} (h1 : ∀ p, p < xP t → x = nI p → Q 1 I J) (h0 : ¬ zin x (xP t) → Q 0 I J) : v_M_isPerson 5000 x I J Q := by
  have hP := hx.2.1
  have hl := hT.1
  unfold v_M_isPerson
  rw [hT.2.1, nI_clamp (by omega), hT.2.2.2.1]
  exact ⟨vp_in_nI hl (by decide), z_in (by omega) (fun p hp e => ⟨Or.inr rfl, h1 p hp e⟩) (fun z => ⟨Or.inl rfl, h0 z⟩)⟩
theorem s_M_isHanger {I : zI} {J : zJ} {t : zX} {live : Nat} (hx : zX_ok t) (hT : mT I t live) {x : Int32} {Q : Int32 → zI → zJ → Prop} (h1 : ∀ p, p < xH t → x = nI p → Q 1 I J) (h0 : ¬ zin x (xH t) → Q 0 I J) : v_M_isHanger 5000 x I J Q := by
  have hP := hx.1
  have hl := hT.1
  unfold v_M_isHanger
  rw [hT.2.1, nI_clamp (by omega), hT.2.2.1]
  exact ⟨vp_in_nI hl (by decide), z_in (by omega) (fun p hp e => ⟨Or.inr rfl, h1 p hp e⟩) (fun z => ⟨Or.inl rfl, h0 z⟩)⟩
