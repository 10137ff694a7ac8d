/-! who is on what nail; what a LAW looks at; what it tells: both sides -/
def mR (I : zI) (nH nP r : Nat) (s : zT) : Prop := I r 31 = sN s ∧ (∀ p, p < nP → I r p = sW s p) ∧ (∀ p, p < nP → I r (6 + p) = sO s p) ∧ (∀ p, p < nP → I r (12 + p) = sS s p) ∧ (∀ p, p < nP → I r (18 + p) = sC s p) ∧ (∀ h, h < nH → I r (24 + h) = sB s h) ∧ (∀ p, nP ≤ p → p < 6 → I r (18 + p) = 0) ∧ (∀ h, nH ≤ h → h < 7 → I r (24 + h) = 0)
theorem mS_zero {I : zI} {nH nP r : Nat} {s : zT} : mS I nH nP r 0 s ↔ mR I nH nP r s := by
  unfold mS mR
  simp only [Nat.zero_add]
theorem mR.kept {I I' : zI} {nH nP r : Nat} {s : zT} (e : ∀ k, I' r k = I r k) (h : mR I nH nP r s) : mR I' nH nP r s := by
  unfold mR at *
  simp only [e]
  exact h
def cX (I : zI) (t : zX) (a : Nat) (s : zT) : Prop := zX_ok t ∧ cT I t ∧ zW (xH t) (xP t) s ∧ cS I (xH t) (xP t) a s ∧ 25 < a ∧ (a + 5 < 61 ∨ 66 < a)
def mX (I : zI) (t : zX) (live : Nat) (s : zT) : Prop := zX_ok t ∧ mT I t live ∧ zW (xH t) (xP t) s ∧ mR I (xH t) (xP t) 394 s
theorem cX.kept {I I' : zI} {t : zX} {a : Nat} {s : zT} (e : ∀ b j, (8 ≤ b ∧ b ≤ 25) ∨ (a ≤ b ∧ b ≤ a + 5) → I' b j = I b j) (h : cX I t a s) : cX I' t a s :=
  ⟨h.1, h.2.1.kept (fun b k q1 q2 => e b k (by omega)), h.2.2.1, h.2.2.2.1.kept (fun b k q1 q2 => e b k (by omega)), h.2.2.2.2⟩
theorem mX.kept {I I' : zI} {t : zX} {live : Nat} {s : zT} (e : ∀ b j, (371 ≤ b ∧ b ≤ 389) ∨ b = 394 ∨ (b = 361 ∧ j = 18) → I' b j = I b j) (h : mX I t live s) : mX I' t live s :=
  ⟨h.1, h.2.1.kept (fun b k q1 q2 => e b k (by omega)) (e _ _ (by omega)), h.2.2.1, h.2.2.2.kept (fun k => e _ _ (by omega))⟩
abbrev frC (I I' : zI) : Prop := ∀ b j, b ≠ 62 → b ≠ 63 → I' b j = I b j
abbrev frM (I I' : zI) : Prop := ∀ b j, b ≠ 391 → b ≠ 392 → ¬ (b = 361 ∧ j = 48) → I' b j = I b j
theorem cX.frC {I I' : zI} {t : zX} {a : Nat} {s : zT} (h : cX I t a s) (e : frC I I') : cX I' t a s := h.kept (fun b j q => e b j (by have := h.2.2.2.2; omega) (by have := h.2.2.2.2; omega))
theorem mX.frM {I I' : zI} {t : zX} {live : Nat} {s : zT} (h : mX I t live s) (e : frM I I') : mX I' t live s := h.kept (fun b j q => e b j (by omega) (by omega) (by omega))
theorem frC.tr {I I' I'' : zI} (h : frC I I') (g : frC I' I'') : frC I I'' := fun b j q1 q2 => (g b j q1 q2).trans (h b j q1 q2)
theorem frM.tr {I I' I'' : zI} (h : frM I I') (g : frM I' I'') : frM I I'' := fun b j q1 q2 q3 => (g b j q1 q2 q3).trans (h b j q1 q2 q3)
/-- the nail of a person; -2 on the floor -/
def znl (t : zX) (s : zT) (p : Nat) : Int32 := if sO s p < 0 then -2 else xN t (sO s p).toNatClampNeg
def zmany (t : zX) (s : zT) (nail : Int32) : Nat → Nat → Int32 → Int32
  | 0, _, c => c
  | r + 1, i, c => zmany t s nail r (i + 1) (if znl t s i = nail then c + 1 else c)
def zbes (t : zX) (s : zT) (p : Nat) : Int32 := zmany t s (znl t s p) (xP t) 0 0 - 1
def zoff (a b : Int32) : Int32 := if b ≤ a then a - b else b - a
def zvars (t : zX) (s : zT) (p h : Nat) (be : Int32) : Nat → Int32 := fun j => if j = 0 then zoff (sW s p) (xB t h) + sB s h else if j = 1 then sB s h else if j = 2 then sW s p else if j = 3 then xR t p else if j = 4 then sN s else if j = 5 then sC s p else if j = 6 then be else if j = 7 then nI p else xN t h
def zcl (m v : Int32) : Int32 := if 0 ≤ v then if v ≤ m then v else m else 0
def zmost (k : Nat) : Int32 := if k = 2 then 100 else 99
/-- what the law k tells of p on h with be beside -/
def zlt2 (t : zX) (s : zT) (k p h : Nat) (be : Int32) : Int32 := zcl (zmost k) (zlv (zvars t s p h be) (xL t k).1 (xL t k).2)
def ztell (t : zX) (s : zT) (k p : Nat) : Int32 := zlt2 t s k p (sO s p).toNatClampNeg (zbes t s p)
def zcosts (t : zX) (s : zT) : Nat → Nat → Int32 → Int32
  | 0, _, c => c
  | r + 1, i, c => zcosts t s r (i + 1) (if sO s i < 0 then c else c + ztell t s 3 i)
theorem z_neg2 : (-2 : Int32) < 0 := by decide
theorem z_on {nH nP : Nat} {s : zT} (hw : zW nH nP s) {p : Nat} (hp : p < nP) : sO s p = -2 ∨ ∃ h, h < nH ∧ sO s p = nI h := hw.2.1 p hp
theorem s_isHung {I : zI} {J : zJ} {t : zX} {a p : Nat} {s : zT} (hX : cX I t a s) (hp : p < xP t) {Q : Int32 → zI → zJ → Prop} (h0 : sO s p = -2 → Q 0 I J) (h1 : ∀ h, h < xH t → sO s p = nI h → Q 1 I J) : v_State_isHung 5000 a (nI p) I J Q := by
  have hP := hX.1.2.1
  have hH := hX.1.1
  unfold v_State_isHung
  rw [nI_clamp (by omega), hX.2.2.2.1.2.2.1 p hp]
  refine ⟨vp_in_nI (by omega) (by decide), ?_⟩
  rcases z_on hX.2.2.1 hp with e | ⟨h, hh, e⟩
  · exact ⟨fun _ => h0 e, fun q => absurd (by rw [e]; decide) q⟩
  · exact ⟨fun q => absurd q (by rw [e]; exact nI_pos (by omega)), fun _ => h1 h hh e⟩
theorem s_nailOf {I : zI} {J : zJ} {t : zX} {a p : Nat} {s : zT} (hX : cX I t a s) (hp : p < xP t) {Q : Int32 → zI → zJ → Prop} (hq : Q (znl t s p) I J) : v_State_nailOf 5000 a (nI p) I J Q := by
  have hP := hX.1.2.1
  have hH := hX.1.1
  unfold v_State_nailOf
  rw [nI_clamp (by omega), hX.2.2.2.1.2.2.1 p hp]
  refine ⟨vp_in_nI (by omega) (by decide), fun y e => ?_⟩
  rw [e]
  unfold znl at hq
  rcases z_on hX.2.2.1 hp with e | ⟨h, hh, e⟩
  · rw [e] at hq ⊢
    exact ⟨fun _ => hq, fun q => absurd z_neg2 q⟩
  · rw [e] at hq ⊢
    rw [if_neg (nI_pos (by omega)), nI_clamp (by omega)] at hq
    refine ⟨fun q => absurd q (nI_pos (by omega)), fun _ => ⟨vp_in_nI (by omega) (by decide), ?_⟩⟩
    rw [nI_clamp (by omega), hX.2.1.2.2.1 h hh]
    exact hq
theorem s_peopleOnNail_4 {I : zI} {J : zJ} {t : zX} {a : Nat} {s : zT} (hX : cX I t a s) {x : Int32} {Q : Int32 → zI → zJ → Prop} : ∀ r i k c, i + r = xP t → r < k → Q (zmany t s x r i c) I J → v_State_peopleOnNail_4 5000 k a x c (nI i) I J Q
  | _, _, 0, _, _, hk, _ => absurd hk (Nat.not_lt_zero _)
  | 0, i, k + 1, c, hi, hk, hq => by
    have hP := hX.1.2.1
    rw [v_State_peopleOnNail_4]; dsimp only; rw [hX.2.1.2.1]
    exact ⟨fun _ => hq, fun q => absurd (nI_le (by omega) (by omega)) q⟩
  | r + 1, i, k + 1, c, hi, hk, hq => by
    have hP := hX.1.2.1
    rw [v_State_peopleOnNail_4]; dsimp only; rw [hX.2.1.2.1]
    rw [zmany] at hq
    refine ⟨fun q => absurd q (nI_ge (by omega) (by omega)), fun _ => s_nailOf hX (by omega) ⟨fun q y e => ?_, fun q y e => ?_⟩⟩
    · rw [if_neg q] at hq
      rw [e, nI_1, Int32.add_zero]
      exact s_peopleOnNail_4 hX r (i + 1) k c (by omega) (by omega) hq
    · rw [if_pos q] at hq
      rw [e, nI_1]
      exact s_peopleOnNail_4 hX r (i + 1) k (c + 1) (by omega) (by omega) hq
theorem s_peopleOnNail {I : zI} {J : zJ} {t : zX} {a : Nat} {s : zT} (hX : cX I t a s) {x : Int32} {Q : Int32 → zI → zJ → Prop} (hq : Q (zmany t s x (xP t) 0 0) I J) : v_State_peopleOnNail 5000 a x I J Q :=
  s_peopleOnNail_4 hX (xP t) 0 5000 0 (by omega) (by have := hX.1.2.1; omega) hq
theorem s_othersBeside {I : zI} {J : zJ} {t : zX} {a p : Nat} {s : zT} (hX : cX I t a s) (hp : p < xP t) {Q : Int32 → zI → zJ → Prop} (h0 : sO s p = -2 → Q 0 I J) (h1 : ∀ h, h < xH t → sO s p = nI h → Q (zbes t s p) I J) : v_State_othersBeside 5000 a (nI p) I J Q :=
  s_isHung hX hp (fun e => ⟨fun _ => h0 e, fun q => absurd rfl q⟩) (fun h hh e => ⟨fun q => absurd q (by decide), fun _ => s_nailOf hX hp (s_peopleOnNail hX (h1 h hh e))⟩)
theorem z_abs {a b : Int32} (ha : zin a 100) (hb : zin b 100) : (if 0 ≤ a - b then a - b else 0 - (a - b)) = zoff a b := by
  obtain ⟨i, hi, rfl⟩ := ha
  obtain ⟨j, hj, rfl⟩ := hb
  unfold zoff
  have e : (nI i - nI j).toInt = (i : Int) - j := by
    rw [Int32.toInt_sub, nI_toInt (by omega), nI_toInt (by omega)]
    exact Int.bmod_eq_of_le (by omega) (by omega)
  by_cases h : j ≤ i
  · rw [if_pos (nI_le h (by omega)), if_pos]
    rw [Int32.le_iff_toInt_le, e]
    show (0 : Int) ≤ _
    omega
  · rw [if_neg (nI_ge (by omega) (by omega)), if_neg]
    · rw [Int32.zero_sub, Int32.neg_sub]
    · rw [Int32.le_iff_toInt_le, e]
      show ¬ (0 : Int) ≤ _
      omega
theorem s_lookAt {I : zI} {J : zJ} {t : zX} {a p h : Nat} {s : zT} (hX : cX I t a s) (hp : p < xP t) (hh : h < xH t) {be : Int32} {Q : zI → zJ → Prop} (hq : ∀ I' : zI, (∀ b j, b ≠ 62 → I' b j = I b j) → (∀ j, j < 9 → I' 62 j = zvars t s p h be j) → Q I' J) : v_Reck_lookAt 5000 a (nI p) (nI h) be I J Q := by
  have hP := hX.1.2.1
  have hH := hX.1.1
  have ha := hX.2.2.2.2
  obtain ⟨s0, s1, s2, s3, s4, s5⟩ := hX.2.2.2.1
  have v6 : vp_in (nI p) 6 := vp_in_nI (by omega) (by decide)
  have v7 : vp_in (nI h) 7 := vp_in_nI (by omega) (by decide)
  obtain ⟨c0, c1, c2, c3, c4, c5, c6, c7, c8, _, _⟩ := z_v
  unfold v_Reck_lookAt
  rw [nI_clamp (n := p) (by omega), nI_clamp (n := h) (by omega), s5 h hh, s1 p hp, hX.2.1.2.2.2.1 h hh]
  refine ⟨v7, fun y2 e2 => ⟨v6, fun y4 e4 => ⟨v7, c0, fun I7 e7 => ⟨c1, fun I9 e9 => ⟨c2, fun I11 e11 => ⟨v6, c3, fun I14 e14 => ⟨c4, fun I16 e16 => ⟨v6, c5, fun I19 e19 => ⟨c6, fun I21 e21 => ⟨c7, fun I23 e23 => ⟨v7, c8, fun I26 e26 => ?_⟩⟩⟩⟩⟩⟩⟩⟩⟩⟩⟩
  rw [e4] at e7 e11
  rw [e2] at e7 e9
  rw [z_l0, z_abs (hX.2.2.1.1 p hp) (hX.1.2.2.2.1 h hh)] at e7
  rw [z_l1] at e9
  rw [z_l2] at e11
  rw [z_l3] at e14
  rw [z_l4] at e16
  rw [z_l5] at e19
  rw [z_l6] at e21
  rw [z_l7] at e23
  rw [z_l8] at e26
  have o7 : ∀ b j, b ≠ 62 → I7 b j = I b j := fun b j q => by rw [e7, qu_off (Or.inl q)]
  have o9 : ∀ b j, b ≠ 62 → I9 b j = I b j := fun b j q => by rw [e9, qu_off (Or.inl q), o7 b j q]
  have o11 : ∀ b j, b ≠ 62 → I11 b j = I b j := fun b j q => by rw [e11, qu_off (Or.inl q), o9 b j q]
  have o14 : ∀ b j, b ≠ 62 → I14 b j = I b j := fun b j q => by rw [e14, qu_off (Or.inl q), o11 b j q]
  have o16 : ∀ b j, b ≠ 62 → I16 b j = I b j := fun b j q => by rw [e16, qu_off (Or.inl q), o14 b j q]
  have o19 : ∀ b j, b ≠ 62 → I19 b j = I b j := fun b j q => by rw [e19, qu_off (Or.inl q), o16 b j q]
  have o21 : ∀ b j, b ≠ 62 → I21 b j = I b j := fun b j q => by rw [e21, qu_off (Or.inl q), o19 b j q]
  have o23 : ∀ b j, b ≠ 62 → I23 b j = I b j := fun b j q => by rw [e23, qu_off (Or.inl q), o21 b j q]
  rw [o11 12 p (by decide), hX.2.1.2.2.2.2.1 p hp] at e14
  rw [o14 a 1 (by omega), s0] at e16
  rw [o16 (a + 4) p (by omega), s4 p hp] at e19
  rw [o23 9 h (by decide), hX.2.1.2.2.1 h hh] at e26
  refine hq I26 (fun b j q => by rw [e26, qu_off (Or.inl q), o23 b j q]) (fun j hj => ?_)
  have hc : j = 0 ∨ j = 1 ∨ j = 2 ∨ j = 3 ∨ j = 4 ∨ j = 5 ∨ j = 6 ∨ j = 7 ∨ j = 8 := by omega
  rw [e26, e23, e21, e19, e16, e14, e11, e9, e7]
  rcases hc with rfl | rfl | rfl | rfl | rfl | rfl | rfl | rfl | rfl <;> rfl
theorem z_cl (r m : Int32) (hm : 0 ≤ m) : (if (0 : Int32) < (if r < m then r else m) then (if r < m then r else m) else (0 : Int32)) = zcl m r := by
  unfold zcl
  by_cases h1 : r < m
  · rw [if_pos h1]
    by_cases h2 : 0 < r
    · rw [if_pos h2, if_pos (Int32.le_of_lt h2), if_pos (Int32.le_of_lt h1)]
    · rw [if_neg h2]
      by_cases h3 : 0 ≤ r
      · rw [if_pos h3, if_pos (Int32.le_of_lt h1)]
        exact Int32.le_antisymm h3 (Int32.not_lt.mp h2)
      · rw [if_neg h3]
  · have h1' := Int32.not_lt.mp h1
    rw [if_neg h1, if_pos (Int32.le_trans hm h1')]
    by_cases h3 : r ≤ m
    · rw [if_pos h3]
      have : r = m := Int32.le_antisymm h3 h1'
      rw [this]
      by_cases h4 : 0 < m
      · rw [if_pos h4]
      · rw [if_neg h4]
        exact Int32.le_antisymm hm (Int32.not_lt.mp h4)
    · rw [if_neg h3]
      by_cases h4 : 0 < m
      · rw [if_pos h4]
      · rw [if_neg h4]
        exact Int32.le_antisymm hm (Int32.not_lt.mp h4)
theorem s_lawTells {I : zI} {J : zJ} {t : zX} {a k : Nat} {s : zT} {f : Nat → Int32} (hX : cX I t a s) (hk : k < 4) (hf : ∀ j, j < 9 → I 62 j = f j) {Q : Int32 → zI → zJ → Prop} (hq : ∀ I' : zI, (∀ b j, b ≠ 63 → I' b j = I b j) → Q (zcl (zmost k) (zlv f (xL t k).1 (xL t k).2)) I' J) : v_Reck_lawTells 5000 (nI k) I J Q := by
  have hc := hX.2.1.2.2.2.2.2.2.2
  have hl := hX.1.2.2.2.2
  have hk : k = 0 ∨ k = 1 ∨ k = 2 ∨ k = 3 := by omega
  unfold v_Reck_lawTells v_Reck_lawTells_12
  rcases hk with rfl | rfl | rfl | rfl
  · refine ⟨fun _ => ⟨fun _ => s_valueOf (by omega) (hl 0 (by decide)) (hc 0 (by decide)) hf (fun I' o => ?_), fun q => absurd rfl q⟩, fun q => absurd q (by decide)⟩
    rw [z_cl _ _ (by decide)]
    exact hq I' o
  · refine ⟨fun _ => ⟨fun q => absurd q (by decide), fun _ => ⟨fun _ => s_valueOf (by omega) (hl 1 (by decide)) (hc 1 (by decide)) hf (fun I' o => ?_), fun q => absurd rfl q⟩⟩, fun q => absurd q (by decide)⟩
    rw [z_cl _ _ (by decide)]
    exact hq I' o
  · refine ⟨fun q => absurd rfl q, fun _ => ⟨fun q => absurd q (by decide), fun _ => ⟨fun q => absurd q (by decide), fun _ => ⟨fun _ => s_valueOf (by omega) (hl 2 (by decide)) (hc 2 (by decide)) hf (fun I' o => ?_), fun q => absurd rfl q⟩⟩⟩⟩
    rw [z_cl _ _ (by decide)]
    exact hq I' o
  · refine ⟨fun _ => ⟨fun q => absurd q (by decide), fun _ => ⟨fun q => absurd q (by decide), fun _ => ⟨fun q => absurd q (by decide), fun _ => s_valueOf (by omega) (hl 3 (by decide)) (hc 3 (by decide)) hf (fun I' o => ?_)⟩⟩⟩, fun q => absurd q (by decide)⟩
    rw [z_cl _ _ (by decide)]
    exact hq I' o
theorem s_costAlone {I : zI} {J : zJ} {t : zX} {a p h : Nat} {s : zT} (hX : cX I t a s) (hp : p < xP t) (hh : h < xH t) {Q : Int32 → zI → zJ → Prop} (hq : ∀ I' : zI, frC I I' → Q (zlt2 t s 3 p h 0) I' J) : v_Reck_costAlone 5000 a (nI p) (nI h) I J Q :=
  s_lookAt hX hp hh (fun I1 o1 f1 => s_lawTells (k := 3) (hX.frC (fun b j q1 _ => o1 b j q1)) (by decide) f1 (fun I2 o2 => hq I2 (fun b j q1 q2 => (o2 b j q2).trans (o1 b j q1))))
theorem s_lookAtHung {I : zI} {J : zJ} {t : zX} {a p h : Nat} {s : zT} (hX : cX I t a s) (hp : p < xP t) (hh : h < xH t) (e : sO s p = nI h) {Q : zI → zJ → Prop} (hq : ∀ I' : zI, (∀ b j, b ≠ 62 → I' b j = I b j) → (∀ j, j < 9 → I' 62 j = zvars t s p h (zbes t s p) j) → Q I' J) : v_Reck_lookAtHung 5000 a (nI p) I J Q := by
  have hP := hX.1.2.1
  have hH := hX.1.1
  refine s_isHung hX hp (fun e' => absurd (e'.symm.trans e) (fun z => ?_)) (fun h' hh' e' => ⟨fun q => absurd q (by decide), fun _ => ⟨vp_in_nI (by omega) (by decide), ?_⟩⟩)
  · exact absurd (z ▸ z_neg2) (nI_pos (by omega))
  · refine s_othersBeside hX hp (fun e'' => absurd (e''.symm.trans e) (fun z => absurd (z ▸ z_neg2) (nI_pos (by omega)))) (fun h'' _ _ => ?_)
    rw [nI_clamp (by omega), hX.2.2.2.1.2.2.1 p hp, e]
    exact s_lookAt hX hp hh hq
theorem s_costOfAll_4 {J : zJ} {t : zX} {a : Nat} {s : zT} {Q : Int32 → zI → zJ → Prop} : ∀ r i k c (I : zI), cX I t a s → i + r = xP t → r < k → (∀ I' : zI, frC I I' → Q (zcosts t s r i c) I' J) → v_Reck_costOfAll_4 5000 k a c (nI i) I J Q
  | _, _, 0, _, _, _, _, hk, _ => absurd hk (Nat.not_lt_zero _)
  | 0, i, k + 1, c, I, hX, hi, hk, hq => by
    have hP := hX.1.2.1
    rw [v_Reck_costOfAll_4]; dsimp only; rw [hX.2.1.2.1]
    exact ⟨fun _ => hq I (fun _ _ _ _ => rfl), fun q => absurd (nI_le (by omega) (by omega)) q⟩
  | r + 1, i, k + 1, c, I, hX, hi, hk, hq => by
    have hP := hX.1.2.1
    have hH := hX.1.1
    rw [v_Reck_costOfAll_4]; dsimp only; rw [hX.2.1.2.1]
    rw [zcosts] at hq
    refine ⟨fun q => absurd q (nI_ge (by omega) (by omega)), fun _ => s_isHung hX (by omega) (fun e => ⟨fun _ => ?_, fun q => absurd rfl q⟩) (fun h hh e => ⟨fun q => absurd q (by decide), fun _ => ?_⟩)⟩
    · rw [nI_1]
      rw [if_pos (by rw [e]; decide)] at hq
      exact s_costOfAll_4 r (i + 1) k c I hX (by omega) (by omega) hq
    · rw [if_neg (by rw [e]; exact nI_pos (by omega))] at hq
      refine s_lookAtHung hX (by omega) hh e (fun I1 o1 f1 => s_lawTells (k := 3) (hX.frC (fun b j q1 _ => o1 b j q1)) (by decide) f1 (fun I2 o2 y ey => ?_))
      have o3 : frC I I2 := fun b j q1 q2 => (o2 b j q2).trans (o1 b j q1)
      rw [ey, nI_1]
      refine s_costOfAll_4 r (i + 1) k _ I2 (hX.frC o3) (by omega) (by omega) (fun I' o' => ?_)
      have := hq I' (fun b j q1 q2 => (o' b j q1 q2).trans (o3 b j q1 q2))
      unfold ztell zlt2 at this
      rw [e, nI_clamp (by omega)] at this
      exact this
theorem s_costOfAll {I : zI} {J : zJ} {t : zX} {a : Nat} {s : zT} (hX : cX I t a s) {Q : Int32 → zI → zJ → Prop} (hq : ∀ I' : zI, frC I I' → Q (zcosts t s (xP t) 0 0) I' J) : v_Reck_costOfAll 5000 a I J Q :=
  s_costOfAll_4 (xP t) 0 5000 0 I hX (by omega) (by have := hX.1.2.1; omega) hq
