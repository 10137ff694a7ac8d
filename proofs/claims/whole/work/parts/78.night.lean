/-! a NIGHT, and the class' way through it -/
theorem zcl_in {m : Nat} (hm : m < 2 ^ 31) (v : Int32) : zin (zcl (nI m) v) (m + 1) := by
  unfold zcl
  by_cases h : 0 ≤ v
  · rw [if_pos h]
    by_cases h' : v ≤ nI m
    · rw [if_pos h']
      obtain ⟨k, hk, e⟩ := nI_of (z_le0.mp h)
      rw [e] at h'
      have := (nI_leI hk hm).mp h'
      exact ⟨k, by omega, e⟩
    · rw [if_neg h']; exact ⟨m, by omega, rfl⟩
  · rw [if_neg h]; exact ⟨0, by omega, rfl⟩
theorem ztell_in (t : zX) (s : zT) (k p : Nat) : zin (ztell t s k p) 101 := by
  unfold ztell zlt2 zmost
  by_cases h : k = 2
  · rw [if_pos h]; exact zcl_in (m := 100) (by decide) _
  · rw [if_neg h]
    obtain ⟨j, hj, e⟩ := zcl_in (m := 99) (by decide) (zlv (zvars t s p (sO s p).toNatClampNeg (zbes t s p)) (xL t k).1 (xL t k).2)
    exact ⟨j, by omega, e⟩
theorem zin_add0 {a b : Int32} {m n : Nat} (h : m + n < 2 ^ 31) (ha : zin a m) (hb : zin b n) : 0 ≤ a + b := by
  obtain ⟨i, hi, rfl⟩ := ha
  obtain ⟨j, hj, rfl⟩ := hb
  rw [nI_add]
  exact nI_pos' (by omega)
theorem z_capx {x m : Int32} (hx : 0 ≤ x) : (if x < m then x else m) = zcl m x := by
  unfold zcl
  rw [if_pos hx]
  by_cases h : x < m
  · rw [if_pos h, if_pos (Int32.le_of_lt h)]
  · rw [if_neg h]
    by_cases h' : x ≤ m
    · rw [if_pos h']; exact Int32.le_antisymm (Int32.not_lt.mp h) h'
    · rw [if_neg h']
def zCn (t : zX) (s : zT) (p : Nat) : Int32 := if sO s p < 0 then 0 else zcl 999 (sC s p + ztell t s 0 p)
def zBi (t : zX) (s : zT) : Nat → Nat → Int32
  | 0 => sB s
  | i + 1 => fun h => if sO s i = nI h then zcl 99 (sB s h + ztell t s 1 i) else zBi t s i h
def zSl (t : zX) (s : zT) (p : Nat) : Int32 := if sO s p < 0 then 0 else ztell t s 2 p
def zst (t : zX) (s : zT) (i : Nat) : zT := (sW s, sO s, sS s, (fun q => if q < i then zCn t s q else sC s q), zBi t s i, sN s)
theorem zCn_in (t : zX) (s : zT) (p : Nat) : zin (zCn t s p) 1000 := by
  unfold zCn
  by_cases h : sO s p < 0
  · rw [if_pos h]; exact ⟨0, by decide, rfl⟩
  · rw [if_neg h]; exact zcl_in (m := 999) (by decide) _
theorem zBi_in {t : zX} {s : zT} {h : Nat} (hb : zin (sB s h) 100) : ∀ i, zin (zBi t s i h) 100
  | 0 => hb
  | i + 1 => by
    show zin (if sO s i = nI h then zcl 99 (sB s h + ztell t s 1 i) else zBi t s i h) 100
    by_cases h' : sO s i = nI h
    · rw [if_pos h']; exact zcl_in (m := 99) (by decide) _
    · rw [if_neg h']; exact zBi_in hb i
theorem zBi_at {t : zX} {s : zT} {h : Nat} : ∀ i, (∀ q, q < i → ¬ sO s q = nI h) → zBi t s i h = sB s h
  | 0, _ => rfl
  | i + 1, hn => by
    show (if sO s i = nI h then zcl 99 (sB s h + ztell t s 1 i) else zBi t s i h) = sB s h
    rw [if_neg (hn i (Nat.lt_succ_self _))]
    exact zBi_at i (fun q hq => hn q (by omega))
theorem zst_wf {t : zX} {s : zT} (hw : zW (xH t) (xP t) s) (i : Nat) : zW (xH t) (xP t) (zst t s i) := by
  obtain ⟨w1, w2, w3, w4, w5, w6, w7⟩ := hw
  refine ⟨w1, w2, w3, w4, w5, fun p hp => ?_, fun h hh => zBi_in (w7 h hh) i⟩
  show zin (if p < i then zCn t s p else sC s p) 1000
  by_cases h : p < i
  · rw [if_pos h]; exact zCn_in t s p
  · rw [if_neg h]; exact w6 p hp
theorem zmany_on {t : zX} {s s' : zT} (h : sO s' = sO s) (x : Int32) : ∀ r i c, zmany t s' x r i c = zmany t s x r i c
  | 0, _, _ => rfl
  | r + 1, i, c => by
    rw [zmany, zmany]
    have : znl t s' i = znl t s i := by unfold znl; rw [h]
    rw [this]
    exact zmany_on h x r (i + 1) _
theorem zbes_on {t : zX} {s s' : zT} (h : sO s' = sO s) (p : Nat) : zbes t s' p = zbes t s p := by
  unfold zbes
  have : znl t s' p = znl t s p := by unfold znl; rw [h]
  rw [this, zmany_on h]
theorem zvars_st {t : zX} {s : zT} {i h : Nat} (hn : ∀ q, q < i → ¬ sO s q = nI h) (be : Int32) : zvars t (zst t s i) i h be = zvars t s i h be := by
  have eB : sB (zst t s i) h = sB s h := zBi_at i hn
  have eC : sC (zst t s i) i = sC s i := by
    show (if i < i then zCn t s i else sC s i) = sC s i
    rw [if_neg (Nat.lt_irrefl _)]
  unfold zvars
  rw [eB, eC]
  rfl
theorem cS.st {I I' : zI} {t : zX} {s : zT} {a i : Nat} (hS : cS I (xH t) (xP t) a (zst t s i)) (e0 : I' a 1 = I a 1) (e1 : ∀ q, I' (a + 1) q = I (a + 1) q) (e2 : ∀ q, I' (a + 2) q = I (a + 2) q) (e3 : ∀ q, I' (a + 3) q = I (a + 3) q) (e4 : ∀ q, q ≠ i → I' (a + 4) q = I (a + 4) q) (e4' : I' (a + 4) i = zCn t s i) (e5 : ∀ h, h < xH t → I' (a + 5) h = zBi t s (i + 1) h) : cS I' (xH t) (xP t) a (zst t s (i + 1)) := by
  obtain ⟨c0, c1, c2, c3, c4, c5⟩ := hS
  refine ⟨by rw [e0]; exact c0, fun q hq => by rw [e1]; exact c1 q hq, fun q hq => by rw [e2]; exact c2 q hq, fun q hq => by rw [e3]; exact c3 q hq, fun q hq => ?_, e5⟩
  show I' (a + 4) q = if q < i + 1 then zCn t s q else sC s q
  by_cases h : q = i
  · subst h
    rw [if_pos (Nat.lt_succ_self _)]; exact e4'
  · have := c4 q hq
    rw [e4 q h, this]
    show (if q < i then zCn t s q else sC s q) = _
    by_cases h' : q < i
    · rw [if_pos h', if_pos (by omega)]
    · rw [if_neg h', if_neg (by omega)]
abbrev frK (a i : Nat) (I I' : zI) : Prop := ∀ b j, b ≠ 62 → b ≠ 63 → ¬ (b = 65 ∧ j = i) → b ≠ a + 4 → b ≠ a + 5 → I' b j = I b j
theorem s_crook {I : zI} {J : zJ} {t : zX} {a i : Nat} {s : zT} (hw : zW (xH t) (xP t) s) (hi : i < xP t) (hX : cX I t a (zst t s i)) {Q : zI → zJ → Prop} (hq : ∀ I' : zI, cX I' t a (zst t s (i + 1)) → I' 65 i = zSl t s i → frK a i I I' → Q I' J) : v_Night_crook 5000 a (nI i) I J Q := by
  have hP := hX.1.2.1
  have hH := hX.1.1
  have ha := hX.2.2.2.2
  obtain ⟨c0, c1, c2, c3, c4, c5⟩ := id hX.2.2.2.1
  have v6 : vp_in (nI i) 6 := vp_in_nI (by omega) (by decide)
  refine s_isHung hX hi (fun e => z_yr z_00 ⟨v6, fun I24 e24 => ⟨v6, fun I26 e26 => ?_⟩⟩) (fun h hh e => z_nr z_10 ⟨v6, fun y ey => ?_⟩)
  · have e : sO s i = -2 := e
    have hneg : sO s i < 0 := by rw [e]; decide
    rw [nI_clamp (by omega)] at e24 e26
    have o : ∀ b j, ¬ (b = a + 4 ∧ j = i) → ¬ (b = 65 ∧ j = i) → I26 b j = I b j := fun b j q1 q2 => by rw [e26, qu_off (by omega), e24, qu_off (by omega)]
    refine hq I26 ⟨hX.1, hX.2.1.kept (fun b j q1 q2 => o b j (by omega) (by omega)), zst_wf hw _, cS.st hX.2.2.2.1 (o _ _ (by omega) (by omega)) (fun q => o _ _ (by omega) (by omega)) (fun q => o _ _ (by omega) (by omega)) (fun q => o _ _ (by omega) (by omega)) (fun q hq => o _ _ (by omega) (by omega)) ?_ (fun h hh => ?_), ha⟩ ?_ (fun b j q1 q2 q3 q4 q5 => o b j (by omega) q3)
    · rw [e26, qu_off (by omega), e24, qu_same]; unfold zCn; rw [if_pos hneg]
    · rw [o _ _ (by omega) (by omega), c5 h hh]
      show zBi t s i h = if sO s i = nI h then _ else zBi t s i h
      rw [if_neg (fun z => z_ne2 (n := h) (by omega) (z.symm.trans e))]
    · rw [e26, qu_same]; unfold zSl; rw [if_pos hneg]
  · have e : sO s i = nI h := e
    have hpos : ¬ sO s i < 0 := by rw [e]; exact nI_pos (by omega)
    have hfree : ∀ q, q < i → ¬ sO s q = nI h := fun q hq z => by
      have := hw.2.2.1 q i (by omega) hi (z.trans e.symm) (by rw [z]; exact z_ne2 (by omega))
      omega
    have v7 : vp_in (nI h) 7 := vp_in_nI (by omega) (by decide)
    rw [nI_clamp (by omega), c2 i hi] at ey
    rw [ey, show sO (zst t s i) i = nI h from e]
    refine s_othersBeside hX hi (fun e' => absurd (e.symm.trans e') (z_ne2 (by omega))) (fun _ _ _ => s_lookAt hX hi hh (fun I8 o8 f8 => ?_))
    rw [zvars_st hfree, zbes_on (s := s) (s' := zst t s i) rfl] at f8
    have hX8 : cX I8 t a (zst t s i) := hX.frC (fun b j q1 _ => o8 b j q1)
    refine s_lawTells (k := 2) hX8 (by decide) f8 (fun I10 o10 => ⟨v6, fun I12 e12 => ⟨v6, ?_⟩⟩)
    rw [nI_clamp (by omega)] at e12
    have o12 : ∀ b j, b ≠ 62 → b ≠ 63 → ¬ (b = 65 ∧ j = i) → I12 b j = I b j := fun b j q1 q2 q3 => by rw [e12, qu_off (by omega), o10 b j q2, o8 b j q1]
    have f12 : ∀ j, j < 9 → I12 62 j = zvars t s i h (zbes t s i) j := fun j hj => by rw [e12, qu_off (by omega), o10 62 j (by decide), f8 j hj]
    have hX12 : cX I12 t a (zst t s i) := hX.kept (fun b j q => o12 b j (by omega) (by omega) (by omega))
    refine s_lawTells (k := 0) hX12 (by decide) f12 (fun I15 o15 => ⟨v6, fun I17 e17 => ⟨v7, ?_⟩⟩)
    rw [nI_clamp (by omega), hX12.2.2.2.1.2.2.2.2.1 i hi] at e17
    have eC : sC (zst t s i) i = sC s i := by
      show (if i < i then zCn t s i else sC s i) = sC s i
      rw [if_neg (Nat.lt_irrefl _)]
    have tell : ∀ k, zcl (zmost k) (zlv (zvars t s i h (zbes t s i)) (xL t k).1 (xL t k).2) = ztell t s k i := fun k => by
      unfold ztell zlt2
      rw [e, nI_clamp (by omega)]
    rw [eC, tell 0, z_capx (zin_add0 (by decide) (hw.2.2.2.2.2.1 i hi) (ztell_in t s 0 i))] at e17
    have o17 : ∀ b j, b ≠ 62 → b ≠ 63 → ¬ (b = 65 ∧ j = i) → ¬ (b = a + 4 ∧ j = i) → I17 b j = I b j := fun b j q1 q2 q3 q4 => by rw [e17, qu_off (by omega), o15 b j q2, o12 b j q1 q2 q3]
    have f17 : ∀ j, j < 9 → I17 62 j = zvars t s i h (zbes t s i) j := fun j hj => by rw [e17, qu_off (by omega), o15 62 j (by decide), f12 j hj]
    have hT17 : cT I17 t := hX.2.1.kept (fun b j q1 q2 => o17 b j (by omega) (by omega) (by omega) (by omega))
    have law : ∀ Q' : Int32 → zI → zJ → Prop, (∀ I' : zI, (∀ b j, b ≠ 63 → I' b j = I17 b j) → Q' (ztell t s 1 i) I' J) → v_Reck_lawTells 5000 (1 : Int32) I17 J Q' := by
      intro Q' hq'
      refine ⟨fun _ => ⟨fun q => absurd q (by decide), fun _ => ⟨fun _ => s_valueOf (by omega) (hX.1.2.2.2.2 1 (by decide)) (hT17.2.2.2.2.2.2.2 1 (by decide)) f17 (fun I' o => ?_), fun q => absurd rfl q⟩⟩, fun q => absurd q (by decide)⟩
      rw [z_cl _ _ (by decide)]
      rw [← tell 1] at hq'
      exact hq' I' o
    refine law _ (fun I20 o20 => ⟨v7, fun I22 e22 => ?_⟩)
    have eB : I17 (a + 5) h = sB s h := by
      rw [o17 _ _ (by omega) (by omega) (by omega) (by omega), c5 h hh]
      exact zBi_at i hfree
    rw [nI_clamp (by omega), eB, z_capx (zin_add0 (by decide) (hw.2.2.2.2.2.2 h hh) (ztell_in t s 1 i))] at e22
    have o22 : ∀ b j, b ≠ 62 → b ≠ 63 → ¬ (b = 65 ∧ j = i) → ¬ (b = a + 4 ∧ j = i) → ¬ (b = a + 5 ∧ j = h) → I22 b j = I b j := fun b j q1 q2 q3 q4 q5 => by rw [e22, qu_off (by omega), o20 b j q2, o17 b j q1 q2 q3 q4]
    refine hq I22 ⟨hX.1, hX.2.1.kept (fun b j q1 q2 => o22 b j (by omega) (by omega) (by omega) (by omega) (by omega)), zst_wf hw _, cS.st hX.2.2.2.1 (o22 _ _ (by omega) (by omega) (by omega) (by omega) (by omega)) (fun q => o22 _ _ (by omega) (by omega) (by omega) (by omega) (by omega)) (fun q => o22 _ _ (by omega) (by omega) (by omega) (by omega) (by omega)) (fun q => o22 _ _ (by omega) (by omega) (by omega) (by omega) (by omega)) (fun q hq => o22 _ _ (by omega) (by omega) (by omega) (by omega) (by omega)) ?_ (fun h' hh' => ?_), ha⟩ ?_ (fun b j q1 q2 q3 q4 q5 => o22 b j q1 q2 q3 (by omega) (by omega))
    · rw [e22, qu_off (by omega), o20 _ _ (by omega), e17, qu_same]; unfold zCn; rw [if_neg hpos]
    · show I22 (a + 5) h' = if sO s i = nI h' then zcl 99 (sB s h' + ztell t s 1 i) else zBi t s i h'
      by_cases hhe : h' = h
      · subst hhe
        rw [e22, qu_same, if_pos e]
      · rw [o22 _ _ (by omega) (by omega) (by omega) (by omega) (by omega), c5 h' hh', if_neg (fun z => hhe ((nI_eq (by omega) (by omega)).mp (z.symm.trans e)))]
        rfl
    · rw [e22, qu_off (by omega), o20 _ _ (by decide), e17, qu_off (by omega), o15 _ _ (by decide), e12, qu_same]
      unfold zSl
      rw [if_neg hpos]
      exact tell 2
abbrev frN (a : Nat) (I I' : zI) : Prop := ∀ b j, b ≠ 62 → b ≠ 63 → b ≠ 65 → (b < a ∨ a + 5 < b) → I' b j = I b j
theorem s_goByOnce_2 {J : zJ} {t : zX} {a : Nat} {s : zT} {sd : Int32} (hw : zW (xH t) (xP t) s) {Q : zI → zJ → Prop} {K : Int32 → zI → zJ → Prop} : ∀ r i k (I : zI), cX I t a (zst t s i) → (∀ p, p < i → I 65 p = zSl t s p) → i + r = xP t → r < k → (∀ I' : zI, cX I' t a (zst t s (xP t)) → (∀ p, p < xP t → I' 65 p = zSl t s p) → frN a I I' → K sd I' J) → v_Night_goByOnce_2 5000 k a sd (nI i) I J Q K
  | _, _, 0, _, _, _, _, hk, _ => absurd hk (Nat.not_lt_zero _)
  | 0, i, k + 1, I, hX, hs, hi, hk, hq => by
    have hP := hX.1.2.1
    rw [v_Night_goByOnce_2]; dsimp only; rw [hX.2.1.2.1]
    rw [show i = xP t by omega] at hX hs
    exact z_y (nI_le (by omega) (by omega)) (hq I hX hs (fun _ _ _ _ _ _ => rfl))
  | r + 1, i, k + 1, I, hX, hs, hi, hk, hq => by
    have hP := hX.1.2.1
    have ha := hX.2.2.2.2
    rw [v_Night_goByOnce_2]; dsimp only; rw [hX.2.1.2.1]
    refine z_n (nI_ge (by omega) (by omega)) (s_crook hw (by omega) hX (fun I1 hX1 h65 o1 => ?_))
    rw [nI_1]
    refine s_goByOnce_2 hw r (i + 1) k I1 hX1 (fun p hp => ?_) (by omega) (by omega) (fun I' hX' hs' o' => hq I' hX' hs' (fun b j q1 q2 q3 q4 => by rw [o' b j q1 q2 q3 q4, o1 b j q1 q2 (by omega) (by omega) (by omega)]))
    by_cases h : p = i
    · rw [h]; exact h65
    · rw [o1 65 p (by decide) (by decide) (by omega) (by omega) (by omega)]; exact hs p (by omega)
theorem s_goByQuietly_2 {J : zJ} {t : zX} {a : Nat} {s : zT} (hw : zW (xH t) (xP t) s) {Q K : zI → zJ → Prop} : ∀ r i k (I : zI), cX I t a (zst t s i) → i + r = xP t → r < k → (∀ I' : zI, cX I' t a (zst t s (xP t)) → frN a I I' → K I' J) → v_Night_goByQuietly_2 5000 k a (nI i) I J Q K
  | _, _, 0, _, _, _, hk, _ => absurd hk (Nat.not_lt_zero _)
  | 0, i, k + 1, I, hX, hi, hk, hq => by
    have hP := hX.1.2.1
    rw [v_Night_goByQuietly_2]; dsimp only; rw [hX.2.1.2.1]
    rw [show i = xP t by omega] at hX
    exact z_y (nI_le (by omega) (by omega)) (hq I hX (fun _ _ _ _ _ _ => rfl))
  | r + 1, i, k + 1, I, hX, hi, hk, hq => by
    have hP := hX.1.2.1
    have ha := hX.2.2.2.2
    rw [v_Night_goByQuietly_2]; dsimp only; rw [hX.2.1.2.1]
    refine z_n (nI_ge (by omega) (by omega)) (s_crook hw (by omega) hX (fun I1 hX1 h65 o1 => ?_))
    rw [nI_1]
    exact s_goByQuietly_2 hw r (i + 1) k I1 hX1 (by omega) (by omega) (fun I' hX' o' => hq I' hX' (fun b j q1 q2 q3 q4 => by rw [o' b j q1 q2 q3 q4, o1 b j q1 q2 (by omega) (by omega) (by omega)]))
theorem sW_mk (W O S C B : Nat → Int32) (N : Int32) : sW (W, O, S, C, B, N) = W := rfl
theorem sO_mk (W O S C B : Nat → Int32) (N : Int32) : sO (W, O, S, C, B, N) = O := rfl
theorem sS_mk (W O S C B : Nat → Int32) (N : Int32) : sS (W, O, S, C, B, N) = S := rfl
theorem sC_mk (W O S C B : Nat → Int32) (N : Int32) : sC (W, O, S, C, B, N) = C := rfl
theorem sB_mk (W O S C B : Nat → Int32) (N : Int32) : sB (W, O, S, C, B, N) = B := rfl
theorem sN_mk (W O S C B : Nat → Int32) (N : Int32) : sN (W, O, S, C, B, N) = N := rfl
theorem zW_mk {nH nP : Nat} {W O S C B : Nat → Int32} {N : Int32} (w1 : ∀ p, p < nP → zin (W p) 100) (w2 : ∀ p, p < nP → O p = -2 ∨ zin (O p) nH) (w3 : ∀ p q, p < nP → q < nP → O p = O q → ¬ O p = -2 → p = q) (w4 : ∀ p, p < nP → zin (S p) nP) (w5 : ∀ p q, p < nP → q < nP → S p = S q → p = q) (w6 : ∀ p, p < nP → zin (C p) 1000) (w7 : ∀ h, h < nH → zin (B h) 100) : zW nH nP (W, O, S, C, B, N) := ⟨w1, w2, w3, w4, w5, w6, w7⟩
theorem cS_mk {I : zI} {nH nP a : Nat} {W O S C B : Nat → Int32} {N : Int32} (h0 : I a 1 = N) (h1 : ∀ p, p < nP → I (a + 1) p = W p) (h2 : ∀ p, p < nP → I (a + 2) p = O p) (h3 : ∀ p, p < nP → I (a + 3) p = S p) (h4 : ∀ p, p < nP → I (a + 4) p = C p) (h5 : ∀ h, h < nH → I (a + 5) h = B h) : cS I nH nP a (W, O, S, C, B, N) := ⟨h0, h1, h2, h3, h4, h5⟩
theorem cS_un {I : zI} {nH nP a : Nat} {W O S C B : Nat → Int32} {N : Int32} (h : cS I nH nP a (W, O, S, C, B, N)) : I a 1 = N ∧ (∀ p, p < nP → I (a + 1) p = W p) ∧ (∀ p, p < nP → I (a + 2) p = O p) ∧ (∀ p, p < nP → I (a + 3) p = S p) ∧ (∀ p, p < nP → I (a + 4) p = C p) ∧ (∀ h, h < nH → I (a + 5) h = B h) := h
theorem mR_mk {I : zI} {nH nP r : Nat} {W O S C B : Nat → Int32} {N : Int32} (h0 : I r 31 = N) (h1 : ∀ p, p < nP → I r p = W p) (h2 : ∀ p, p < nP → I r (6 + p) = O p) (h3 : ∀ p, p < nP → I r (12 + p) = S p) (h4 : ∀ p, p < nP → I r (18 + p) = C p) (h5 : ∀ h, h < nH → I r (24 + h) = B h) (h6 : ∀ p, nP ≤ p → p < 6 → I r (18 + p) = 0) (h7 : ∀ h, nH ≤ h → h < 7 → I r (24 + h) = 0) : mR I nH nP r (W, O, S, C, B, N) := ⟨h0, h1, h2, h3, h4, h5, h6, h7⟩
theorem mR_un {I : zI} {nH nP r : Nat} {W O S C B : Nat → Int32} {N : Int32} (h : mR I nH nP r (W, O, S, C, B, N)) : I r 31 = N ∧ (∀ p, p < nP → I r p = W p) ∧ (∀ p, p < nP → I r (6 + p) = O p) ∧ (∀ p, p < nP → I r (12 + p) = S p) ∧ (∀ p, p < nP → I r (18 + p) = C p) ∧ (∀ h, h < nH → I r (24 + h) = B h) ∧ (∀ p, nP ≤ p → p < 6 → I r (18 + p) = 0) ∧ (∀ h, nH ≤ h → h < 7 → I r (24 + h) = 0) := h
/-- the state behind a night: without moths and slips, and with them -/
def zStill (t : zX) (s : zT) : zT := (sW s, sO s, zSn t s, zCn t s, zBi t s (xP t), sN s + 1)
def zOn (t : zX) (s : zT) (sd : Int32) : Nat → Int32 := fun q => if zSl t s q ≤ zlot 100 sd (16 * sN s + nI q) then sO s q else -2
def zmx (x : Int32) : Int32 := if 0 < x - 1 then x - 1 else 0
def zWn (t : zX) (W : Nat → Int32) (N sd : Int32) : Nat → Int32 := fun q => if xM t ≤ zlot 100 sd (16 * N + 8) then W q else if q = (zlot (nI (xP t)) sd (16 * N + 9)).toNatClampNeg then zmx (W q) else W q
def zNight (t : zX) (s : zT) (sd : Int32) : zT := (zWn t (sW s) (sN s) sd, zOn t s sd, zSn t s, zCn t s, zBi t s (xP t), sN s + 1)
theorem night_W (t : zX) (s : zT) (sd : Int32) : sW (zNight t s sd) = zWn t (sW s) (sN s) sd := sW_mk _ _ _ _ _ _
theorem night_O (t : zX) (s : zT) (sd : Int32) : sO (zNight t s sd) = zOn t s sd := sO_mk _ _ _ _ _ _
theorem night_S (t : zX) (s : zT) (sd : Int32) : sS (zNight t s sd) = zSn t s := sS_mk _ _ _ _ _ _
theorem night_C (t : zX) (s : zT) (sd : Int32) : sC (zNight t s sd) = zCn t s := sC_mk _ _ _ _ _ _
theorem night_B (t : zX) (s : zT) (sd : Int32) : sB (zNight t s sd) = zBi t s (xP t) := sB_mk _ _ _ _ _ _
theorem night_N (t : zX) (s : zT) (sd : Int32) : sN (zNight t s sd) = sN s + 1 := sN_mk _ _ _ _ _ _
theorem still_W (t : zX) (s : zT) : sW (zStill t s) = sW s := sW_mk _ _ _ _ _ _
theorem still_O (t : zX) (s : zT) : sO (zStill t s) = sO s := sO_mk _ _ _ _ _ _
theorem still_S (t : zX) (s : zT) : sS (zStill t s) = zSn t s := sS_mk _ _ _ _ _ _
theorem still_C (t : zX) (s : zT) : sC (zStill t s) = zCn t s := sC_mk _ _ _ _ _ _
theorem still_B (t : zX) (s : zT) : sB (zStill t s) = zBi t s (xP t) := sB_mk _ _ _ _ _ _
theorem still_N (t : zX) (s : zT) : sN (zStill t s) = sN s + 1 := sN_mk _ _ _ _ _ _
theorem wake_O (t : zX) (s : zT) : sO (zWake t s) = sO s := sO_mk _ _ _ _ _ _
theorem wake_S (t : zX) (s : zT) : sS (zWake t s) = zSn t s := sS_mk _ _ _ _ _ _
theorem zmx_n {k : Nat} (hk : k < 2 ^ 31) : zmx (nI k) = nI (k - 1) := by
  unfold zmx
  rcases Nat.eq_zero_or_pos k with e | e
  · subst e; rfl
  · obtain ⟨m, rfl⟩ : ∃ m, k = m + 1 := ⟨k - 1, by omega⟩
    rw [nI_pred, Nat.add_sub_cancel]
    rcases Nat.eq_zero_or_pos m with e | e
    · subst e; rfl
    · have h : (0 : Int32) < nI m := nI_lt (a := 0) e (by omega)
      rw [if_pos h]
theorem zWn_in {t : zX} {W : Nat → Int32} {N : Int32} {p : Nat} (h1 : zin (W p) 100) (sd : Int32) : zin (zWn t W N sd p) 100 := by
  unfold zWn
  by_cases h : xM t ≤ zlot 100 sd (16 * N + 8)
  · rw [if_pos h]; exact h1
  · rw [if_neg h]
    by_cases h' : p = (zlot (nI (xP t)) sd (16 * N + 9)).toNatClampNeg
    · rw [if_pos h']
      obtain ⟨k, hk, e⟩ := h1
      rw [e, zmx_n (by omega)]
      exact ⟨k - 1, by omega, rfl⟩
    · rw [if_neg h']; exact h1
theorem zOn_or (t : zX) (s : zT) (sd : Int32) (p : Nat) : zOn t s sd p = sO s p ∨ zOn t s sd p = -2 := by
  unfold zOn
  by_cases h : zSl t s p ≤ zlot 100 sd (16 * sN s + nI p)
  · exact Or.inl (if_pos h)
  · exact Or.inr (if_neg h)
theorem zNight_wf {t : zX} {s : zT} (hx : zX_ok t) (hw : zW (xH t) (xP t) s) (sd : Int32) : zW (xH t) (xP t) (zNight t s sd) := by
  obtain ⟨w1, w2, w3, w4, w5, w6, w7⟩ := id hw
  have g2 : ∀ p, p < xP t → zOn t s sd p = -2 ∨ zin (zOn t s sd p) (xH t) := fun p hp => by
    rcases zOn_or t s sd p with e | e
    · rw [e]; exact w2 p hp
    · exact Or.inl e
  have g3 : ∀ p q, p < xP t → q < xP t → zOn t s sd p = zOn t s sd q → ¬ zOn t s sd p = -2 → p = q := fun p q hp hq e1 e2 => by
    rcases zOn_or t s sd p with e | e
    · rcases zOn_or t s sd q with e' | e'
      · exact w3 p q hp hq (by rw [← e, ← e', e1]) (by rw [← e]; exact e2)
      · exact absurd (e1.trans e') e2
    · exact absurd e e2
  exact zW_mk (fun p hp => zWn_in (w1 p hp) sd) g2 g3 (zSn_wf hx hw).1 (zSn_wf hx hw).2 (fun p _ => zCn_in t s p) (fun h hh => zBi_in (w7 h hh) _)
theorem zStill_wf {t : zX} {s : zT} (hx : zX_ok t) (hw : zW (xH t) (xP t) s) : zW (xH t) (xP t) (zStill t s) :=
  zW_mk hw.1 hw.2.1 hw.2.2.1 (zSn_wf hx hw).1 (zSn_wf hx hw).2 (fun p _ => zCn_in t s p) (fun h hh => zBi_in (hw.2.2.2.2.2.2 h hh) _)
theorem cS_cg {I : zI} {nH nP a : Nat} {s s' : zT} (h : cS I nH nP a s) (e0 : sN s' = sN s) (e1 : ∀ p, p < nP → sW s' p = sW s p) (e2 : ∀ p, p < nP → sO s' p = sO s p) (e3 : ∀ p, p < nP → sS s' p = sS s p) (e4 : ∀ p, p < nP → sC s' p = sC s p) (e5 : ∀ p, p < nH → sB s' p = sB s p) : cS I nH nP a s' := by
  obtain ⟨c0, c1, c2, c3, c4, c5⟩ := h
  exact ⟨by rw [e0]; exact c0, fun p hp => by rw [e1 p hp]; exact c1 p hp, fun p hp => by rw [e2 p hp]; exact c2 p hp, fun p hp => by rw [e3 p hp]; exact c3 p hp, fun p hp => by rw [e4 p hp]; exact c4 p hp, fun p hp => by rw [e5 p hp]; exact c5 p hp⟩
theorem s_goByQuietly {I : zI} {J : zJ} {t : zX} {a : Nat} {s : zT} (hX : cX I t a s) {Q : zI → zJ → Prop} (hq : ∀ I' : zI, cX I' t a (zStill t s) → frN a I I' → Q I' J) : v_Night_goByQuietly 5000 a I J Q := by
  have hw := hX.2.2.1
  have ha := hX.2.2.2.2
  have hP := hX.1.2.1
  refine s_goByQuietly_2 hw (xP t) 0 5000 I ⟨hX.1, hX.2.1, zst_wf hw 0, cS_cg hX.2.2.2.1 rfl (fun _ _ => rfl) (fun _ _ => rfl) (fun _ _ => rfl) (fun p _ => show (if p < 0 then zCn t s p else sC s p) = sC s p from if_neg (Nat.not_lt_zero p)) (fun _ _ => rfl), ha⟩ (by omega) (by omega) (fun I1 hX1 o1 => s_wakeAll hX1 (fun I2 hX2 o2 I3 e3 => ?_))
  have e3' : I2 a 1 = sN s := hX2.2.2.2.1.1
  rw [e3'] at e3
  have o3 : ∀ b j, ¬ (b = a ∧ j = 1) → I3 b j = I2 b j := fun b j q => by rw [e3, qu_off (by omega)]
  obtain ⟨c0, c1, c2, c3, c4, c5⟩ := hX2.2.2.2.1
  refine hq I3 ⟨hX.1, hX2.2.1.kept (fun b j q1 q2 => o3 b j (by omega)), zStill_wf hX.1 hw, ⟨by rw [e3, qu_same]; rfl, fun p hp => by rw [o3 _ _ (by omega)]; exact c1 p hp, fun p hp => by rw [o3 _ _ (by omega)]; exact c2 p hp, fun p hp => by rw [o3 _ _ (by omega)]; exact c3 p hp, fun p hp => ?_, fun p hp => by rw [o3 _ _ (by omega)]; exact c5 p hp⟩, ha⟩ (fun b j q1 q2 q3 q4 => by rw [o3 b j (by omega), o2 b j (by omega), o1 b j q1 q2 q3 q4])
  rw [o3 _ _ (by omega), c4 p hp]
  exact if_pos hp
