/-! swap -/
theorem s_costIf {I : zI} {J : zJ} {t : zX} {live p q : Nat} {s : zT} {B : Int32} (hQ : zQ I t live s) (hp : p < xP t) (hq' : q < xP t) {Q : Int32 → zI → zJ → Prop} (h0 : (sO s p < 0 ∨ sO s q < 0) → Q B I J) (h1 : ¬ (sO s p < 0 ∨ sO s q < 0) → ∀ I' : zI, zK I I' J J → Q (zcosts t (zswap s p q) (xP t) 0 0) I' J) : v_X_costIfExchanged 5000 (nI p) (nI q) B I J Q := by
  have hX := hQ.1
  have hH := hX.1.1
  refine s_isHung hX hp (fun e => z_y z_00 (h0 (Or.inl (by rw [e]; decide)))) (fun h hh e => z_n z_10 (s_isHung hX hq' (fun e' => z_yr z_00 (h0 (Or.inr (by rw [e']; decide)))) (fun h' hh' e' => z_nr z_10 (s_dream hX (fun I7 hX7 o7 => s_exchange hX7 hp hq' (fun I8 hX8 o8 => s_costOfAll hX8 (fun I10 o10 => h1 ?_ I10 ?_)))))))
  · rw [e, e']
    exact fun z => z.elim (nI_pos (by omega)) (nI_pos (by omega))
  · exact (zK.dream (I := I) (I' := I8) (fun b j q => by rw [o8 b j (by omega), o7 b j q])).trans (zK.fC o10)
def zsw2 (t : zX) (s : zT) (B : Int32) (p : Nat) : Nat → Nat → Int32 × Int32 → Int32 × Int32
  | 0, _, w => w
  | r + 1, i, w => zsw2 t s B p r (i + 1) (if sO s p < 0 ∨ sO s i < 0 then w else if B - zcosts t (zswap s p i) (xP t) 0 0 ≤ w.2 then w else (10 * nI p + nI i, B - zcosts t (zswap s p i) (xP t) 0 0))
def zsw1 (t : zX) (s : zT) (B : Int32) : Nat → Nat → Int32 × Int32 → Int32 × Int32
  | 0, _, w => w
  | r + 1, i, w => zsw1 t s B r (i + 1) (zsw2 t s B i r (i + 1) w)
def zswI (w : Int32 × Int32) : Prop := 0 ≤ w.2 ∧ (w.1 = -2 ∨ ¬ w.1 < 0)
theorem zsw2_I (t : zX) (s : zT) (B : Int32) {p : Nat} (hp : p < 6) : ∀ r i w, i + r ≤ 6 → zswI w → zswI (zsw2 t s B p r i w)
  | 0, _, _, _, h => h
  | r + 1, i, w, hi, h => by
    rw [zsw2]
    refine zsw2_I t s B hp r (i + 1) _ (by omega) ?_
    by_cases h1 : sO s p < 0 ∨ sO s i < 0
    · rw [if_pos h1]; exact h
    · rw [if_neg h1]
      by_cases h2 : B - zcosts t (zswap s p i) (xP t) 0 0 ≤ w.2
      · rw [if_pos h2]; exact h
      · rw [if_neg h2]
        refine ⟨Int32.le_trans h.1 (Int32.le_of_lt (Int32.not_le.mp h2)), Or.inr ?_⟩
        show ¬ 10 * nI p + nI i < 0
        rw [z_ten (by omega) (by omega)]
        exact nI_pos (by omega)
theorem s_swap_48 {J : zJ} {t : zX} {live p : Nat} {s : zT} {x1 B : Int32} (hp : p < xP t) {Q : Int32 → zI → zJ → Prop} {K : Int32 → Int32 → Int32 → Int32 → Int32 → zI → zJ → Prop} : ∀ r i k (w : Int32 × Int32) (I : zI), zQ I t live s → i + r = xP t → r < k → zswI w → (∀ I' : zI, zK I I' J J → K x1 B (zsw2 t s B p r i w).1 (zsw2 t s B p r i w).2 (nI p) I' J) → v_X_swap_48 5000 k x1 B w.1 w.2 (nI p) (nI i) I J Q K
  | _, _, 0, _, _, _, _, hk, _, _ => absurd hk (Nat.not_lt_zero _)
  | 0, i, k + 1, w, I, hQ, hi, hk, hw, hq => by
    have hP := hQ.1.1.2.1
    rw [v_X_swap_48]; dsimp only; rw [hQ.1.2.1.2.1]
    exact z_y (nI_le (by omega) (by omega)) (hq I zK.rfl)
  | r + 1, i, k + 1, w, I, hQ, hi, hk, hw, hq => by
    have hP := hQ.1.1.2.1
    rw [v_X_swap_48]; dsimp only; rw [hQ.1.2.1.2.1]
    rw [zsw2] at hq
    have hI := zsw2_I t s B (p := p) (by omega) 1 i w (by omega) hw
    rw [zsw2, zsw2] at hI
    refine z_n (nI_ge (by omega) (by omega)) (s_costIf hQ hp (by omega) (fun h y ey => ?_) (fun h I3 k3 y ey => ?_))
    · rw [Int32.sub_self] at ey
      rw [if_pos h] at hq
      rw [ey, nI_1]
      exact z_y hw.1 (s_swap_48 hp r (i + 1) k w I hQ (by omega) (by omega) hw hq)
    · rw [if_neg h] at hq hI
      rw [ey, nI_1]
      refine ⟨fun q => ?_, fun q y6 e6 => ?_⟩
      · rw [if_pos q] at hq
        exact s_swap_48 hp r (i + 1) k w I3 (hQ.kept k3) (by omega) (by omega) hw (fun I' k' => hq I' (k3.trans k'))
      · rw [if_neg q] at hq hI
        rw [e6]
        exact s_swap_48 hp r (i + 1) k (_, _) I3 (hQ.kept k3) (by omega) (by omega) hI (fun I' k' => hq I' (k3.trans k'))
theorem s_swap_30 {J : zJ} {t : zX} {live : Nat} {s : zT} {x1 B : Int32} {Q : Int32 → zI → zJ → Prop} {K : Int32 → Int32 → Int32 → zI → zJ → Prop} : ∀ r i k (w : Int32 × Int32) (I : zI), zQ I t live s → i + r = xP t → r < k → zswI w → (∀ I' : zI, zK I I' J J → K x1 (zsw1 t s B r i w).1 (zsw1 t s B r i w).2 I' J) → v_X_swap_30 5000 k x1 B w.1 w.2 (nI i) I J Q K
  | _, _, 0, _, _, _, _, hk, _, _ => absurd hk (Nat.not_lt_zero _)
  | 0, i, k + 1, w, I, hQ, hi, hk, hw, hq => by
    have hP := hQ.1.1.2.1
    rw [v_X_swap_30]; dsimp only; rw [hQ.1.2.1.2.1]
    exact z_y (nI_le (by omega) (by omega)) (hq I zK.rfl)
  | r + 1, i, k + 1, w, I, hQ, hi, hk, hw, hq => by
    have hP := hQ.1.1.2.1
    rw [v_X_swap_30]; dsimp only; rw [hQ.1.2.1.2.1]
    refine z_n (nI_ge (by omega) (by omega)) (fun y ey => ?_)
    rw [nI_1] at ey
    rw [ey]
    refine s_swap_48 (live := live) (s := s) (by omega) r (i + 1) 5000 w I hQ (by omega) (by omega) hw (fun I1 k1 => ?_)
    rw [nI_1]
    exact s_swap_30 r (i + 1) k _ I1 (hQ.kept k1) (by omega) (by omega) (zsw2_I t s B (by omega) r (i + 1) w (by omega) hw) (fun I' k' => hq I' (k1.trans k'))
theorem s_M_swap_49 {J : zJ} {t : zX} {live p : Nat} {s : zT} {x1 B : Int32} (hp : p < xP t) {Q : Int32 → zI → zJ → Prop} {K : Int32 → Int32 → Int32 → Int32 → Int32 → zI → zJ → Prop} : ∀ r i k (w : Int32 × Int32) (I : zI), zQ I t live s → p < i → i + r = xP t → r < k → (∀ I' : zI, zK I I' J J → K x1 B (zsw2 t s B p r i w).1 (zsw2 t s B p r i w).2 (nI p) I' J) → v_M_swap_49 5000 k x1 B w.1 w.2 (nI p) (nI i) I J Q K
  | _, _, 0, _, _, _, _, _, hk, _ => absurd hk (Nat.not_lt_zero _)
  | 0, i, k + 1, w, I, hQ, hpi, hi, hk, hq => by
    have hP := hQ.1.1.2.1
    have hl := hQ.2.1.1
    rw [v_M_swap_49]; dsimp only; rw [hQ.2.1.2.1, nI_clamp (by omega), hQ.2.1.2.2.2.1]
    exact ⟨vp_in_nI hl (by decide), z_y (nI_le (by omega) (by omega)) (hq I zK.rfl)⟩
  | r + 1, i, k + 1, w, I, hQ, hpi, hi, hk, hq => by
    have hP := hQ.1.1.2.1
    have hl := hQ.2.1.1
    rw [v_M_swap_49]; dsimp only; rw [hQ.2.1.2.1, nI_clamp (by omega), hQ.2.1.2.2.2.1]
    rw [zsw2] at hq
    refine ⟨vp_in_nI hl (by decide), z_n (nI_ge (by omega) (by omega)) (s_M_areUp hQ.m (by omega) (by omega) (fun h => z_nr z_10 (s_M_changesFor hQ.m h.1 h.2.1 (fun I6 o6 hX6 _ _ => s_M_costsAll hX6 (fun I8 o8 y ey => ?_)))) (fun h => z_yr z_00 ?_))⟩
    · have k8 : zK I I8 J J := (zK.fS o6).trans (zK.fM o8)
      rw [if_neg (fun z => z.elim h.2.2.2.1 h.2.2.2.2)] at hq
      rw [ey, nI_1]
      refine ⟨fun q y6 e6 => ?_, fun q => ?_⟩
      · rw [if_neg (Int32.not_le.mpr q)] at hq
        rw [e6]
        exact s_M_swap_49 hp r (i + 1) k (_, _) I8 (hQ.kept k8) (by omega) (by omega) (by omega) (fun I' k' => hq I' (k8.trans k'))
      · rw [if_pos (Int32.not_lt.mp q)] at hq
        exact s_M_swap_49 hp r (i + 1) k w I8 (hQ.kept k8) (by omega) (by omega) (by omega) (fun I' k' => hq I' (k8.trans k'))
    · rw [if_pos (Decidable.byContradiction (fun z => h ⟨hp, by omega, by omega, fun a => z (Or.inl a), fun a => z (Or.inr a)⟩))] at hq
      rw [nI_1]
      exact s_M_swap_49 hp r (i + 1) k w I hQ (by omega) (by omega) (by omega) hq
theorem s_M_swap_29 {J : zJ} {t : zX} {live : Nat} {s : zT} {x1 B : Int32} {Q : Int32 → zI → zJ → Prop} : ∀ r i k (w : Int32 × Int32) (I : zI), zQ I t live s → i + r = xP t → r < k → zswI w → (∀ I' : zI, zK I I' J J → Q (if x1 = 0 then (zsw1 t s B r i w).1 else if (zsw1 t s B r i w).1 = -2 then (zsw1 t s B r i w).1 else (zsw1 t s B r i w).2) I' J) → v_M_swap_29 5000 k x1 B w.1 w.2 (nI i) I J Q
  | _, _, 0, _, _, _, _, hk, _, _ => absurd hk (Nat.not_lt_zero _)
  | 0, i, k + 1, w, I, hQ, hi, hk, hw, hq => by
    have hP := hQ.1.1.2.1
    have hl := hQ.2.1.1
    rw [v_M_swap_29]; dsimp only; rw [hQ.2.1.2.1, nI_clamp (by omega), hQ.2.1.2.2.2.1]
    have hq := hq I zK.rfl
    rw [zsw1] at hq
    refine ⟨vp_in_nI hl (by decide), z_y (nI_le (by omega) (by omega)) ?_⟩
    rcases hw.2 with e | e
    · rw [if_pos e] at hq
      refine z_y (by rw [e]; decide) ?_
      by_cases h : x1 = 0
      · rw [if_pos h] at hq; exact hq
      · rw [if_neg h] at hq; exact hq
    · have e2 : ¬ w.1 = -2 := fun z => e (by rw [z]; decide)
      rw [if_neg e2] at hq
      refine z_n e ⟨fun q => ?_, fun q => ?_⟩
      · rw [if_neg q] at hq; exact hq
      · rw [if_pos q] at hq; exact hq
  | r + 1, i, k + 1, w, I, hQ, hi, hk, hw, hq => by
    have hP := hQ.1.1.2.1
    have hl := hQ.2.1.1
    rw [v_M_swap_29]; dsimp only; rw [hQ.2.1.2.1, nI_clamp (by omega), hQ.2.1.2.2.2.1]
    refine ⟨vp_in_nI hl (by decide), z_n (nI_ge (by omega) (by omega)) (fun y ey => ?_)⟩
    rw [nI_1] at ey
    rw [ey]
    refine s_M_swap_49 (live := live) (s := s) (by omega) r (i + 1) 5000 w I hQ (by omega) (by omega) (by omega) (fun I1 k1 => ?_)
    rw [nI_1]
    exact s_M_swap_29 r (i + 1) k _ I1 (hQ.kept k1) (by omega) (by omega) (zsw2_I t s B (by omega) r (i + 1) w (by omega) hw) (fun I' k' => hq I' (k1.trans k'))
theorem zok_swap : zOK_swap Rel := fun a0 => zok_q (vX := v_X_swap 5000 a0) (vM := v_M_swap 5000 a0) (fun I J hR t live s hQ => by
  have hP := hQ.1.1.2.1
  have hw0 : zswI ((-2 : Int32), (0 : Int32)) := ⟨Int32.le_refl _, Or.inl rfl⟩
  by_cases hk : zin a0 2
  · refine ⟨if a0 = 0 then (zsw1 t s (zcosts t s (xP t) 0 0) (xP t) 0 (-2, 0)).1 else if (zsw1 t s (zcosts t s (xP t) 0 0) (xP t) 0 (-2, 0)).1 = -2 then (zsw1 t s (zcosts t s (xP t) 0 0) (xP t) 0 (-2, 0)).1 else (zsw1 t s (zcosts t s (xP t) 0 0) (xP t) 0 (-2, 0)).2, fun Q hq => z01y hk (z_nr z_10 (s_costOfAll hQ.1 (fun I5 o5 => s_swap_30 (live := live) (s := s) (xP t) 0 5000 (-2, 0) I5 (hQ.kept (J := J) (J' := J) (zK.fC o5)) (by omega) (by omega) hw0 (fun I9 k9 => ?_)))), fun I1 Q k1 hQ1 hq => ?_⟩
    · have hq := hq I9 ((zK.fC o5).trans k9)
      refine ⟨fun q => ?_, fun q => ⟨fun q' => ?_, fun q' => ?_⟩⟩
      · rw [if_pos q] at hq; exact hq
      · rw [if_neg q, if_neg q'] at hq; exact hq
      · rw [if_neg q, if_pos q'] at hq; exact hq
    · obtain ⟨k, hk, rfl⟩ := hk
      exact z_in1 (n := 2) (by decide) (by decide) hk (z_nr z_10 (hQ1.copies (fun I2 o2 hX2 _ _ => s_M_costsAll hX2 (fun I3 o3 => s_M_swap_29 (live := live) (s := s) (xP t) 0 5000 (-2, 0) I3 (hQ1.kept (J := J) (J' := J) ((zK.fS o2).trans (zK.fM o3))) (by omega) (by omega) hw0 (fun I' k' => hq I' ((zK.fS o2).trans ((zK.fM o3).trans k')))))))
  · exact ⟨-1, fun Q hq => z01n hk (z_yr z_00 (hq I zK.rfl)), fun I1 Q k1 hQ1 hq => z_in0 (n := 2) (by decide) (by decide) hk (z_yr z_00 (hq I1 zK.rfl))⟩)
