/-! the reference's table of hangings -/
abbrev frQ (I I' : zI) : Prop := ∀ b j, b ≠ 391 → b ≠ 392 → b ≠ 394 → ¬ (400 ≤ b ∧ b ≤ 402) → ¬ (b = 361 ∧ (j = 48 ∨ j = 51 ∨ j = 52 ∨ j = 61)) → I' b j = I b j
theorem zK.fQ {I I' : zI} {J : zJ} (e : frQ I I') : zK I I' J J := zK.of (fun b j q => by
  have := zE_out q
  exact e b j (by omega) (by omega) (by omega) (by omega) (by omega))
theorem s_M_fT21 {J : zJ} {t : zX} {live p : Nat} {s : zT} (hp : p < xP t) {Q : zI → zJ → Prop} {K : Int32 → zI → zJ → Prop} : ∀ r i k (I : zI), mX I t live s → (∀ h, h < i → I 401 (7 * p + h) = nI (zcs t s p h)) → i + r = xH t → r < k → (∀ I' : zI, mX I' t live s → (∀ b j, b ≠ 391 → b ≠ 392 → ¬ (b = 361 ∧ j = 48) → ¬ (b = 401 ∧ 7 * p ≤ j ∧ j < 7 * p + 7) → I' b j = I b j) → (∀ h, h < xH t → I' 401 (7 * p + h) = nI (zcs t s p h)) → K (nI p) I' J) → v_M_fillsTable_21 5000 k (nI p) (nI i) I J Q K
  | _, _, 0, _, _, _, _, hk, _ => absurd hk (Nat.not_lt_zero _)
  | 0, i, k + 1, I, hX, hd, hi, hk, hq => by
    have hH := hX.1.1
    have hl := hX.2.1.1
    rw [v_M_fillsTable_21]; dsimp only; rw [hX.2.1.2.1, nI_clamp (by omega), hX.2.1.2.2.1]
    exact ⟨vp_in_nI hl (by decide), z_y (nI_le (by omega) (by omega)) (hq I hX (fun _ _ _ _ _ _ => rfl) (fun h hh => hd h (by omega)))⟩
  | r + 1, i, k + 1, I, hX, hd, hi, hk, hq => by
    have hH := hX.1.1
    have hP := hX.1.2.1
    have hl := hX.2.1.1
    rw [v_M_fillsTable_21]; dsimp only; rw [hX.2.1.2.1, nI_clamp (by omega), hX.2.1.2.2.1]
    refine ⟨vp_in_nI hl (by decide), z_n (nI_ge (by omega) (by omega)) (s_M_costsAt hX hp (by omega) (fun I5 o5 => ⟨by rw [z_m7]; exact vp_in_nI (by omega) (by decide), fun I7 e7 => ?_⟩))⟩
    rw [z_m7, nI_clamp (by omega), zcs_n] at e7
    have o7 : ∀ b j, b ≠ 391 → b ≠ 392 → ¬ (b = 361 ∧ j = 48) → ¬ (b = 401 ∧ j = 7 * p + i) → I7 b j = I b j := fun b j q1 q2 q3 q4 => by rw [e7, qu_off (by omega), o5 b j q1 q2 q3]
    rw [nI_1]
    refine s_M_fT21 hp r (i + 1) k I7 (hX.kept (fun b j q => o7 b j (by omega) (by omega) (by omega) (by omega))) (fun h hh => ?_) (by omega) (by omega) (fun I' hX' o' f' => hq I' hX' (fun b j q1 q2 q3 q4 => by rw [o' b j q1 q2 q3 q4, o7 b j q1 q2 q3 (by omega)]) f')
    by_cases e : h = i
    · subst e; rw [e7, qu_same]
    · rw [o7 _ _ (by omega) (by omega) (by omega) (by omega)]; exact hd h (by omega)
theorem s_M_fT6 {J : zJ} {t : zX} {live : Nat} {s : zT} {Q : zI → zJ → Prop} : ∀ r i k (I : zI), mX I t live s → (∀ p h, p < i → h < xH t → I 401 (7 * p + h) = nI (zcs t s p h)) → i + r = xP t → r < k → (∀ I' : zI, mX I' t live s → (∀ b j, b ≠ 391 → b ≠ 392 → ¬ (b = 361 ∧ j = 48) → b ≠ 401 → I' b j = I b j) → (∀ p h, p < xP t → h < xH t → I' 401 (7 * p + h) = nI (zcs t s p h)) → Q I' J) → v_M_fillsTable_6 5000 k (nI i) I J Q
  | _, _, 0, _, _, _, _, hk, _ => absurd hk (Nat.not_lt_zero _)
  | 0, i, k + 1, I, hX, hd, hi, hk, hq => by
    have hP := hX.1.2.1
    have hl := hX.2.1.1
    rw [v_M_fillsTable_6]; dsimp only; rw [hX.2.1.2.1, nI_clamp (by omega), hX.2.1.2.2.2.1]
    exact ⟨vp_in_nI hl (by decide), z_y (nI_le (by omega) (by omega)) (hq I hX (fun _ _ _ _ _ _ => rfl) (fun p h hp hh => hd p h (by omega) hh))⟩
  | r + 1, i, k + 1, I, hX, hd, hi, hk, hq => by
    have hH := hX.1.1
    have hP := hX.1.2.1
    have hl := hX.2.1.1
    rw [v_M_fillsTable_6]; dsimp only; rw [hX.2.1.2.1, nI_clamp (by omega), hX.2.1.2.2.2.1]
    refine ⟨vp_in_nI hl (by decide), z_n (nI_ge (by omega) (by omega)) (s_M_fT21 (s := s) (live := live) (by omega) (xH t) 0 5000 I hX (fun h hh => absurd hh (Nat.not_lt_zero _)) (by omega) (by omega) (fun I1 hX1 o1 f1 => ?_))⟩
    rw [nI_1]
    refine s_M_fT6 r (i + 1) k I1 hX1 (fun p h hp hh => ?_) (by omega) (by omega) (fun I' hX' o' f' => hq I' hX' (fun b j q1 q2 q3 q4 => by rw [o' b j q1 q2 q3 q4, o1 b j q1 q2 q3 (by omega)]) f')
    by_cases e : p = i
    · subst e; exact f1 h hh
    · rw [o1 _ _ (by omega) (by omega) (by omega) (by omega)]; exact hd p h (by omega) hh
theorem s_M_fillsTable {I : zI} {J : zJ} {t : zX} {live : Nat} {s : zT} (hQ : mQ I t live s) {Q : zI → zJ → Prop} (hq : ∀ I' : zI, mT I' t live → (∀ b j, b ≠ 391 → b ≠ 392 → b ≠ 394 → b ≠ 401 → ¬ (b = 361 ∧ (j = 48 ∨ j = 51 ∨ j = 52)) → I' b j = I b j) → (∀ p h, p < xP t → h < xH t → I' 401 (7 * p + h) = nI (zcs t s p h)) → Q I' J) : v_M_fillsTable 5000 I J Q := by
  have hP := hQ.1.2.1
  refine hQ.copies (fun I2 o2 hX2 _ _ => s_M_fT6 (xP t) 0 5000 I2 hX2 (fun p h hp => absurd hp (Nat.not_lt_zero _)) (by omega) (by omega) (fun I3 hX3 o3 f3 => hq I3 hX3.2.1 (fun b j q1 q2 q3 q4 q5 => ?_) f3))
  rw [o3 b j q1 q2 (by omega) q4, o2 b j q3 (by omega)]
theorem s_M_bitOf {I : zI} {J : zJ} {t : zX} {live h : Nat} {x : Int32} (hx : zX_ok t) (hT : mT I t live) (h61 : I 361 61 = x) (hh : h < xH t) {Q : Int32 → zI → zJ → Prop} (hq : Q (nI (zbt0 t x h)) I J) : v_M_bitOf 5000 (nI h) I J Q := by
  have hH := hx.1
  obtain ⟨j, hj, ej⟩ := hx.2.2.1 h hh
  unfold v_M_bitOf
  rw [h61, z_sh h (by omega)]
  unfold zbt0 at hq
  refine ⟨fun q => ?_, fun q => s_M_nailAt hx hT hh ?_⟩
  · rw [if_pos q] at hq; exact hq
  · rw [if_neg q, ej, nI_clamp (by omega)] at hq
    rw [ej, z_sh j (by omega)]; exact hq
/-- what the reference's plan rests on -/
def zPq (I : zI) (t : zX) (s : zT) (live : Nat) (x : Int32) : Prop := zX_ok t ∧ mT I t live ∧ I 361 61 = x ∧ ∀ p h, p < xP t → h < xH t → I 401 (7 * p + h) = nI (zcs t s p h)
theorem zPq.kept {I I' : zI} {t : zX} {s : zT} {live : Nat} {x : Int32} (h : zPq I t s live x) (e : ∀ b j, b ≠ 400 → b ≠ 402 → I' b j = I b j) : zPq I' t s live x := by
  obtain ⟨h1, h2, h3, h4⟩ := h
  exact ⟨h1, h2.kept (fun b j q1 q2 => e b j (by omega) (by omega)) (e _ _ (by decide) (by decide)), by rw [e _ _ (by decide) (by decide)]; exact h3, fun p h hp hh => by rw [e _ _ (by decide) (by decide)]; exact h4 p h hp hh⟩
theorem zbt0_b {t : zX} (hx : zX_ok t) (x : Int32) {T h : Nat} (hT : T < 128) (hh : h < xH t) : T ||| zbt0 t x h < 128 ∧ T &&& zbt0 t x h < 128 ∧ zpc (T ||| zbt0 t x h) ≤ zpc T + 1 := by
  obtain ⟨b, hb, e⟩ := zbt0_ok hx x hh
  rw [e]
  exact ⟨Nat.or_lt_two_pow (n := 7) hT (Nat.pow_lt_pow_right (by decide) hb), Nat.lt_of_le_of_lt Nat.and_le_left hT, zpc_or T hT b hb⟩
theorem z_m128 (l h : Nat) : (128 : Int32) * nI l + nI h = nI (128 * l + h) := (congrArg (· + nI h) (nI_mul 128 l)).trans (nI_add _ _)
theorem z_m128' (l : Nat) : (128 : Int32) * nI l + 128 = nI (128 * l + 128) := z_m128 l 128
section
variable {t : zX} {s : zT} {live : Nat} {x : Int32}
theorem s_M_with {I : zI} {J : zJ} {a T h : Nat} {y : Nat × Nat} (hI : zPq I t s live x) (ha : a < xP t) (hT : T < 128) (hh : h < xH t) (hy : I 400 (128 * a + 128 + (T ||| zbt0 t x h)) = zvM y) {Q : Int32 → zI → zJ → Prop} (hq : Q (zvM (y.1 + 1, y.2 + zcs t s a h)) I J) : v_M_with 5000 (nI a) (nI h) (nI T) I J Q := by
  have hH := hI.1.1
  have hP := hI.1.2.1
  obtain ⟨b1, b2, b3⟩ := zbt0_b hI.1 x hT hh
  unfold v_M_with
  rw [z_m7, nI_clamp (by omega), hI.2.2.2 a h ha hh]
  refine ⟨vp_in_nI (by omega) (by decide), s_M_bitOf hI.1 hI.2.1 hI.2.2.1 hh ?_⟩
  rw [z_m128', nI_or, nI_add, nI_clamp (by omega), hy, zvM_c]
  exact ⟨vp_in_nI (by omega) (by decide), hq⟩
theorem zal_2 (bt : Nat → Nat) (T : Nat) {h : Nat} (hh : h < 2 ^ 31) : zal (-2) bt T h = decide (T &&& bt h = 0) := if_neg (z_ne2 hh)
theorem s_M_fL91 {I : zI} {J : zJ} {a T : Nat} {be : Nat → Nat × Nat} (hI : zPq I t s live x) (ha : a < xP t) (hT : T < 128) (hb : ∀ T, zbd 5 (be T)) (hr : ∀ h, h < xH t → I 400 (128 * a + 128 + (T ||| zbt0 t x h)) = zvM (be (T ||| zbt0 t x h))) {Q : zI → zJ → Prop} {K : Int32 → Int32 → Int32 → zI → zJ → Prop} : ∀ r h k (w : Nat × Nat), zbd 6 w → h + r = xH t → r < k → K (nI a) (nI T) (zvM (zfd (zal (-2) (zbt0 t x) T) (fun h => ((be (T ||| zbt0 t x h)).1 + 1, (be (T ||| zbt0 t x h)).2 + zcs t s a h)) r h w)) I J → v_M_fillsLeast_91 5000 k (nI a) (nI T) (zvM w) (nI h) I J Q K
  | _, _, 0, _, _, _, hk, _ => absurd hk (Nat.not_lt_zero _)
  | 0, h, k + 1, w, hw, hi, hk, hq => by
    have hH := hI.1.1
    have hl := hI.2.1.1
    rw [v_M_fillsLeast_91]; dsimp only; rw [hI.2.1.2.1, nI_clamp (by omega), hI.2.1.2.2.1]
    exact ⟨vp_in_nI hl (by decide), z_y (nI_le (by omega) (by omega)) hq⟩
  | r + 1, h, k + 1, w, hw, hi, hk, hq => by
    have hH := hI.1.1
    have hl := hI.2.1.1
    obtain ⟨b1, b2, b3⟩ := zbt0_b hI.1 x hT (show h < xH t by omega)
    rw [v_M_fillsLeast_91]; dsimp only; rw [hI.2.1.2.1, nI_clamp (by omega), hI.2.1.2.2.1]
    rw [zfd, zal_2 _ _ (by omega)] at hq
    refine ⟨vp_in_nI hl (by decide), z_n (nI_ge (by omega) (by omega)) (s_M_bitOf hI.1 hI.2.1 hI.2.2.1 (by omega) ?_)⟩
    rw [nI_and, nI_1]
    refine ⟨fun q => ?_, fun q => ?_⟩
    · rw [if_neg (by rw [decide_eq_true_eq]; exact fun z => q (by rw [z]; rfl))] at hq
      exact s_M_fL91 hI ha hT hb hr r (h + 1) k w hw (by omega) (by omega) hq
    · rw [if_pos (decide_eq_true ((z_and0 (by omega)).mp q))] at hq
      have hcb : zbd 6 ((be (T ||| zbt0 t x h)).1 + 1, (be (T ||| zbt0 t x h)).2 + zcs t s a h) := ⟨by have := (hb (T ||| zbt0 t x h)).1; show _ + 1 ≤ 6; omega, by
        have h1 := (hb (T ||| zbt0 t x h)).2
        have h2 := zcs_le t s a h
        show _ + _ ≤ 99 * 6; omega⟩
      refine s_M_with hI ha hT (by omega) (hr h (by omega)) ?_
      unfold zmin at hq
      refine ⟨fun q2 => ?_, fun q2 => s_M_with hI ha hT (by omega) (hr h (by omega)) ?_⟩
      · rw [if_neg (fun z => (Int32.not_lt.mpr q2) ((zvM_lt hcb hw).mpr z))] at hq
        exact s_M_fL91 hI ha hT hb hr r (h + 1) k w hw (by omega) (by omega) hq
      · rw [if_pos ((zvM_lt hcb hw).mp (Int32.not_le.mp q2))] at hq
        exact s_M_fL91 hI ha hT hb hr r (h + 1) k _ hcb (by omega) (by omega) hq
def zMw (I : zI) (be : Nat → Nat → Nat × Nat) (nP q : Nat) : Prop := ∀ T, T < 128 → I 400 (128 * q + T) = zvM (be (nP - q) T)
theorem s_M_fL63 {J : zJ} {a : Nat} (ha : a < xP t) {Q : zI → zJ → Prop} {K : Int32 → zI → zJ → Prop} : ∀ r T k (I : zI), zPq I t s live x → zMw I (zBE t s x (-2)) (xP t) (a + 1) → (∀ T', T' < T → I 400 (128 * a + T') = zvM (zBE t s x (-2) (xP t - a) T')) → T + r = 128 → r < k → (∀ I' : zI, (∀ b j, ¬ (b = 400 ∧ 128 * a ≤ j ∧ j < 128 * a + 128) → I' b j = I b j) → zMw I' (zBE t s x (-2)) (xP t) a → K (nI a) I' J) → v_M_fillsLeast_63 5000 k (nI a) (nI T) I J Q K
  | _, _, 0, _, _, _, _, _, hk, _ => absurd hk (Nat.not_lt_zero _)
  | 0, T, k + 1, I, hI, hr, hd, hi, hk, hq => by
    rw [show T = 128 by omega] at hd ⊢
    exact z_y (by decide) (hq I (fun _ _ _ => rfl) hd)
  | r + 1, T, k + 1, I, hI, hr, hd, hi, hk, hq => by
    have hP := hI.1.2.1
    have hH := hI.1.1
    have e1 : xP t - a = xP t - (a + 1) + 1 := by omega
    have e2 : xP t - (xP t - (a + 1) + 1) = a := by omega
    have hb5 : ∀ T, zbd 5 (zBE t s x (-2) (xP t - (a + 1)) T) := fun T => by
      have : zbd (xP t - (a + 1)) (zBE t s x (-2) (xP t - (a + 1)) T) := zbe_bd (zcs_le t s) (xP t - (a + 1)) T
      exact ⟨by have := this.1; omega, by have := this.2; omega⟩
    have er : ∀ T', T' < 128 → I 400 (128 * a + 128 + T') = zvM (zBE t s x (-2) (xP t - (a + 1)) T') := fun T' h => by
      rw [show 128 * a + 128 + T' = 128 * (a + 1) + T' by omega]; exact hr T' h
    rw [v_M_fillsLeast_63]; dsimp only; rw [z_m128', nI_add, nI_clamp (by omega), er T (by omega)]
    refine z_n (nI_ge (b := 128) (by omega) (by decide)) ⟨vp_in_nI (by omega) (by decide), fun y ey => ?_⟩
    rw [ey]
    refine s_M_fL91 (be := zBE t s x (-2) (xP t - (a + 1))) hI ha (by omega) hb5 (fun h hh => er _ (zbt0_b hI.1 x (by omega) hh).1) (xH t) 0 5000 _ ⟨by have := (hb5 T).1; omega, by have := (hb5 T).2; omega⟩ (by omega) (by omega) ?_
    rw [z_m128, nI_1]
    refine ⟨vp_in_nI (by omega) (by decide), fun I9 e9 => ?_⟩
    rw [nI_clamp (by omega)] at e9
    have o9 : ∀ b j, ¬ (b = 400 ∧ j = 128 * a + T) → I9 b j = I b j := fun b j q => by rw [e9, qu_off (by omega)]
    refine s_M_fL63 ha r (T + 1) k I9 (hI.kept (fun b j q1 q2 => o9 b j (by omega))) (fun T' h => by rw [o9 _ _ (by omega)]; exact hr T' h) (fun T' hT' => ?_) (by omega) (by omega) (fun I' o' h' => hq I' (fun b j q => by rw [o' b j q, o9 b j (by omega)]) h')
    by_cases e : T' = T
    · subst e
      rw [e9, qu_same, e1, zBE, zbe, e2]
    · rw [o9 _ _ (by omega)]; exact hd T' (by omega)
theorem s_M_fL57 {J : zJ} {Q : zI → zJ → Prop} : ∀ m k (I : zI), zPq I t s live x → m ≤ xP t → (∀ q, m ≤ q → q ≤ xP t → zMw I (zBE t s x (-2)) (xP t) q) → m < k → (∀ I' : zI, (∀ b j, b ≠ 400 → I' b j = I b j) → (∀ q, q ≤ xP t → zMw I' (zBE t s x (-2)) (xP t) q) → Q I' J) → v_M_fillsLeast_57 5000 k (nI m - 1) I J Q
  | _, 0, _, _, _, _, hk, _ => absurd hk (Nat.not_lt_zero _)
  | 0, k + 1, I, hI, hm, hr, hk, hq => z_y (by decide) (hq I (fun _ _ _ => rfl) (fun q h => hr q (Nat.zero_le _) h))
  | m + 1, k + 1, I, hI, hm, hr, hk, hq => by
    have hP := hI.1.2.1
    rw [nI_pred]
    refine z_n (nI_pos (by omega)) (s_M_fL63 (by omega) 128 0 5000 I hI (hr (m + 1) (Nat.le_refl _) hm) (fun T' h => absurd h (Nat.not_lt_zero _)) (by omega) (by omega) (fun I1 o1 h1 => ?_))
    rw [show nI m + (-1) = nI m - 1 from (Int32.sub_eq_add_neg _ _).symm]
    refine s_M_fL57 m k I1 (hI.kept (fun b j q1 q2 => o1 b j (by omega))) (by omega) (fun q h2 h3 => ?_) (by omega) (fun I' o' h' => hq I' (fun b j q => by rw [o' b j q, o1 b j (by omega)]) h')
    by_cases e : q = m
    · rw [e]; exact h1
    · exact fun T h4 => by rw [o1 _ _ (by omega)]; exact hr q (by omega) h3 T h4
theorem s_M_fL11 {J : zJ} (hx : zX_ok t) {Q K : zI → zJ → Prop} : ∀ r T k (I : zI), mT I t live → (∀ T', T' < T → I 400 (128 * xP t + T') = 0) → T + r = 128 → r < k → (∀ I' : zI, (∀ b j, b ≠ 400 → I' b j = I b j) → (∀ T', T' < 128 → I' 400 (128 * xP t + T') = 0) → K I' J) → v_M_fillsLeast_11 5000 k (nI T) I J Q K
  | _, _, 0, _, _, _, _, hk, _ => absurd hk (Nat.not_lt_zero _)
  | 0, T, k + 1, I, hT, hd, hi, hk, hq => z_y (nI_le (a := 128) (by omega) (by omega)) (hq I (fun _ _ _ => rfl) (fun T' h => hd T' (by omega)))
  | r + 1, T, k + 1, I, hT, hd, hi, hk, hq => by
    have hP := hx.2.1
    have hl := hT.1
    rw [v_M_fillsLeast_11]; dsimp only; rw [hT.2.1, nI_clamp (n := live) (by omega), hT.2.2.2.1, z_m128, nI_clamp (by omega), nI_1]
    refine z_n (nI_ge (b := 128) (by omega) (by decide)) ⟨vp_in_nI hl (by decide), vp_in_nI (by omega) (by decide), fun I4 e4 => ?_⟩
    have o4 : ∀ b j, b ≠ 400 → I4 b j = I b j := fun b j q => by rw [e4, qu_off (Or.inl q)]
    refine s_M_fL11 hx r (T + 1) k I4 (hT.kept (fun b j q1 q2 => o4 b j (by omega)) (o4 _ _ (by decide))) (fun T' h => ?_) (by omega) (by omega) (fun I' o' f' => hq I' (fun b j q => by rw [o' b j q, o4 b j q]) f')
    by_cases e : T' = T
    · subst e; rw [e4, qu_same]
    · rw [e4, qu_off (Or.inr (by omega))]; exact hd T' (by omega)
theorem s_M_fillsLeast {I : zI} {J : zJ} (hx01 : qzb x) (hQ : mQ I t live s) {Q : zI → zJ → Prop} (hq : ∀ I' : zI, frQ I I' → zPq I' t s live x → (∀ q, q ≤ xP t → zMw I' (zBE t s x (-2)) (xP t) q) → Q I' J) : v_M_fillsLeast 5000 x I J Q := by
  have hP := hQ.1.2.1
  have hl := hQ.2.1.1
  refine ⟨hx01, fun I2 e2 => ?_⟩
  have o2 : ∀ b j, ¬ (b = 361 ∧ j = 61) → I2 b j = I b j := fun b j q => by rw [e2, qu_off (by omega)]
  have hQ2 : mQ I2 t live s := ⟨hQ.1, hQ.2.1.kept (fun b j q1 q2 => o2 b j (by omega)) (o2 _ _ (by decide)), hQ.2.2.1, hQ.2.2.2.kept (fun k => o2 _ _ (by omega))⟩
  refine s_M_fillsTable hQ2 (fun I3 hT3 o3 f3 => s_M_fL11 hQ.1 128 0 5000 I3 hT3 (fun T' h => absurd h (Nat.not_lt_zero _)) (by omega) (by omega) (fun I4 o4 f4 => ?_))
  have hT4 : mT I4 t live := hT3.kept (fun b j q1 q2 => o4 b j (by omega)) (o4 _ _ (by decide))
  have hI4 : zPq I4 t s live x := ⟨hQ.1, hT4, by rw [o4 _ _ (by decide), o3 _ _ (by decide) (by decide) (by decide) (by decide) (by decide), e2, qu_same], fun p h hp hh => by rw [o4 _ _ (by decide)]; exact f3 p h hp hh⟩
  rw [hT4.2.1, nI_clamp (by omega), hT4.2.2.2.1]
  refine ⟨vp_in_nI hl (by decide), fun y ey => ?_⟩
  rw [ey]
  refine s_M_fL57 (xP t) 5000 I4 hI4 (Nat.le_refl _) (fun q h1 h2 T h3 => ?_) (by omega) (fun I5 o5 f5 => hq I5 (fun b j q1 q2 q3 q4 q5 => by rw [o5 b j (by omega), o4 b j (by omega), o3 b j q1 q2 q3 (by omega) (by omega), o2 b j (by omega)]) (hI4.kept (fun b j q1 q2 => o5 b j q1)) f5)
  rw [show q = xP t by omega, f4 T h3, Nat.sub_self, zBE, zbe]
  rfl
/-- the first hanger of the best -/
def zfb (al : Nat → Bool) (cd : Nat → Nat × Nat) (w : Nat × Nat) : Nat → Nat → Option Nat
  | 0, _ => none
  | r + 1, h => if al h = true then (if cd h = w then some h else zfb al cd w r (h + 1)) else zfb al cd w r (h + 1)
def zlow (t : zX) (s : zT) (x : Int32) (p T : Nat) : Option Nat := zfb (zal (-2) (zbt0 t x) T) (fun h => ((zBE t s x (-2) (xP t - (p + 1)) (T ||| zbt0 t x h)).1 + 1, (zBE t s x (-2) (xP t - (p + 1)) (T ||| zbt0 t x h)).2 + zcs t s p h)) (zBE t s x (-2) (xP t - p) T) (xH t) 0
theorem zfb_lt {al : Nat → Bool} {cd : Nat → Nat × Nat} {w : Nat × Nat} : ∀ r h j, zfb al cd w r h = some j → j < h + r
  | 0, _, _, e => by cases e
  | r + 1, h, j, e => by
    rw [zfb] at e
    by_cases h1 : al h = true
    · rw [if_pos h1] at e
      by_cases h2 : cd h = w
      · rw [if_pos h2] at e; cases e; omega
      · rw [if_neg h2] at e; have := zfb_lt r (h + 1) j e; omega
    · rw [if_neg h1] at e; have := zfb_lt r (h + 1) j e; omega
def zTk (t : zX) (s : zT) (x : Int32) : Nat → Nat
  | 0 => 0
  | a + 1 => (zlow t s x a (zTk t s x a)).elim (zTk t s x a) (fun h => zTk t s x a ||| zbt0 t x h)
theorem zTk_ok (hx : zX_ok t) : ∀ a, zTk t s x a < 128 ∧ zpc (zTk t s x a) ≤ a
  | 0 => ⟨by rw [zTk]; decide, by rw [zTk]; decide⟩
  | a + 1 => by
    obtain ⟨h1, h2⟩ := zTk_ok hx a
    rw [zTk]
    cases e : zlow t s x a (zTk t s x a) with
    | none => exact ⟨h1, by show zpc (zTk t s x a) ≤ a + 1; omega⟩
    | some h =>
      have := zfb_lt _ _ _ e
      obtain ⟨b1, b2, b3⟩ := zbt0_b hx x h1 (show h < xH t by omega)
      exact ⟨b1, by show zpc (zTk t s x a ||| zbt0 t x h) ≤ a + 1; omega⟩
theorem zBE_bd (r T : Nat) : zbd r (zBE t s x (-2) r T) := zbe_bd (zcs_le t s) r T
theorem s_M_low2 {I : zI} {J : zJ} {a T : Nat} (hI : zPq I t s live x) (ha : a < xP t) (hT : T < 128) (hr : ∀ q, q ≤ xP t → zMw I (zBE t s x (-2)) (xP t) q) {Q : Int32 → zI → zJ → Prop} : ∀ r h k, h + r = xH t → r < k → Q (zol (zfb (zal (-2) (zbt0 t x) T) (fun h => ((zBE t s x (-2) (xP t - (a + 1)) (T ||| zbt0 t x h)).1 + 1, (zBE t s x (-2) (xP t - (a + 1)) (T ||| zbt0 t x h)).2 + zcs t s a h)) (zBE t s x (-2) (xP t - a) T) r h)) I J → v_M_lowestFor_2 5000 k (nI a) (nI T) (nI h) I J Q
  | _, _, 0, _, hk, _ => absurd hk (Nat.not_lt_zero _)
  | 0, h, k + 1, hi, hk, hq => by
    have hH := hI.1.1
    have hl := hI.2.1.1
    rw [v_M_lowestFor_2]; dsimp only; rw [hI.2.1.2.1, nI_clamp (by omega), hI.2.1.2.2.1]
    exact ⟨vp_in_nI hl (by decide), z_y (nI_le (by omega) (by omega)) hq⟩
  | r + 1, h, k + 1, hi, hk, hq => by
    have hH := hI.1.1
    have hP := hI.1.2.1
    have hl := hI.2.1.1
    obtain ⟨b1, b2, b3⟩ := zbt0_b hI.1 x hT (show h < xH t by omega)
    rw [v_M_lowestFor_2]; dsimp only; rw [hI.2.1.2.1, nI_clamp (by omega), hI.2.1.2.2.1]
    rw [zfb, zal_2 _ _ (by omega)] at hq
    refine ⟨vp_in_nI hl (by decide), z_n (nI_ge (by omega) (by omega)) (s_M_bitOf hI.1 hI.2.1 hI.2.2.1 (by omega) ?_)⟩
    rw [nI_and, nI_1]
    refine ⟨fun q => ?_, fun q => ?_⟩
    · rw [if_neg (by rw [decide_eq_true_eq]; exact fun z => q (by rw [z]; rfl))] at hq
      exact s_M_low2 hI ha hT hr r (h + 1) k (by omega) (by omega) hq
    · rw [if_pos (decide_eq_true ((z_and0 (by omega)).mp q))] at hq
      have hb1 := zBE_bd (t := t) (s := s) (x := x) (xP t - (a + 1)) (T ||| zbt0 t x h)
      have hb2 := zBE_bd (t := t) (s := s) (x := x) (xP t - a) T
      have hcs := zcs_le t s a h
      have hcb : zbd 6 ((zBE t s x (-2) (xP t - (a + 1)) (T ||| zbt0 t x h)).1 + 1, (zBE t s x (-2) (xP t - (a + 1)) (T ||| zbt0 t x h)).2 + zcs t s a h) := ⟨by have := hb1.1; show _ + 1 ≤ 6; omega, by have := hb1.2; show _ + _ ≤ 99 * 6; omega⟩
      have hwb : zbd 6 (zBE t s x (-2) (xP t - a) T) := ⟨by have := hb2.1; omega, by have := hb2.2; omega⟩
      refine s_M_with hI ha hT (by omega) (by rw [show 128 * a + 128 + (T ||| zbt0 t x h) = 128 * (a + 1) + (T ||| zbt0 t x h) by omega]; exact hr (a + 1) (by omega) _ b1) ?_
      rw [z_m128, nI_clamp (by omega), hr a (by omega) T hT]
      refine ⟨vp_in_nI (by omega) (by decide), fun q2 => ?_, fun q2 => ?_⟩
      · rw [if_neg (fun z => q2 ((zvM_eq hcb hwb).mpr z))] at hq
        exact s_M_low2 hI ha hT hr r (h + 1) k (by omega) (by omega) hq
      · rw [if_pos ((zvM_eq hcb hwb).mp q2)] at hq
        exact hq
theorem s_M_lowestFor {I : zI} {J : zJ} {a T : Nat} (hI : zPq I t s live x) (ha : a < xP t) (hT : T < 128) (hr : ∀ q, q ≤ xP t → zMw I (zBE t s x (-2)) (xP t) q) {Q : Int32 → zI → zJ → Prop} (hq : Q (zol (zlow t s x a T)) I J) : v_M_lowestFor 5000 (nI a) (nI T) I J Q := s_M_low2 hI ha hT hr (xH t) 0 5000 (by omega) (by have := hI.1.1; omega) hq
theorem s_M_hangs40 {I : zI} {J : zJ} {P : Nat} (hI : zPq I t s live x) (hP' : P < xP t) (hr : ∀ q, q ≤ xP t → zMw I (zBE t s x (-2)) (xP t) q) {Q : Int32 → zI → zJ → Prop} (hq : Q (zol (zlow t s x P (zTk t s x P))) I J) : ∀ r a k, a + r = P → r < k → v_M_hangs_40 5000 k (nI P) (nI (zTk t s x a)) (nI a) I J Q
  | _, _, 0, _, hk => absurd hk (Nat.not_lt_zero _)
  | 0, a, k + 1, hi, hk => by
    have hP := hI.1.2.1
    rw [show a = P by omega]
    exact z_y (Int32.le_refl _) (s_M_lowestFor hI hP' (zTk_ok hI.1 P).1 hr hq)
  | r + 1, a, k + 1, hi, hk => by
    have hP := hI.1.2.1
    have hH := hI.1.1
    have hgo := s_M_hangs40 hI hP' hr hq r (a + 1) k (by omega) (by omega)
    rw [zTk] at hgo
    refine z_n (nI_ge (by omega) (by omega)) (s_M_lowestFor hI (by omega) (zTk_ok hI.1 a).1 hr ?_)
    rw [nI_1]
    cases e : zlow t s x a (zTk t s x a) with
    | none =>
      rw [e] at hgo
      exact z_y z_neg2 hgo
    | some h =>
      rw [e] at hgo
      have := zfb_lt _ _ _ e
      refine z_n (nI_pos (n := h) (by omega)) (s_M_bitOf hI.1 hI.2.1 hI.2.2.1 (h := h) (by omega) (fun y ey => ?_))
      rw [ey, nI_or]
      exact hgo
end
