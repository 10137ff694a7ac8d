/-! ways -/
def zwf (al : Nat → Bool) (f : Nat → Int32) : Nat → Nat → Int32 → Int32
  | 0, _, w => w
  | r + 1, h, w => zwf al f r (h + 1) (if al h = true then w + f h else w)
def zwy (t : zX) (s : zT) (v : Nat) : Nat → Nat → Int32
  | 0, _ => 1
  | r + 1, T => zwf (fun h => decide (zcs t s (xP t - (r + 1)) h ≤ v ∧ T &&& zbt0 t 1 h = 0)) (fun h => zwy t s v r (T ||| zbt0 t 1 h)) (xH t) 0 0
theorem zbt1_ok {t : zX} (hx : zX_ok t) {T h : Nat} (hT : T < 32) (hh : h < xH t) : T ||| zbt0 t 1 h < 32 ∧ T &&& zbt0 t 1 h < 32 := by
  obtain ⟨j, hj, e⟩ := hx.2.2.1 h hh
  unfold zbt0
  rw [if_neg z_10, e, nI_clamp (by omega)]
  exact ⟨Nat.or_lt_two_pow (n := 5) hT (Nat.pow_lt_pow_right (by decide) hj), Nat.lt_of_le_of_lt Nat.and_le_left hT⟩
section
variable {t : zX} {s : zT} {live v : Nat}
def zWr (I : zI) (t : zX) (s : zT) (v q : Nat) : Prop := ∀ T, T < 32 → I (76 + q) T = zwy t s v (xP t - q) T
theorem s_waysFrom_6 {I : zI} {J : zJ} {p T : Nat} (hx : zX_ok t) (hI : zPl I (xH t) (xP t) (zbt0 t 1) (zcs t s)) (hp : p < xP t) (hT : T < 32) (hv : v < 100) (hr : zWr I t s v (p + 1)) {Q : Int32 → zI → zJ → Prop} : ∀ r h k (w : Int32), h + r = xH t → r < k → Q (zwf (fun h => decide (zcs t s p h ≤ v ∧ T &&& zbt0 t 1 h = 0)) (fun h => zwy t s v (xP t - (p + 1)) (T ||| zbt0 t 1 h)) r h w) I J → v_Plan_waysFrom_6 5000 k (nI p) (nI T) (nI v) w (nI h) I J Q
  | _, _, 0, _, _, hk, _ => absurd hk (Nat.not_lt_zero _)
  | 0, h, k + 1, w, hi, hk, hq => by
    have hH := hI.2.2.1
    rw [v_Plan_waysFrom_6]; dsimp only; rw [hI.1]
    exact z_y (nI_le (by omega) (by omega)) hq
  | r + 1, h, k + 1, w, hi, hk, hq => by
    have hH := hI.2.2.1
    have hP := hI.2.2.2.1
    have hc := hI.2.2.2.2.2.2.2 p h
    obtain ⟨b1, b2⟩ := zbt1_ok hx hT (show h < xH t by omega)
    have hgo := s_waysFrom_6 hx hI hp hT hv hr (Q := Q) (J := J) r (h + 1) k
    rw [v_Plan_waysFrom_6]; dsimp only; rw [hI.1, nI_1, nI_1, nI_clamp (n := p) (by omega), nI_clamp (n := h) (by omega), nI_clamp (n := p + 1) (by omega), hI.2.2.2.2.2.2.1 p h hp (by omega), hI.2.2.2.2.1 h (by omega), nI_and, nI_or, nI_clamp (n := T ||| zbt0 t 1 h) (by omega), hr _ b1]
    rw [zwf] at hq
    refine z_n (nI_ge (by omega) (by omega)) ⟨vp_in_nI (by omega) (by decide), vp_in_nI (by omega) (by decide), fun q => ?_, fun q => ⟨vp_in_nI (by omega) (by decide), fun q2 => ?_, fun q2 => ⟨vp_in_nI (by omega) (by decide), vp_in_nI (by omega) (by decide), fun y ey => ?_⟩⟩⟩
    · have h1 := (nI_ltI (by omega) (by omega)).mp q
      rw [if_neg (by rw [decide_eq_true_eq]; exact fun z => absurd z.1 (by omega))] at hq
      exact hgo w (by omega) (by omega) hq
    · rw [if_neg (by rw [decide_eq_true_eq]; exact fun z => q2 (by rw [z.2]; rfl))] at hq
      exact hgo w (by omega) (by omega) hq
    · have q := Nat.not_lt.mp (fun z => q (nI_lt z (by omega)))
      rw [if_pos (decide_eq_true ⟨q, (z_and0 (by omega)).mp q2⟩)] at hq
      rw [ey]
      exact hgo _ (by omega) (by omega) hq
theorem s_waysW26 {J : zJ} {p : Nat} (hx : zX_ok t) (hp : p < xP t) (hv : v < 100) {Q : Int32 → zI → zJ → Prop} {K : Int32 → Int32 → zI → zJ → Prop} : ∀ r T k (I : zI), zPl I (xH t) (xP t) (zbt0 t 1) (zcs t s) → zWr I t s v (p + 1) → (∀ T', T' < T → I (76 + p) T' = zwy t s v (xP t - p) T') → T + r = 32 → r < k → (∀ I' : zI, (∀ b j, b ≠ 76 + p → I' b j = I b j) → zWr I' t s v p → K (nI v) (nI p) I' J) → v_Plan_waysWithin_26 5000 k (nI v) (nI p) (nI T) I J Q K
  | _, _, 0, _, _, _, _, _, hk, _ => absurd hk (Nat.not_lt_zero _)
  | 0, T, k + 1, I, hI, hr, hd, hi, hk, hq => by
    rw [show T = 32 by omega] at hd ⊢
    exact z_y (by decide) (hq I (fun _ _ _ => rfl) hd)
  | r + 1, T, k + 1, I, hI, hr, hd, hi, hk, hq => by
    have hP := hI.2.2.2.1
    have hH := hI.2.2.1
    have e1 : xP t - p = xP t - (p + 1) + 1 := by omega
    have e2 : xP t - (xP t - (p + 1) + 1) = p := by omega
    refine z_n (nI_ge (b := 32) (by omega) (by decide)) ⟨vp_in_nI (by omega) (by decide), s_waysFrom_6 hx hI hp (by omega) hv hr (xH t) 0 5000 0 (by omega) (by omega) ⟨vp_in_nI (by omega) (by decide), fun I7 e7 => ?_⟩⟩
    rw [nI_clamp (n := p) (by omega), nI_clamp (n := T) (by omega)] at e7
    have o7 : ∀ b j, b ≠ 76 + p → I7 b j = I b j := fun b j q => by rw [e7, qu_off (Or.inl q)]
    have ev : I7 (76 + p) T = zwy t s v (xP t - p) T := by rw [e7, qu_same, e1, zwy, e2]
    rw [nI_1]
    refine s_waysW26 hx hp hv r (T + 1) k I7 (hI.kept (fun b j q => o7 b j (by omega))) (fun T' h1 => by rw [o7 _ _ (by omega)]; exact hr T' h1) (fun T' hT' => ?_) (by omega) (by omega) (fun I' o' h' => hq I' (fun b j q => by rw [o' b j q, o7 b j q]) h')
    by_cases e : T' = T
    · subst e; exact ev
    · rw [e7, qu_off (Or.inr e)]; exact hd T' (by omega)
theorem s_waysW20 {J : zJ} (hx : zX_ok t) (hv : v < 100) {Q : Int32 → zI → zJ → Prop} : ∀ m k (I : zI), zPl I (xH t) (xP t) (zbt0 t 1) (zcs t s) → m ≤ xP t → zWr I t s v m → m < k → (∀ I' : zI, (∀ b j, b < 76 ∨ 82 < b → I' b j = I b j) → Q (zwy t s v (xP t) 0) I' J) → v_Plan_waysWithin_20 5000 k (nI v) (nI m - 1) I J Q
  | _, 0, _, _, _, _, hk, _ => absurd hk (Nat.not_lt_zero _)
  | 0, k + 1, I, hI, hm, hr, hk, hq => by
    have := hr 0 (by decide)
    rw [Nat.sub_zero] at this
    refine z_y (by decide) ⟨vp_in_nI (n := 0) (by decide) (by decide), vp_in_nI (n := 0) (by decide) (by decide), ?_⟩
    show Q (I 76 0) I J
    rw [show I 76 0 = _ from this]
    exact hq I (fun _ _ _ => rfl)
  | m + 1, k + 1, I, hI, hm, hr, hk, hq => by
    have hP := hI.2.2.2.1
    rw [nI_pred]
    refine z_n (nI_pos (by omega)) (s_waysW26 hx (by omega) hv 32 0 5000 I hI hr (fun T' h => absurd h (Nat.not_lt_zero _)) (by omega) (by omega) (fun I1 o1 h1 => ?_))
    rw [show nI m + (-1) = nI m - 1 from (Int32.sub_eq_add_neg _ _).symm]
    exact s_waysW20 hx hv m k I1 (hI.kept (fun b j q => o1 b j (by omega))) (by omega) h1 (by omega) (fun I' o' => hq I' (fun b j q => by rw [o' b j q, o1 b j (by omega)]))
theorem s_waysWithin {I : zI} {J : zJ} (hQ : zQ I t live s) (hv : v < 100) (hc : ∀ p h, p < xP t → h < xH t → I (68 + p) h = nI (zcs t s p h)) {Q : Int32 → zI → zJ → Prop} (hq : ∀ I' : zI, (∀ b j, ¬ (74 ≤ b ∧ b ≤ 82) → I' b j = I b j) → Q (zwy t s v (xP t) 0) I' J) : v_Plan_waysWithin 5000 (nI v) I J Q := by
  have hH := hQ.1.1.1
  have hP := hQ.1.1.2.1
  unfold v_Plan_waysWithin v_Plan_letTake
  refine s_letTake_2 hQ.1.1 (xH t) 0 5000 I hQ.1.2.1 (fun h hh => absurd hh (Nat.not_lt_zero _)) (by omega) (by omega) (fun I1 o1 f1 => ?_)
  have h83 : I1 8 3 = nI (xP t) := by rw [o1 _ _ (by decide)]; exact hQ.1.2.1.2.1
  unfold v_Plan_clearLast
  rw [h83, nI_clamp (by omega)]
  refine ⟨vp_in_nI (by omega) (by decide), s_clearLast_15 128 0 5000 I1 (by omega) (by omega) (fun I2 o2 _ f2 y ey => ?_)⟩
  rw [o2 _ _ (by omega), h83] at ey
  rw [ey]
  have hI2 : zPl I2 (xH t) (xP t) (zbt0 t 1) (zcs t s) := ⟨by rw [o2 _ _ (by omega), o1 _ _ (by decide)]; exact hQ.1.2.1.1, by rw [o2 _ _ (by omega)]; exact h83, hH, hP, fun h hh => by rw [o2 _ _ (by omega)]; exact f1 h hh, fun h hh => zbt0_ok hQ.1.1 1 hh, fun p h hp hh => by rw [o2 _ _ (by omega), o1 _ _ (by omega)]; exact hc p h hp hh, zcs_le t s⟩
  refine s_waysW20 hQ.1.1 hv (xP t) 5000 I2 hI2 (Nat.le_refl _) (fun T h3 => ?_) (by omega) (fun I3 o3 => hq I3 (fun b j q => by rw [o3 b j (by omega), o2 b j (by omega), o1 b j (by omega)]))
  rw [f2 T (Nat.zero_le _) (by omega), Nat.sub_self, zwy]
theorem z_m32' (l : Nat) : (32 : Int32) * nI l + 32 = nI (32 * l + 32) := z_m32 l 32
def zPv (I : zI) (t : zX) (s : zT) (live : Nat) : Prop := zX_ok t ∧ mT I t live ∧ ∀ p h, p < xP t → h < xH t → I 401 (7 * p + h) = nI (zcs t s p h)
theorem zPv.kept {I I' : zI} (h : zPv I t s live) (e : ∀ b j, b ≠ 402 → I' b j = I b j) : zPv I' t s live := by
  obtain ⟨h1, h2, h4⟩ := h
  exact ⟨h1, h2.kept (fun b j q1 q2 => e b j (by omega)) (e _ _ (by decide)), fun p h hp hh => by rw [e _ _ (by decide)]; exact h4 p h hp hh⟩
def zWm (I : zI) (t : zX) (s : zT) (v q : Nat) : Prop := ∀ T, T < 32 → I 402 (32 * q + T) = zwy t s v (xP t - q) T
theorem s_M_ways80 {I : zI} {J : zJ} {p T : Nat} (hI : zPv I t s live) (hp : p < xP t) (hT : T < 32) (hv : v < 100) (hr : zWm I t s v (p + 1)) {Q : Int32 → zI → zJ → Prop} {K : Int32 → Int32 → Int32 → Int32 → zI → zJ → Prop} : ∀ r h k (w : Int32), h + r = xH t → r < k → K (nI v) (nI p) (nI T) (zwf (fun h => decide (zcs t s p h ≤ v ∧ T &&& zbt0 t 1 h = 0)) (fun h => zwy t s v (xP t - (p + 1)) (T ||| zbt0 t 1 h)) r h w) I J → v_M_ways_80 5000 k (nI v) (nI p) (nI T) w (nI h) I J Q K
  | _, _, 0, _, _, hk, _ => absurd hk (Nat.not_lt_zero _)
  | 0, h, k + 1, w, hi, hk, hq => by
    have hH := hI.1.1
    have hl := hI.2.1.1
    rw [v_M_ways_80]; dsimp only; rw [hI.2.1.2.1, nI_clamp (by omega), hI.2.1.2.2.1]
    exact ⟨vp_in_nI hl (by decide), z_y (nI_le (by omega) (by omega)) hq⟩
  | r + 1, h, k + 1, w, hi, hk, hq => by
    have hH := hI.1.1
    have hP := hI.1.2.1
    have hl := hI.2.1.1
    have hc := zcs_le t s p h
    obtain ⟨b1, b2⟩ := zbt1_ok hI.1 hT (show h < xH t by omega)
    have hgo := s_M_ways80 hI hp hT hv hr (Q := Q) (K := K) (J := J) r (h + 1) k
    obtain ⟨j, hj, ej⟩ := hI.1.2.2.1 h (by omega)
    have eb : (1 : Int32) <<< (xN t h &&& 31) = nI (zbt0 t 1 h) := by
      rw [ej, z_sh j (by omega)]
      unfold zbt0
      rw [if_neg z_10, ej, nI_clamp (by omega)]
    have er : I 402 (32 * p + 32 + (T ||| zbt0 t 1 h)) = zwy t s v (xP t - (p + 1)) (T ||| zbt0 t 1 h) := by
      rw [show 32 * p + 32 + (T ||| zbt0 t 1 h) = 32 * (p + 1) + (T ||| zbt0 t 1 h) by omega]; exact hr _ b1
    rw [v_M_ways_80]; dsimp only; rw [hI.2.1.2.1, nI_clamp (by omega), hI.2.1.2.2.1]
    rw [zwf] at hq
    refine ⟨vp_in_nI hl (by decide), z_n (nI_ge (by omega) (by omega)) (s_M_nailAt hI.1 hI.2.1 (by omega) (fun y5 e5 => ?_))⟩
    rw [eb] at e5
    rw [e5, nI_and, nI_or, nI_1, z_m7, z_m32', nI_add, nI_clamp (n := 7 * p + h) (by omega), nI_clamp (n := 32 * p + 32 + (T ||| zbt0 t 1 h)) (by omega), hI.2.2 p h hp (by omega), er]
    refine ⟨fun q2 => ?_, fun q2 => ⟨vp_in_nI (by omega) (by decide), fun q => ?_, fun q => ⟨vp_in_nI (by omega) (by decide), fun y ey => ?_⟩⟩⟩
    · rw [if_neg (by rw [decide_eq_true_eq]; exact fun z => q2 (by rw [z.2]; rfl))] at hq
      exact hgo w (by omega) (by omega) hq
    · have h1 := (nI_ltI (by omega) (by omega)).mp q
      rw [if_neg (by rw [decide_eq_true_eq]; exact fun z => absurd z.1 (by omega))] at hq
      exact hgo w (by omega) (by omega) hq
    · have q := Nat.not_lt.mp (fun z => q (nI_lt z (by omega)))
      rw [if_pos (decide_eq_true ⟨q, (z_and0 (by omega)).mp q2⟩)] at hq
      rw [ey]
      exact hgo _ (by omega) (by omega) hq
theorem s_M_ways68 {J : zJ} {p : Nat} (hp : p < xP t) (hv : v < 100) {Q : Int32 → zI → zJ → Prop} {K : Int32 → Int32 → zI → zJ → Prop} : ∀ r T k (I : zI), zPv I t s live → zWm I t s v (p + 1) → (∀ T', T' < T → I 402 (32 * p + T') = zwy t s v (xP t - p) T') → T + r = 32 → r < k → (∀ I' : zI, (∀ b j, b ≠ 402 → I' b j = I b j) → zWm I' t s v p → K (nI v) (nI p) I' J) → v_M_ways_68 5000 k (nI v) (nI p) (nI T) I J Q K
  | _, _, 0, _, _, _, _, _, hk, _ => absurd hk (Nat.not_lt_zero _)
  | 0, T, k + 1, I, hI, hr, hd, hi, hk, hq => by
    rw [show T = 32 by omega] at hd ⊢
    exact z_y (by decide) (hq I (fun _ _ _ => rfl) hd)
  | r + 1, T, k + 1, I, hI, hr, hd, hi, hk, hq => by
    have hP := hI.1.2.1
    have hH := hI.1.1
    have e1 : xP t - p = xP t - (p + 1) + 1 := by omega
    have e2 : xP t - (xP t - (p + 1) + 1) = p := by omega
    refine z_n (nI_ge (b := 32) (by omega) (by decide)) (s_M_ways80 hI hp (by omega) hv hr (xH t) 0 5000 0 (by omega) (by omega) ?_)
    rw [z_m32, nI_1]
    refine ⟨vp_in_nI (by omega) (by decide), fun I8 e8 => ?_⟩
    rw [nI_clamp (by omega)] at e8
    have o8 : ∀ b j, ¬ (b = 402 ∧ j = 32 * p + T) → I8 b j = I b j := fun b j q => by rw [e8, qu_off (by omega)]
    have ev : I8 402 (32 * p + T) = zwy t s v (xP t - p) T := by rw [e8, qu_same, e1, zwy, e2]
    refine s_M_ways68 hp hv r (T + 1) k I8 (hI.kept (fun b j q => o8 b j (by omega))) (fun T' h1 => by rw [o8 _ _ (by omega)]; exact hr T' h1) (fun T' hT' => ?_) (by omega) (by omega) (fun I' o' h' => hq I' (fun b j q => by rw [o' b j q, o8 b j (by omega)]) h')
    by_cases e : T' = T
    · subst e; exact ev
    · rw [o8 _ _ (by omega)]; exact hd T' (by omega)
theorem s_M_ways62 {J : zJ} (hv : v < 100) {Q : Int32 → zI → zJ → Prop} : ∀ m k (I : zI), zPv I t s live → m ≤ xP t → zWm I t s v m → m < k → (∀ I' : zI, (∀ b j, b ≠ 402 → I' b j = I b j) → Q (zwy t s v (xP t) 0) I' J) → v_M_ways_62 5000 k (nI v) (nI m - 1) I J Q
  | _, 0, _, _, _, _, hk, _ => absurd hk (Nat.not_lt_zero _)
  | 0, k + 1, I, hI, hm, hr, hk, hq => by
    have := hr 0 (by decide)
    rw [Nat.sub_zero] at this
    refine z_y (by decide) ⟨vp_in_nI (n := 0) (by decide) (by decide), ?_⟩
    show Q (I 402 0) I J
    rw [show I 402 0 = _ from this]
    exact hq I (fun _ _ _ => rfl)
  | m + 1, k + 1, I, hI, hm, hr, hk, hq => by
    have hP := hI.1.2.1
    rw [nI_pred]
    refine z_n (nI_pos (by omega)) (s_M_ways68 (by omega) hv 32 0 5000 I hI hr (fun T' h => absurd h (Nat.not_lt_zero _)) (by omega) (by omega) (fun I1 o1 h1 => ?_))
    rw [show nI m + (-1) = nI m - 1 from (Int32.sub_eq_add_neg _ _).symm]
    exact s_M_ways62 hv m k I1 (hI.kept (fun b j q => o1 b j (by omega))) (by omega) h1 (by omega) (fun I' o' => hq I' (fun b j q => by rw [o' b j q, o1 b j (by omega)]))
theorem s_M_ways18 {J : zJ} (hx : zX_ok t) {x1 : Int32} {Q : Int32 → zI → zJ → Prop} {K : Int32 → zI → zJ → Prop} : ∀ r T k (I : zI), mT I t live → (∀ T', T' < T → I 402 (32 * xP t + T') = 1) → T + r = 32 → r < k → (∀ I' : zI, (∀ b j, b ≠ 402 → I' b j = I b j) → (∀ T', T' < 32 → I' 402 (32 * xP t + T') = 1) → K x1 I' J) → v_M_ways_18 5000 k x1 (nI T) I J Q K
  | _, _, 0, _, _, _, _, hk, _ => absurd hk (Nat.not_lt_zero _)
  | 0, T, k + 1, I, hT, hd, hi, hk, hq => z_y (nI_le (a := 32) (by omega) (by omega)) (hq I (fun _ _ _ => rfl) (fun T' h => hd T' (by omega)))
  | r + 1, T, k + 1, I, hT, hd, hi, hk, hq => by
    have hP := hx.2.1
    have hl := hT.1
    rw [v_M_ways_18]; dsimp only; rw [hT.2.1, nI_clamp (n := live) (by omega), hT.2.2.2.1, z_m32, nI_clamp (by omega), nI_1]
    refine z_n (nI_ge (b := 32) (by omega) (by decide)) ⟨vp_in_nI hl (by decide), vp_in_nI (by omega) (by decide), fun I4 e4 => ?_⟩
    have o4 : ∀ b j, b ≠ 402 → I4 b j = I b j := fun b j q => by rw [e4, qu_off (Or.inl q)]
    refine s_M_ways18 hx r (T + 1) k I4 (hT.kept (fun b j q1 q2 => o4 b j (by omega)) (o4 _ _ (by decide))) (fun T' h => ?_) (by omega) (by omega) (fun I' o' f' => hq I' (fun b j q => by rw [o' b j q, o4 b j q]) f')
    by_cases e : T' = T
    · subst e; rw [e4, qu_same]
    · rw [e4, qu_off (Or.inr (by omega))]; exact hd T' (by omega)
end
theorem zok_ways : zOK_ways Rel := fun a0 => zok_q (vX := v_X_ways 5000 a0) (vM := v_M_ways 5000 a0) (fun I J hR t live s hQ => by
  have hH := hQ.1.1.1
  have hP := hQ.1.1.2.1
  by_cases hz : zin a0 100
  · obtain ⟨v, hv, rfl⟩ := hz
    refine ⟨zwy t s v (xP t) 0, fun Q hq => z_n (nI_pos (by omega)) (z_y (nI_le (b := 99) (by omega) (by decide)) (s_lookC hQ (fun I4 o4 f4 => s_waysWithin (hQ.kept (J := J) (J' := J) (zK.fPl o4)) hv f4 (fun I5 o5 => hq I5 ((zK.fPl o4).trans (zK.fPl (fun b j q1 q2 q3 => o5 b j (by omega)))))))), fun I1 Q k1 hQ1 hq => z_n (nI_pos (by omega)) (z_n (nI_nlt (a := 99) (by omega) (by decide)) (z_nr z_10 (s_M_fillsTable hQ1.m (fun I3 hT3 o3 f3 => s_M_ways18 hQ.1.1 32 0 5000 I3 hT3 (fun T' h => absurd h (Nat.not_lt_zero _)) (by omega) (by omega) (fun I4 o4 f4 => ?_)))))⟩
    have hl := hT3.1
    have hT4 : mT I4 t live := hT3.kept (fun b j q1 q2 => o4 b j (by omega)) (o4 _ _ (by decide))
    have hI4 : zPv I4 t s live := ⟨hQ.1.1, hT4, fun p h hp hh => by rw [o4 _ _ (by decide)]; exact f3 p h hp hh⟩
    rw [hT4.2.1, nI_clamp (by omega), hT4.2.2.2.1]
    refine ⟨vp_in_nI hl (by decide), fun y ey => ?_⟩
    rw [ey]
    refine s_M_ways62 hv (xP t) 5000 I4 hI4 (Nat.le_refl _) (fun T h3 => ?_) (by omega) (fun I5 o5 => hq I5 (zK.fQ (fun b j q1 q2 q3 q4 q5 => by rw [o5 b j (by omega), o4 b j (by omega), o3 b j q1 q2 q3 (by omega) (by omega)])))
    rw [f4 T h3, Nat.sub_self, zwy]
  · refine ⟨-1, fun Q hq => ?_, fun I1 Q k1 hQ1 hq => ?_⟩
    · rcases zin_n (by decide) hz with g | g
      · exact z_y g (hq I zK.rfl)
      · exact z_n g.1 (z_n (fun z => absurd (Int32.le_trans g.2 z) (by decide)) (hq I zK.rfl))
    · rcases zin_n (by decide) hz with g | g
      · exact z_y g (z_yr z_00 (hq I1 zK.rfl))
      · exact z_n g.1 (z_y (Int32.lt_of_lt_of_le (by decide : (99 : Int32) < 100) g.2) (z_yr z_00 (hq I1 zK.rfl))))
