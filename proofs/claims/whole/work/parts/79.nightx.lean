/-! the class: who slips, the moth, a whole night, many nights -/
theorem s_letSlip_2 {J : zJ} {a n : Nat} {sd nn : Int32} {sl : Nat → Int32} (hn : n ≤ 6) (ha : 25 < a ∧ (a + 5 < 61 ∨ 66 < a)) {Q : zI → zJ → Prop} : ∀ r i k (I : zI), I 8 3 = nI n → I a 1 = nn → (∀ p, p < n → I 65 p = sl p) → i + r = n → r < k → (∀ I' : zI, (∀ b j, b ≠ a + 2 → I' b j = I b j) → (∀ p, p < n → i ≤ p → I' (a + 2) p = if sl p ≤ zlot 100 sd (16 * nn + nI p) then I (a + 2) p else -2) → (∀ p, p < i → I' (a + 2) p = I (a + 2) p) → Q I' J) → v_Night_letSlip_2 5000 k a sd (nI i) I J Q
  | _, _, 0, _, _, _, _, _, hk, _ => absurd hk (Nat.not_lt_zero _)
  | 0, i, k + 1, I, h8, h1, hs, hi, hk, hq => by
    rw [v_Night_letSlip_2]; dsimp only; rw [h8]
    exact z_y (nI_le (by omega) (by omega)) (hq I (fun _ _ _ => rfl) (fun p h1 h2 => absurd h1 (by omega)) (fun _ _ => rfl))
  | r + 1, i, k + 1, I, h8, h1, hs, hi, hk, hq => by
    rw [v_Night_letSlip_2]; dsimp only; rw [h8, h1]
    refine z_n (nI_ge (by omega) (by omega)) (s_lot (n := 100) (by decide) (by decide) ⟨vp_in_nI (by omega) (by decide), ?_⟩)
    rw [nI_clamp (by omega), hs i (by omega), nI_1]
    refine ⟨fun q => ?_, fun q => ⟨vp_in_nI (by omega) (by decide), fun I7 e7 => ?_⟩⟩
    · refine s_letSlip_2 hn ha r (i + 1) k I h8 h1 hs (by omega) (by omega) (fun I' o' f' g' => hq I' o' (fun p hp hip => ?_) (fun p hp => g' p (by omega)))
      by_cases h : p = i
      · subst h; rw [g' p (by omega)]; exact (if_pos q).symm
      · exact f' p hp (by omega)
    · have o7 : ∀ b j, b ≠ a + 2 → I7 b j = I b j := fun b j h => by rw [e7, qu_off (Or.inl h)]
      have c7 : ∀ p, p ≠ i → I7 (a + 2) p = I (a + 2) p := fun p h => by rw [e7, qu_off (Or.inr h)]
      have c7i : I7 (a + 2) i = -2 := by rw [e7, qu_same]
      refine s_letSlip_2 (nn := nn) (sl := sl) hn ha r (i + 1) k I7 (by rw [o7 _ _ (by omega)]; exact h8) (by rw [o7 _ _ (by omega)]; exact h1) (fun p hp => by rw [o7 _ _ (by omega)]; exact hs p hp) (by omega) (by omega) (fun I' o' f' g' => hq I' (fun b j h => by rw [o' b j h, o7 b j h]) (fun p hp hip => ?_) (fun p hp => by rw [g' p (by omega), c7 p (by omega)]))
      by_cases h : p = i
      · subst h; rw [g' p (by omega), c7i]; exact (if_neg q).symm
      · rw [f' p hp (by omega), c7 p h]
theorem s_letMothEat {I : zI} {J : zJ} {t : zX} {a : Nat} {s : zT} {sd : Int32} (hX : cX I t a s) {Q : zI → zJ → Prop} (hq : ∀ I' : zI, (∀ p, p < xP t → I' (a + 1) p = zWn t (sW s) (sN s) sd p) → (∀ b j, b ≠ a + 1 → I' b j = I b j) → Q I' J) : v_Night_letMothEat 5000 a sd I J Q := by
  have hP := hX.1.2.1
  have ha := hX.2.2.2.2
  obtain ⟨c0, c1, c2, c3, c4, c5⟩ := id hX.2.2.2.1
  have same : (∀ p, p < xP t → zWn t (sW s) (sN s) sd p = sW s p) → ∀ p, p < xP t → I (a + 1) p = zWn t (sW s) (sN s) sd p := fun e p hp => (c1 p hp).trans (e p hp).symm
  unfold v_Night_letMothEat
  rw [hX.2.1.2.1, c0]
  refine ⟨fun q => hq I (same (fun p hp => absurd q (nI_nle (by omega) (by omega)))) (fun _ _ _ => rfl), fun q => s_hasMoth hX (fun h => ?_) (fun h => ?_)⟩
  · unfold zmoth at h
    refine z_y z_00 (hq I (same (fun p hp => ?_)) (fun _ _ _ => rfl))
    unfold zWn
    rw [if_pos (Decidable.of_not_not h)]
  · unfold zmoth at h
    refine z_n z_10 ?_
    rw [hX.2.1.2.1, c0]
    have hp0 : 0 < xP t := by
      rcases Nat.eq_zero_or_pos (xP t) with e | e
      · rw [e] at q; exact absurd (by decide) q
      · exact e
    obtain ⟨m, hm, e⟩ := zlot_in hp0 (by omega) sd (16 * sN s + 9)
    refine s_lot hp0 (by omega) ?_
    rw [e]
    refine ⟨vp_in_nI (by omega) (by decide), fun I8 e8 => ?_⟩
    rw [nI_clamp (by omega), c1 m hm] at e8
    have hW : ∀ p, zWn t (sW s) (sN s) sd p = if p = m then zmx (sW s p) else sW s p := fun p => by unfold zWn; rw [if_neg h, e, nI_clamp (by omega)]
    refine hq I8 (fun p hp => ?_) (fun b j q => by rw [e8, qu_off (Or.inl q)])
    rw [hW p]
    by_cases h' : p = m
    · subst h'
      rw [e8, qu_same, if_pos rfl]; rfl
    · rw [e8, qu_off (Or.inr h'), if_neg h']; exact c1 p hp
theorem s_goByOnce {I : zI} {J : zJ} {t : zX} {a : Nat} {s : zT} {sd : Int32} (hX : cX I t a s) {Q : zI → zJ → Prop} (hq : ∀ I' : zI, cX I' t a (zNight t s sd) → frN a I I' → Q I' J) : v_Night_goByOnce 5000 a sd I J Q := by
  have hw := hX.2.2.1
  have ha := hX.2.2.2.2
  have hP := hX.1.2.1
  obtain ⟨w1, w2, w3, w4, w5, w6, w7⟩ := zNight_wf hX.1 hw sd
  rw [night_O] at w2 w3
  rw [night_S] at w4 w5
  rw [night_C] at w6
  rw [night_B] at w7
  refine s_goByOnce_2 hw (xP t) 0 5000 I ⟨hX.1, hX.2.1, zst_wf hw 0, cS_cg hX.2.2.2.1 rfl (fun _ _ => rfl) (fun _ _ => rfl) (fun _ _ => rfl) (fun p _ => show (if p < 0 then zCn t s p else sC s p) = sC s p from if_neg (Nat.not_lt_zero p)) (fun _ _ => rfl), ha⟩ (fun p hp => absurd hp (Nat.not_lt_zero _)) (by omega) (by omega) (fun I1 hX1 h65 o1 => s_wakeAll hX1 (fun I2 hX2 o2 => ?_))
  obtain ⟨c0, c1, c2, c3, c4, c5⟩ := id hX2.2.2.2.1
  refine s_letSlip_2 (n := xP t) (nn := sN s) (sl := zSl t s) hP ha (xP t) 0 5000 I2 hX2.2.1.2.1 c0 (fun p hp => by rw [o2 _ _ (by omega)]; exact h65 p hp) (by omega) (by omega) (fun I3 o3 f3 _ => ?_)
  have hT3 : cT I3 t := hX2.2.1.kept (fun b j q1 q2 => o3 b j (by omega))
  have d0 : I3 a 1 = sN s := by rw [o3 _ _ (by omega)]; exact c0
  have d1 : ∀ p, p < xP t → I3 (a + 1) p = sW s p := fun p hp => by rw [o3 _ _ (by omega)]; exact c1 p hp
  have d2 : ∀ p, p < xP t → I3 (a + 2) p = zOn t s sd p := fun p hp => by
    rw [f3 p hp (Nat.zero_le _), c2 p hp]
    unfold zOn
    rfl
  have d3 : ∀ p, p < xP t → I3 (a + 3) p = zSn t s p := fun p hp => by rw [o3 _ _ (by omega)]; exact c3 p hp
  have d4 : ∀ p, p < xP t → I3 (a + 4) p = zCn t s p := fun p hp => by rw [o3 _ _ (by omega)]; exact (c4 p hp).trans (if_pos hp)
  have d5 : ∀ p, p < xH t → I3 (a + 5) p = zBi t s (xP t) p := fun p hp => by rw [o3 _ _ (by omega)]; exact c5 p hp
  refine s_letMothEat (s := (sW s, zOn t s sd, zSn t s, zCn t s, zBi t s (xP t), sN s)) ⟨hX.1, hT3, zW_mk hw.1 w2 w3 w4 w5 w6 w7, cS_mk d0 d1 d2 d3 d4 d5, ha⟩ (fun I4 g4 o4 I5 e5 => ?_)
  rw [sW_mk, sN_mk] at g4
  rw [o4 a 1 (by omega), d0] at e5
  have o5 : ∀ b j, ¬ (b = a ∧ j = 1) → b ≠ a + 1 → I5 b j = I3 b j := fun b j q1 q2 => by rw [e5, qu_off (by omega), o4 b j q2]
  refine hq I5 ⟨hX.1, hT3.kept (fun b j q1 q2 => o5 b j (by omega) (by omega)), zNight_wf hX.1 hw sd, cS_mk (by rw [e5, qu_same]) (fun p hp => ?_) (fun p hp => ?_) (fun p hp => ?_) (fun p hp => ?_) (fun p hp => ?_), ha⟩ (fun b j q1 q2 q3 q4 => by rw [o5 b j (by omega) (by omega), o3 b j (by omega), o2 b j (by omega), o1 b j q1 q2 q3 q4])
  · rw [e5, qu_off (by omega)]; exact g4 p hp
  · rw [o5 _ _ (by omega) (by omega)]; exact d2 p hp
  · rw [o5 _ _ (by omega) (by omega)]; exact d3 p hp
  · rw [o5 _ _ (by omega) (by omega)]; exact d4 p hp
  · rw [o5 _ _ (by omega) (by omega)]; exact d5 p hp
def zIt (g : zT → zT) : Nat → zT → zT
  | 0, s => s
  | n + 1, s => zIt g n (g s)
def zNf (t : zX) (sd : Int32) (s : zT) : zT := zNight t s sd
def zNs (t : zX) (sd : Int32) (n : Nat) (s : zT) : zT := zIt (zNf t sd) n s
def zQs (t : zX) (n : Nat) (s : zT) : zT := zIt (zStill t) n s
theorem frN.tr {a : Nat} {I I' I'' : zI} (h : frN a I I') (g : frN a I' I'') : frN a I I'' := fun b j q1 q2 q3 q4 => (g b j q1 q2 q3 q4).trans (h b j q1 q2 q3 q4)
theorem zIt_all {g : zT → zT} {P : zT → Prop} (hg : ∀ s, P s → P (g s)) : ∀ n s, P s → P (zIt g n s)
  | 0, _, h => h
  | n + 1, s, h => zIt_all hg n (g s) (hg s h)
theorem s_goByWithAll_3 {J : zJ} {t : zX} {a n : Nat} (hn : n ≤ 60) {sd : Int32} {g : zT → zT} (hg : ∀ (I : zI) (s : zT), cX I t a s → ∀ Q : zI → zJ → Prop, (∀ I' : zI, cX I' t a (g s) → frN a I I' → Q I' J) → v_Night_goByOnce 5000 a sd I J Q) {Q : zI → zJ → Prop} : ∀ r i k (I : zI) (s : zT), cX I t a s → i + r = n → r < k → (∀ I' : zI, cX I' t a (zIt g r s) → frN a I I' → Q I' J) → v_Night_goByWithAll_3 5000 k a (nI n) sd (nI i) I J Q
  | _, _, 0, _, _, _, _, hk, _ => absurd hk (Nat.not_lt_zero _)
  | 0, i, k + 1, I, s, hX, hi, hk, hq => z_y (nI_le (by omega) (by omega)) (hq I hX (fun _ _ _ _ _ _ => rfl))
  | r + 1, i, k + 1, I, s, hX, hi, hk, hq => by
    refine z_n (nI_ge (by omega) (by omega)) (hg I s hX _ (fun I1 hX1 o1 => ?_))
    rw [nI_1]
    exact s_goByWithAll_3 hn hg r (i + 1) k I1 (g s) hX1 (by omega) (by omega) (fun I' hX' o' => hq I' hX' (frN.tr o1 o'))
theorem s_goByOnce' {J : zJ} {t : zX} {a : Nat} {sd : Int32} (I : zI) (s : zT) (hX : cX I t a s) (Q : zI → zJ → Prop) (hq : ∀ I' : zI, cX I' t a (zNf t sd s) → frN a I I' → Q I' J) : v_Night_goByOnce 5000 a sd I J Q := s_goByOnce hX hq
theorem s_goByWithAll {I : zI} {J : zJ} {t : zX} {a n : Nat} {s : zT} (hn : n ≤ 60) {sd : Int32} (hX : cX I t a s) {Q : zI → zJ → Prop} (hq : ∀ I' : zI, cX I' t a (zNs t sd n s) → frN a I I' → Q I' J) : v_Night_goByWithAll 5000 a (nI n) sd I J Q := s_goByWithAll_3 hn s_goByOnce' n 0 5000 I s hX (by omega) (by omega) hq
theorem zNf_fl {t : zX} {sd : Int32} {p : Nat} (s : zT) (h : sO s p = -2) : sO (zNf t sd s) p = -2 := by
  unfold zNf
  rw [night_O]
  rcases zOn_or t s sd p with e | e
  · exact e.trans h
  · exact e
def zup1 (x : Int32) : Int32 := if x < 0 then 0 else 1
theorem zup1_fl {x : Int32} (h : x = -2) : zup1 x = 0 := by rw [h]; rfl
theorem zup1_up {h : Nat} (hh : h < 2 ^ 31) {x : Int32} (e : x = nI h) : zup1 x = 1 := by unfold zup1; rw [e, if_neg (nI_pos hh)]
theorem s_staysHung_3 {J : zJ} {t : zX} {a n p : Nat} (hn : n ≤ 60) (hp : p < xP t) {sd : Int32} {g : zT → zT} (hg : ∀ (I : zI) (s : zT), cX I t a s → ∀ Q : zI → zJ → Prop, (∀ I' : zI, cX I' t a (g s) → frN a I I' → Q I' J) → v_Night_goByOnce 5000 a sd I J Q) (hfl : ∀ s, sO s p = -2 → sO (g s) p = -2) {Q : Int32 → zI → zJ → Prop} : ∀ r i k (I : zI) (s : zT), cX I t a s → i + r = n → r < k → (∀ I' : zI, frN a I I' → Q (zup1 (sO (zIt g r s) p)) I' J) → v_Night_staysHung_3 5000 k a (nI n) sd (nI p) (nI i) I J Q
  | _, _, 0, _, _, _, _, hk, _ => absurd hk (Nat.not_lt_zero _)
  | 0, i, k + 1, I, s, hX, hi, hk, hq => by
    have hH := hX.1.1
    refine z_y (nI_le (by omega) (by omega)) (s_isHung hX hp (fun e => ⟨Or.inl rfl, ?_⟩) (fun h hh e => ⟨Or.inr rfl, ?_⟩))
    · rw [← zup1_fl e]; exact hq I (fun _ _ _ _ _ _ => rfl)
    · rw [← zup1_up (by omega) e]; exact hq I (fun _ _ _ _ _ _ => rfl)
  | r + 1, i, k + 1, I, s, hX, hi, hk, hq => by
    have hH := hX.1.1
    refine z_n (nI_ge (by omega) (by omega)) (s_isHung hX hp (fun e => z_y z_00 (s_isHung hX hp (fun _ => ⟨Or.inl rfl, ?_⟩) (fun h hh e' => absurd (e'.symm.trans e) (z_ne2 (by omega))))) (fun h hh e => z_n z_10 (hg I s hX _ (fun I1 hX1 o1 => ?_))))
    · rw [← zup1_fl (zIt_all (P := fun s => sO s p = -2) hfl (r + 1) s e)]; exact hq I (fun _ _ _ _ _ _ => rfl)
    · rw [nI_1]
      exact s_staysHung_3 hn hp hg hfl r (i + 1) k I1 (g s) hX1 (by omega) (by omega) (fun I' o' => hq I' (frN.tr o1 o'))
theorem s_staysHung {I : zI} {J : zJ} {t : zX} {a n p : Nat} {s : zT} (hn : n ≤ 60) (hp : p < xP t) {sd : Int32} (hX : cX I t a s) {Q : Int32 → zI → zJ → Prop} (hq : ∀ I' : zI, frN a I I' → Q (zup1 (sO (zNs t sd n s) p)) I' J) : v_Night_staysHung 5000 a (nI n) sd (nI p) I J Q := s_staysHung_3 hn hp s_goByOnce' zNf_fl n 0 5000 I s hX (by omega) (by omega) hq
/-- the dream becomes the state -/
theorem s_dream {I : zI} {J : zJ} {t : zX} {s : zT} (hX : cX I t 49 s) {Q : zI → zJ → Prop} (hq : ∀ I' : zI, cX I' t 55 s → (∀ b j, (b < 55 ∨ 60 < b) → I' b j = I b j) → Q I' J) : v_State_become 5000 55 49 I J Q :=
  s_become hX.1.2.1 hX.1.1 (by omega) hX.2.2.2.1 (fun I' hc o => hq I' ⟨hX.1, hX.2.1.kept (fun b j q1 q2 => o b j (by omega)), hX.2.2.1, hc, by omega, by omega⟩ (fun b j q => o b j (by omega)))
theorem zK.dream {I I' : zI} {J : zJ} (e : ∀ b j, (b < 55 ∨ 60 < b) → I' b j = I b j) : zK I I' J J := zK.of (fun b j q => by
  have := zE_out q
  exact e b j (by omega))
theorem zK.fN {I I' : zI} {J : zJ} (e : frN 55 I I') : zK I I' J J := zK.of (fun b j q => by
  have := zE_out q
  exact e b j (by omega) (by omega) (by omega) (by omega))
