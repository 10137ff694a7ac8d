/-! change, undo, hold, restore, back, tell, feed -/
def zsw (p q r : Nat) : Nat := if r = q then p else if r = p then q else r
def zswap (s : zT) (p q : Nat) : zT := sOset (sOset s p (sO s q)) q (sO s p)
theorem zswap_on (s : zT) (p q r : Nat) : sO (zswap s p q) r = sO s (zsw p q r) := by
  show (if r = q then sO s p else if r = p then sO s q else sO s r) = sO s (zsw p q r)
  unfold zsw
  by_cases h1 : r = q
  · rw [if_pos h1, if_pos h1]
  · rw [if_neg h1, if_neg h1]
    by_cases h2 : r = p
    · rw [if_pos h2, if_pos h2]
    · rw [if_neg h2, if_neg h2]
theorem zsw_lt {p q r n : Nat} (hp : p < n) (hq : q < n) (hr : r < n) : zsw p q r < n := by
  unfold zsw
  by_cases h1 : r = q
  · rw [if_pos h1]; exact hp
  · rw [if_neg h1]
    by_cases h2 : r = p
    · rw [if_pos h2]; exact hq
    · rw [if_neg h2]; exact hr
theorem zsw_sw (p q r : Nat) : zsw p q (zsw p q r) = r := by
  unfold zsw
  by_cases h1 : r = q
  · rw [if_pos h1]
    by_cases h2 : p = q
    · rw [if_pos h2]; omega
    · rw [if_neg h2, if_pos rfl]; omega
  · rw [if_neg h1]
    by_cases h2 : r = p
    · rw [if_pos h2, if_pos rfl]; omega
    · rw [if_neg h2, if_neg h1, if_neg h2]
theorem zW.swap {nH nP p q : Nat} {s : zT} (h : zW nH nP s) (hp : p < nP) (hq : q < nP) : zW nH nP (zswap s p q) := by
  obtain ⟨w1, w2, w3, w4, w5, w6, w7⟩ := h
  refine ⟨w1, fun r hr => ?_, fun r r' hr hr' => ?_, w4, w5, w6, w7⟩
  · rw [zswap_on]; exact w2 _ (zsw_lt hp hq hr)
  · rw [zswap_on, zswap_on]
    intro z1 z2
    have := w3 _ _ (zsw_lt hp hq hr) (zsw_lt hp hq hr') z1 z2
    rw [← zsw_sw p q r, this, zsw_sw]
theorem s_exchange {I : zI} {J : zJ} {t : zX} {a p q : Nat} {s : zT} (hX : cX I t a s) (hp : p < xP t) (hq' : q < xP t) {Q : zI → zJ → Prop} (hq : ∀ I' : zI, cX I' t a (zswap s p q) → (∀ b j, b ≠ a + 2 → I' b j = I b j) → Q I' J) : v_State_exchange 5000 a (nI p) (nI q) I J Q := by
  have hP := hX.1.2.1
  have hx5 := hX.2.2.2.2
  unfold v_State_exchange
  rw [nI_clamp (by omega), nI_clamp (by omega), hX.2.2.2.1.2.2.1 p hp, hX.2.2.2.1.2.2.1 q hq']
  refine ⟨vp_in_nI (by omega) (by decide), fun y ey => ⟨vp_in_nI (by omega) (by decide), fun I4 e4 => ⟨vp_in_nI (by omega) (by decide), fun I6 e6 => ?_⟩⟩⟩
  rw [ey] at e6
  have o6 : ∀ b j, b ≠ a + 2 → I6 b j = I b j := fun b j q => by rw [e6, qu_off (Or.inl q), e4, qu_off (Or.inl q)]
  refine hq I6 ⟨hX.1, hX.2.1.kept (fun b k q1 q2 => o6 b k (by omega)), hX.2.2.1.swap hp hq', ?_, hX.2.2.2.2⟩ o6
  rw [e6, e4]
  exact hX.2.2.2.1.on.on
def zup (nP : Nat) (s : zT) (a b : Nat) : Prop := a < nP ∧ b < nP ∧ ¬ a = b ∧ ¬ sO s a < 0 ∧ ¬ sO s b < 0
theorem s_M_areUp {I : zI} {J : zJ} {t : zX} {live a b : Nat} {s : zT} (hQ : mQ I t live s) (ha : a < 2 ^ 31) (hb : b < 2 ^ 31) {Q : Int32 → zI → zJ → Prop} (h1 : zup (xP t) s a b → Q 1 I J) (h0 : ¬ zup (xP t) s a b → Q 0 I J) : v_M_areUp 5000 (nI a) (nI b) I J Q := by
  have hP := hQ.1.2.1
  have hr := hQ.2.2.2.2.2.1
  refine s_M_isPerson hQ.1 hQ.2.1 (fun p hp e => z_n z_10 ?_) (fun z => z_y z_00 (h0 (fun w => z ⟨a, w.1, rfl⟩)))
  have e' := (nI_eq ha (by omega)).mp e
  subst e'
  refine s_M_isPerson hQ.1 hQ.2.1 (fun p hp' e => z_n z_10 ?_) (fun z => z_y z_00 (h0 (fun w => z ⟨b, w.2.1, rfl⟩)))
  have e' := (nI_eq hb (by omega)).mp e
  subst e'
  rw [z_c6, z_c6, nI_clamp (n := 6 + a) (by omega), nI_clamp (n := 6 + b) (by omega), hr a hp, hr b hp']
  refine ⟨fun q => h0 (fun w => w.2.2.1 ((nI_eq ha hb).mp q)), fun q => ⟨vp_in_nI (by omega) (by decide), fun q1 => h0 (fun w => w.2.2.2.1 q1), fun q1 => ⟨vp_in_nI (by omega) (by decide), fun q2 => h0 (fun w => w.2.2.2.2 q2), fun q2 => h1 ⟨hp, hp', fun z => q (by rw [z]), q1, q2⟩⟩⟩⟩
/-- the reference's row with two changed -/
theorem s_M_changesFor {I : zI} {J : zJ} {t : zX} {live a b : Nat} {s : zT} (hQ : mQ I t live s) (ha : a < xP t) (hb : b < xP t) {Q : zI → zJ → Prop} (hq : ∀ I' : zI, frS I I' → mX I' t live (zswap s a b) → I' 361 51 = xD t → I' 361 52 = 1 → Q I' J) : v_M_changesFor 5000 (nI a) (nI b) I J Q := by
  have hP := hQ.1.2.1
  have hr := hQ.2.2.2.2.2.1
  refine hQ.still (fun I1 o1 hX1 h51 h52 => ?_)
  rw [z_c6, z_c6, nI_clamp (n := 6 + a) (by omega), nI_clamp (n := 6 + b) (by omega), o1 393 (6 + b) (by decide) (by omega), hr b hb]
  refine ⟨vp_in_nI (by omega) (by decide), vp_in_nI (by omega) (by decide), fun I4 e4 => ⟨vp_in_nI (by omega) (by decide), vp_in_nI (by omega) (by decide), fun I7 e7 => ?_⟩⟩
  have o4 : ∀ b j, b ≠ 394 → I4 b j = I1 b j := fun b j q => by rw [e4, qu_off (Or.inl q)]
  rw [o4 393 (6 + a) (by decide), o1 393 (6 + a) (by decide) (by omega), hr a ha] at e7
  have o7 : ∀ b j, b ≠ 394 → I7 b j = I1 b j := fun b j q => by rw [e7, qu_off (Or.inl q), o4 b j q]
  refine hq I7 (fun b j q1 q2 => by rw [o7 b j q1, o1 b j q1 q2]) ⟨hQ.1, hX1.2.1.kept (fun b k q1 q2 => o7 b k (by omega)) (o7 _ _ (by decide)), hQ.2.2.1.swap ha hb, ?_⟩ (by rw [o7 _ _ (by decide), h51]) (by rw [o7 _ _ (by decide), h52])
  rw [e7, e4]
  exact (hX1.2.2.2.on hP ha).on hP hb
theorem zok_change : zOK_change Rel := fun a0 a1 => zok_m (vX := v_X_change 5000 a0 a1) (vM := v_M_change 5000 a0 a1) (fun I J hR t live s u x hQ hu hx hu' hu40 hx40 => by
  have hX := hQ.1
  have hP := hX.1.2.1
  have hH := hX.1.1
  by_cases hz : zin a0 (xP t)
  · obtain ⟨p, hp, rfl⟩ := hz
    by_cases hy : zin a1 (xP t)
    · obtain ⟨q, hq', rfl⟩ := hy
      by_cases hup : zup (xP t) s p q
      · refine Or.inr ⟨1, zswap s p q, fun Q hq => ?_, fun I1 Q hQ1 h57 hq => ?_⟩
        · refine hQ.xP1 hp (z_n z_10 (hQ.xP1 hq' (z_n z_10 (z_nr (fun z => hup.2.2.1 ((nI_eq (by omega) (by omega)).mp z)) ?_))))
          refine s_isHung hX hp (fun e => absurd (by rw [e]; decide) hup.2.2.2.1) (fun _ _ _ => z_n z_10 ?_)
          refine s_isHung hX hq' (fun e => absurd (by rw [e]; decide) hup.2.2.2.2) (fun _ _ _ => z_nr z_10 ?_)
          refine s_keep hX hu hx hu40 hx40 (fun I1 g1 g2 g3 g4 => ?_)
          refine s_exchange (hX.kept (fun b j q => g4 b j (by omega) (by omega))) hp hq' (fun I2 c2 o2 => ?_)
          exact hq I2 (xDid.mk hx40 g1 g2 g3 g4 (fun b j q _ _ _ => o2 b j (by omega)) c2.2.2.2.1 c2.2.2.1)
        · refine s_M_areUp hQ1 (by omega) (by omega) (fun _ => z_nr z_10 ?_) (fun z => absurd hup z)
          refine s_M_changesFor hQ1 hp hq' (fun I2 o2 hX2 _ _ => ?_)
          refine s_M_records hQ1.1 hu40 (by rw [o2 _ _ (by decide) (by decide), h57]) hX2.2.2.2 (fun I3 d3 => hq I3 (d3.pre (fun b j q => ?_)))
          have := zE_out q
          exact o2 b j (by omega) (by omega)
      · refine Or.inl ⟨0, fun Q hq => hQ.xP1 hp (z_n z_10 (hQ.xP1 hq' (z_n z_10 ⟨fun z => s_isHung hX hp (fun _ => z_y z_00 (hq I zK.rfl)) (fun h hh e => z_n z_10 (s_isHung hX hq' (fun _ => z_yr z_00 (hq I zK.rfl)) (fun h' hh' e' => absurd ⟨hp, hq', fun w => z (by rw [w]), by rw [e]; exact nI_pos (by omega), by rw [e']; exact nI_pos (by omega)⟩ hup))), fun _ => hq I zK.rfl⟩))), fun I1 Q k1 hQ1 hq => s_M_areUp hQ1.m (by omega) (by omega) (fun z => absurd z hup) (fun _ => z_yr z_00 (hq I1 zK.rfl))⟩
    · exact Or.inl ⟨0, fun Q hq => hQ.xP1 hp (z_n z_10 (hQ.xP0 hy (z_y z_00 (hq I zK.rfl)))), fun I1 Q k1 hQ1 hq => hQ1.mP1 hp (z_n z_10 (hQ1.mP0 hy (z_y z_00 (z_yr z_00 (hq I1 zK.rfl)))))⟩
  · exact Or.inl ⟨0, fun Q hq => hQ.xP0 hz (z_y z_00 (hq I zK.rfl)), fun I1 Q k1 hQ1 hq => hQ1.mP0 hz (z_y z_00 (z_yr z_00 (hq I1 zK.rfl)))⟩)
/-- undo -/
theorem s_M_undo_21 {J : zJ} {Q : Int32 → zI → zJ → Prop} {v : Nat} (hv : v < 40) : ∀ r i k (I : zI), i + r = 32 → I 361 57 = nI v → r < k → (∀ I' : zI, (∀ b j, b ≠ 393 → I' b j = I b j) → (∀ j, j < i → I' 393 j = I 393 j) → (∀ j, i ≤ j → j < 32 → I' 393 j = I 399 (32 * v + j)) → Q 1 I' J) → v_M_undo_21 5000 k (nI i) I J Q
  | _, _, 0, _, _, _, hk, _ => absurd hk (Nat.not_lt_zero _)
  | 0, i, k + 1, I, hi, h57, hk, hq => by
    rw [v_M_undo_21]
    exact z_y (nI_le (a := 32) (by omega) (by omega)) (hq I (fun _ _ _ => rfl) (fun _ _ => rfl) (fun j h1 h2 => absurd h1 (by omega)))
  | r + 1, i, k + 1, I, hi, h57, hk, hq => by
    rw [v_M_undo_21]; dsimp only; rw [h57, z_m32, nI_clamp (n := i) (by omega), nI_clamp (n := 32 * v + i) (by omega)]
    refine z_n (nI_ge (b := 32) (by omega) (by decide)) ⟨vp_in_nI (by omega) (by decide), vp_in_nI (by omega) (by decide), fun I4 e4 => ?_⟩
    rw [nI_1]
    refine s_M_undo_21 hv r (i + 1) k I4 (by omega) (by rw [e4, qu_off (Or.inl (by decide)), h57]) (by omega) (fun I' o1 o2 o3 => hq I' (fun b j q => by rw [o1 b j q, e4, qu_off (Or.inl q)]) (fun j hj => by rw [o2 j (by omega), e4, qu_off (Or.inr (by omega))]) (fun j h1 h2 => ?_))
    by_cases hj : j = i
    · subst hj
      rw [o2 _ (by omega), e4, qu_same]
    · rw [o3 j (by omega) h2, e4, qu_off (Or.inl (by decide))]
theorem mS.row {I I' : zI} {nH nP r r' o : Nat} {s : zT} (hP : nP ≤ 6) (hH : nH ≤ 7) (e : ∀ k, k < 32 → I' r' k = I r (o + k)) (h : mS I nH nP r o s) : mR I' nH nP r' s := by
  obtain ⟨r0, r1, r2, r3, r4, r5, r6, r7⟩ := h
  exact ⟨by rw [e _ (by omega), r0], fun p hp => by rw [e _ (by omega), r1 p hp], fun p hp => by rw [e _ (by omega), r2 p hp], fun p hp => by rw [e _ (by omega), r3 p hp], fun p hp => by rw [e _ (by omega), r4 p hp], fun p hp => by rw [e _ (by omega), r5 p hp], fun p hp hp' => by rw [e _ (by omega), r6 p hp hp'], fun p hp hp' => by rw [e _ (by omega), r7 p hp hp']⟩
theorem zok_undo : zOK_undo Rel := by
  intro I J K hR hK
  obtain ⟨n, nH, nP, live, u, x, td, m, h1, h2, h3, h4, h5, h6, h7, h8⟩ := id hR
  have hH := h3.2.1
  have hP := h3.2.2.1
  obtain ⟨p1, p2, p3, p4, p5, p6⟩ := id h5
  show v_Past_giveBack 5000 49 I J _
  unfold v_Past_giveBack
  rw [p3, p4]
  by_cases hu : u = 0
  · subst hu
    refine z_yr rfl ⟨Or.inl rfl, ?_⟩
    show v_M_undo 5000 I J _
    unfold v_M_undo
    rw [p5]
    exact z_yr rfl ⟨rfl, hK I J hR⟩
  · obtain ⟨v, rfl⟩ : ∃ v, u = v + 1 := ⟨u - 1, by omega⟩
    refine z_nr (nI_ne0 (by omega) (by omega)) ⟨by decide, fun I3 e3 I4 e4 => ?_⟩
    rw [show nI x + (40 : Int32) = nI (x + 40) from nI_add x 40, show x + 40 = x + 39 + 1 by omega, nI_pred, show nI (x + 39) - nI (x + 39) / (40 : Int32) * (40 : Int32) = nI ((x + 39) % 40) from nI_mod (b := 40) (by omega) (by decide)] at e3
    have e32 : I3 100 2 = nI (v + 1) := by rw [e3, qu_off (by decide), p3]
    rw [e32, nI_pred] at e4
    have e41 : I4 100 1 = nI ((x + 39) % 40) := by rw [e4, qu_off (by decide), e3, qu_same]
    have o4 : ∀ b j, b ≠ 100 → I4 b j = I b j := fun b j q => by rw [e4, qu_off (Or.inl q), e3, qu_off (Or.inl q)]
    have hx' : (x + 39) % 40 < 40 := Nat.mod_lt _ (by decide)
    rw [e41, nI_clamp (by omega)]
    have hp0 := p6 0 (by omega)
    rw [Nat.sub_zero, show v + 1 - 1 - 0 = v by omega] at hp0
    obtain ⟨s, hw, hc, hm⟩ := hp0.get
    refine ⟨vp_in_nI hx' (by decide), s_become hP hH (by omega) (hc.kept (fun b k q1 q2 => o4 b k (by omega))) (fun I7 c7 o7 => ⟨Or.inr rfl, ?_⟩)⟩
    have o7' : ∀ b j, b ≠ 100 → (b < 49 ∨ 54 < b) → I7 b j = I b j := fun b j q1 q2 => by rw [o7 b j (by omega), o4 b j q1]
    show v_M_undo 5000 I7 J _
    unfold v_M_undo
    rw [o7' 361 57 (by decide) (by decide), p5]
    refine z_nr (nI_ne0 (by omega) (by omega)) (fun I8 e8 => ?_)
    rw [nI_pred] at e8
    have o8 : ∀ b j, ¬ (b = 361 ∧ j = 57) → I8 b j = I7 b j := fun b j q => by rw [e8, qu_off (by omega)]
    refine s_M_undo_21 (v := v) (by omega) 32 0 5000 I8 (by omega) (by rw [e8, qu_same]) (by omega) (fun I9 q1 q2 q3 => ⟨rfl, hK I9 J ?_⟩)
    have e : ∀ b j, b ≠ 393 → ¬ (b = 361 ∧ j = 57) → b ≠ 100 → (b < 49 ∨ 54 < b) → I9 b j = I b j := fun b j n1 n2 n3 n4 => by rw [q1 b j n1, o8 b j n2, o7' b j n3 n4]
    have e100 : ∀ j, I9 100 j = I4 100 j := fun j => by rw [q1 _ _ (by decide), o8 _ _ (by omega), o7 _ _ (by omega)]
    refine ⟨n, nH, nP, live, v, (x + 39) % 40, td, m, h1.kept (fun a k q => e a k (by omega) (by omega) (by omega) (by omega)), ?_, h3.kept (fun a k q => e a k (by omega) (by omega) (by omega) (by omega)), ?_, ?_, h6.kept (fun a k q => e a k (by omega) (by omega) (by omega) (by omega)), h7.kept (fun a k q => e a k (by omega) (by omega) (by omega) (by omega)), h8⟩
    · rw [e 26 13 (by decide) (by decide) (by decide) (by decide), e 361 17 (by decide) (by decide) (by decide) (by decide)]; exact h2
    · refine zPair.mk hw (c7.kept (fun b k n1 n2 => by rw [q1 _ _ (by omega), o8 _ _ (by omega)])) (mS_zero.mpr (hm.row hP hH (fun k hk => ?_)))
      rw [q3 k (by omega) hk, o8 _ _ (by omega), o7' _ _ (by decide) (by decide)]
    · refine ⟨by omega, hx', by rw [e100, e4, qu_same], by rw [e100, e41], by rw [q1 _ _ (by decide), e8, qu_same], fun j hj => ?_⟩
      have := p6 (j + 1) (by omega)
      rw [show ((x + 39) % 40 + 39 - j) % 40 = (x + 39 - (j + 1)) % 40 by omega, show v - 1 - j = v + 1 - 1 - (j + 1) by omega]
      have hlt : (x + 39 - (j + 1)) % 40 < 40 := Nat.mod_lt _ (by decide)
      exact this.kept (fun d k hd => e _ _ (by omega) (by omega) (by omega) (by omega)) (fun k => e _ _ (by decide) (by omega) (by decide) (by decide))
/-- back -/
theorem zok_back : zOK_back Rel := by
  intro a0 I J K hR hK
  obtain ⟨n, nH, nP, live, u, x, td, m, h1, h2, h3, h4, h5, h6, h7, h8⟩ := id hR
  obtain ⟨t1, t2, t3, t4⟩ := id h1
  unfold v_X_back
  rw [t2]
  by_cases hz : zin a0 (n + 1)
  · obtain ⟨k, hk, rfl⟩ := hz
    refine z_n (nI_pos (by omega)) (z_y (nI_le (by omega) (by omega)) (fun I3 e3 => ?_))
    rw [nI_sub (by omega)] at e3
    unfold v_M_back
    have e361 : I3 361 2 = nI n := by rw [e3, qu_off (by decide), t3]
    rw [e361]
    refine z_n (nI_pos (by omega)) (z_y (nI_le (by omega) (by omega)) (fun I4 e4 => ?_))
    rw [nI_sub (by omega)] at e4
    have e : ∀ a k', ¬ (a = 2 ∧ k' = 1) → ¬ (a = 361 ∧ k' = 2) → I4 a k' = I a k' := fun a k' q1 q2 => by rw [e4, qu_off (by omega), e3, qu_off (by omega)]
    refine ⟨by rw [e3, e4, qu_same, qu_same], hK I4 J ⟨n - k, nH, nP, live, u, x, td, m, ⟨by omega, by rw [e4, qu_off (by decide), e3, qu_same], by rw [e4, qu_same], fun i hi => ?_⟩, ?_, h3.kept (fun a k q => e a k (by omega) (by omega)), rNow.kept (fun a k q => e a k (by omega) (by omega)) h4, h5.kept (fun a k q => e a k (by omega) (by omega)), h6.kept (fun a k q => e a k (by omega) (by omega)), h7.kept (fun a k q => e a k (by omega) (by omega)), h8⟩⟩
    · rw [e _ _ (by omega) (by omega), e _ _ (by omega) (by omega)]; exact t4 i (by omega)
    · rw [e _ _ (by decide) (by decide), e _ _ (by decide) (by decide)]; exact h2
  · have no : ∀ (vQ : Prop), vQ → (∀ W : Prop, ((a0 < 0 → vQ) ∧ (¬ a0 < 0 → ((a0 ≤ nI n → W) ∧ (¬ a0 ≤ nI n → vQ))))) := fun vQ hv W => by
      rcases rng_no (by omega) hz with q | q
      · exact z_y q hv
      · exact z_n q.1 (z_n q.2.1 hv)
    refine no _ ?_ _
    show v_M_back 5000 a0 I J _
    unfold v_M_back
    rw [t3]
    exact no _ ⟨rfl, hK I J hR⟩ _
/-- tell -/
theorem s_hasRoom {I : zI} {J : zJ} {td : Nat} (t2 : I 83 7 = nI td) (ht : td < 20) {Q : Int32 → zI → zJ → Prop} (hq : Q 1 I J) : v_Told_hasRoom 5000 I J Q := by
  unfold v_Told_hasRoom
  rw [t2]
  exact z_n (nI_ge (b := 20) (by omega) (by decide)) hq
theorem z_nar {a : Int32} (hb : qzb a) : vp_nar .boolean a = a := by
  rcases hb with e | e
  · rw [e]; decide
  · rw [e]; decide
theorem s_Told_add {I : zI} {J : zJ} {td : Nat} {x y a2 : Int32} (hb : qzb a2) (t2 : I 83 7 = nI td) (ht : td < 20) {Q : Int32 → zI → zJ → Prop} (hq : ∀ I' : zI, I' 83 7 = nI (td + 1) → I' 84 td = x → I' 85 td = y → I' 86 td = a2 → (∀ b j, ¬ (b = 83 ∧ j = 7) → ¬ (84 ≤ b ∧ b ≤ 86 ∧ j = td) → I' b j = I b j) → Q (nI td) I' J) : v_Told_add 5000 x y a2 I J Q := by
  refine s_hasRoom t2 ht (z_nr z_10 ?_)
  rw [t2]
  refine ⟨vp_in_nI (by omega) (by decide), fun I5 e5 => ?_⟩
  have r5 : I5 83 7 = nI td := by rw [e5, qu_off (Or.inl (by decide)), t2]
  rw [r5]
  refine ⟨vp_in_nI (by omega) (by decide), fun I7 e7 => ?_⟩
  have r7 : I7 83 7 = nI td := by rw [e7, qu_off (Or.inl (by decide)), r5]
  rw [r7]
  refine ⟨vp_in_nI (by omega) (by decide), fun I9 e9 I10 e10 => ?_⟩
  have r9 : I9 83 7 = nI td := by rw [e9, qu_off (Or.inl (by decide)), r7]
  rw [r9, nI_1] at e10
  rw [nI_clamp (by omega)] at e5 e7 e9
  rw [z_nar hb] at e9
  have r10 : I10 83 7 = nI (td + 1) := by rw [e10, qu_same]
  rw [r10, nI_pred]
  refine hq I10 r10 ?_ ?_ ?_ (fun b j q1 q2 => by rw [e10, qu_off (by omega), e9, qu_off (by omega), e7, qu_off (by omega), e5, qu_off (by omega)])
  · rw [e10, qu_off (by omega), e9, qu_off (by omega), e7, qu_off (by omega), e5, qu_same]
  · rw [e10, qu_off (by omega), e9, qu_off (by omega), e7, qu_same]
  · rw [e10, qu_off (by omega), e9, qu_same]
theorem s_M_tell {I : zI} {J : zJ} {t : zX} {live p q td : Nat} {a2 : Int32} (hb : qzb a2) (hx : zX_ok t) (hm : mT I t live) (hp : p < xP t) (hq' : q < xP t) (t3 : I 361 63 = nI td) (ht : td < 20) {Q : Int32 → zI → zJ → Prop} (hq : ∀ I' : zI, I' 361 63 = nI (td + 1) → I' 403 td = nI p → I' 404 td = nI q → I' 405 td = a2 → (∀ b j, ¬ (b = 361 ∧ j = 63) → ¬ (403 ≤ b ∧ b ≤ 405 ∧ j = td) → I' b j = I b j) → Q (nI td) I' J) : v_M_tell 5000 (nI p) (nI q) a2 I J Q := by
  have hn20 : ¬ nI td = (20 : Int32) := fun z => absurd ((nI_eq (a := td) (b := 20) (by omega) (by decide)).mp z) (by omega)
  unfold v_M_tell
  rw [t3]
  refine z_n hn20 (s_M_isPerson hx hm (fun _ _ _ => z_n z_10 (s_M_isPerson hx hm (fun _ _ _ => z_nr z_10 ?_) (fun z => absurd ⟨q, hq', rfl⟩ z))) (fun z => absurd ⟨p, hp, rfl⟩ z))
  rw [t3]
  refine ⟨vp_in_nI (by omega) (by decide), fun I11 f1 => ?_⟩
  have p11 : I11 361 63 = nI td := by rw [f1, qu_off (Or.inl (by decide)), t3]
  rw [p11]
  refine ⟨vp_in_nI (by omega) (by decide), fun I12 f2 => ?_⟩
  have p12 : I12 361 63 = nI td := by rw [f2, qu_off (Or.inl (by decide)), p11]
  rw [p12]
  refine ⟨vp_in_nI (by omega) (by decide), fun I13 f3 I14 f4 => ?_⟩
  have p13 : I13 361 63 = nI td := by rw [f3, qu_off (Or.inl (by decide)), p12]
  rw [p13, nI_1] at f4
  rw [nI_clamp (by omega)] at f1 f2 f3
  rw [z_nar hb] at f3
  have r14 : I14 361 63 = nI (td + 1) := by rw [f4, qu_same]
  rw [r14, nI_pred]
  refine hq I14 r14 ?_ ?_ ?_ (fun b j q1 q2 => by rw [f4, qu_off (by omega), f3, qu_off (by omega), f2, qu_off (by omega), f1, qu_off (by omega)])
  · rw [f4, qu_off (by omega), f3, qu_off (by omega), f2, qu_off (by omega), f1, qu_same]
  · rw [f4, qu_off (by omega), f3, qu_off (by omega), f2, qu_same]
  · rw [f4, qu_off (by omega), f3, qu_same]
theorem zok_tell : zOK_tell Rel := by
  intro a0 a1 a2 I J K hb hR hK
  obtain ⟨n, nH, nP, live, u, x, td, m, h1, h2, h3, h4, h5, h6, h7, h8⟩ := id hR
  obtain ⟨t, rfl, rfl, hx, hc, hm⟩ := h3.get
  obtain ⟨t1, t2, t3, t4⟩ := id h6
  have hP := hx.2.1
  have hno : (td = 20 ∨ ¬ zin a0 (xP t) ∨ ¬ zin a1 (xP t)) → v_M_tell 5000 a0 a1 a2 I J (fun r2 I2 J2 => (-1 : Int32) = r2 ∧ K I2 J2) := by
    intro h
    have done : (-1 : Int32) = -1 ∧ K I J := ⟨rfl, hK I J hR⟩
    unfold v_M_tell
    rw [t3]
    refine ⟨fun _ => done, fun q => s_M_isPerson hx hm (fun p hp e => z_n z_10 (s_M_isPerson hx hm (fun p' hp' e' => ?_) (fun _ => z_yr z_00 done))) (fun _ => z_y z_00 done)⟩
    rcases h with h | h | h
    · exact absurd (by rw [h]; rfl) q
    · exact absurd ⟨p, hp, e⟩ h
    · exact absurd ⟨p', hp', e'⟩ h
  refine s_X_isPerson hx hc (fun p hp e => z_n z_10 (s_X_isPerson hx hc (fun q hq e' => z_n z_10 ?_) (fun z => z_y z_00 (hno (Or.inr (Or.inr z)))))) (fun z => z_y z_00 (hno (Or.inr (Or.inl z))))
  by_cases ht : td = 20
  · unfold v_Told_hasRoom
    rw [t2]
    exact z_y (nI_le (a := 20) (by omega) (by omega)) (z_yr z_00 (hno (Or.inl ht)))
  · subst e e'
    refine s_hasRoom t2 (by omega) (z_nr z_10 (s_Told_add hb t2 (by omega) (fun I1 g1 g2 g3 g4 g5 => ?_)))
    refine s_M_tell hb hx (hm.kept (fun b j q1 q2 => g5 b j (by omega) (by omega)) (g5 _ _ (by decide) (by omega))) hp hq (by rw [g5 _ _ (by decide) (by omega), t3]) (by omega) (fun I2 k1 k2 k3 k4 k5 => ⟨rfl, hK I2 J ?_⟩)
    have e : ∀ b j, ¬ (b = 83 ∧ j = 7) → ¬ (84 ≤ b ∧ b ≤ 86 ∧ j = td) → ¬ (b = 361 ∧ j = 63) → ¬ (403 ≤ b ∧ b ≤ 405 ∧ j = td) → I2 b j = I b j := fun b j q1 q2 q3 q4 => by rw [k5 b j q3 q4, g5 b j q1 q2]
    refine ⟨n, xH t, xP t, live, u, x, td + 1, m, h1.kept (fun a k q => e a k (by omega) (by omega) (by omega) (by omega)), ?_, h3.kept (fun a k q => e a k (by omega) (by omega) (by omega) (by omega)), rNow.kept (fun a k q => e a k (by omega) (by omega) (by omega) (by omega)) h4, h5.kept (fun a k q => e a k (by omega) (by omega) (by omega) (by omega)), ⟨by omega, by rw [k5 _ _ (by decide) (by omega), g1], k1, fun i hi => ?_⟩, h7.kept (fun a k q => e a k (by omega) (by omega) (by omega) (by omega)), h8⟩
    · rw [e _ _ (by decide) (by omega) (by decide) (by omega), e _ _ (by decide) (by omega) (by decide) (by omega)]; exact h2
    · by_cases hi' : i = td
      · subst hi'
        rw [k5 84 _ (by omega) (by omega), k5 85 _ (by omega) (by omega), k5 86 _ (by omega) (by omega), g2, g3, g4, k2, k3, k4]
        exact ⟨rfl, ⟨p, hp, rfl⟩, rfl, ⟨q, hq, rfl⟩, rfl, hb⟩
      · rw [e 84 i (by omega) (by omega) (by omega) (by omega), e 85 i (by omega) (by omega) (by omega) (by omega), e 86 i (by omega) (by omega) (by omega) (by omega), e 403 i (by omega) (by omega) (by omega) (by omega), e 404 i (by omega) (by omega) (by omega) (by omega), e 405 i (by omega) (by omega) (by omega) (by omega)]
        exact t4 i (by omega)
