/-! kept states on both sides; hang, take, change, straighten -/
theorem z_m32 (l h : Nat) : (32 : Int32) * nI l + nI h = nI (32 * l + h) := (congrArg (· + nI h) (nI_mul 32 l)).trans (nI_add _ _)
theorem z_min40 {u : Nat} (hu : u ≤ 40) : (if nI (u + 1) < (40 : Int32) then nI (u + 1) else (40 : Int32)) = nI (min 40 (u + 1)) := by
  by_cases h : u + 1 < 40
  · have h1 : nI (u + 1) < (40 : Int32) := nI_lt (b := 40) h (by decide)
    rw [if_pos h1]
    congr 1
    omega
  · have h1 : ¬ nI (u + 1) < (40 : Int32) := nI_nlt (b := 40) (by omega) (by omega)
    rw [if_neg h1, show min 40 (u + 1) = 40 by omega]
    rfl
theorem s_keep {I : zI} {J : zJ} {t : zX} {s : zT} {u x : Nat} (hX : cX I t 49 s) (hu : I 100 2 = nI u) (hx : I 100 1 = nI x) (hu40 : u ≤ 40) (hx40 : x < 40) {Q : zI → zJ → Prop} (hq : ∀ I' : zI, cS I' (xH t) (xP t) (102 + 6 * x) s → I' 100 1 = nI ((x + 1) % 40) → I' 100 2 = nI (min 40 (u + 1)) → (∀ b j, b ≠ 100 → (b < 102 + 6 * x ∨ 107 + 6 * x < b) → I' b j = I b j) → Q I' J) : v_Past_keep 5000 49 I J Q := by
  unfold v_Past_keep
  rw [hx, nI_clamp (by omega)]
  refine ⟨vp_in_nI hx40 (by decide), s_become hX.1.2.1 hX.1.1 (by omega) hX.2.2.2.1 (fun I3 c3 o3 => ⟨by decide, fun I5 e5 I6 e6 => ?_⟩)⟩
  rw [o3 100 1 (by omega), hx, nI_1, show nI (x + 1) - nI (x + 1) / (40 : Int32) * (40 : Int32) = nI ((x + 1) % 40) from nI_mod (b := 40) (by omega) (by decide)] at e5
  have e52 : I5 100 2 = nI u := by rw [e5, qu_off (by decide), o3 100 2 (by omega), hu]
  rw [e52, nI_1, z_min40 hu40] at e6
  have o6 : ∀ b j, b ≠ 100 → I6 b j = I3 b j := fun b j q => by rw [e6, qu_off (Or.inl q), e5, qu_off (Or.inl q)]
  exact hq I6 (c3.kept (fun b k q1 q2 => o6 b k (by omega))) (by rw [e6, qu_off (by decide), e5, qu_same]) (by rw [e6, qu_same]) (fun b j q1 q2 => by rw [o6 b j q1, o3 b j (by omega)])
theorem s_M_records_51 {J : zJ} {Q K : zI → zJ → Prop} {v : Nat} (hv : v < 40) : ∀ r i k (I : zI), i + r = 32 → I 361 57 = nI v → r < k → (∀ I' : zI, (∀ b j, b ≠ 399 → I' b j = I b j) → (∀ j, j < 32 * v + i → I' 399 j = I 399 j) → (∀ j, i ≤ j → j < 32 → I' 399 (32 * v + j) = I 393 j) → K I' J) → v_M_records_51 5000 k (nI i) I J Q K
  | _, _, 0, _, _, _, hk, _ => absurd hk (Nat.not_lt_zero _)
  | 0, i, k + 1, I, hi, h57, hk, hq => by
    rw [v_M_records_51]
    exact z_y (nI_le (a := 32) (by omega) (by omega)) (hq I (fun _ _ _ => rfl) (fun _ _ => rfl) (fun j h1 h2 => absurd h1 (by omega)))
  | r + 1, i, k + 1, I, hi, h57, hk, hq => by
    rw [v_M_records_51]; dsimp only; rw [h57, z_m32, nI_clamp (n := i) (by omega), nI_clamp (n := 32 * v + i) (by omega)]
    refine z_n (nI_ge (b := 32) (by omega) (by decide)) ⟨vp_in_nI (by omega) (by decide), vp_in_nI (by omega) (by decide), fun I4 e4 => ?_⟩
    rw [nI_1]
    refine s_M_records_51 hv r (i + 1) k I4 (by omega) (by rw [e4, qu_off (Or.inl (by decide)), h57]) (by omega) (fun I' o1 o2 o3 => hq I' (fun b j q => by rw [o1 b j q, e4, qu_off (Or.inl q)]) (fun j hj => by rw [o2 j (by omega), e4, qu_off (Or.inr (by omega))]) (fun j h1 h2 => ?_))
    by_cases hj : j = i
    · subst hj
      rw [o2 _ (by omega), e4, qu_same]
    · rw [o3 j (by omega) h2, e4, qu_off (Or.inl (by decide))]
theorem s_M_records_11 {J : zJ} {Q K : zI → zJ → Prop} : ∀ r i k (I : zI), i + r = 1248 → r < k → (∀ I' : zI, (∀ b j, b ≠ 399 → I' b j = I b j) → (∀ j, j < i → I' 399 j = I 399 j) → (∀ j, i ≤ j → j < 1248 → I' 399 j = I 399 (j + 32)) → K I' J) → v_M_records_11 5000 k (nI i) I J Q K
  | _, _, 0, _, _, hk, _ => absurd hk (Nat.not_lt_zero _)
  | 0, i, k + 1, I, hi, hk, hq => by
    rw [v_M_records_11]
    exact z_y (nI_le (a := 1248) (by omega) (by omega)) (hq I (fun _ _ _ => rfl) (fun _ _ => rfl) (fun j h1 h2 => absurd h1 (by omega)))
  | r + 1, i, k + 1, I, hi, hk, hq => by
    rw [v_M_records_11]; dsimp only; rw [show nI i + (32 : Int32) = nI (i + 32) from nI_add i 32, nI_clamp (n := i) (by omega), nI_clamp (n := i + 32) (by omega)]
    refine z_n (nI_ge (b := 1248) (by omega) (by decide)) ⟨vp_in_nI (by omega) (by decide), vp_in_nI (by omega) (by decide), fun I4 e4 => ?_⟩
    rw [nI_1]
    refine s_M_records_11 r (i + 1) k I4 (by omega) (by omega) (fun I' o1 o2 o3 => hq I' (fun b j q => by rw [o1 b j q, e4, qu_off (Or.inl q)]) (fun j hj => by rw [o2 j (by omega), e4, qu_off (Or.inr (by omega))]) (fun j h1 h2 => ?_))
    by_cases hj : j = i
    · subst hj
      rw [o2 _ (by omega), e4, qu_same]
    · rw [o3 j (by omega) h2, e4, qu_off (Or.inr (by omega))]
theorem s_M_keepsRow_2 {J : zJ} {Q : zI → zJ → Prop} : ∀ r i k (I : zI), i + r = 32 → r < k → (∀ I' : zI, (∀ b j, b ≠ 393 → I' b j = I b j) → (∀ j, j < i → I' 393 j = I 393 j) → (∀ j, i ≤ j → j < 32 → I' 393 j = I 394 j) → Q I' J) → v_M_keepsRow_2 5000 k (nI i) I J Q
  | _, _, 0, _, _, hk, _ => absurd hk (Nat.not_lt_zero _)
  | 0, i, k + 1, I, hi, hk, hq => by
    rw [v_M_keepsRow_2]
    exact z_y (nI_le (a := 32) (by omega) (by omega)) (hq I (fun _ _ _ => rfl) (fun _ _ => rfl) (fun j h1 h2 => absurd h1 (by omega)))
  | r + 1, i, k + 1, I, hi, hk, hq => by
    rw [v_M_keepsRow_2]
    refine z_n (nI_ge (b := 32) (by omega) (by decide)) ⟨vp_in_nI (by omega) (by decide), vp_in_nI (by omega) (by decide), fun I4 e4 => ?_⟩
    rw [nI_clamp (by omega)] at e4
    rw [nI_1]
    refine s_M_keepsRow_2 r (i + 1) k I4 (by omega) (by omega) (fun I' o1 o2 o3 => hq I' (fun b j q => by rw [o1 b j q, e4, qu_off (Or.inl q)]) (fun j hj => by rw [o2 j (by omega), e4, qu_off (Or.inr (by omega))]) (fun j h1 h2 => ?_))
    by_cases hj : j = i
    · subst hj
      rw [o2 j (by omega), e4, qu_same]
    · rw [o3 j (by omega) h2, e4, qu_off (Or.inl (by decide))]
theorem mR.copy {I I' : zI} {nH nP r r' : Nat} {s : zT} (hP : nP ≤ 6) (hH : nH ≤ 7) (e : ∀ k, k < 32 → I' r' k = I r k) (h : mR I nH nP r s) : mR I' nH nP r' s := by
  obtain ⟨r0, r1, r2, r3, r4, r5, r6, r7⟩ := h
  exact ⟨by rw [e _ (by omega), r0], fun p hp => by rw [e _ (by omega), r1 p hp], fun p hp => by rw [e _ (by omega), r2 p hp], fun p hp => by rw [e _ (by omega), r3 p hp], fun p hp => by rw [e _ (by omega), r4 p hp], fun p hp => by rw [e _ (by omega), r5 p hp], fun p hp hp' => by rw [e _ (by omega), r6 p hp hp'], fun p hp hp' => by rw [e _ (by omega), r7 p hp hp']⟩
theorem s_M_records_49 {I : zI} {J : zJ} {nH nP v : Nat} {s' : zT} (hP : nP ≤ 6) (hH : nH ≤ 7) (hv : v < 40) (h57 : I 361 57 = nI v) (hr : mR I nH nP 394 s') {Q : zI → zJ → Prop} (hq : ∀ I' : zI, mR I' nH nP 393 s' → I' 361 57 = nI (v + 1) → (∀ k, k < 32 → I' 399 (32 * v + k) = I 393 k) → (∀ j, j < 32 * v → I' 399 j = I 399 j) → (∀ b j, b ≠ 393 → b ≠ 399 → ¬ (b = 361 ∧ j = 57) → I' b j = I b j) → Q I' J) : v_M_records_49 5000 I J Q := by
  refine s_M_records_51 hv 32 0 5000 I (by omega) h57 (by omega) (fun I1 o1 o2 o3 I2 e2 => ?_)
  have h571 : I1 361 57 = nI v := by rw [o1 _ _ (by decide), h57]
  rw [h571, nI_1] at e2
  have p2 : ∀ b j, ¬ (b = 361 ∧ j = 57) → I2 b j = I1 b j := fun b j q => by rw [e2, qu_off (by omega)]
  refine s_M_keepsRow_2 32 0 5000 I2 (by omega) (by omega) (fun I3 q1 q2 q3 => ?_)
  refine hq I3 (hr.copy hP hH (fun k hk => by rw [q3 k (by omega) hk, p2 _ _ (by omega), o1 _ _ (by decide)])) (by rw [q1 _ _ (by decide), e2, qu_same]) (fun k hk => by rw [q1 _ _ (by decide), p2 _ _ (by omega), o3 k (by omega) hk]) (fun j hj => by rw [q1 _ _ (by decide), p2 _ _ (by omega), o2 j (by omega)]) (fun b j n1 n2 n3 => by rw [q1 _ _ n1, p2 _ _ n3, o1 _ _ n2])
theorem s_M_records {I : zI} {J : zJ} {t : zX} {u : Nat} {s' : zT} (hx : zX_ok t) (hu : u ≤ 40) (h57 : I 361 57 = nI u) (hr : mR I (xH t) (xP t) 394 s') {Q : zI → zJ → Prop} (hq : ∀ I' : zI, mDid I I' t s' u → Q I' J) : v_M_records 5000 I J Q := by
  have hP := hx.2.1
  have hH := hx.1
  unfold v_M_records
  rw [h57]
  by_cases h : u = 40
  · subst h
    refine z_yr rfl (s_M_records_11 1248 0 5000 I (by omega) (by omega) (fun I2 o1 o2 o3 I3 e3 => ?_))
    rw [o1 361 57 (by decide), h57, show nI 40 - 1 = nI 39 from nI_pred 39] at e3
    have p3 : ∀ b j, ¬ (b = 361 ∧ j = 57) → I3 b j = I2 b j := fun b j q => by rw [e3, qu_off (by omega)]
    refine s_M_records_49 (v := 39) hP hH (by omega) (by rw [e3, qu_same]) (hr.kept (fun k => by rw [p3 _ _ (by omega), o1 _ _ (by decide)])) (fun I4 g1 g2 g3 g4 g5 => hq I4 ⟨g1, g2, fun k hk => ?_, fun j hj => ?_, fun b j _ n1 n2 n3 => by rw [g5 b j n1 n2 n3, p3 _ _ n3, o1 _ _ n2]⟩)
    · rw [show 32 * (min 40 (40 + 1) - 1) + k = 32 * 39 + k by omega, g3 k hk, p3 _ _ (by omega), o1 _ _ (by decide)]
    · rw [if_pos rfl, g4 j (by omega), p3 _ _ (by omega), o3 j (by omega) (by omega)]
  · refine z_nr (fun z => h ((nI_eq (a := u) (b := 40) (by omega) (by decide)).mp z)) (s_M_records_49 (v := u) hP hH (by omega) h57 hr (fun I4 g1 g2 g3 g4 g5 => hq I4 ⟨g1, ?_, fun k hk => ?_, fun j hj => ?_, fun b j _ n1 n2 n3 => g5 b j n1 n2 n3⟩))
    · rw [g2]; congr 1; omega
    · rw [show 32 * (min 40 (u + 1) - 1) + k = 32 * u + k by omega, g3 k hk]
    · rw [if_neg h, g4 j (by omega)]
theorem mDid.pre {I0 I1 I2 : zI} {t : zX} {s' : zT} {u : Nat} (e : ∀ b j, zE b j → I1 b j = I0 b j) (h : mDid I1 I2 t s' u) : mDid I0 I2 t s' u := by
  obtain ⟨h1, h2, h3, h4, h5⟩ := h
  exact ⟨h1, h2, fun k hk => by rw [h3 k hk, e 393 k (Or.inr (Or.inr (Or.inr (Or.inl (Or.inr rfl)))))], fun j hj => by rw [h4 j hj, e 399 _ (Or.inr (Or.inr (Or.inr (Or.inr (Or.inl (Or.inr (Or.inr (Or.inl rfl))))))))], fun b j q1 q2 q3 q4 => by rw [h5 b j q1 q2 q3 q4, e b j q1]⟩
/-- one cell of on, of bent -/
def sOset (s : zT) (p : Nat) (v : Int32) : zT := (sW s, (fun q => if q = p then v else sO s q), sS s, sC s, sB s, sN s)
def sBset (s : zT) (p : Nat) (v : Int32) : zT := (sW s, sO s, sS s, sC s, (fun q => if q = p then v else sB s q), sN s)
theorem cS.on {I : zI} {nH nP a p : Nat} {s : zT} {v : Int32} (h : cS I nH nP a s) : cS (qu I (a + 2) p v) nH nP a (sOset s p v) := by
  obtain ⟨c0, c1, c2, c3, c4, c5⟩ := h
  refine ⟨by rw [qu_off (Or.inl (by omega))]; exact c0, fun q hq => by rw [qu_off (Or.inl (by omega))]; exact c1 q hq, fun q hq => ?_, fun q hq => by rw [qu_off (Or.inl (by omega))]; exact c3 q hq, fun q hq => by rw [qu_off (Or.inl (by omega))]; exact c4 q hq, fun q hq => by rw [qu_off (Or.inl (by omega))]; exact c5 q hq⟩
  show qu I (a + 2) p v (a + 2) q = if q = p then v else sO s q
  rw [qu_eq]
  by_cases e : q = p
  · rw [if_pos e, if_pos e]
  · rw [if_neg e, if_neg e]; exact c2 q hq
theorem cS.bent {I : zI} {nH nP a p : Nat} {s : zT} {v : Int32} (h : cS I nH nP a s) : cS (qu I (a + 5) p v) nH nP a (sBset s p v) := by
  obtain ⟨c0, c1, c2, c3, c4, c5⟩ := h
  refine ⟨by rw [qu_off (Or.inl (by omega))]; exact c0, fun q hq => by rw [qu_off (Or.inl (by omega))]; exact c1 q hq, fun q hq => by rw [qu_off (Or.inl (by omega))]; exact c2 q hq, fun q hq => by rw [qu_off (Or.inl (by omega))]; exact c3 q hq, fun q hq => by rw [qu_off (Or.inl (by omega))]; exact c4 q hq, fun q hq => ?_⟩
  show qu I (a + 5) p v (a + 5) q = if q = p then v else sB s q
  rw [qu_eq]
  by_cases e : q = p
  · rw [if_pos e, if_pos e]
  · rw [if_neg e, if_neg e]; exact c5 q hq
theorem mR.on {I : zI} {nH nP r p : Nat} {s : zT} {v : Int32} (hP : nP ≤ 6) (hp : p < nP) (h : mR I nH nP r s) : mR (qu I r (6 + p) v) nH nP r (sOset s p v) := by
  obtain ⟨r0, r1, r2, r3, r4, r5, r6, r7⟩ := h
  refine ⟨by rw [qu_off (Or.inr (by omega))]; exact r0, fun q hq => by rw [qu_off (Or.inr (by omega))]; exact r1 q hq, fun q hq => ?_, fun q hq => by rw [qu_off (Or.inr (by omega))]; exact r3 q hq, fun q hq => by rw [qu_off (Or.inr (by omega))]; exact r4 q hq, fun q hq => by rw [qu_off (Or.inr (by omega))]; exact r5 q hq, fun q hq hq' => by rw [qu_off (Or.inr (by omega))]; exact r6 q hq hq', fun q hq hq' => by rw [qu_off (Or.inr (by omega))]; exact r7 q hq hq'⟩
  show qu I r (6 + p) v r (6 + q) = if q = p then v else sO s q
  by_cases e : q = p
  · rw [if_pos e, e, qu_same]
  · rw [if_neg e, qu_off (Or.inr (by omega))]; exact r2 q hq
theorem mR.bent {I : zI} {nH nP r p : Nat} {s : zT} {v : Int32} (hP : nP ≤ 6) (hp : p < nH) (hH : nH ≤ 7) (h : mR I nH nP r s) : mR (qu I r (24 + p) v) nH nP r (sBset s p v) := by
  obtain ⟨r0, r1, r2, r3, r4, r5, r6, r7⟩ := h
  refine ⟨by rw [qu_off (Or.inr (by omega))]; exact r0, fun q hq => by rw [qu_off (Or.inr (by omega))]; exact r1 q hq, fun q hq => by rw [qu_off (Or.inr (by omega))]; exact r2 q hq, fun q hq => by rw [qu_off (Or.inr (by omega))]; exact r3 q hq, fun q hq => by rw [qu_off (Or.inr (by omega))]; exact r4 q hq, fun q hq => ?_, fun q hq hq' => by rw [qu_off (Or.inr (by omega))]; exact r6 q hq hq', fun q hq hq' => by rw [qu_off (Or.inr (by omega))]; exact r7 q hq hq'⟩
  show qu I r (24 + p) v r (24 + q) = if q = p then v else sB s q
  by_cases e : q = p
  · rw [if_pos e, e, qu_same]
  · rw [if_neg e, qu_off (Or.inr (by omega))]; exact r5 q hq
theorem zW.on {nH nP p : Nat} {s : zT} {v : Int32} (h : zW nH nP s) (hv : v = -2 ∨ (zin v nH ∧ ∀ q, q < nP → ¬ sO s q = v)) : zW nH nP (sOset s p v) := by
  obtain ⟨w1, w2, w3, w4, w5, w6, w7⟩ := h
  refine ⟨w1, fun q hq => ?_, fun q q' hq hq' => ?_, w4, w5, w6, w7⟩
  · show (if q = p then v else sO s q) = -2 ∨ zin (if q = p then v else sO s q) nH
    by_cases e : q = p
    · rw [if_pos e]; exact hv.elim Or.inl (fun z => Or.inr z.1)
    · rw [if_neg e]; exact w2 q hq
  · show (if q = p then v else sO s q) = (if q' = p then v else sO s q') → ¬ (if q = p then v else sO s q) = -2 → q = q'
    by_cases e : q = p
    · rw [if_pos e]
      by_cases e' : q' = p
      · intro _ _; rw [e, e']
      · rw [if_neg e']
        intro z1 z2
        rcases hv with z | z
        · exact absurd z z2
        · exact absurd z1.symm (z.2 q' hq')
    · rw [if_neg e]
      by_cases e' : q' = p
      · rw [if_pos e']
        intro z1 z2
        rcases hv with z | z
        · exact absurd (z1.trans z) z2
        · exact absurd z1 (z.2 q hq)
      · rw [if_neg e']
        exact w3 q q' hq hq'
theorem zW.bent {nH nP p : Nat} {s : zT} {v : Int32} (h : zW nH nP s) (hv : zin v 100) : zW nH nP (sBset s p v) := by
  obtain ⟨w1, w2, w3, w4, w5, w6, w7⟩ := h
  refine ⟨w1, w2, w3, w4, w5, w6, fun q hq => ?_⟩
  show zin (if q = p then v else sB s q) 100
  by_cases e : q = p
  · rw [if_pos e]; exact hv
  · rw [if_neg e]; exact w7 q hq
/-- the reference sets a cell and records -/
theorem s_M_does {I : zI} {J : zJ} {t : zX} {live u k : Nat} {s s' : zT} {v : Int32} (hk : k < 32) (hu : u ≤ 40) (hQ : mQ I t live s) (h57 : I 361 57 = nI u) (hm : ∀ I' : zI, mR I' (xH t) (xP t) 394 s → mR (qu I' 394 k v) (xH t) (xP t) 394 s') {Q : zI → zJ → Prop} (hq : ∀ I' : zI, mDid I I' t s' u → Q I' J) : v_M_does 5000 (nI k) v I J Q := by
  refine hQ.copies (fun I1 o1 hX1 _ _ => ⟨vp_in_nI hk (by decide), fun I3 e3 => ?_⟩)
  rw [nI_clamp (by omega)] at e3
  refine s_M_records hQ.1 hu (by rw [e3, qu_off (Or.inl (by decide)), o1 _ _ (by decide) (by decide), h57]) (by rw [e3]; exact hm I1 hX1.2.2.2) (fun I4 d4 => hq I4 (d4.pre (fun b j q => ?_)))
  have := zE_out q
  rw [e3, qu_off (by omega), o1 b j (by omega) (by omega)]
theorem xDid.mk {I I' I1 : zI} {t : zX} {s s' : zT} {u x : Nat} (hx : x < 40) (g1 : cS I' (xH t) (xP t) (102 + 6 * x) s) (g2 : I' 100 1 = nI ((x + 1) % 40)) (g3 : I' 100 2 = nI (min 40 (u + 1))) (g4 : ∀ b j, b ≠ 100 → (b < 102 + 6 * x ∨ 107 + 6 * x < b) → I' b j = I b j) (o : ∀ b j, ¬ (49 ≤ b ∧ b ≤ 54) → b ≠ 62 → b ≠ 63 → b ≠ 65 → I1 b j = I' b j) (hc : cS I1 (xH t) (xP t) 49 s') (hw : zW (xH t) (xP t) s') : xDid I I1 t s s' u x :=
  ⟨g1.kept (fun b k q1 q2 => o b k (by omega) (by omega) (by omega) (by omega)), by rw [o _ _ (by decide) (by decide) (by decide) (by decide), g2], by rw [o _ _ (by decide) (by decide) (by decide) (by decide), g3], hc, hw, fun b j q1 q2 q3 q4 => by
    have := zE_out q1
    rw [o b j (by omega) (by omega) (by omega) (by omega), g4 b j q2 q3]⟩
theorem zok_hang : zOK_hang Rel := fun a0 a1 => zok_m (vX := v_X_hang 5000 a0 a1) (vM := v_M_hang 5000 a0 a1) (fun I J hR t live s u x hQ hu hx hu' hu40 hx40 => by
  have hX := hQ.1
  have hP := hX.1.2.1
  have hH := hX.1.1
  by_cases hz : zin a0 (xP t)
  · obtain ⟨p, hp, rfl⟩ := hz
    by_cases hy : zin a1 (xH t)
    · obtain ⟨h, hh, rfl⟩ := hy
      rcases z_on hX.2.2.1 hp with e | ⟨h', hh', e⟩
      · rcases zwho_neg (o := sO s) (x := nI h) hP with ⟨hn, hn'⟩ | ⟨hn, hn'⟩
        · refine Or.inr ⟨1, sOset s p (nI h), fun Q hq => hQ.xP1 hp (z_n z_10 (hQ.xH1 hh (z_nr z_10 (s_isHung hX hp (fun _ => z_yr z_00 (s_isTaken hX (fun _ => z_y z_00 (s_keep hX hu hx hu40 hx40 (fun I1 g1 g2 g3 g4 => ⟨vp_in_nI (by omega) (by decide), fun I2 e2 => ?_⟩))) (fun q => absurd hn q))) (fun h' hh' e' => absurd (e'.symm.trans e) (z_ne2 (by omega))))))), fun I1 Q hQ1 h57 hq => hQ1.P1 hp (z_n z_10 (hQ1.H1 hh (z_n z_10 ?_)))⟩
          · rw [nI_clamp (by omega)] at e2
            refine hq I2 (xDid.mk hx40 g1 g2 g3 g4 (fun b j q _ _ _ => by rw [e2, qu_off (by omega)]) ?_ (hX.2.2.1.on (Or.inr ⟨⟨h, hh, rfl⟩, hn'⟩)))
            rw [e2]
            exact (hX.2.2.2.1.kept (fun b k q1 q2 => g4 b k (by omega) (by omega))).on (a := 49)
          · rw [z_c6, nI_clamp (by omega), hQ1.2.2.2.2.2.1 p hp, e]
            refine ⟨vp_in_nI (by omega) (by decide), z_y z_neg2 (hQ1.copies (fun I2 o2 hX2 _ _ => s_M_whoIsOn hX2 (z_y hn ?_)))⟩
            exact s_M_does (s' := sOset s p (nI h)) (by omega) hu40 (hQ1.fS o2) (by rw [o2 _ _ (by decide) (by decide), h57]) (fun I' hm => hm.on hP hp) (fun I3 d3 => hq I3 (d3.pre (fun b j q => by
              have := zE_out q
              rw [o2 b j (by omega) (by omega)])))
        · refine Or.inl ⟨0, fun Q hq => hQ.xP1 hp (z_n z_10 (hQ.xH1 hh (z_nr z_10 (s_isHung hX hp (fun _ => z_yr z_00 (s_isTaken hX (fun q => absurd q hn) (fun q => z_n z_10 (hq I zK.rfl)))) (fun h' hh' e' => absurd (e'.symm.trans e) (z_ne2 (by omega))))))), fun I1 Q k1 hQ1 hq => hQ1.mP1 hp (z_n z_10 (hQ1.mH1 hh (z_n z_10 ?_)))⟩
          rw [z_c6, nI_clamp (by omega), hQ1.2.2.2.2.1 p hp, e]
          exact ⟨vp_in_nI (by omega) (by decide), z_y z_neg2 (hQ1.copies (fun I2 o2 hX2 _ _ => s_M_whoIsOn hX2 (z_n hn (hq I2 (zK.fS o2)))))⟩
      · refine Or.inl ⟨0, fun Q hq => hQ.xP1 hp (z_n z_10 (hQ.xH1 hh (z_nr z_10 (s_isHung hX hp (fun e' => absurd (e.symm.trans e') (z_ne2 (by omega))) (fun _ _ _ => z_nr z_10 (hq I zK.rfl)))))), fun I1 Q k1 hQ1 hq => hQ1.mP1 hp (z_n z_10 (hQ1.mH1 hh (z_n z_10 ?_)))⟩
        rw [z_c6, nI_clamp (by omega), hQ1.2.2.2.2.1 p hp, e]
        exact ⟨vp_in_nI (by omega) (by decide), z_n (nI_pos (by omega)) (hq I1 zK.rfl)⟩
    · exact Or.inl ⟨0, fun Q hq => hQ.xP1 hp (z_n z_10 (hQ.xH0 hy (z_yr z_00 (hq I zK.rfl)))), fun I1 Q k1 hQ1 hq => hQ1.mP1 hp (z_n z_10 (hQ1.mH0 hy (z_y z_00 (hq I1 zK.rfl))))⟩
  · exact Or.inl ⟨0, fun Q hq => hQ.xP0 hz (z_y z_00 (hq I zK.rfl)), fun I1 Q k1 hQ1 hq => hQ1.mP0 hz (z_y z_00 (hq I1 zK.rfl))⟩)
theorem zok_take : zOK_take Rel := fun a0 => zok_m (vX := v_X_take 5000 a0) (vM := v_M_take 5000 a0) (fun I J hR t live s u x hQ hu hx hu' hu40 hx40 => by
  have hX := hQ.1
  have hP := hX.1.2.1
  have hH := hX.1.1
  by_cases hz : zin a0 (xP t)
  · obtain ⟨p, hp, rfl⟩ := hz
    rcases z_on hX.2.2.1 hp with e | ⟨h, hh, e⟩
    · refine Or.inl ⟨0, fun Q hq => hQ.xP1 hp (z_n z_10 (s_isHung hX hp (fun _ => z_yr z_00 (hq I zK.rfl)) (fun h' hh' e' => absurd (e'.symm.trans e) (z_ne2 (by omega))))), fun I1 Q k1 hQ1 hq => hQ1.mP1 hp (z_n z_10 ?_)⟩
      rw [z_c6, nI_clamp (by omega), hQ1.2.2.2.2.1 p hp, e]
      exact ⟨vp_in_nI (by omega) (by decide), z_n (by decide) (hq I1 zK.rfl)⟩
    · refine Or.inr ⟨1, sOset s p (-2), fun Q hq => hQ.xP1 hp (z_n z_10 (s_isHung hX hp (fun e' => absurd (e.symm.trans e') (z_ne2 (by omega))) (fun _ _ _ => z_nr z_10 (s_keep hX hu hx hu40 hx40 (fun I1 g1 g2 g3 g4 => ⟨vp_in_nI (by omega) (by decide), fun I2 e2 => ?_⟩))))), fun I1 Q hQ1 h57 hq => hQ1.P1 hp (z_n z_10 ?_)⟩
      · rw [nI_clamp (by omega)] at e2
        refine hq I2 (xDid.mk hx40 g1 g2 g3 g4 (fun b j q _ _ _ => by rw [e2, qu_off (by omega)]) ?_ (hX.2.2.1.on (Or.inl rfl)))
        rw [e2]
        exact (hX.2.2.2.1.kept (fun b k q1 q2 => g4 b k (by omega) (by omega))).on (a := 49)
      · rw [z_c6, nI_clamp (by omega), hQ1.2.2.2.2.2.1 p hp, e]
        exact ⟨vp_in_nI (by omega) (by decide), z_y (nI_pos' (by omega)) (s_M_does (s' := sOset s p (-2)) (by omega) hu40 hQ1 h57 (fun I' hm => hm.on hP hp) (fun I3 d3 => hq I3 d3))⟩
  · exact Or.inl ⟨0, fun Q hq => hQ.xP0 hz (z_y z_00 (hq I zK.rfl)), fun I1 Q k1 hQ1 hq => hQ1.mP0 hz (z_y z_00 (hq I1 zK.rfl))⟩)
theorem zok_straighten : zOK_straighten Rel := fun a0 => zok_m (vX := v_X_straighten 5000 a0) (vM := v_M_straighten 5000 a0) (fun I J hR t live s u x hQ hu hx hu' hu40 hx40 => by
  have hX := hQ.1
  have hP := hX.1.2.1
  have hH := hX.1.1
  by_cases hz : zin a0 (xH t)
  · obtain ⟨h, hh, rfl⟩ := hz
    have e54 : I 54 h = sB s h := hX.2.2.2.1.2.2.2.2.2 h hh
    by_cases hb : sB s h = 0
    · refine Or.inl ⟨0, fun Q hq => hQ.xH1 hh (z_n z_10 (s_isTaken hX (fun _ => z_yr z_00 ⟨vp_in_nI (by omega) (by decide), by rw [nI_clamp (by omega), e54]; exact z_yr hb (hq I zK.rfl)⟩) (fun _ => z_nr z_10 (hq I zK.rfl)))), fun I1 Q k1 hQ1 hq => hQ1.mH1 hh (z_n z_10 ?_)⟩
      rw [z_c24, nI_clamp (by omega), hQ1.2.2.2.2.2.2.2.1 h hh]
      exact ⟨vp_in_nI (by omega) (by decide), z_yr hb (hq I1 zK.rfl)⟩
    · rcases zwho_neg (o := sO s) (x := nI h) hP with ⟨hn, hn'⟩ | ⟨hn, hn'⟩
      · refine Or.inr ⟨1, sBset s h 0, fun Q hq => hQ.xH1 hh (z_n z_10 (s_isTaken hX (fun _ => z_yr z_00 ?_) (fun q => absurd hn q))), fun I1 Q hQ1 h57 hq => hQ1.H1 hh (z_n z_10 ?_)⟩
        · rw [nI_clamp (by omega), e54]
          refine ⟨vp_in_nI (by omega) (by decide), z_nr hb (s_keep hX hu hx hu40 hx40 (fun I1 g1 g2 g3 g4 => ⟨vp_in_nI (by omega) (by decide), fun I2 e2 => ?_⟩))⟩
          refine hq I2 (xDid.mk hx40 g1 g2 g3 g4 (fun b j q _ _ _ => by rw [e2, qu_off (by omega)]) ?_ (hX.2.2.1.bent ⟨0, by decide, rfl⟩))
          rw [e2]
          exact (hX.2.2.2.1.kept (fun b k q1 q2 => g4 b k (by omega) (by omega))).bent (a := 49)
        · rw [z_c24, nI_clamp (by omega), hQ1.2.2.2.2.2.2.2.2.1 h hh]
          refine ⟨vp_in_nI (by omega) (by decide), z_nr hb (hQ1.copies (fun I2 o2 hX2 _ _ => s_M_whoIsOn hX2 (z_y hn ?_)))⟩
          exact s_M_does (s' := sBset s h 0) (by omega) hu40 (hQ1.fS o2) (by rw [o2 _ _ (by decide) (by decide), h57]) (fun I' hm => hm.bent hP hh hH) (fun I3 d3 => hq I3 (d3.pre (fun b j q => by
            have := zE_out q
            rw [o2 b j (by omega) (by omega)])))
      · refine Or.inl ⟨0, fun Q hq => hQ.xH1 hh (z_n z_10 (s_isTaken hX (fun q => absurd q hn) (fun _ => z_nr z_10 (hq I zK.rfl)))), fun I1 Q k1 hQ1 hq => hQ1.mH1 hh (z_n z_10 ?_)⟩
        rw [z_c24, nI_clamp (by omega), hQ1.2.2.2.2.2.2.2.1 h hh]
        exact ⟨vp_in_nI (by omega) (by decide), z_nr hb (hQ1.copies (fun I2 o2 hX2 _ _ => s_M_whoIsOn hX2 (z_n hn (hq I2 (zK.fS o2)))))⟩
  · exact Or.inl ⟨0, fun Q hq => hQ.xH0 hz (z_y z_00 (hq I zK.rfl)), fun I1 Q k1 hQ1 hq => hQ1.mH0 hz (z_y z_00 (hq I1 zK.rfl))⟩)
