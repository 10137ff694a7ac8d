/-! two: the reference's pairs -/
def zpM (pr : Nat → Nat → Bool) (n P : Nat) : Bool := if P / 6 < P % 6 then if P % 6 < n then pr (P / 6) (P % 6) else false else false
theorem zFM_s (pr : Nat → Nat → Bool) (n r P : Nat) (L : List (Nat × Nat)) : zFM pr n (r + 1) P L = zFM pr n r (P + 1) (if zpM pr n P = true then (P / 6, P % 6) :: L else L) := by
  rw [zFM]
  unfold zpM
  by_cases h1 : P / 6 < P % 6
  · rw [if_pos h1, if_pos h1]
    by_cases h2 : P % 6 < n
    · rw [if_pos h2, if_pos h2]
    · rw [if_neg h2, if_neg h2, if_neg (by decide)]
  · rw [if_neg h1, if_neg h1, if_neg (by decide)]
theorem z_m6' (l h : Nat) : (6 : Int32) * nI l + nI h = nI (6 * l + h) := z_m6 l h
theorem s_M_fp78 {J : zJ} {P : Nat} (hP36 : P < 36) {x1 x2 : Int32} {Q : Int32 → zI → zJ → Prop} {K : Int32 → Int32 → Int32 → zI → zJ → Prop} : ∀ r i k (I : zI), i + r = 6 → r < k → (∀ I' : zI, (∀ b j, b ≠ 407 → I' b j = I b j) → (∀ j, ¬ (6 * P + i ≤ j ∧ j < 6 * P + 6) → I' 407 j = I 407 j) → (∀ c, i ≤ c → c < 6 → I' 407 (6 * P + c) = I 394 (12 + c)) → K x1 x2 (nI P) I' J) → v_M_fillsPairs_78 5000 k x1 x2 (nI P) (nI i) I J Q K
  | _, _, 0, _, _, hk, _ => absurd hk (Nat.not_lt_zero _)
  | 0, i, k + 1, I, hi, hk, hq => z_y (nI_le (a := 6) (by omega) (by omega)) (hq I (fun _ _ _ => rfl) (fun _ _ => rfl) (fun c h1 h2 => absurd h1 (by omega)))
  | r + 1, i, k + 1, I, hi, hk, hq => by
    rw [v_M_fillsPairs_78]; dsimp only; rw [z_c12, z_m6, nI_clamp (by omega), nI_clamp (by omega), nI_1]
    refine z_n (nI_ge (b := 6) (by omega) (by decide)) ⟨vp_in_nI (by omega) (by decide), vp_in_nI (by omega) (by decide), fun I4 e4 => ?_⟩
    have o4 : ∀ b j, b ≠ 407 → I4 b j = I b j := fun b j q => by rw [e4, qu_off (Or.inl q)]
    have c4 : ∀ j, j ≠ 6 * P + i → I4 407 j = I 407 j := fun j q => by rw [e4, qu_off (Or.inr q)]
    refine s_M_fp78 hP36 r (i + 1) k I4 (by omega) (by omega) (fun I' o' g' f' => hq I' (fun b j q => by rw [o' b j q, o4 b j q]) (fun j q => by rw [g' j (by omega), c4 j (by omega)]) (fun c h1 h2 => ?_))
    by_cases hc : c = i
    · subst hc
      rw [g' _ (by omega), e4, qu_same]
    · rw [f' c (by omega) h2, o4 _ _ (by decide)]
theorem s_M_fp116 {J : zJ} {who slf so S : Nat → Int32} {td nP kk P : Nat} (hP36 : P < 36) (hP : nP ≤ 6) (hkk : kk ≤ td) {x2 : Int32} {Q : Int32 → zI → zJ → Prop} {K : Int32 → Int32 → Int32 → zI → zJ → Prop} : ∀ r i k (v : Bool) (I : zI), zTd I who slf so td nP → (∀ p, p < nP → I 394 (12 + p) = S p) → I 406 P = zb01 v → i + r = kk → r < k → (∀ I' : zI, (∀ b j, ¬ (b = 406 ∧ j = P) → I' b j = I b j) → I' 406 P = zb01 (v && zcb S who slf so r i) → K (nI kk) x2 (nI P) I' J) → v_M_fillsPairs_116 5000 k (nI kk) x2 (nI P) (nI i) I J Q K
  | _, _, 0, _, _, _, _, _, _, hk, _ => absurd hk (Nat.not_lt_zero _)
  | 0, i, k + 1, v, I, hT, hS, hv, hi, hk, hq => by
    have h20 := hT.2.2.1
    exact z_y (nI_le (by omega) (by omega)) (hq I (fun _ _ _ => rfl) (by rw [zcb, Bool.and_true]; exact hv))
  | r + 1, i, k + 1, v, I, hT, hS, hv, hi, hk, hq => by
    have h20 := hT.2.2.1
    obtain ⟨g1, g2, ⟨w, hw, ew⟩, g3, g4, g5, g6, g7⟩ := hT.2.2.2 i (by omega)
    rw [zcb, ew, nI_clamp (by omega)] at hq
    rw [v_M_fillsPairs_116]; dsimp only; rw [nI_clamp (n := i) (by omega), g2, g4, ew, z_c12, nI_clamp (n := 12 + w) (by omega), hS w hw]
    have v20 : vp_in (nI i) 20 := vp_in_nI (by omega) (by decide)
    have go : ∀ z : Int32, (∀ I' : zI, (∀ b j, ¬ (b = 406 ∧ j = P) → I' b j = I b j) → I' 406 P = zb01 (v && if z = so i then zcb S who slf so r (i + 1) else false) → K (nI kk) x2 (nI P) I' J) → v_M_fillsPairs_152 5000 (nI kk) x2 (nI P) (nI i) z I J Q (fun x1 x2 x3 x6 I J => v_M_fillsPairs_116 5000 k x1 x2 x3 x6 I J Q K) := fun z hz => by
      unfold v_M_fillsPairs_152
      rw [nI_clamp (n := i) (by omega), g6, nI_1]
      refine ⟨v20, fun q => ?_, fun q => ⟨vp_in_nI (by omega) (by decide), fun I4 e4 => ?_⟩⟩
      · rw [if_pos q] at hz
        exact s_M_fp116 hP36 hP hkk r (i + 1) k v I hT hS hv (by omega) (by omega) hz
      · rw [if_neg q, Bool.and_false] at hz
        rw [nI_clamp (by omega), z_nar01 (Or.inl rfl)] at e4
        have o4 : ∀ b j, ¬ (b = 406 ∧ j = P) → I4 b j = I b j := fun b j q => by rw [e4, qu_off (by omega)]
        have hT4 : zTd I4 who slf so td nP := by
          obtain ⟨t1, t2, t3, t4⟩ := hT
          refine ⟨by rw [o4 _ _ (by omega)]; exact t1, by rw [o4 _ _ (by omega)]; exact t2, t3, fun i hi => ?_⟩
          rw [o4 84 i (by omega), o4 85 i (by omega), o4 86 i (by omega), o4 403 i (by omega), o4 404 i (by omega), o4 405 i (by omega)]
          exact t4 i hi
        refine s_M_fp116 (S := S) hP36 hP hkk r (i + 1) k false I4 hT4 (fun p hp => by rw [o4 _ _ (by omega)]; exact hS p hp) (by rw [e4, qu_same]; rfl) (by omega) (by omega) (fun I' o' h' => hz I' (fun b j q => by rw [o' b j q, o4 b j q]) ?_)
        rw [Bool.false_and] at h'
        exact h'
    refine z_n (nI_ge (by omega) (by omega)) ⟨v20, vp_in_nI (by omega) (by decide), v20, fun q => ?_, fun q => ?_⟩
    · rw [if_neg q] at hq
      exact go 0 hq
    · rw [if_pos q] at hq
      exact go 1 hq
section
variable {t : zX} {live kk td : Nat} {s : zT} {who slf so : Nat → Int32}
/-- what the reference has of the pairs ahead of P -/
def zPM (I : zI) (t : zX) (s : zT) (who slf so : Nat → Int32) (kk P : Nat) : Prop := ∀ p, p < P → I 406 p = zb01 (zpM (zpr t s who slf so kk) (xP t) p) ∧ (zpM (zpr t s who slf so kk) (xP t) p = true → ∀ c, c < xP t → I 407 (6 * p + c) = zSn t (zswap s (p / 6) (p % 6)) c)
abbrev frF (P : Nat) (I I' : zI) : Prop := ∀ b j, (zE b j ∨ (b = 406 ∧ j ≠ P) ∨ (b = 407 ∧ (j < 6 * P ∨ 6 * P + 6 ≤ j))) → I' b j = I b j
theorem zK.fF {P : Nat} {I I' : zI} {J : zJ} (e : frF P I I') : zK I I' J J := zK.of (fun b j q => e b j (Or.inl q))
theorem zPM.step {I I' : zI} {P : Nat} (h : zPM I t s who slf so kk P) (hP : xP t ≤ 6) (o : frF P I I') (h6 : I' 406 P = zb01 (zpM (zpr t s who slf so kk) (xP t) P)) (h7 : zpM (zpr t s who slf so kk) (xP t) P = true → ∀ c, c < xP t → I' 407 (6 * P + c) = zSn t (zswap s (P / 6) (P % 6)) c) : zPM I' t s who slf so kk (P + 1) := fun p hp => by
  by_cases e : p = P
  · rw [e]; exact ⟨h6, h7⟩
  · obtain ⟨g1, g2⟩ := h p (by omega)
    refine ⟨by rw [o 406 p (Or.inr (Or.inl ⟨rfl, e⟩))]; exact g1, fun q c hc => ?_⟩
    rw [o 407 (6 * p + c) (Or.inr (Or.inr ⟨rfl, by omega⟩))]; exact g2 q c hc
theorem s_M_fp50 {I : zI} {J : zJ} {P : Nat} {x2 z : Int32} (hP36 : P < 36) (hkk : kk ≤ td) (hQ : zQ I t live s) (hT : zTd I who slf so td (xP t)) (hM : zPM I t s who slf so kk P) (hz : z = 1 → P / 6 < P % 6 ∧ zup (xP t) s (P / 6) (P % 6)) (hz0 : z = 0 ∨ z = 1) (hz1 : z = 0 → zpM (zpr t s who slf so kk) (xP t) P = false) {Q : Int32 → zI → zJ → Prop} {K : Int32 → Int32 → Int32 → zI → zJ → Prop} (hq : ∀ I' : zI, zK I I' J J → zPM I' t s who slf so kk (P + 1) → K (nI kk) (if zpM (zpr t s who slf so kk) (xP t) P = true then x2 + 1 else x2) (nI (P + 1)) I' J) : v_M_fillsPairs_50 5000 (nI kk) x2 (nI P) (nI (P / 6)) (nI (P % 6)) z (nI P) I J Q K := by
  have hP := hQ.1.1.2.1
  have h20 := hT.2.2.1
  refine ⟨vp_in_nI hP36 (by decide), fun I2 e2 => ⟨vp_in_nI hP36 (by decide), ?_⟩⟩
  rw [nI_clamp (by omega), z_nar01 hz0] at e2
  have o2 : ∀ b j, ¬ (b = 406 ∧ j = P) → I2 b j = I b j := fun b j q => by rw [e2, qu_off (by omega)]
  have k2 : zK I I2 J J := zK.of (fun b j q => o2 b j (by have := zE_out q; omega))
  have e406 : I2 406 P = z := by rw [e2, qu_same]
  have hM2 : ∀ p, p < P → I2 406 p = I 406 p := fun p hp => o2 _ _ (by omega)
  rw [nI_clamp (by omega), e406]
  rcases hz0 with h0 | h1
  · rw [h0, nI_1]
    refine z_yr rfl ?_
    have hb := hz1 h0
    rw [if_neg (by rw [hb]; decide)] at hq
    refine hq I2 k2 (hM.step hP (fun b j q => o2 b j (by
      rcases q with q | q | q
      · have := zE_out q; omega
      · omega
      · omega)) (by rw [e406, h0, hb]; rfl) (fun q => by rw [hb] at q; cases q))
  · rw [h1]
    obtain ⟨hlt, hu⟩ := hz h1
    have hpm : zpM (zpr t s who slf so kk) (xP t) P = zcb (zSn t (zswap s (P / 6) (P % 6))) who slf so kk 0 := by
      unfold zpM zpr
      rw [if_pos hlt, if_pos hu.2.1, if_neg hu.2.2.2.1, if_neg hu.2.2.2.2]
    refine z_nr z_10 (s_M_changesFor (hQ.kept k2).m hu.1 hu.2.1 (fun I5 o5 hX5 h51 h52 => s_M_stillGoes h52 hX5 (fun I6 hX6 o6 => ?_)))
    have hS : ∀ p, p < xP t → I6 394 (12 + p) = zSn t (zswap s (P / 6) (P % 6)) p := fun p hp => by
      have := hX6.2.2.2.2.2.2.1 p hp
      rw [still_S] at this
      exact this
    have o6' : ∀ b j, (zE b j ∨ b = 406 ∨ b = 407) → I6 b j = I2 b j := fun b j q => by
      have : ((1 ≤ b ∧ b ≤ 3) ∨ (8 ≤ b ∧ b ≤ 26) ∨ (49 ≤ b ∧ b ≤ 54) ∨ (83 ≤ b ∧ b ≤ 86) ∨ b = 100 ∨ (102 ≤ b ∧ b ≤ 341) ∨ (343 ≤ b ∧ b ≤ 362) ∨ (371 ≤ b ∧ b ≤ 389) ∨ b = 393 ∨ b = 399 ∨ (403 ≤ b ∧ b ≤ 409)) ∧ (b = 361 → j = 2 ∨ j = 17 ∨ j = 18 ∨ j = 57 ∨ j = 63) := by
        rcases q with q | q | q
        · have := zE_out q; omega
        · omega
        · omega
      rw [o6 b j (by omega) (by omega) (by omega) (by omega), o5 b j (by omega) (by omega)]
    refine s_M_fp78 hP36 6 0 5000 I6 (by omega) (by omega) (fun I10 o10 g10 f10 => ?_)
    have k6 : zK I2 I6 J J := zK.of (fun b j q => o6' b j (Or.inl q))
    have k10 : zK I6 I10 J J := zK.of (fun b j q => o10 b j (by have := zE_out q; omega))
    refine s_M_fp116 (S := zSn t (zswap s (P / 6) (P % 6))) hP36 hP hkk kk 0 5000 true I10 (hT.kept (k2.trans (k6.trans k10))) (fun p hp => by rw [o10 _ _ (by decide)]; exact hS p hp) (by rw [o10 _ _ (by decide), o6' _ _ (Or.inr (Or.inl rfl)), e406, h1]; rfl) (by omega) (by omega) (fun I14 o14 h14 => ⟨vp_in_nI hP36 (by decide), ?_⟩)
    rw [Bool.true_and, ← hpm] at h14
    have k14 : zK I10 I14 J J := zK.of (fun b j q => o14 b j (by have := zE_out q; omega))
    have hfin : zPM I14 t s who slf so kk (P + 1) := hM.step hP (fun b j q => by
      rcases q with q | q | q
      · exact (k2.trans (k6.trans (k10.trans k14))).1 b j q
      · rw [o14 b j (by omega), o10 b j (by omega), o6' b j (Or.inr (Or.inl q.1)), o2 b j (by omega)]
      · rw [q.1, o14 407 j (by omega), g10 j (by omega), o6' 407 j (Or.inr (Or.inr rfl)), o2 407 j (by omega)]) h14 (fun _ c hc => by rw [o14 _ _ (by omega), f10 c (Nat.zero_le _) (by omega), hS c hc])
    rw [nI_clamp (by omega), h14, nI_1]
    have hq := hq I14 (k2.trans (k6.trans (k10.trans k14))) hfin
    cases hb : zpM (zpr t s who slf so kk) (xP t) P with
    | true =>
      rw [hb, if_pos rfl] at hq
      exact z_n z_10 hq
    | false =>
      rw [hb, if_neg (by decide)] at hq
      exact z_y z_00 hq
theorem s_M_fp4 {J : zJ} (hkk : kk ≤ td) {Q : Int32 → zI → zJ → Prop} : ∀ r P k (L : List (Nat × Nat)) (I : zI), zQ I t live s → zTd I who slf so td (xP t) → zPM I t s who slf so kk P → P + r = 36 → r < k → (∀ I' : zI, zK I I' J J → zPM I' t s who slf so kk 36 → Q (nI (zFM (zpr t s who slf so kk) (xP t) r P L).length) I' J) → v_M_fillsPairs_4 5000 k (nI kk) (nI L.length) (nI P) I J Q
  | _, _, 0, _, _, _, _, _, _, hk, _ => absurd hk (Nat.not_lt_zero _)
  | 0, P, k + 1, L, I, hQ, hT, hM, hi, hk, hq => by
    rw [show P = 36 by omega] at hM ⊢
    exact z_y (by decide) (hq I zK.rfl hM)
  | r + 1, P, k + 1, L, I, hQ, hT, hM, hi, hk, hq => by
    have hP := hQ.1.1.2.1
    rw [zFM_s] at hq
    have hgo : ∀ I' : zI, zK I I' J J → zPM I' t s who slf so kk (P + 1) → v_M_fillsPairs_4 5000 k (nI kk) (if zpM (zpr t s who slf so kk) (xP t) P = true then nI L.length + 1 else nI L.length) (nI (P + 1)) I' J Q := fun I1 k1 hM1 => by
      cases hb : zpM (zpr t s who slf so kk) (xP t) P with
      | true =>
        rw [hb, if_pos rfl] at hq
        rw [if_pos rfl, nI_1]
        exact s_M_fp4 hkk r (P + 1) k ((P / 6, P % 6) :: L) I1 (hQ.kept k1) (hT.kept k1) hM1 (by omega) (by omega) (fun I' k' h' => hq I' (k1.trans k') h')
      | false =>
        rw [hb, if_neg (by decide)] at hq
        rw [if_neg (by decide)]
        exact s_M_fp4 hkk r (P + 1) k L I1 (hQ.kept k1) (hT.kept k1) hM1 (by omega) (by omega) (fun I' k' h' => hq I' (k1.trans k') h')
    rw [v_M_fillsPairs_4]
    refine z_n (nI_ge (b := 36) (by omega) (by decide)) ⟨by decide, fun y3 e3 => ⟨by decide, fun y5 e5 => ?_⟩⟩
    have e3 : y3 = nI (P / 6) := e3.trans (nI_div (b := 6) (by omega) (by decide))
    have e5 : y5 = nI (P % 6) := e5.trans (nI_mod (b := 6) (by omega) (by decide))
    have h6 : P % 6 < 6 := Nat.mod_lt _ (by decide)
    have h66 : P / 6 < 6 := by omega
    rw [e3, e5]
    have no : zpM (zpr t s who slf so kk) (xP t) P = false → v_M_fillsPairs_50 5000 (nI kk) (nI L.length) (nI P) (nI (P / 6)) (nI (P % 6)) 0 (nI P) I J Q (fun x1 x2 x3 I J => v_M_fillsPairs_4 5000 k x1 x2 x3 I J Q) := fun hb => s_M_fp50 (by omega) hkk hQ hT hM (fun z => absurd z (by decide)) (Or.inl rfl) (fun _ => hb) hgo
    refine ⟨fun q => no ?_, fun q => s_M_areUp hQ.m (by omega) (by omega) (fun h => z_n z_10 ?_) (fun h => z_y z_00 (no ?_))⟩
    · have := (nI_leI (by omega) (by omega)).mp q
      unfold zpM
      rw [if_neg (by omega)]
    · have : ¬ P % 6 ≤ P / 6 := fun z => q (nI_le z (by omega))
      exact s_M_fp50 (by omega) hkk hQ hT hM (fun _ => ⟨by omega, h⟩) (Or.inr rfl) (fun z => absurd z (by decide)) hgo
    · have hlt : ¬ P % 6 ≤ P / 6 := fun z => q (nI_le z (by omega))
      unfold zpM
      rw [if_pos (by omega)]
      by_cases h2 : P % 6 < xP t
      · rw [if_pos h2]
        unfold zpr
        by_cases h3 : sO s (P / 6) < 0
        · rw [if_pos h3]
        · rw [if_neg h3]
          by_cases h4 : sO s (P % 6) < 0
          · rw [if_pos h4]
          · exact absurd ⟨by omega, h2, by omega, h3, h4⟩ h
      · rw [if_neg h2]
theorem zPM_0 (I : zI) : zPM I t s who slf so kk 0 := fun p hp => absurd hp (Nat.not_lt_zero _)
theorem s_M_two_45 {I : zI} {J : zJ} {ii : Nat} (hii : ii < 2 ^ 31) (hM : zPM I t s who slf so kk 36) {Q : Int32 → zI → zJ → Prop} {K : Int32 → zI → zJ → Prop} : ∀ r P k (L : List (Nat × Nat)), P + r = 36 → r + 1 < k → L.length ≤ ii → ii < (zFM (zpr t s who slf so kk) (xP t) r P L).length → (∀ P', P' < 36 → zsel (zFM (zpr t s who slf so kk) (xP t) r P L) ii = 10 * nI (P' / 6) + nI (P' % 6) → K (nI P') I J) → v_M_two_45 5000 k (nI ii) (nI L.length - 1) (nI P - 1) I J Q K
  | _, _, 0, _, _, hk, _, _, _ => absurd hk (Nat.not_lt_zero _)
  | 0, P, k + 1, L, hi, hk, hL, hlt, hq => by
    rw [zFM] at hlt
    exact absurd hlt (by omega)
  | r + 1, P, k + 1, L, hi, hk, hL, hlt, hq => by
    have hno : ¬ nI ii ≤ nI L.length - 1 := by
      rcases Nat.eq_zero_or_pos L.length with e | e
      · rw [e]
        intro z
        exact absurd (Int32.le_trans (nI_pos' hii) z) (by decide)
      · obtain ⟨m, em⟩ : ∃ m, L.length = m + 1 := ⟨L.length - 1, by omega⟩
        rw [em, nI_pred]
        exact nI_ge (by omega) hii
    rw [v_M_two_45]; dsimp only; rw [Int32.sub_add_cancel, Int32.sub_add_cancel, nI_clamp (by omega), (hM P (by omega)).1]
    rw [zFM_s] at hlt hq
    refine z_n hno ⟨vp_in_nI (by omega) (by decide), ?_⟩
    cases hb : zpM (zpr t s who slf so kk) (xP t) P with
    | false =>
      rw [hb, if_neg (by decide)] at hlt hq
      refine z_y rfl ?_
      rw [show nI P = nI (P + 1) - 1 from (nI_pred P).symm]
      exact s_M_two_45 hii hM r (P + 1) k L (by omega) (by omega) hL hlt hq
    | true =>
      rw [hb, if_pos rfl] at hlt hq
      refine z_n z_10 ?_
      by_cases hc : L.length = ii
      · obtain ⟨k', rfl⟩ : ∃ k', k = k' + 1 := ⟨k - 1, by omega⟩
        rw [v_M_two_45]
        refine z_y (by rw [hc]; exact Int32.le_refl _) (hq P (by omega) ?_)
        obtain ⟨X, eX, _⟩ := zFM_app (zpr t s who slf so kk) (xP t) r (P + 1) ((P / 6, P % 6) :: L)
        rw [eX, zsel_in hc]
      · rw [show nI P = nI (P + 1) - 1 from (nI_pred P).symm, show nI L.length = nI (L.length + 1) - 1 from (nI_pred _).symm]
        exact s_M_two_45 hii hM r (P + 1) k ((P / 6, P % 6) :: L) (by omega) (by omega) (by show L.length + 1 ≤ ii; omega) hlt hq
end
theorem z_kn1 {I : zI} {J : zJ} {td kk : Nat} (h : I 83 7 = nI td) (htd : td ≤ 20) (hkk : kk ≤ td) {Q : Int32 → zI → zJ → Prop} (hq : Q 1 I J) : v_X_isKnown 5000 (nI kk) I J Q := by
  unfold v_X_isKnown
  rw [h]
  exact z_n (nI_pos (by omega)) (z_n (nI_nlt (by omega) (by omega)) hq)
theorem z_kn0 {I : zI} {J : zJ} {td : Nat} {x : Int32} (h : I 83 7 = nI td) (htd : td ≤ 20) (hx : ¬ zin x (td + 1)) {Q : Int32 → zI → zJ → Prop} (hq : Q 0 I J) : v_X_isKnown 5000 x I J Q := by
  unfold v_X_isKnown
  rw [h]
  rcases rng_no (n := td) (by omega) hx with q | ⟨q1, q2, q3, q4⟩
  · exact z_y q hq
  · exact z_n q1 (z_y q3 hq)
theorem zok_two : zOK_two Rel := fun a0 a1 => zok_q (vX := v_X_two 5000 a0 a1) (vM := v_M_two 5000 a0 a1) (fun I J hR t live s hQ => by
  have hP := hQ.1.1.2.1
  obtain ⟨who, slf, so, td, hT⟩ := hR.td hQ
  have h20 := hT.2.2.1
  by_cases hz : zin a0 (td + 1)
  · obtain ⟨kk, hkk, rfl⟩ := hz
    have hkk : kk ≤ td := by omega
    have vin : ∀ (I1 : zI) (Q : Int32 → zI → zJ → Prop), zK I I1 J J → Q 1 I1 J → v_M_in 5000 (nI kk) 0 (I1 361 63) I1 J Q := fun I1 Q k1 hq => by
      rw [(hT.kept k1).2.1]
      exact z_in1 (n := td + 1) (nI_pred td) (by omega) (by omega) hq
    by_cases h1 : -1 ≤ a1
    · by_cases h2 : a1 = -1
      · refine ⟨nI (zF1 (zpr t s who slf so kk) (xP t) 0 []).length, fun Q hq => z_kn1 hT.1 h20 hkk (z_n z_10 (z_y h1 (z_yr h2 (s_pairsLeft_5 hkk (xP t) 0 5000 [] I hQ hT (by omega) (by omega) (fun I' o' => hq I' (zK.t2 o')))))), fun I1 Q k1 hQ1 hq => vin I1 _ k1 (z_n z_10 (z_y h1 (s_M_fp4 hkk 36 0 5000 [] I1 hQ1 (hT.kept k1) (zPM_0 I1) (by omega) (by omega) (fun I6 k6 h6 => z_yr h2 ?_))))⟩
        rw [zF_eq _ hP]
        exact hq I6 k6
      · have h3 : ¬ a1 < 0 := fun z => by
          have z1 := Int32.lt_iff_toInt_lt.mp z
          have z2 := Int32.le_iff_toInt_le.mp h1
          apply h2
          apply Int32.toInt_inj.mp
          have e0 : (0 : Int32).toInt = 0 := rfl
          have e1 : (-1 : Int32).toInt = -1 := rfl
          rw [e0] at z1
          rw [e1] at z2 ⊢
          omega
        obtain ⟨ii, hii, rfl⟩ := nI_of h3
        refine ⟨zsel (zF1 (zpr t s who slf so kk) (xP t) 0 []) ii, fun Q hq => z_kn1 hT.1 h20 hkk (z_n z_10 (z_y h1 (z_nr h2 (s_pairLeft_6 hii hkk (xP t) 0 5000 [] I hQ hT (by omega) (by omega) (Nat.zero_le _) (fun I' o' => hq I' (zK.t2 o')))))), fun I1 Q k1 hQ1 hq => vin I1 _ k1 (z_n z_10 (z_y h1 (s_M_fp4 hkk 36 0 5000 [] I1 hQ1 (hT.kept k1) (zPM_0 I1) (by omega) (by omega) (fun I6 k6 h6 => z_nr h2 ?_))))⟩
        rw [← zF_eq _ hP] at hq
        obtain ⟨X, eX, hX⟩ := zFM_app (zpr t s who slf so kk) (xP t) 36 0 []
        have hlen : (zFM (zpr t s who slf so kk) (xP t) 36 0 []).length ≤ 36 := by rw [eX, List.append_nil]; exact hX
        refine ⟨fun q => ?_, fun q => ?_⟩
        · have hlt := (nI_ltI hii (by omega)).mp q
          refine s_M_two_45 hii h6 36 0 5000 [] (by omega) (by omega) (Nat.zero_le _) hlt (fun P' hP' e => ⟨by decide, by decide, ?_⟩)
          have e1 : nI P' / 6 = nI (P' / 6) := nI_div (b := 6) (by omega) (by decide)
          have e2 : nI P' - nI P' / 6 * 6 = nI (P' % 6) := nI_mod (b := 6) (by omega) (by decide)
          rw [e2, e1, ← e]
          exact hq I6 k6
        · rw [zsel_out (Nat.not_lt.mp (fun z => q (nI_lt z (by omega))))] at hq
          exact hq I6 k6
    · exact ⟨-1, fun Q hq => z_kn1 hT.1 h20 hkk (z_n z_10 (z_n h1 (hq I zK.rfl))), fun I1 Q k1 hQ1 hq => vin I1 _ k1 (z_n z_10 (z_n h1 (hq I1 zK.rfl)))⟩
  · refine ⟨-1, fun Q hq => z_kn0 hT.1 h20 hz (z_y z_00 (hq I zK.rfl)), fun I1 Q k1 hQ1 hq => ?_⟩
    unfold v_M_two
    rw [(hT.kept k1).2.1]
    exact z_in0 (n := td + 1) (nI_pred td) (by omega) hz (z_y z_00 (hq I1 zK.rfl)))
