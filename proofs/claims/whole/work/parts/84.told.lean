/-! two, ask: which two it can be -/
def zTd (I : zI) (who slf so : Nat → Int32) (td nP : Nat) : Prop := I 83 7 = nI td ∧ I 361 63 = nI td ∧ td ≤ 20 ∧ ∀ i, i < td → I 84 i = who i ∧ I 403 i = who i ∧ zin (who i) nP ∧ I 85 i = slf i ∧ I 404 i = slf i ∧ I 86 i = so i ∧ I 405 i = so i ∧ qzb (so i)
theorem zTd.kept {I I' : zI} {J J' : zJ} {who slf so : Nat → Int32} {td nP : Nat} (h : zTd I who slf so td nP) (e : zK I I' J J') : zTd I' who slf so td nP := by
  obtain ⟨h1, h2, h3, h4⟩ := h
  refine ⟨by rw [e.told (by omega)]; exact h1, by rw [e.told (by omega)]; exact h2, h3, fun i hi => ?_⟩
  rw [e.told (b := 84) (by omega), e.told (b := 85) (by omega), e.told (b := 86) (by omega), e.told (b := 403) (by omega), e.told (b := 404) (by omega), e.told (b := 405) (by omega)]
  exact h4 i hi
theorem Rel.td {I : zI} {J : zJ} (h : Rel I J) {t : zX} {live : Nat} {s : zT} (hQ : zQ I t live s) : ∃ who slf so td, zTd I who slf so td (xP t) := by
  obtain ⟨n, nH, nP, live', u, x, td, m, h1, h2, h3, h4, h5, h6, h7, h8⟩ := h
  have hP := hQ.1.1.2.1
  have e : nP = xP t := by
    have e1 := h3.2.2.2.2.2.2.1
    have e2 := hQ.1.2.1.2.1
    have e3 := h3.2.2.1
    exact (nI_eq (by omega) (by omega)).mp (e1.symm.trans e2)
  obtain ⟨t1, t2, t3, t4⟩ := h6
  refine ⟨I 84, I 85, I 86, td, t2, t3, t1, fun i hi => ?_⟩
  obtain ⟨g1, g2, g3, g4, g5, g6⟩ := t4 i hi
  rw [e] at g2
  exact ⟨rfl, g1.symm, g2, rfl, g3.symm, rfl, g5.symm, g6⟩
/-- what is told fits the morning -/
def zcb (S who slf so : Nat → Int32) : Nat → Nat → Bool
  | 0, _ => true
  | r + 1, i => if (if S (who i).toNatClampNeg = slf i then (1 : Int32) else 0) = so i then zcb S who slf so r (i + 1) else false
def zb01 (b : Bool) : Int32 := if b = true then 1 else 0
theorem s_canBe_49 {I : zI} {J : zJ} {who slf so S : Nat → Int32} {td nP kk : Nat} (hP : nP ≤ 6) (hT : zTd I who slf so td nP) (hS : ∀ p, p < nP → I 97 p = S p) (hkk : kk ≤ td) {Q : Int32 → zI → zJ → Prop} : ∀ r i k, i + r = kk → r < k → Q (zb01 (zcb S who slf so r i)) I J → v_Told_canBe_49 5000 k (nI kk) (nI i) I J Q
  | _, _, 0, _, hk, _ => absurd hk (Nat.not_lt_zero _)
  | 0, i, k + 1, hi, hk, hq => by
    have h20 := hT.2.2.1
    exact z_y (nI_le (by omega) (by omega)) hq
  | r + 1, i, k + 1, hi, hk, hq => by
    have h20 := hT.2.2.1
    obtain ⟨g1, g2, ⟨w, hw, ew⟩, g3, g4, g5, g6, g7⟩ := hT.2.2.2 i (by omega)
    rw [zcb, ew, nI_clamp (by omega)] at hq
    rw [v_Told_canBe_49]; dsimp only; rw [hT.1, nI_clamp (by omega), g1, g3, g5, ew, nI_clamp (by omega), hS w hw, nI_1]
    have v : vp_in (nI i) 20 := vp_in_nI (by omega) (by decide)
    refine z_n (nI_ge (by omega) (by omega)) (z_n (nI_ge (by omega) (by omega)) ⟨v, vp_in_nI (by omega) (by decide), v, fun q => ⟨v, ?_⟩, fun q => ⟨v, ?_⟩⟩)
    · rw [if_neg q] at hq
      refine ⟨fun q' => ?_, fun q' => ?_⟩
      · rw [if_pos q'] at hq
        exact s_canBe_49 hP hT hS hkk r (i + 1) k (by omega) (by omega) hq
      · rw [if_neg q'] at hq; exact hq
    · rw [if_pos q] at hq
      refine ⟨fun q' => ?_, fun q' => ?_⟩
      · rw [if_pos q'] at hq
        exact s_canBe_49 hP hT hS hkk r (i + 1) k (by omega) (by omega) hq
      · rw [if_neg q'] at hq; exact hq
/-- it can be these two -/
def zpr (t : zX) (s : zT) (who slf so : Nat → Int32) (kk a c : Nat) : Bool := if sO s a < 0 then false else if sO s c < 0 then false else zcb (zSn t (zswap s a c)) who slf so kk 0
abbrev frT2 (I I' : zI) : Prop := ∀ b j, (b < 94 ∨ 99 < b) → I' b j = I b j
theorem zK.t2 {I I' : zI} {J : zJ} (e : frT2 I I') : zK I I' J J := zK.of (fun b j q => by
  have := zE_out q
  exact e b j (by omega))
theorem s_canBe {I : zI} {J : zJ} {t : zX} {live a c kk td : Nat} {s : zT} {who slf so : Nat → Int32} (hQ : zQ I t live s) (hT : zTd I who slf so td (xP t)) (hkk : kk ≤ td) (ha : a < xP t) (hc : c < xP t) {Q : Int32 → zI → zJ → Prop} (h0 : zpr t s who slf so kk a c = false → ∀ I' : zI, frT2 I I' → Q 0 I' J) (h1 : zpr t s who slf so kk a c = true → ∀ I' : zI, frT2 I I' → (∀ p, p < xP t → I' 97 p = zSn t (zswap s a c) p) → Q 1 I' J) : v_Told_canBe 5000 49 (nI a) (nI c) (nI kk) I J Q := by
  have hX := hQ.1
  have hP := hX.1.2.1
  have hH := hX.1.1
  have h20 := hT.2.2.1
  refine s_isHung hX ha (fun e => z_y z_00 (h0 (by unfold zpr; rw [e, if_pos z_neg2]) I (fun _ _ _ => rfl))) (fun h hh e => z_n z_10 (s_isHung hX hc (fun e' => z_yr z_00 (h0 (by unfold zpr; rw [e', if_pos z_neg2, e, if_neg (nI_pos (by omega))]) I (fun _ _ _ => rfl))) (fun h' hh' e' => z_nr z_10 (s_become (c := 94) (a := 49) hP hH (by omega) hX.2.2.2.1 (fun I7 c7 o7 => ?_)))))
  have hX7 : cX I7 t 94 s := ⟨hX.1, hX.2.1.kept (fun b j q1 q2 => o7 b j (by omega)), hX.2.2.1, c7, by omega, by omega⟩
  refine s_exchange hX7 ha hc (fun I8 hX8 o8 => s_wakeAll hX8 (fun I9 hX9 o9 => ?_))
  have o : frT2 I I9 := fun b j q => by rw [o9 b j (by omega), o8 b j (by omega), o7 b j (by omega)]
  have hS : ∀ p, p < xP t → I9 97 p = zSn t (zswap s a c) p := fun p hp => by
    have := hX9.2.2.2.1.2.2.2.1 p hp
    rw [wake_S] at this
    exact this
  refine s_canBe_49 hP (hT.kept (J := J) (J' := J) (zK.t2 o)) hS hkk kk 0 5000 (by omega) (by omega) ?_
  have ez : zpr t s who slf so kk a c = zcb (zSn t (zswap s a c)) who slf so kk 0 := by
    unfold zpr
    rw [e, e', if_neg (nI_pos (by omega)), if_neg (nI_pos (by omega))]
  rw [← ez]
  cases hb : zpr t s who slf so kk a c with
  | false => exact h0 hb I9 o
  | true => exact h1 hb I9 o hS
/-- the pairs in their order, the last one first -/
def zF2 (pr : Nat → Nat → Bool) (p : Nat) : Nat → Nat → List (Nat × Nat) → List (Nat × Nat)
  | 0, _, L => L
  | r + 1, i, L => zF2 pr p r (i + 1) (if pr p i = true then (p, i) :: L else L)
def zF1 (pr : Nat → Nat → Bool) : Nat → Nat → List (Nat × Nat) → List (Nat × Nat)
  | 0, _, L => L
  | r + 1, i, L => zF1 pr r (i + 1) (zF2 pr i r (i + 1) L)
def zFM (pr : Nat → Nat → Bool) (n : Nat) : Nat → Nat → List (Nat × Nat) → List (Nat × Nat)
  | 0, _, L => L
  | r + 1, P, L => zFM pr n r (P + 1) (if P / 6 < P % 6 then if P % 6 < n then if pr (P / 6) (P % 6) = true then (P / 6, P % 6) :: L else L else L else L)
theorem zF_eq (pr : Nat → Nat → Bool) {n : Nat} (hn : n ≤ 6) : zFM pr n 36 0 [] = zF1 pr n 0 [] := by
  have : n = 0 ∨ n = 1 ∨ n = 2 ∨ n = 3 ∨ n = 4 ∨ n = 5 ∨ n = 6 := by omega
  rcases this with rfl | rfl | rfl | rfl | rfl | rfl | rfl <;> rfl
theorem zF2_app (pr : Nat → Nat → Bool) (p : Nat) : ∀ r i L, ∃ X, zF2 pr p r i L = X ++ L
  | 0, _, L => ⟨[], rfl⟩
  | r + 1, i, L => by
    rw [zF2]
    by_cases h : pr p i = true
    · rw [if_pos h]
      obtain ⟨X, e⟩ := zF2_app pr p r (i + 1) ((p, i) :: L)
      exact ⟨X ++ [(p, i)], by rw [e, List.append_assoc]; rfl⟩
    · rw [if_neg h]
      exact zF2_app pr p r (i + 1) L
theorem zF1_app (pr : Nat → Nat → Bool) : ∀ r i L, ∃ X, zF1 pr r i L = X ++ L
  | 0, _, L => ⟨[], rfl⟩
  | r + 1, i, L => by
    rw [zF1]
    obtain ⟨X, e⟩ := zF1_app pr r (i + 1) (zF2 pr i r (i + 1) L)
    obtain ⟨Y, e'⟩ := zF2_app pr i r (i + 1) L
    exact ⟨X ++ Y, by rw [e, e', List.append_assoc]⟩
theorem zFM_app (pr : Nat → Nat → Bool) (n : Nat) : ∀ r P L, ∃ X, zFM pr n r P L = X ++ L ∧ X.length ≤ r
  | 0, _, L => ⟨[], rfl, Nat.le_refl _⟩
  | r + 1, P, L => by
    rw [zFM]
    have key : ∀ L', (L' = L ∨ ∃ q, L' = q :: L) → ∃ X, zFM pr n r (P + 1) L' = X ++ L ∧ X.length ≤ r + 1 := fun L' h => by
      obtain ⟨X, e, hX⟩ := zFM_app pr n r (P + 1) L'
      rcases h with h | ⟨q, h⟩
      · exact ⟨X, by rw [e, h], by omega⟩
      · exact ⟨X ++ [q], by rw [e, h, List.append_assoc]; rfl, by rw [List.length_append]; show X.length + 1 ≤ r + 1; omega⟩
    apply key
    by_cases h1 : P / 6 < P % 6
    · rw [if_pos h1]
      by_cases h2 : P % 6 < n
      · rw [if_pos h2]
        by_cases h3 : pr (P / 6) (P % 6) = true
        · rw [if_pos h3]; exact Or.inr ⟨_, rfl⟩
        · rw [if_neg h3]; exact Or.inl rfl
      · rw [if_neg h2]; exact Or.inl rfl
    · rw [if_neg h1]; exact Or.inl rfl
def zsel (L : List (Nat × Nat)) (i : Nat) : Int32 := (L.reverse[i]?).elim (-1) (fun q => 10 * nI q.1 + nI q.2)
theorem zsel_in {X L0 : List (Nat × Nat)} {q : Nat × Nat} {i : Nat} (h : L0.length = i) : zsel (X ++ q :: L0) i = 10 * nI q.1 + nI q.2 := by
  unfold zsel
  have : (X ++ q :: L0).reverse[i]? = some q := by
    rw [List.reverse_append, List.reverse_cons, List.append_assoc, List.getElem?_append_right (by rw [List.length_reverse]; omega), List.length_reverse, h, Nat.sub_self]
    rfl
  rw [this]
  rfl
theorem zsel_out {L : List (Nat × Nat)} {i : Nat} (h : L.length ≤ i) : zsel L i = -1 := by
  unfold zsel
  rw [List.getElem?_eq_none (by rw [List.length_reverse]; exact h)]
  rfl
section
variable {t : zX} {live kk td : Nat} {s : zT} {who slf so : Nat → Int32}
theorem s_pairsLeft_23 {J : zJ} {p : Nat} (hkk : kk ≤ td) (hp : p < xP t) {Q : Int32 → zI → zJ → Prop} {K : Int32 → Int32 → Int32 → zI → zJ → Prop} : ∀ r i k (L : List (Nat × Nat)) (I : zI), zQ I t live s → zTd I who slf so td (xP t) → i + r = xP t → r < k → (∀ I' : zI, frT2 I I' → K (nI kk) (nI (zF2 (zpr t s who slf so kk) p r i L).length) (nI p) I' J) → v_Told_pairsLeft_23 5000 k 49 (nI kk) (nI L.length) (nI p) (nI i) I J Q K
  | _, _, 0, _, _, _, _, _, hk, _ => absurd hk (Nat.not_lt_zero _)
  | 0, i, k + 1, L, I, hQ, hT, hi, hk, hq => by
    have hP := hQ.1.1.2.1
    rw [v_Told_pairsLeft_23]; dsimp only; rw [hQ.1.2.1.2.1]
    exact z_y (nI_le (by omega) (by omega)) (hq I (fun _ _ _ => rfl))
  | r + 1, i, k + 1, L, I, hQ, hT, hi, hk, hq => by
    have hP := hQ.1.1.2.1
    rw [v_Told_pairsLeft_23]; dsimp only; rw [hQ.1.2.1.2.1]
    rw [zF2] at hq
    refine z_n (nI_ge (by omega) (by omega)) (s_canBe hQ hT hkk hp (by omega) (fun e I3 o3 => z_y z_00 (fun y ey => ?_)) (fun e I3 o3 _ => z_n z_10 (fun y ey => ?_)))
    · rw [if_neg (by rw [e]; decide)] at hq
      rw [Int32.add_zero] at ey
      rw [ey, nI_1]
      exact s_pairsLeft_23 hkk hp r (i + 1) k L I3 (hQ.kept (J := J) (J' := J) (zK.t2 o3)) (hT.kept (J := J) (J' := J) (zK.t2 o3)) (by omega) (by omega) (fun I' o' => hq I' (fun b j q => by rw [o' b j q, o3 b j q]))
    · rw [if_pos e] at hq
      rw [ey, nI_1, nI_1]
      exact s_pairsLeft_23 hkk hp r (i + 1) k ((p, i) :: L) I3 (hQ.kept (J := J) (J' := J) (zK.t2 o3)) (hT.kept (J := J) (J' := J) (zK.t2 o3)) (by omega) (by omega) (fun I' o' => hq I' (fun b j q => by rw [o' b j q, o3 b j q]))
theorem s_pairsLeft_5 {J : zJ} (hkk : kk ≤ td) {Q : Int32 → zI → zJ → Prop} : ∀ r i k (L : List (Nat × Nat)) (I : zI), zQ I t live s → zTd I who slf so td (xP t) → i + r = xP t → r < k → (∀ I' : zI, frT2 I I' → Q (nI (zF1 (zpr t s who slf so kk) r i L).length) I' J) → v_Told_pairsLeft_5 5000 k 49 (nI kk) (nI L.length) (nI i) I J Q
  | _, _, 0, _, _, _, _, _, hk, _ => absurd hk (Nat.not_lt_zero _)
  | 0, i, k + 1, L, I, hQ, hT, hi, hk, hq => by
    have hP := hQ.1.1.2.1
    rw [v_Told_pairsLeft_5]; dsimp only; rw [hQ.1.2.1.2.1]
    exact z_y (nI_le (by omega) (by omega)) (hq I (fun _ _ _ => rfl))
  | r + 1, i, k + 1, L, I, hQ, hT, hi, hk, hq => by
    have hP := hQ.1.1.2.1
    rw [v_Told_pairsLeft_5]; dsimp only; rw [hQ.1.2.1.2.1]
    rw [zF1] at hq
    refine z_n (nI_ge (by omega) (by omega)) (fun y ey => ?_)
    rw [nI_1] at ey
    rw [ey]
    refine s_pairsLeft_23 (live := live) hkk (by omega) r (i + 1) 5000 L I hQ hT (by omega) (by omega) (fun I1 o1 => ?_)
    rw [nI_1]
    exact s_pairsLeft_5 hkk r (i + 1) k _ I1 (hQ.kept (J := J) (J' := J) (zK.t2 o1)) (hT.kept (J := J) (J' := J) (zK.t2 o1)) (by omega) (by omega) (fun I' o' => hq I' (fun b j q => by rw [o' b j q, o1 b j q]))
theorem s_pairLeft_24 {J : zJ} {p ii : Nat} (hii : ii < 2 ^ 31) (hkk : kk ≤ td) (hp : p < xP t) {Q : Int32 → zI → zJ → Prop} {K : Int32 → Int32 → Int32 → Int32 → zI → zJ → Prop} : ∀ r i k (L : List (Nat × Nat)) (I : zI), zQ I t live s → zTd I who slf so td (xP t) → i + r = xP t → r < k → L.length ≤ ii → (∀ I' : zI, frT2 I I' → (zF2 (zpr t s who slf so kk) p r i L).length ≤ ii → K (nI kk) (nI ii) (nI (zF2 (zpr t s who slf so kk) p r i L).length) (nI p) I' J) → (∀ (I' : zI) c L0 X, frT2 I I' → zF2 (zpr t s who slf so kk) p r i L = X ++ (p, c) :: L0 → L0.length = ii → Q (10 * nI p + nI c) I' J) → v_Told_pairLeft_24 5000 k 49 (nI kk) (nI ii) (nI L.length) (nI p) (nI i) I J Q K
  | _, _, 0, _, _, _, _, _, hk, _, _, _ => absurd hk (Nat.not_lt_zero _)
  | 0, i, k + 1, L, I, hQ, hT, hi, hk, hL, hq, hr => by
    have hP := hQ.1.1.2.1
    rw [v_Told_pairLeft_24]; dsimp only; rw [hQ.1.2.1.2.1]
    exact z_y (nI_le (by omega) (by omega)) (hq I (fun _ _ _ => rfl) hL)
  | r + 1, i, k + 1, L, I, hQ, hT, hi, hk, hL, hq, hr => by
    have hP := hQ.1.1.2.1
    rw [v_Told_pairLeft_24]; dsimp only; rw [hQ.1.2.1.2.1]
    rw [zF2] at hq hr
    refine z_n (nI_ge (by omega) (by omega)) (s_canBe hQ hT hkk hp (by omega) (fun e I3 o3 => z_y z_00 ?_) (fun e I3 o3 _ => z_n z_10 ⟨fun q => ?_, fun q => ?_⟩))
    · rw [if_neg (by rw [e]; decide)] at hq hr
      rw [nI_1]
      exact s_pairLeft_24 hii hkk hp r (i + 1) k L I3 (hQ.kept (J := J) (J' := J) (zK.t2 o3)) (hT.kept (J := J) (J' := J) (zK.t2 o3)) (by omega) (by omega) hL (fun I' o' => hq I' (fun b j q => by rw [o' b j q, o3 b j q])) (fun I' c L0 X o' => hr I' c L0 X (fun b j q => by rw [o' b j q, o3 b j q]))
    · rw [if_pos e] at hq hr
      have hne : L.length ≠ ii := fun z => q (by rw [z])
      rw [nI_1, nI_1]
      exact s_pairLeft_24 hii hkk hp r (i + 1) k ((p, i) :: L) I3 (hQ.kept (J := J) (J' := J) (zK.t2 o3)) (hT.kept (J := J) (J' := J) (zK.t2 o3)) (by omega) (by omega) (by show L.length + 1 ≤ ii; omega) (fun I' o' => hq I' (fun b j q => by rw [o' b j q, o3 b j q])) (fun I' c L0 X o' => hr I' c L0 X (fun b j q => by rw [o' b j q, o3 b j q]))
    · rw [if_pos e] at hr
      obtain ⟨X, eX⟩ := zF2_app (zpr t s who slf so kk) p r (i + 1) ((p, i) :: L)
      exact hr I3 i L X o3 eX ((nI_eq (by omega) hii).mp q)
theorem s_pairLeft_6 {J : zJ} {ii : Nat} (hii : ii < 2 ^ 31) (hkk : kk ≤ td) {Q : Int32 → zI → zJ → Prop} : ∀ r i k (L : List (Nat × Nat)) (I : zI), zQ I t live s → zTd I who slf so td (xP t) → i + r = xP t → r < k → L.length ≤ ii → (∀ I' : zI, frT2 I I' → Q (zsel (zF1 (zpr t s who slf so kk) r i L) ii) I' J) → v_Told_pairLeft_6 5000 k 49 (nI kk) (nI ii) (nI L.length) (nI i) I J Q
  | _, _, 0, _, _, _, _, _, hk, _, _ => absurd hk (Nat.not_lt_zero _)
  | 0, i, k + 1, L, I, hQ, hT, hi, hk, hL, hq => by
    have hP := hQ.1.1.2.1
    rw [v_Told_pairLeft_6]; dsimp only; rw [hQ.1.2.1.2.1]
    have hq := hq I (fun _ _ _ => rfl)
    rw [zF1, zsel_out hL] at hq
    exact z_y (nI_le (by omega) (by omega)) hq
  | r + 1, i, k + 1, L, I, hQ, hT, hi, hk, hL, hq => by
    have hP := hQ.1.1.2.1
    rw [v_Told_pairLeft_6]; dsimp only; rw [hQ.1.2.1.2.1]
    rw [zF1] at hq
    refine z_n (nI_ge (by omega) (by omega)) (fun y ey => ?_)
    rw [nI_1] at ey
    rw [ey]
    refine s_pairLeft_24 (live := live) hii hkk (by omega) r (i + 1) 5000 L I hQ hT (by omega) (by omega) hL (fun I1 o1 hl => ?_) (fun I1 c L0 X o1 eX h0 => ?_)
    · rw [nI_1]
      exact s_pairLeft_6 hii hkk r (i + 1) k _ I1 (hQ.kept (J := J) (J' := J) (zK.t2 o1)) (hT.kept (J := J) (J' := J) (zK.t2 o1)) (by omega) (by omega) hl (fun I' o' => hq I' (fun b j q => by rw [o' b j q, o1 b j q]))
    · obtain ⟨Y, eY⟩ := zF1_app (zpr t s who slf so kk) r (i + 1) (zF2 (zpr t s who slf so kk) i r (i + 1) L)
      have hq := hq I1 o1
      rw [eY, eX, ← List.append_assoc, zsel_in h0] at hq
      exact hq
end
