/-! reading: the reference's way to the tokens -/
def zmk (k : Nat) : Nat := if k = 1 then 0 else if k = 2 then 3 else if k = 3 then 1 else if k = 4 then 2 else if k = 59 then 4 else if k = 61 then 5 else if k = 40 then 6 else if k = 41 then 7 else if k = 43 then 8 else if k = 45 then 9 else if k = 42 then 10 else if k = 60 then 13 else if k = 47 then 15 else k - 236
def zmi (m : Nat) : Nat := if m = 0 then 1 else if m = 3 then 2 else if m = 1 then 3 else if m = 2 then 4 else if m = 4 then 59 else if m = 5 then 61 else if m = 6 then 40 else if m = 7 then 41 else if m = 8 then 43 else if m = 9 then 45 else if m = 10 then 42 else if m = 13 then 60 else if m = 15 then 47 else m + 236
theorem zmi_mk {k : Nat} (h : zkv k) : zmi (zmk k) = k := by
  unfold zkv at h
  rcases h with h | h | h | h | (h | h | h | h | h | h | h | h | h) | h
  all_goals first
    | (subst h; rfl)
    | skip
  have e : zmk k = k - 236 := by
    unfold zmk
    repeat rw [if_neg (by omega)]
  rw [e]
  unfold zmi
  repeat rw [if_neg (by omega)]
  omega
theorem zmk_lt {k : Nat} (h : zkv k) : zmk k < 41 := by
  unfold zkv at h
  rcases h with h | h | h | h | (h | h | h | h | h | h | h | h | h) | h
  all_goals first
    | (subst h; decide)
    | skip
  have e : zmk k = k - 236 := by
    unfold zmk
    repeat rw [if_neg (by omega)]
  omega
/-- the reference's rows hold the token i -/
def zT1 (I : zI) (J : zJ) (B : Nat → Nat) (n i : Nat) : Prop := I 364 i = nI (zmk (tK B n i)) ∧ I 365 i = nI (zpsn B n i) ∧ (tK B n i = 4 → I 366 i = (tV B n i).toInt32) ∧ (tK B n i = 3 → J 367 i = tV B n i)
def zTm (I : zI) (J : zJ) (B : Nat → Nat) (n : Nat) : Prop := ∀ i, i ≤ 400 → (∀ j, j < i → tK B n j ≠ 1) → zT1 I J B n i
def zBm (I : zI) (B : Nat → Nat) (n : Nat) : Prop := n ≤ 2000 ∧ I 361 4 = nI n ∧ (∀ i, i < n → I 363 i &&& 255 = nI (B i)) ∧ ∀ i, B i < 256
theorem zBm.kept {I I' : zI} {B : Nat → Nat} {n : Nat} (h : zBm I B n) (e : ∀ b j, b = 363 ∨ (b = 361 ∧ j = 4) → I' b j = I b j) : zBm I' B n := ⟨h.1, by rw [e _ _ (by omega)]; exact h.2.1, fun i hi => by rw [e _ _ (by omega)]; exact h.2.2.1 i hi, h.2.2.2⟩
section
variable {B : Nat → Nat} {n : Nat}
theorem s_M_byteAt {I : zI} {J : zJ} {i : Nat} (h : zBm I B n) (hi : i < n) {Q : Int32 → zI → zJ → Prop} (hq : Q (nI (B i)) I J) : v_M_byteAt 5000 (nI i) I J Q := by
  have hn := h.1
  unfold v_M_byteAt
  rw [h.2.1, nI_clamp (by omega), h.2.2.1 i hi]
  exact z_n (nI_ge hi (by omega)) ⟨vp_in_nI (by omega) (by decide), hq⟩
theorem s_M_byteEnd {I : zI} {J : zJ} (h : zBm I B n) {Q : Int32 → zI → zJ → Prop} (hq : Q (nI 0) I J) : v_M_byteAt 5000 (nI n) I J Q := by
  have hn := h.1
  unfold v_M_byteAt
  rw [h.2.1]
  rw [nI_0] at hq
  exact z_y (Int32.le_refl _) hq
theorem s_M_isLetter {I : zI} {J : zJ} {c : Nat} (hc : c < 256) {Q : Int32 → zI → zJ → Prop} (h1 : zlet c = true → Q 1 I J) (h0 : ¬ zlet c = true → Q 0 I J) : v_M_isLetter 5000 (nI c) I J Q := s_isLetter hc h1 h0
theorem s_M_isDigit {I : zI} {J : zJ} {c : Nat} (hc : c < 256) {Q : Int32 → zI → zJ → Prop} (h1 : zdig c = true → Q 1 I J) (h0 : ¬ zdig c = true → Q 0 I J) : v_M_isDigit 5000 (nI c) I J Q := s_isDigit hc h1 h0
theorem s_cut85 {I : zI} {J : zJ} {p : Nat} (hB : zBm I B n) {Q : zI → zJ → Prop} {K : Int32 → Int32 → Int64 → zI → zJ → Prop} : ∀ r m k (w : Int64), p + m + r = n → r < k → (∀ w', (m + zrn zlet B r (p + m) ≤ 8 → w' = znv B (zrn zlet B r (p + m)) (p + m) w) → K (nI p) (nI (m + zrn zlet B r (p + m))) w' I J) → v_M_cut_85 5000 k (nI p) (nI m) w I J Q K
  | _, _, 0, _, _, hk, _ => absurd hk (Nat.not_lt_zero _)
  | 0, m, k + 1, w, hi, hk, hq => by
    rw [v_M_cut_85]; dsimp only; rw [nI_add, show p + m = n by omega]
    refine s_M_byteEnd hB (s_M_isLetter (by decide) (fun h => absurd h (by decide)) (fun _ => z_y z_00 ?_))
    exact hq w (fun _ => by rw [zrn, znv])
  | r + 1, m, k + 1, w, hi, hk, hq => by
    have hn := hB.1
    rw [v_M_cut_85]; dsimp only; rw [nI_add]
    rw [zrn] at hq
    refine s_M_byteAt hB (by omega) (s_M_isLetter (hB.2.2.2 _) (fun h => z_n z_10 ?_) (fun h => z_y z_00 ?_))
    · rw [if_pos h, znv] at hq
      rw [nI_1]
      have hgo := fun w2 h2 => s_cut85 hB (J := J) (Q := Q) (K := K) (p := p) r (m + 1) k w2 (by omega) (by omega) h2
      have ee : m + 1 + zrn zlet B r (p + (m + 1)) = m + (zrn zlet B r (p + m + 1) + 1) := by
        rw [show p + (m + 1) = p + m + 1 from rfl]; omega
      refine ⟨fun q => hgo w (fun w' h' => ?_), fun q => s_M_byteAt hB (by omega) (z_nr ?_ ?_)⟩
      · have h8 := (nI_leI (a := 8) (by decide) (by omega)).mp q
        rw [ee]
        exact hq w' (fun z => absurd z (by omega))
      · have := of_decide_eq_true h
        exact nI_ne0 (by omega) (by omega)
      · rw [z_letter h, Int64.mul_comm]
        refine hgo _ (fun w' h' => ?_)
        rw [ee] at h' ⊢
        exact hq w' h'
    · rw [if_neg h, znv] at hq
      exact hq w (fun _ => rfl)
theorem s_cut208 {I : zI} {J : zJ} {p : Nat} (hB : zBm I B n) {Q : zI → zJ → Prop} {K : Int32 → Int32 → Int32 → zI → zJ → Prop} : ∀ r m k (w : Nat), p + m + r = n → r < k → (∀ w', (m + zrn zdig B r (p + m) ≤ 4 → w' = nI (ziv B (zrn zdig B r (p + m)) (p + m) w)) → K (nI p) (nI (m + zrn zdig B r (p + m))) w' I J) → v_M_cut_208 5000 k (nI p) (nI m) (nI w) I J Q K
  | _, _, 0, _, _, hk, _ => absurd hk (Nat.not_lt_zero _)
  | 0, m, k + 1, w, hi, hk, hq => by
    rw [v_M_cut_208]; dsimp only; rw [nI_add, show p + m = n by omega]
    refine s_M_byteEnd hB (s_M_isDigit (by decide) (fun h => absurd h (by decide)) (fun _ => z_y z_00 ?_))
    exact hq (nI w) (fun _ => by rw [zrn, ziv])
  | r + 1, m, k + 1, w, hi, hk, hq => by
    have hn := hB.1
    rw [v_M_cut_208]; dsimp only; rw [nI_add]
    rw [zrn] at hq
    refine s_M_byteAt hB (by omega) (s_M_isDigit (hB.2.2.2 _) (fun h => z_n z_10 ?_) (fun h => z_y z_00 ?_))
    · rw [if_pos h, ziv] at hq
      rw [nI_1]
      have hgo := fun w2 h2 => s_cut208 hB (J := J) (Q := Q) (K := K) (p := p) r (m + 1) k w2 (by omega) (by omega) h2
      have ee : m + 1 + zrn zdig B r (p + (m + 1)) = m + (zrn zdig B r (p + m + 1) + 1) := by
        rw [show p + (m + 1) = p + m + 1 from rfl]; omega
      refine ⟨fun q => hgo w (fun w' h' => ?_), fun q => s_M_byteAt hB (by omega) (fun y ey => ?_)⟩
      · have h8 := (nI_leI (a := 4) (by decide) (by omega)).mp q
        rw [ee]
        exact hq w' (fun z => absurd z (by omega))
      · have h := of_decide_eq_true h
        rw [show (10 : Int32) * nI w = nI (10 * w) from nI_mul 10 w, nI_add, show nI (10 * w + B (p + m)) - 48 = nI (10 * w + B (p + m) - 48) from nI_sub (b := 48) (by omega), show 10 * w + B (p + m) - 48 = w * 10 + (B (p + m) - 48) by omega] at ey
        rw [ey]
        refine hgo _ (fun w' h' => ?_)
        rw [ee] at h' ⊢
        exact hq w' h'
    · rw [if_neg h, ziv] at hq
      exact hq (nI w) (fun _ => rfl)
theorem zKeys_ne : ∀ i, i < 21 → ∀ j, j < 21 → i ≠ j → ¬ lN (zKeys.getD i 0) = lN (zKeys.getD j 0) := by decide +kernel
theorem zkf_no {w : Int64} {i : Nat} (hi : i < 21) (e : lN (zKeys.getD i 0) = w) : ∀ r j, i < j → j + r ≤ 21 → zkf w r j = 3
  | 0, _, _, _ => rfl
  | r + 1, j, h1, h2 => by
    rw [zkf, if_neg (fun z => zKeys_ne i hi j (by omega) (by omega) (e.trans z.symm))]
    exact zkf_no hi e r (j + 1) (by omega) (by omega)
theorem s_cut146 {I : zI} {J : zJ} {x1 x3 : Int32} {w : Int64} (hK : rKeys J) {Q : zI → zJ → Prop} {K : Int32 → Int32 → Int64 → Int32 → zI → zJ → Prop} : ∀ r i k (y : Int32), i + r = 21 → r < k → K x1 x3 w (if zkf w r i = 3 then y else nI (zmk (zkf w r i))) I J → v_M_cut_146 5000 k x1 x3 w y (nI i) I J Q K
  | _, _, 0, _, _, hk, _ => absurd hk (Nat.not_lt_zero _)
  | 0, i, k + 1, y, hi, hk, hq => z_y (nI_le (a := 21) (by omega) (by omega)) hq
  | r + 1, i, k + 1, y, hi, hk, hq => by
    rw [v_M_cut_146]; dsimp only; rw [nI_clamp (by omega), (hK i (by omega)).2, nI_1, z_cmp0]
    rw [zkf] at hq
    refine z_n (nI_ge (b := 21) (by omega) (by decide)) ⟨vp_in_nI (by omega) (by decide), fun q => ?_, fun q y4 e4 => ?_⟩
    · rw [if_neg q] at hq
      exact s_cut146 hK r (i + 1) k y (by omega) (by omega) hq
    · rw [if_pos q, if_neg (by omega)] at hq
      refine s_cut146 hK r (i + 1) k y4 (by omega) (by omega) ?_
      rw [zkf_no (by omega) q r (i + 1) (by omega) (by omega), if_pos rfl, e4, show (20 : Int32) + nI i = nI (20 + i) from nI_add 20 i]
      have : zmk (256 + i) = 20 + i := by
        unfold zmk
        repeat rw [if_neg (by omega)]
        omega
      rw [this] at hq
      exact hq
theorem s_token {I : zI} {J : zJ} {i : Nat} {x1 x2 x3 : Int32} {x4 : Int64} (hi : i < 403) (h10 : I 361 10 = nI i) {Q : zI → zJ → Prop} (hq : ∀ (I' : zI) (J' : zJ), (∀ b j, ¬ (b = 361 ∧ j = 10) → ¬ (364 ≤ b ∧ b ≤ 366 ∧ j = i) → I' b j = I b j) → (∀ b j, ¬ (b = 367 ∧ j = i) → J' b j = J b j) → I' 361 10 = nI (i + 1) → I' 364 i = x1 → I' 365 i = x2 → I' 366 i = x3 → J' 367 i = x4 → Q I' J') : v_M_token 5000 x1 x2 x3 x4 I J Q := by
  have v : vp_in (nI i) 403 := vp_in_nI hi (by decide)
  have cl : (nI i).toNatClampNeg = i := nI_clamp (by omega)
  unfold v_M_token
  rw [h10, cl]
  refine ⟨v, fun I2 e2 => ?_⟩
  have o2 : ∀ b j, ¬ (b = 364 ∧ j = i) → I2 b j = I b j := fun b j q => by rw [e2, qu_off (by omega)]
  rw [o2 _ _ (by omega), h10, cl]
  refine ⟨v, fun I4 e4 => ?_⟩
  have o4 : ∀ b j, ¬ (b = 365 ∧ j = i) → I4 b j = I2 b j := fun b j q => by rw [e4, qu_off (by omega)]
  rw [o4 _ _ (by omega), o2 _ _ (by omega), h10, cl]
  refine ⟨v, fun I6 e6 => ?_⟩
  have o6 : ∀ b j, ¬ (b = 366 ∧ j = i) → I6 b j = I4 b j := fun b j q => by rw [e6, qu_off (by omega)]
  rw [o6 _ _ (by omega), o4 _ _ (by omega), o2 _ _ (by omega), h10, cl, nI_1]
  refine ⟨v, fun J8 e8 I9 e9 => ?_⟩
  have o9 : ∀ b j, ¬ (b = 361 ∧ j = 10) → I9 b j = I6 b j := fun b j q => by rw [e9, qu_off (by omega)]
  refine hq I9 J8 (fun b j q1 q2 => ?_) (fun b j q => by rw [e8, qu_off (by omega)]) (by rw [e9, qu_same]) ?_ ?_ ?_ (by rw [e8, qu_same])
  · rw [o9 b j q1, o6 b j (by omega), o4 b j (by omega), o2 b j (by omega)]
  · rw [o9 _ _ (by omega), o6 _ _ (by omega), o4 _ _ (by omega), e2, qu_same]
  · rw [o9 _ _ (by omega), o6 _ _ (by omega), e4, qu_same]
  · rw [o9 _ _ (by omega), e6, qu_same]
theorem s_M_sign {c : Nat} (hc : c < 256) {x1 x3 : Int32} {I : zI} {J : zJ} {Q : Int32 → zI → zJ → Prop} (hq : ∀ z : Int32, z = nI (zmk (if zsgn c = true then c else 2)) → v_M_token 5000 z x1 0 0 I J (fun I2 J2 => Q 1 I2 J2)) : v_M_sign 5000 x1 (nI c) x3 I J Q := by
  have e : ∀ d, d < 256 → c ≠ d → ¬ nI c = nI d := fun d hd h z => h ((nI_eq (by omega) (by omega)).mp z)
  by_cases h59 : c = 59
  · subst h59; exact z_yr rfl (z_nr (by decide) (z_nr (by decide) (z_nr (by decide) (z_nr (by decide) (z_nr (by decide) (hq _ (by decide)))))))
  refine z_nr (e 59 (by decide) h59) ?_
  by_cases h61 : c = 61
  · subst h61; exact z_yr rfl (z_nr (by decide) (z_nr (by decide) (z_nr (by decide) (z_nr (by decide) (z_nr (by decide) (hq _ (by decide)))))))
  refine z_nr (e 61 (by decide) h61) ?_
  by_cases h40 : c = 40
  · subst h40; exact z_yr rfl (z_nr (by decide) (z_nr (by decide) (z_nr (by decide) (z_nr (by decide) (z_nr (by decide) (hq _ (by decide)))))))
  refine z_nr (e 40 (by decide) h40) ?_
  by_cases h41 : c = 41
  · subst h41; exact z_yr rfl (z_nr (by decide) (z_nr (by decide) (z_nr (by decide) (z_nr (by decide) (z_nr (by decide) (hq _ (by decide)))))))
  refine z_nr (e 41 (by decide) h41) ?_
  by_cases h43 : c = 43
  · subst h43; exact z_yr rfl (z_nr (by decide) (z_nr (by decide) (z_nr (by decide) (z_nr (by decide) (hq _ (by decide))))))
  refine z_nr (e 43 (by decide) h43) ?_
  by_cases h45 : c = 45
  · subst h45; exact z_yr rfl (z_nr (by decide) (z_nr (by decide) (z_nr (by decide) (hq _ (by decide)))))
  refine z_nr (e 45 (by decide) h45) ?_
  by_cases h42 : c = 42
  · subst h42; exact z_yr rfl (z_nr (by decide) (z_nr (by decide) (hq _ (by decide))))
  refine z_nr (e 42 (by decide) h42) ?_
  by_cases h47 : c = 47
  · subst h47; exact z_yr rfl (z_nr (by decide) (hq _ (by decide)))
  refine z_nr (e 47 (by decide) h47) ?_
  by_cases h60 : c = 60
  · subst h60; exact z_yr rfl (hq _ (by decide))
  refine z_nr (e 60 (by decide) h60) (hq _ ?_)
  have : ¬ zsgn c = true := fun z => by have := of_decide_eq_true z; omega
  rw [if_neg this]
  decide
abbrev frCu (I I' : zI) : Prop := ∀ b j, ¬ (b = 361 ∧ j = 10) → ¬ (364 ≤ b ∧ b ≤ 366) → I' b j = I b j
theorem s_cut7 {Q : zI → zJ → Prop} : ∀ k p i (I : zI) (J : zJ), zBm I B n → rKeys J → p ≤ n → zsk B (n - p) p = zpsn B n i → I 361 10 = nI i → i ≤ 401 → (∀ j, j < i → tK B n j ≠ 1 ∧ zT1 I J B n j) → n + 1 ≤ p + k → (∀ (I' : zI) (J' : zJ), frCu I I' → (∀ b j, b ≠ 367 → J' b j = J b j) → zTm I' J' B n → Q I' J') → v_M_cut_7 5000 (k + 1) (nI p) I J Q
  | 0, p, i, I, J, hB, hK, hp, hs, h10, hi, hd, hk, hq => absurd hk (by omega)
  | k + 1, p, i, I, J, hB, hK, hp, hs, h10, hi, hd, hk, hq => by
    have hn := hB.1
    rw [v_M_cut_7]; dsimp only; rw [h10]
    by_cases hi4 : i = 401
    · subst hi4
      exact z_y (by decide) (hq I J (fun _ _ _ _ => rfl) (fun _ _ _ => rfl) (fun j hj _ => (hd j (by omega)).2))
    refine z_n (nI_nlt (a := 400) (by omega) (by decide)) ?_
    -- what follows a token
    have next : ∀ (m : Nat) (I' : zI) (J' : zJ), p + m ≤ n → 0 < m → m = zln B n p → zpsn B n i = p → tK B n i ≠ 1 → (∀ b j, ¬ (b = 361 ∧ j = 10) → ¬ (364 ≤ b ∧ b ≤ 366 ∧ j = i) → I' b j = I b j) → (∀ b j, ¬ (b = 367 ∧ j = i) → J' b j = J b j) → I' 361 10 = nI (i + 1) → zT1 I' J' B n i → v_M_cut_7 5000 (k + 1) (nI (p + m)) I' J' Q := fun m I' J' h1 h0 hm hpo hk1 o' p' h10' ht => by
      refine s_cut7 k (p + m) (i + 1) I' J' (hB.kept (fun b j q => o' b j (by omega) (by omega))) (fun k hk => by rw [p' _ _ (by omega), p' _ _ (by omega)]; exact hK k hk) h1 ?_ h10' (by omega) (fun j hj => ?_) (by omega) (fun I'' J'' o'' p'' h'' => hq I'' J'' (fun b j q1 q2 => by rw [o'' b j q1 q2, o' b j q1 (by omega)]) (fun b j q => by rw [p'' b j q, p' b j (by omega)]) h'')
      · rw [zpsn, hpo, ← hm]
      · by_cases e : j = i
        · subst e; exact ⟨hk1, ht⟩
        · obtain ⟨g0, g1, g2, g3, g4⟩ := hd j (by omega)
          exact ⟨g0, by rw [o' _ _ (by omega) (by omega)]; exact g1, by rw [o' _ _ (by omega) (by omega)]; exact g2, fun z => by rw [o' _ _ (by omega) (by omega)]; exact g3 z, fun z => by rw [p' _ _ (by omega)]; exact g4 z⟩
    by_cases hpn : p = n
    · subst hpn
      have hpo : zpsn B p i = p := by rw [← hs, Nat.sub_self, zsk]
      have hk1 : tK B p i = 1 := by unfold tK zkd; rw [hpo, if_pos (Nat.le_refl _)]
      refine s_M_byteEnd hB (z_n (by rw [hB.2.1]; exact Int32.lt_irrefl) (s_token (by omega) h10 (fun I' J' o' p' _ f1 f2 f3 f4 => hq I' J' (fun b j q1 q2 => o' b j q1 (by omega)) (fun b j q => p' b j (by omega)) (fun j hj hg => ?_))))
      rcases Nat.lt_trichotomy j i with z | z | z
      · obtain ⟨g0, g1, g2, g3, g4⟩ := hd j z
        exact ⟨by rw [o' _ _ (by omega) (by omega)]; exact g1, by rw [o' _ _ (by omega) (by omega)]; exact g2, fun z => by rw [o' _ _ (by omega) (by omega)]; exact g3 z, fun z => by rw [p' _ _ (by omega)]; exact g4 z⟩
      · subst z
        exact ⟨by rw [f1, hk1]; decide, by rw [f2, hB.2.1, hpo], fun z => absurd z (by omega), fun z => absurd z (by omega)⟩
      · exact absurd hk1 (hg i z)
    · have hc := hB.2.2.2 p
      obtain ⟨r, er⟩ : ∃ r, n - p = r + 1 := ⟨n - p - 1, by omega⟩
      rw [er, zsk] at hs
      refine s_M_byteAt hB (by omega) (z_y (by rw [hB.2.1]; exact nI_lt (by omega) (by omega)) ?_)
      have hbl : zblk (B p) = true ↔ (B p = 9 ∨ B p = 10 ∨ B p = 13 ∨ B p = 32) := decide_eq_true_iff
      have blank : zblk (B p) = true → v_M_cut_7 5000 (k + 1) (nI p + 1) I J Q := fun h => by
        rw [if_pos h] at hs
        rw [nI_1]
        exact s_cut7 k (p + 1) i I J hB hK (by omega) (by rw [show n - (p + 1) = r by omega]; exact hs) h10 hi hd (by omega) hq
      have e : ∀ d, d < 256 → (nI (B p) = nI d ↔ B p = d) := fun d hd => nI_eq (by omega) (by omega)
      refine ⟨fun q => blank (by have := (e 9 (by decide)).mp q; rw [hbl]; omega), fun q9 => ⟨fun q => blank (by have := (e 10 (by decide)).mp q; rw [hbl]; omega), fun q10 => ⟨fun q => blank (by have := (e 13 (by decide)).mp q; rw [hbl]; omega), fun q13 => ⟨fun q32 => ?_, fun q => blank (by have := (e 32 (by decide)).mp q; rw [hbl]; omega)⟩⟩⟩⟩
      have hnb : ¬ zblk (B p) = true := fun z => by
        rcases hbl.mp z with z | z | z | z
        · exact q9 ((e 9 (by decide)).mpr z)
        · exact q10 ((e 10 (by decide)).mpr z)
        · exact q13 ((e 13 (by decide)).mpr z)
        · exact q32 ((e 32 (by decide)).mpr z)
      rw [if_neg hnb] at hs
      have hpo : zpsn B n i = p := hs.symm
      have hnp : ¬ n ≤ p := by omega
      have eK : tK B n i = zkd B n p := by unfold tK; rw [hpo]
      have eV : tV B n i = zvl B n p := by unfold tV; rw [hpo]
      refine s_M_isLetter hc (fun h => z_n z_10 ?_) (fun h => z_y z_00 (s_M_isDigit hc (fun hd' => z_n z_10 ?_) (fun hd' => z_y z_00 ?_)))
      · have eL : zln B n p = zrn zlet B (n - p) p := by unfold zln; rw [if_neg hnp, if_pos h]
        have eV2 : zvl B n p = znv B (zrn zlet B (n - p) p) p 0 := by unfold zvl; rw [if_neg hnp, if_pos h]
        have eK2 : zkd B n p = if zrn zlet B (n - p) p ≤ 8 then zkf (znv B (zrn zlet B (n - p) p) p 0) 21 0 else 2 := by unfold zkd; rw [if_neg hnp, if_pos h]
        have hle := zrn_le zlet B (n - p) p
        have hpos : 0 < zrn zlet B (n - p) p := by rw [er, zrn, if_pos h]; omega
        refine s_cut85 (p := p) hB (n - p) 0 5000 0 (by omega) (by omega) (fun w' hw' => ?_)
        rw [Nat.zero_add, Nat.add_zero] at hw' ⊢
        have tok : ∀ z : Int32, z = nI (zmk (tK B n i)) → tK B n i ≠ 1 → tK B n i ≠ 4 → (tK B n i = 3 → w' = tV B n i) → v_M_cut_179 5000 (nI p) (nI (zrn zlet B (n - p) p)) w' z I J Q (fun x1 I J => v_M_cut_7 5000 (k + 1) x1 I J Q) := fun z ez hk1 hk4 hk3 => by
          refine s_token (by omega) h10 (fun I' J' o' p' f0 f1 f2 f3 f4 y2 e2 => ?_)
          rw [e2, nI_add]
          exact next _ I' J' (by omega) hpos eL.symm hpo hk1 o' p' f0 ⟨by rw [f1, ez], by rw [f2, hpo], fun z => absurd z hk4, fun z => by rw [f4]; exact hk3 z⟩
        refine ⟨fun q => ?_, fun q => ?_⟩
        · have h8 := (nI_leI (b := 8) (by omega) (by decide)).mp q
          rw [if_pos h8] at eK2
          have hv := zkf_v (znv B (zrn zlet B (n - p) p) p 0) 21 0
          have hw := hw' h8
          refine z_n (nI_nlt (a := 8) h8 (by decide)) (s_cut146 hK 21 0 5000 1 (by decide) (by decide) (tok _ ?_ (by omega) (by omega) (fun _ => by rw [hw, eV, eV2])))
          rw [eK, eK2, hw]
          split
          · rename_i z; rw [z]; decide
          · rfl
        · have h8 : ¬ zrn zlet B (n - p) p ≤ 8 := fun z => q (nI_le (b := 8) z (by decide))
          rw [if_neg h8] at eK2
          exact z_y (nI_lt (a := 8) (by omega) (by omega)) (tok _ (by rw [eK, eK2]; decide) (by omega) (by omega) (fun z => absurd z (by omega)))
      · have eL : zln B n p = zrn zdig B (n - p) p := by unfold zln; rw [if_neg hnp, if_neg h, if_pos hd']
        have eV2 : zvl B n p = lN (ziv B (zrn zdig B (n - p) p) p 0) := by unfold zvl; rw [if_neg hnp, if_neg h, if_pos hd']
        have eK2 : zkd B n p = if zrn zdig B (n - p) p ≤ 4 then 4 else 2 := by unfold zkd; rw [if_neg hnp, if_neg h, if_pos hd']
        have hle := zrn_le zdig B (n - p) p
        have hpos : 0 < zrn zdig B (n - p) p := by rw [er, zrn, if_pos hd']; omega
        refine s_cut208 (p := p) hB (n - p) 0 5000 0 (by omega) (by omega) (fun w' hw' => ?_)
        rw [Nat.zero_add, Nat.add_zero] at hw' ⊢
        have tok : ∀ z : Int32, z = nI (zmk (tK B n i)) → tK B n i ≠ 1 → (tK B n i = 4 → w' = (tV B n i).toInt32) → tK B n i ≠ 3 → v_M_token 5000 z (nI p) w' 0 I J (fun I25 J25 => ∀ y26 : Int32, y26 = nI p + nI (zrn zdig B (n - p) p) → v_M_cut_7 5000 (k + 1) y26 I25 J25 Q) := fun z ez hk1 hk4 hk3 => by
          refine s_token (by omega) h10 (fun I' J' o' p' f0 f1 f2 f3 f4 y2 e2 => ?_)
          rw [e2, nI_add]
          exact next _ I' J' (by omega) hpos eL.symm hpo hk1 o' p' f0 ⟨by rw [f1, ez], by rw [f2, hpo], fun z => by rw [f3]; exact hk4 z, fun z => absurd z hk3⟩
        refine ⟨fun q => ?_, fun q => ?_⟩
        · have h8 := (nI_leI (b := 4) (by omega) (by decide)).mp q
          rw [if_pos h8] at eK2
          have hw := hw' h8
          exact tok _ (by rw [eK, eK2]; decide) (by omega) (fun _ => by rw [hw, eV, eV2, lN_i]) (by omega)
        · have h8 : ¬ zrn zdig B (n - p) p ≤ 4 := fun z => q (nI_le (b := 4) z (by decide))
          rw [if_neg h8] at eK2
          exact tok _ (by rw [eK, eK2]; decide) (by omega) (fun z => absurd z (by omega)) (by omega)
      · have eL : zln B n p = 1 := by unfold zln; rw [if_neg hnp, if_neg h, if_neg hd']
        have eK2 : zkd B n p = if zsgn (B p) = true then B p else 2 := by unfold zkd; rw [if_neg hnp, if_neg h, if_neg hd']
        have hs2 : (if zsgn (B p) = true then B p else 2) ≠ 1 ∧ (if zsgn (B p) = true then B p else 2) ≠ 3 ∧ (if zsgn (B p) = true then B p else 2) ≠ 4 := by
          by_cases z : zsgn (B p) = true
          · rw [if_pos z]; have := of_decide_eq_true z; omega
          · rw [if_neg z]; omega
        have sg : ∀ x3 : Int32, v_M_sign 5000 (nI p) (nI (B p)) x3 I J (fun r17 I18 J18 => ∀ y19 : Int32, y19 = nI p + r17 → v_M_cut_7 5000 (k + 1) y19 I18 J18 Q) := fun x3 => s_M_sign hc (fun z ez => s_token (by omega) h10 (fun I' J' o' p' f0 f1 f2 f3 f4 y2 e2 => by
          rw [e2, nI_1]
          exact next 1 I' J' (by omega) (by omega) eL.symm hpo (by rw [eK, eK2]; exact hs2.1) o' p' f0 ⟨by rw [f1, ez, eK, eK2], by rw [f2, hpo], fun z => absurd z (by rw [eK, eK2]; exact hs2.2.2), fun z => absurd z (by rw [eK, eK2]; exact hs2.2.1)⟩))
        rw [nI_1]
        rcases Nat.lt_or_ge (p + 1) n with z | z
        · exact s_M_byteAt hB z (sg _)
        · have : p + 1 = n := by omega
          rw [this]
          exact s_M_byteEnd hB (sg _)
theorem s_cut {I : zI} {J : zJ} (hB : zBm I B n) (hK : rKeys J) {Q : zI → zJ → Prop} (hq : ∀ (I' : zI) (J' : zJ), frCu I I' → (∀ b j, b ≠ 367 → J' b j = J b j) → zTm I' J' B n → Q I' J') : v_M_cut 5000 I J Q := fun I1 e1 => s_cut7 4999 0 0 I1 J (hB.kept (fun b j q => by rw [e1, qu_off (by omega)])) hK (Nat.zero_le _) rfl (by rw [e1, qu_same]; rfl) (by omega) (fun j hj => absurd hj (Nat.not_lt_zero _)) (by have := hB.1; omega) (fun I' J' o' p' h' => hq I' J' (fun b j q1 q2 => by rw [o' b j q1 q2, e1, qu_off (by omega)]) p' h')
end
