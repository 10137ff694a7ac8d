/-! reading: the tokens of a text, and the class' way to them -/
def zlet (c : Nat) : Bool := decide (97 ≤ c ∧ c ≤ 122)
def zdig (c : Nat) : Bool := decide (48 ≤ c ∧ c ≤ 57)
def zblk (c : Nat) : Bool := decide (c = 9 ∨ c = 10 ∨ c = 13 ∨ c = 32)
def zsgn (c : Nat) : Bool := decide (c = 59 ∨ c = 61 ∨ c = 43 ∨ c = 45 ∨ c = 42 ∨ c = 47 ∨ c = 60 ∨ c = 40 ∨ c = 41)
def zrn (f : Nat → Bool) (B : Nat → Nat) : Nat → Nat → Nat
  | 0, _ => 0
  | r + 1, i => if f (B i) = true then zrn f B r (i + 1) + 1 else 0
def znv (B : Nat → Nat) : Nat → Nat → Int64 → Int64
  | 0, _, w => w
  | k + 1, i, w => znv B k (i + 1) (w * 27 + lN (B i - 96))
def ziv (B : Nat → Nat) : Nat → Nat → Nat → Nat
  | 0, _, w => w
  | k + 1, i, w => ziv B k (i + 1) (w * 10 + (B i - 48))
def zkf (w : Int64) : Nat → Nat → Nat
  | 0, _ => 3
  | r + 1, k => if lN (zKeys.getD k 0) = w then 256 + k else zkf w r (k + 1)
def zsk (B : Nat → Nat) : Nat → Nat → Nat
  | 0, i => i
  | r + 1, i => if zblk (B i) = true then zsk B r (i + 1) else i
/-- the token at a place: kind, length, value -/
def zkd (B : Nat → Nat) (n i : Nat) : Nat := if n ≤ i then 1 else if zlet (B i) = true then (if zrn zlet B (n - i) i ≤ 8 then zkf (znv B (zrn zlet B (n - i) i) i 0) 21 0 else 2) else if zdig (B i) = true then (if zrn zdig B (n - i) i ≤ 4 then 4 else 2) else if zsgn (B i) = true then B i else 2
def zln (B : Nat → Nat) (n i : Nat) : Nat := if n ≤ i then 0 else if zlet (B i) = true then zrn zlet B (n - i) i else if zdig (B i) = true then zrn zdig B (n - i) i else 1
def zvl (B : Nat → Nat) (n i : Nat) : Int64 := if n ≤ i then 0 else if zlet (B i) = true then znv B (zrn zlet B (n - i) i) i 0 else if zdig (B i) = true then lN (ziv B (zrn zdig B (n - i) i) i 0) else 0
/-- where the i-th token begins -/
def zpsn (B : Nat → Nat) (n : Nat) : Nat → Nat
  | 0 => zsk B n 0
  | i + 1 => zsk B (n - (zpsn B n i + zln B n (zpsn B n i))) (zpsn B n i + zln B n (zpsn B n i))
def tK (B : Nat → Nat) (n i : Nat) : Nat := zkd B n (zpsn B n i)
def tV (B : Nat → Nat) (n i : Nat) : Int64 := zvl B n (zpsn B n i)
theorem zrn_le (f : Nat → Bool) (B : Nat → Nat) : ∀ r i, zrn f B r i ≤ r
  | 0, _ => Nat.le_refl _
  | r + 1, i => by
    rw [zrn]
    split
    · exact Nat.succ_le_succ (zrn_le f B r (i + 1))
    · exact Nat.zero_le _
theorem zsk_le (B : Nat → Nat) : ∀ r i, i ≤ zsk B r i ∧ zsk B r i ≤ i + r
  | 0, i => ⟨Nat.le_refl _, Nat.le_refl _⟩
  | r + 1, i => by
    rw [zsk]
    split
    · have := zsk_le B r (i + 1); omega
    · omega
theorem zln_le (B : Nat → Nat) {n i : Nat} (h : i ≤ n) : i + zln B n i ≤ n := by
  unfold zln
  split
  · exact h
  · split
    · have := zrn_le zlet B (n - i) i; omega
    · split
      · have := zrn_le zdig B (n - i) i; omega
      · omega
theorem zpsn_le (B : Nat → Nat) (n : Nat) : ∀ i, zpsn B n i ≤ n
  | 0 => by rw [zpsn]; have := zsk_le B n 0; omega
  | i + 1 => by
    rw [zpsn]
    have h := zln_le B (zpsn_le B n i)
    have := zsk_le B (n - (zpsn B n i + zln B n (zpsn B n i))) (zpsn B n i + zln B n (zpsn B n i))
    omega
theorem zln_pos {B : Nat → Nat} {n i : Nat} (h : zkd B n i ≠ 1) : 0 < zln B n i := by
  unfold zkd at h
  unfold zln
  by_cases h0 : n ≤ i
  · rw [if_pos h0] at h; exact absurd rfl h
  · rw [if_neg h0]
    obtain ⟨r, e⟩ : ∃ r, n - i = r + 1 := ⟨n - i - 1, by omega⟩
    by_cases h1 : zlet (B i) = true
    · rw [if_pos h1, e, zrn, if_pos h1]; omega
    · rw [if_neg h1]
      by_cases h2 : zdig (B i) = true
      · rw [if_pos h2, e, zrn, if_pos h2]; omega
      · rw [if_neg h2]; omega
theorem zpsn_lt {B : Nat → Nat} {n i : Nat} (h : tK B n i ≠ 1) : zpsn B n i < zpsn B n (i + 1) := by
  have h1 := zln_pos h
  have := zsk_le B (n - (zpsn B n i + zln B n (zpsn B n i))) (zpsn B n i + zln B n (zpsn B n i))
  rw [zpsn]
  omega
theorem zkf_v (w : Int64) : ∀ r k, zkf w r k = 3 ∨ (256 + k ≤ zkf w r k ∧ zkf w r k < 256 + k + r)
  | 0, _ => Or.inl rfl
  | r + 1, k => by
    rw [zkf]
    split
    · exact Or.inr ⟨Nat.le_refl _, by omega⟩
    · rcases zkf_v w r (k + 1) with h | h
      · exact Or.inl h
      · exact Or.inr ⟨by omega, by omega⟩
def zkv (k : Nat) : Prop := k = 1 ∨ k = 2 ∨ k = 3 ∨ k = 4 ∨ (k = 59 ∨ k = 61 ∨ k = 43 ∨ k = 45 ∨ k = 42 ∨ k = 47 ∨ k = 60 ∨ k = 40 ∨ k = 41) ∨ (256 ≤ k ∧ k < 277)
theorem zkd_v (B : Nat → Nat) (n i : Nat) : zkv (zkd B n i) := by
  unfold zkd zkv
  split
  · omega
  · split
    · split
      · have := zkf_v (znv B (zrn zlet B (n - i) i) i 0) 21 0; omega
      · omega
    · split
      · split <;> omega
      · split
        · rename_i h
          have := of_decide_eq_true h
          omega
        · omega
theorem ziv_lt (B : Nat → Nat) : ∀ k i w r, k ≤ zrn zdig B r i → ziv B k i w < (w + 1) * 10 ^ k
  | 0, i, w, r, _ => by rw [ziv]; omega
  | k + 1, i, w, 0, h => by rw [zrn] at h; omega
  | k + 1, i, w, r + 1, h => by
    rw [zrn] at h
    by_cases hd : zdig (B i) = true
    · rw [if_pos hd] at h
      have := ziv_lt B k (i + 1) (w * 10 + (B i - 48)) r (by omega)
      have hd := of_decide_eq_true hd
      rw [ziv]
      have h2 : (w * 10 + (B i - 48) + 1) * 10 ^ k ≤ ((w + 1) * 10) * 10 ^ k := Nat.mul_le_mul_right _ (by omega)
      have h3 : (w + 1) * 10 ^ (k + 1) = ((w + 1) * 10) * 10 ^ k := by rw [Nat.pow_succ, Nat.mul_comm (10 ^ k) 10, Nat.mul_assoc]
      omega
    · rw [if_neg hd] at h; omega
theorem zkd_int {B : Nat → Nat} {n i : Nat} (h : zkd B n i = 4) : ∃ m, m < 10000 ∧ zvl B n i = lN m ∧ ¬ n ≤ i ∧ ¬ zlet (B i) = true ∧ zdig (B i) = true ∧ m = ziv B (zrn zdig B (n - i) i) i 0 ∧ zrn zdig B (n - i) i ≤ 4 := by
  unfold zkd at h
  unfold zvl
  by_cases h0 : n ≤ i
  · rw [if_pos h0] at h; omega
  · rw [if_neg h0] at h ⊢
    by_cases h1 : zlet (B i) = true
    · rw [if_pos h1] at h
      split at h
      · have := zkf_v (znv B (zrn zlet B (n - i) i) i 0) 21 0; omega
      · omega
    · rw [if_neg h1] at h ⊢
      by_cases h2 : zdig (B i) = true
      · rw [if_pos h2] at h ⊢
        split at h
        · rename_i h3
          have h4 := ziv_lt B (zrn zdig B (n - i) i) i 0 (n - i) (Nat.le_refl _)
          have h5 : 10 ^ (zrn zdig B (n - i) i) ≤ 10 ^ 4 := Nat.pow_le_pow_right (by decide) h3
          exact ⟨_, by omega, rfl, h0, h1, h2, rfl, h3⟩
        · omega
      · rw [if_neg h2] at h
        split at h
        · rename_i h3
          have := of_decide_eq_true h3; omega
        · omega
theorem tK_v (B : Nat → Nat) (n i : Nat) : zkv (tK B n i) := zkd_v B n _
theorem tK_lt (B : Nat → Nat) (n i : Nat) : tK B n i < 277 := by
  have := tK_v B n i
  unfold zkv at this
  omega
theorem tK_int {B : Nat → Nat} {n i : Nat} (h : tK B n i = 4) : ∃ m, m < 10000 ∧ tV B n i = lN m := by
  obtain ⟨m, h1, h2, _⟩ := zkd_int h
  exact ⟨m, h1, h2⟩
/-! the class -/
def zBy (I : zI) (B : Nat → Nat) (n : Nat) : Prop := n ≤ 2000 ∧ I 2 1 = nI n ∧ (∀ i, i < n → I 3 i &&& 255 = nI (B i)) ∧ ∀ i, B i < 256
theorem zBy.kept {I I' : zI} {B : Nat → Nat} {n : Nat} (h : zBy I B n) (e : ∀ b j, b = 3 ∨ (b = 2 ∧ j = 1) → I' b j = I b j) : zBy I' B n := ⟨h.1, by rw [e _ _ (by omega)]; exact h.2.1, fun i hi => by rw [e _ _ (by omega)]; exact h.2.2.1 i hi, h.2.2.2⟩
section
variable {B : Nat → Nat} {n : Nat}
theorem s_byteAt {I : zI} {J : zJ} {i : Nat} (h : zBy I B n) (hi : i < n) {Q : Int32 → zI → zJ → Prop} (hq : Q (nI (B i)) I J) : v_Tape_byteAt 5000 (nI i) I J Q := by
  have hn := h.1
  unfold v_Tape_byteAt
  rw [h.2.1, nI_clamp (by omega), h.2.2.1 i hi]
  exact z_n (nI_pos (by omega)) (z_n (nI_ge hi (by omega)) ⟨vp_in_nI (by omega) (by decide), hq⟩)
theorem s_byteEnd {I : zI} {J : zJ} (h : zBy I B n) {Q : Int32 → zI → zJ → Prop} (hq : Q (-1) I J) : v_Tape_byteAt 5000 (nI n) I J Q := by
  have hn := h.1
  unfold v_Tape_byteAt
  rw [h.2.1]
  exact z_n (nI_pos (by omega)) (z_y (Int32.le_refl _) hq)
theorem s_isBlank {I : zI} {J : zJ} {c : Nat} (hc : c < 256) {Q : Int32 → zI → zJ → Prop} (h1 : zblk c = true → Q 1 I J) (h0 : ¬ zblk c = true → Q 0 I J) : v_Tape_isBlank 5000 (nI c) I J Q := by
  have hb : zblk c = true ↔ (c = 9 ∨ c = 10 ∨ c = 13 ∨ c = 32) := decide_eq_true_iff
  rw [hb] at h1 h0
  have e : ∀ d, d < 256 → (nI c = nI d ↔ c = d) := fun d hd => nI_eq (by omega) (by omega)
  refine ⟨fun q => h1 ?_, fun q9 => ⟨fun q => h1 ?_, fun q10 => ⟨fun q => h1 ?_, fun q13 => ⟨fun q => h0 ?_, fun q => h1 ?_⟩⟩⟩⟩
  · have := (e 9 (by decide)).mp q; omega
  · have := (e 10 (by decide)).mp q; omega
  · have := (e 13 (by decide)).mp q; omega
  · intro z
    rcases z with z | z | z | z
    · exact q9 ((e 9 (by decide)).mpr z)
    · exact q10 ((e 10 (by decide)).mpr z)
    · exact q13 ((e 13 (by decide)).mpr z)
    · exact q ((e 32 (by decide)).mpr z)
  · have := (e 32 (by decide)).mp q; omega
theorem s_isLetter {I : zI} {J : zJ} {c : Nat} (hc : c < 256) {Q : Int32 → zI → zJ → Prop} (h1 : zlet c = true → Q 1 I J) (h0 : ¬ zlet c = true → Q 0 I J) : v_Tape_isLetter 5000 (nI c) I J Q := by
  have hb : zlet c = true ↔ (97 ≤ c ∧ c ≤ 122) := decide_eq_true_iff
  rw [hb] at h1 h0
  refine ⟨fun q => h0 ?_, fun q => ⟨fun q2 => h0 ?_, fun q2 => h1 ?_⟩⟩
  · have := (nI_ltI (a := c) (b := 97) (by omega) (by decide)).mp q; omega
  · have := (nI_ltI (a := 122) (b := c) (by decide) (by omega)).mp q2; omega
  · have h1 : ¬ c < 97 := fun z => q (nI_lt z (by decide))
    have h2 : ¬ 122 < c := fun z => q2 (nI_lt z (by omega))
    omega
theorem s_isDigit {I : zI} {J : zJ} {c : Nat} (hc : c < 256) {Q : Int32 → zI → zJ → Prop} (h1 : zdig c = true → Q 1 I J) (h0 : ¬ zdig c = true → Q 0 I J) : v_Tape_isDigit 5000 (nI c) I J Q := by
  have hb : zdig c = true ↔ (48 ≤ c ∧ c ≤ 57) := decide_eq_true_iff
  rw [hb] at h1 h0
  refine ⟨fun q => h0 ?_, fun q => ⟨fun q2 => h0 ?_, fun q2 => h1 ?_⟩⟩
  · have := (nI_ltI (a := c) (b := 48) (by omega) (by decide)).mp q; omega
  · have := (nI_ltI (a := 57) (b := c) (by decide) (by omega)).mp q2; omega
  · have h1 : ¬ c < 48 := fun z => q (nI_lt z (by decide))
    have h2 : ¬ 57 < c := fun z => q2 (nI_lt z (by omega))
    omega
abbrev fr23 (I I' : zI) : Prop := ∀ b j, ¬ (b = 2 ∧ j = 3) → I' b j = I b j
theorem s_skip {J : zJ} {Q : zI → zJ → Prop} : ∀ r i k (I : zI), zBy I B n → I 2 3 = nI i → i + r = n → r < k → (∀ I' : zI, fr23 I I' → I' 2 3 = nI (zsk B r i) → Q I' J) → v_Tape_skipBlanks_0 5000 k I J Q
  | _, _, 0, _, _, _, _, hk, _ => absurd hk (Nat.not_lt_zero _)
  | 0, i, k + 1, I, hB, h3, hi, hk, hq => by
    have hn := hB.1
    rw [v_Tape_skipBlanks_0]; dsimp only; rw [hB.2.1, h3]
    exact z_y (nI_le (by omega) (by omega)) (hq I (fun _ _ _ => rfl) h3)
  | r + 1, i, k + 1, I, hB, h3, hi, hk, hq => by
    have hn := hB.1
    rw [v_Tape_skipBlanks_0]; dsimp only; rw [hB.2.1, h3]
    rw [zsk] at hq
    refine z_n (nI_ge (by omega) (by omega)) (s_byteAt hB (by omega) (s_isBlank (hB.2.2.2 i) (fun h => z_n z_10 (fun I7 e7 => ?_)) (fun h => z_y z_00 ?_)))
    · rw [if_pos h] at hq
      rw [h3, nI_1] at e7
      have o7 : fr23 I I7 := fun b j q => by rw [e7, qu_off (by omega)]
      exact s_skip r (i + 1) k I7 (hB.kept (fun b j q => o7 b j (by omega))) (by rw [e7, qu_same]) (by omega) (by omega) (fun I' o' f' => hq I' (fun b j q => by rw [o' b j q, o7 b j q]) f')
    · rw [if_neg h] at hq
      exact hq I (fun _ _ _ => rfl) h3
theorem z_letter {c : Nat} (h : zlet c = true) : ((nI c - 97) + 1).toInt64 = lN (c - 96) := by
  have h := of_decide_eq_true h
  rw [show nI c - 97 = nI (c - 97) from nI_sub (b := 97) h.1, nI_1, nI_l (by omega)]
  congr 1
  omega
theorem z_digit {c : Nat} (h : zdig c = true) : (nI c - 48).toInt64 = lN (c - 48) := by
  have h := of_decide_eq_true h
  rw [show nI c - 48 = nI (c - 48) from nI_sub (b := 48) h.1, nI_l (by omega)]
theorem s_splitWord2 {J : zJ} {x1 : Int32} {Q : Int32 → zI → zJ → Prop} {K : Int32 → Int64 → zI → zJ → Prop} : ∀ r i k (w : Int64) (I : zI), zBy I B n → I 2 3 = nI i → i + r = n → r < k → (∀ I' : zI, fr23 I I' → I' 2 3 = nI (i + zrn zlet B r i) → K x1 (znv B (zrn zlet B r i) i w) I' J) → v_Tape_splitWord_2 5000 k x1 w I J Q K
  | _, _, 0, _, _, _, _, _, hk, _ => absurd hk (Nat.not_lt_zero _)
  | 0, i, k + 1, w, I, hB, h3, hi, hk, hq => by
    have hn := hB.1
    rw [v_Tape_splitWord_2]; dsimp only; rw [hB.2.1, h3]
    exact z_y (nI_le (by omega) (by omega)) (hq I (fun _ _ _ => rfl) h3)
  | r + 1, i, k + 1, w, I, hB, h3, hi, hk, hq => by
    have hn := hB.1
    rw [v_Tape_splitWord_2]; dsimp only; rw [hB.2.1, h3]
    rw [zrn] at hq
    refine z_n (nI_ge (by omega) (by omega)) (s_byteAt hB (by omega) (s_isLetter (hB.2.2.2 i) (fun h => z_n z_10 ?_) (fun h => z_y z_00 ?_)))
    · rw [if_pos h, znv] at hq
      rw [h3]
      refine s_byteAt hB (by omega) ?_
      unfold v_Tape_withLetter
      rw [z_letter h]
      intro I7 e7
      rw [h3, nI_1] at e7
      have o7 : fr23 I I7 := fun b j q => by rw [e7, qu_off (by omega)]
      refine s_splitWord2 r (i + 1) k _ I7 (hB.kept (fun b j q => o7 b j (by omega))) (by rw [e7, qu_same]) (by omega) (by omega) (fun I' o' f' => hq I' (fun b j q => by rw [o' b j q, o7 b j q]) ?_)
      rw [f']; congr 1; omega
    · rw [if_neg h, znv] at hq
      exact hq I (fun _ _ _ => rfl) h3
theorem s_splitInt2 {J : zJ} {x1 : Int32} {Q : Int32 → zI → zJ → Prop} {K : Int32 → Int64 → zI → zJ → Prop} : ∀ r i k (w : Nat) (I : zI), zBy I B n → I 2 3 = nI i → i + r = n → r < k → (∀ I' : zI, fr23 I I' → I' 2 3 = nI (i + zrn zdig B r i) → K x1 (lN (ziv B (zrn zdig B r i) i w)) I' J) → v_Tape_splitInt_2 5000 k x1 (lN w) I J Q K
  | _, _, 0, _, _, _, _, _, hk, _ => absurd hk (Nat.not_lt_zero _)
  | 0, i, k + 1, w, I, hB, h3, hi, hk, hq => by
    have hn := hB.1
    rw [v_Tape_splitInt_2]; dsimp only; rw [hB.2.1, h3]
    exact z_y (nI_le (by omega) (by omega)) (hq I (fun _ _ _ => rfl) h3)
  | r + 1, i, k + 1, w, I, hB, h3, hi, hk, hq => by
    have hn := hB.1
    rw [v_Tape_splitInt_2]; dsimp only; rw [hB.2.1, h3]
    rw [zrn] at hq
    refine z_n (nI_ge (by omega) (by omega)) (s_byteAt hB (by omega) (s_isDigit (hB.2.2.2 i) (fun h => z_n z_10 ?_) (fun h => z_y z_00 ?_)))
    · rw [if_pos h, ziv] at hq
      rw [h3]
      refine s_byteAt hB (by omega) (fun y9 e9 I7 e7 => ?_)
      rw [z_digit h, show lN w * 10 = lN (w * 10) from lN_mul w 10, lN_add] at e9
      rw [h3, nI_1] at e7
      rw [e9]
      have o7 : fr23 I I7 := fun b j q => by rw [e7, qu_off (by omega)]
      refine s_splitInt2 r (i + 1) k _ I7 (hB.kept (fun b j q => o7 b j (by omega))) (by rw [e7, qu_same]) (by omega) (by omega) (fun I' o' f' => hq I' (fun b j q => by rw [o' b j q, o7 b j q]) ?_)
      rw [f']; congr 1; omega
    · rw [if_neg h, ziv] at hq
      exact hq I (fun _ _ _ => rfl) h3
theorem z_cmp0 (x y : Int64) : lg_cmp x y = 0 ↔ x = y := by
  unfold lg_cmp
  by_cases h : x > y
  · rw [if_pos h]
    exact ⟨fun q => absurd q (by decide), fun q => by subst q; exact absurd h Int64.lt_irrefl⟩
  · rw [if_neg h]
    by_cases h2 : x = y
    · rw [if_pos h2]; exact ⟨fun _ => h2, fun _ => rfl⟩
    · rw [if_neg h2]; exact ⟨fun q => absurd q (by decide), fun q => absurd q h2⟩
theorem s_kindOf2 {I : zI} {J : zJ} {w : Int64} (hK : rKeys J) {Q : Int32 → zI → zJ → Prop} : ∀ r i k, i + r = 21 → r < k → Q (nI (zkf w r i)) I J → v_Tape_kindOf_2 5000 k w (nI i) I J Q
  | _, _, 0, _, hk, _ => absurd hk (Nat.not_lt_zero _)
  | 0, i, k + 1, hi, hk, hq => z_y (nI_le (a := 21) (by omega) (by omega)) hq
  | r + 1, i, k + 1, hi, hk, hq => by
    rw [v_Tape_kindOf_2]; dsimp only; rw [nI_clamp (by omega), (hK i (by omega)).1, nI_1, z_cmp0]
    rw [zkf] at hq
    refine z_n (nI_ge (b := 21) (by omega) (by decide)) ⟨vp_in_nI (by omega) (by decide), fun q => ?_, fun q => ?_⟩
    · rw [if_neg q] at hq
      exact s_kindOf2 hK r (i + 1) k (by omega) (by omega) hq
    · rw [if_pos q] at hq
      rw [show (256 : Int32) + nI i = nI (256 + i) from nI_add 256 i]
      exact hq
theorem z_ixs {c : Nat} (hc : c < 256) : (zix (((nI c).toUInt32 % 65536).toInt32) < 0 ↔ ¬ zsgn c = true) := by
  have : ∀ c, c < 256 → (zix (((nI c).toUInt32 % 65536).toInt32) < 0 ↔ ¬ zsgn c = true) := by decide +kernel
  exact this c hc
theorem s_splitOne {I : zI} {J : zJ} {p i : Nat} (hB : zBy I B n) (hK : rKeys J) (hp : p ≤ n) (hi : i < 402) (h3 : I 2 3 = nI p) (h6 : I 6 i = nI p) (h7 : J 7 i = 0) {Q : Int32 → zI → zJ → Prop} (hq : ∀ (I' : zI) (J' : zJ), fr23 I I' → I' 2 3 = nI (p + zln B n p) → (∀ b j, ¬ (b = 7 ∧ j = i) → J' b j = J b j) → J' 7 i = zvl B n p → Q (nI (zkd B n p)) I' J') : v_Tape_splitOne 5000 (nI i) I J Q := by
  have hn := hB.1
  unfold v_Tape_splitOne
  rw [h3]
  unfold zln zvl zkd at hq
  by_cases hpn : n ≤ p
  · simp only [if_pos hpn] at hq
    rw [show p = n by omega] at hq h3 ⊢
    exact s_byteEnd hB (z_yr rfl (hq I J (fun _ _ _ => rfl) h3 (fun _ _ _ => rfl) h7))
  · simp only [if_neg hpn] at hq
    have hc := hB.2.2.2 p
    refine s_byteAt hB (by omega) (z_nr (fun z => absurd (z ▸ (by decide : (-1 : Int32) < 0)) (nI_pos (n := B p) (by omega))) (s_isLetter hc (fun h => z_n z_10 ?_) (fun h => z_y z_00 (s_isDigit hc (fun hd => z_n z_10 ?_) (fun hd => z_y z_00 (fun I10 e10 => ?_))))))
    · simp only [if_pos h] at hq
      refine s_splitWord2 (B := B) (n := n) (n - p) p 5000 0 I hB h3 (by omega) (by omega) (fun I' o' f' => ?_)
      unfold v_Tape_splitWord_53
      rw [nI_clamp (by omega), o' 6 _ (by omega), h6, f', nI_sub (by omega), Nat.add_sub_cancel_left]
      have v : vp_in (nI i) 402 := vp_in_nI hi (by decide)
      have hle := zrn_le zlet B (n - p) p
      refine ⟨v, fun J2 e2 => ⟨v, fun q => ?_, fun q => ?_⟩⟩
      · rw [if_pos ((nI_leI (b := 8) (by omega) (by decide)).mp q)] at hq
        exact s_kindOf2 (fun k hk => by rw [e2, qu_off (Or.inl (by decide)), qu_off (Or.inl (by decide))]; exact hK k hk) 21 0 5000 (by decide) (by decide) (hq I' J2 o' f' (fun b j q => by rw [e2, qu_off (by omega)]) (by rw [e2, qu_same]))
      · rw [if_neg (fun z => q (nI_le (b := 8) z (by decide)))] at hq
        exact hq I' J2 o' f' (fun b j q => by rw [e2, qu_off (by omega)]) (by rw [e2, qu_same])
    · simp only [if_neg h, if_pos hd] at hq
      refine s_splitInt2 (B := B) (n := n) (n - p) p 5000 0 I hB h3 (by omega) (by omega) (fun I' o' f' => ?_)
      unfold v_Tape_splitInt_59
      rw [nI_clamp (by omega), o' 6 _ (by omega), h6, f', nI_sub (by omega), Nat.add_sub_cancel_left]
      have v : vp_in (nI i) 402 := vp_in_nI hi (by decide)
      have hle := zrn_le zdig B (n - p) p
      refine ⟨v, fun J2 e2 => ⟨v, fun q => ?_, fun q => ?_⟩⟩
      · rw [if_pos ((nI_leI (b := 4) (by omega) (by decide)).mp q)] at hq
        exact hq I' J2 o' f' (fun b j q => by rw [e2, qu_off (by omega)]) (by rw [e2, qu_same])
      · rw [if_neg (fun z => q (nI_le (b := 4) z (by decide)))] at hq
        exact hq I' J2 o' f' (fun b j q => by rw [e2, qu_off (by omega)]) (by rw [e2, qu_same])
    · simp only [if_neg h, if_neg hd] at hq
      rw [h3, nI_1] at e10
      have o10 : fr23 I I10 := fun b j q => by rw [e10, qu_off (by omega)]
      refine ⟨fun q => ?_, fun q => ?_⟩
      · rw [if_neg ((z_ixs hc).mp q)] at hq
        exact hq I10 J o10 (by rw [e10, qu_same]) (fun _ _ _ => rfl) h7
      · have hs : zsgn (B p) = true := by
          rcases Bool.eq_false_or_eq_true (zsgn (B p)) with z | z
          · exact z
          · exact absurd ((z_ixs hc).mpr (by rw [z]; decide)) q
        rw [if_pos hs] at hq
        exact hq I10 J o10 (by rw [e10, qu_same]) (fun _ _ _ => rfl) h7
/-- the class' rows hold the tokens -/
def zTh (I : zI) (J : zJ) (B : Nat → Nat) (n : Nat) : Prop := ∀ i, i ≤ 400 → (∀ j, j < i → tK B n j ≠ 1 ∧ tK B n j ≠ 2) → I 5 i = nI (tK B n i) ∧ I 6 i = nI (zpsn B n i) ∧ J 7 i = tV B n i
abbrev frSp (I I' : zI) : Prop := ∀ b j, ¬ (b = 2 ∧ j = 3) → b ≠ 5 → b ≠ 6 → I' b j = I b j
theorem s_split9 {Q : zI → zJ → Prop} : ∀ r i k q (I : zI) (J : zJ), zBy I B n → rKeys J → q ≤ n → zsk B (n - q) q = zpsn B n i → I 2 3 = nI q → (∀ j, j < i → I 5 j = nI (tK B n j) ∧ I 6 j = nI (zpsn B n j) ∧ J 7 j = tV B n j) → i + r = 402 → r < k → (∀ (I' : zI) (J' : zJ), frSp I I' → (∀ b j, b ≠ 7 → J' b j = J b j) → zTh I' J' B n → Q I' J') → v_Tape_split_9 5000 k 1 (nI i) I J Q
  | _, _, 0, _, _, _, _, _, _, _, _, _, _, hk, _ => absurd hk (Nat.not_lt_zero _)
  | 0, i, k + 1, q, I, J, hB, hK, hqn, hs, h3, hd, hi, hk, hq => z_y (nI_le (a := 402) (by omega) (by omega)) (hq I J (fun _ _ _ _ _ => rfl) (fun _ _ _ => rfl) (fun j hj _ => hd j (by omega)))
  | r + 1, i, k + 1, q, I, J, hB, hK, hqn, hs, h3, hd, hi, hk, hq => by
    have hn := hB.1
    have v : vp_in (nI i) 402 := vp_in_nI (by omega) (by decide)
    rw [v_Tape_split_9]; dsimp only; rw [nI_clamp (by omega)]
    refine z_n (nI_ge (b := 402) (by omega) (by decide)) (z_n z_10 (s_skip (n - q) q 5000 I hB h3 (by omega) (by omega) (fun I3 o3 f3 => ⟨v, fun I5 e5 => ⟨v, fun J7 e7 => ?_⟩⟩)))
    rw [hs] at f3
    rw [f3] at e5
    have hpo := zpsn_le B n i
    have o5 : ∀ b j, ¬ (b = 2 ∧ j = 3) → ¬ (b = 6 ∧ j = i) → I5 b j = I b j := fun b j q1 q2 => by rw [e5, qu_off (by omega), o3 b j q1]
    have hK7 : rKeys J7 := fun k hk => by rw [e7, qu_off (Or.inl (by decide)), qu_off (Or.inl (by decide))]; exact hK k hk
    refine s_splitOne (hB.kept (fun b j q => o5 b j (by omega) (by omega))) hK7 hpo (by omega) (by rw [e5, qu_off (by omega)]; exact f3) (by rw [e5, qu_same]) (by rw [e7, qu_same]) (fun I9 J9 o9 f9 p9 g9 => ⟨v, fun I11 e11 => ⟨v, ?_⟩⟩)
    have o11 : ∀ b j, ¬ (b = 2 ∧ j = 3) → ¬ (b = 6 ∧ j = i) → ¬ (b = 5 ∧ j = i) → I11 b j = I b j := fun b j q1 q2 q3 => by rw [e11, qu_off (by omega), o9 b j q1, o5 b j q1 q2]
    have p11 : ∀ b j, ¬ (b = 7 ∧ j = i) → J9 b j = J b j := fun b j q => by rw [p9 b j q, e7, qu_off (by omega)]
    have ek : I11 5 i = nI (tK B n i) := by rw [e11, qu_same]; rfl
    have hd11 : ∀ j, j < i + 1 → I11 5 j = nI (tK B n j) ∧ I11 6 j = nI (zpsn B n j) ∧ J9 7 j = tV B n j := fun j hj => by
      by_cases e : j = i
      · subst e
        exact ⟨ek, by rw [e11, qu_off (by omega), o9 _ _ (by omega), e5, qu_same], g9⟩
      · rw [o11 _ _ (by omega) (by omega) (by omega), o11 _ _ (by omega) (by omega) (by omega), p11 _ _ (by omega)]
        exact hd j (by omega)
    have fin : frSp I I11 := fun b j q1 q2 q3 => o11 b j q1 (by omega) (by omega)
    have finJ : ∀ b j, b ≠ 7 → J9 b j = J b j := fun b j q => p11 b j (by omega)
    have stop : (tK B n i = 1 ∨ tK B n i = 2) → v_Tape_split_9 5000 k 0 (nI (i + 1)) I11 J9 Q := fun hs => by
      obtain ⟨k', rfl⟩ : ∃ k', k = k' + 1 := ⟨k - 1, by omega⟩
      have : zTh I11 J9 B n := fun j hj hg => by
        rcases Nat.lt_or_ge i j with z | z
        · have := hg i z; omega
        · exact hd11 j (by omega)
      exact ⟨fun _ => hq I11 J9 fin finJ this, fun _ => z_y z_00 (hq I11 J9 fin finJ this)⟩
    have hlt := tK_lt B n i
    rw [nI_1, ek]
    refine ⟨fun z => stop (Or.inl ((nI_eq (b := 1) (by omega) (by decide)).mp z)), fun z1 => ⟨fun z => stop (Or.inr ((nI_eq (b := 2) (by omega) (by decide)).mp z)), fun z2 => ?_⟩⟩
    have hle := zln_le B hpo
    exact s_split9 r (i + 1) k (zpsn B n i + zln B n (zpsn B n i)) I11 J9 (hB.kept (fun b j q => o11 b j (by omega) (by omega) (by omega))) (fun k hk => by rw [finJ _ _ (by decide), finJ _ _ (by decide)]; exact hK k hk) hle rfl (by rw [e11, qu_off (by omega)]; exact f9) hd11 (by omega) (by omega) (fun I' J' o' p' h' => hq I' J' (fun b j q1 q2 q3 => by rw [o' b j q1 q2 q3, fin b j q1 q2 q3]) (fun b j q => by rw [p' b j q, finJ b j q]) h')
theorem s_split {I : zI} {J : zJ} (hB : zBy I B n) (hK : rKeys J) {Q : zI → zJ → Prop} (hq : ∀ (I' : zI) (J' : zJ), frSp I I' → (∀ b j, b ≠ 7 → J' b j = J b j) → zTh I' J' B n → Q I' J') : v_Tape_split 5000 I J Q := fun I1 e1 => s_split9 402 0 5000 0 I1 J (hB.kept (fun b j q => by rw [e1, qu_off (by omega)])) hK (Nat.zero_le _) rfl (by rw [e1, qu_same]; rfl) (fun j hj => absurd hj (Nat.not_lt_zero _)) (by omega) (by omega) (fun I' J' o' p' h' => hq I' J' (fun b j q1 q2 q3 => by rw [o' b j q1 q2 q3, e1, qu_off (by omega)]) p' h')
end
