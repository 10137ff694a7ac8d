/-! sets, changes: the rings of selves -/
theorem z_pig : ∀ (n i : Nat) (g : Nat → Nat), (∀ a, a < i → g a < n) → (∀ a b, a < i → b < i → g a = g b → a = b) → i ≤ n
  | 0, i, g, h, _ => by
    rcases Nat.eq_zero_or_pos i with e | e
    · omega
    · exact absurd (h 0 e) (Nat.not_lt_zero _)
  | n + 1, i, g, h1, h2 => by
    rcases Nat.eq_zero_or_pos i with e | e
    · omega
    · obtain ⟨m, rfl⟩ : ∃ m, i = m + 1 := ⟨i - 1, by omega⟩
      have hv := h1 m (Nat.lt_succ_self _)
      have := z_pig n m (fun a => if g a = n then g m else g a) (fun a ha => by
        show (if g a = n then g m else g a) < n
        have h := h1 a (by omega)
        by_cases hg : g a = n
        · rw [if_pos hg]
          have : g m ≠ n := fun z => by
            have := h2 a m (by omega) (by omega) (hg.trans z.symm)
            omega
          omega
        · rw [if_neg hg]; omega) (fun a b ha hb e => by
        have e : (if g a = n then g m else g a) = if g b = n then g m else g b := e
        by_cases hga : g a = n
        · by_cases hgb : g b = n
          · exact h2 a b (by omega) (by omega) (hga.trans hgb.symm)
          · rw [if_pos hga, if_neg hgb] at e
            have := h2 m b (by omega) (by omega) e
            omega
        · by_cases hgb : g b = n
          · rw [if_neg hga, if_pos hgb] at e
            have := h2 a m (by omega) (by omega) e
            omega
          · rw [if_neg hga, if_neg hgb] at e
            exact h2 a b (by omega) (by omega) e)
      omega
theorem z_bM : ∀ m, m < 64 → ∀ b, b < 6 → ((nI m >>> (nI b &&& 31)) &&& (1 : Int32)) = if m.testBit b = true then 1 else 0 := by decide +kernel
theorem z_bX : ∀ m, m < 64 → ∀ b, b < 6 → ((nI m &&& ((1 : Int32) <<< (nI b &&& 31))) = 0 ↔ m.testBit b = false) := by decide +kernel
theorem z_or64 {m b : Nat} (hm : m < 64) (hb : b < 6) : m ||| 2 ^ b < 64 := Nat.or_lt_two_pow (n := 6) hm (Nat.pow_lt_pow_right (by decide) hb)
theorem z_or_up {m b : Nat} (h : m.testBit b = false) : m < m ||| 2 ^ b := by
  rcases Nat.lt_or_eq_of_le (Nat.left_le_or (n := m) (m := 2 ^ b)) with z | z
  · exact z
  · exfalso
    have : (m ||| 2 ^ b).testBit b = true := by rw [Nat.testBit_or, Nat.testBit_two_pow, Bool.or_eq_true, decide_eq_true_eq]; exact Or.inr rfl
    rw [← z, h] at this
    cases this
def zit (f : Nat → Nat) (p : Nat) : Nat → Nat
  | 0 => p
  | i + 1 => f (zit f p i)
def zrg (f : Nat → Nat) (p : Nat) : Nat → Nat → Nat → Nat
  | 0, _, c => c
  | r + 1, i, c => zrg f p r (i + 1) (c ||| 2 ^ zit f p i)
theorem zit_lt {f : Nat → Nat} {n p : Nat} (hf : ∀ q, q < n → f q < n) (hp : p < n) : ∀ i, zit f p i < n
  | 0 => hp
  | i + 1 => hf _ (zit_lt hf hp i)
theorem zrg_tb (f : Nat → Nat) (p x : Nat) : ∀ r i c, (zrg f p r i c).testBit x = true ↔ (c.testBit x = true ∨ ∃ j, i ≤ j ∧ j < i + r ∧ zit f p j = x)
  | 0, i, c => ⟨Or.inl, fun h => h.elim id (fun ⟨j, h1, h2, _⟩ => absurd h1 (by omega))⟩
  | r + 1, i, c => by
    rw [zrg, zrg_tb f p x r (i + 1), Nat.testBit_or, Nat.testBit_two_pow, Bool.or_eq_true, decide_eq_true_eq]
    constructor
    · rintro ((z | z) | ⟨j, h1, h2, h3⟩)
      · exact Or.inl z
      · exact Or.inr ⟨i, Nat.le_refl _, by omega, z⟩
      · exact Or.inr ⟨j, by omega, by omega, h3⟩
    · rintro (z | ⟨j, h1, h2, h3⟩)
      · exact Or.inl (Or.inl z)
      · by_cases hj : j = i
        · subst hj; exact Or.inl (Or.inr h3)
        · exact Or.inr ⟨j, by omega, by omega, h3⟩
theorem zrg_64 {f : Nat → Nat} {n p : Nat} (hn : n ≤ 6) (hf : ∀ q, q < n → f q < n) (hp : p < n) : ∀ r i c, c < 64 → zrg f p r i c < 64
  | 0, _, _, h => h
  | r + 1, i, c, h => zrg_64 hn hf hp r (i + 1) _ (z_or64 h (by have := zit_lt hf hp i; omega))
abbrev zf (s : zT) : Nat → Nat := fun p => (sS s p).toNatClampNeg
theorem zf_ok {nH nP : Nat} {s : zT} (hP : nP ≤ 6) (hw : zW nH nP s) : (∀ q, q < nP → zf s q < nP ∧ sS s q = nI (zf s q)) ∧ ∀ a b, a < nP → b < nP → zf s a = zf s b → a = b := by
  have h1 : ∀ q, q < nP → zf s q < nP ∧ sS s q = nI (zf s q) := fun q hq => by
    obtain ⟨j, hj, e⟩ := hw.2.2.2.1 q hq
    have : zf s q = j := by show (sS s q).toNatClampNeg = j; rw [e, nI_clamp (by omega)]
    rw [this]; exact ⟨hj, e⟩
  refine ⟨h1, fun a b ha hb e => hw.2.2.2.2.1 a b ha hb ?_⟩
  rw [(h1 a ha).2, (h1 b hb).2, e]
theorem s_ringFrom_7 {I : zI} {J : zJ} {t : zX} {live p : Nat} {s : zT} (hQ : zQ I t live s) (hp : p < xP t) {Q : Int32 → zI → zJ → Prop} : ∀ r i k c, i + r = xP t → r < k → Q (nI (zrg (zf s) p r i c)) I J → v_X_ringFrom_7 5000 k (nI c) (nI (zit (zf s) p i)) (nI i) I J Q
  | _, _, 0, _, _, hk, _ => absurd hk (Nat.not_lt_zero _)
  | 0, i, k + 1, c, hi, hk, hq => by
    have hP := hQ.1.1.2.1
    rw [v_X_ringFrom_7]; dsimp only; rw [hQ.1.2.1.2.1]
    exact z_y (nI_le (by omega) (by omega)) hq
  | r + 1, i, k + 1, c, hi, hk, hq => by
    have hP := hQ.1.1.2.1
    obtain ⟨f1, f2⟩ := zf_ok hP hQ.1.2.2.1
    have hz := zit_lt (fun q hq => (f1 q hq).1) hp i
    rw [v_X_ringFrom_7]; dsimp only; rw [hQ.1.2.1.2.1, z_sh _ (by omega), nI_or, nI_clamp (by omega)]
    refine z_n (nI_ge (by omega) (by omega)) (fun y ey => ⟨vp_in_nI (by omega) (by decide), fun y4 e4 => ?_⟩)
    have e : I 52 (zit (zf s) p i) = sS s (zit (zf s) p i) := hQ.1.2.2.2.1.2.2.2.1 _ hz
    rw [ey, e4, e, (f1 _ hz).2, nI_1]
    exact s_ringFrom_7 hQ hp r (i + 1) k (c ||| 2 ^ zit (zf s) p i) (by omega) (by omega) hq
/-- closed both ways -/
def zclo (f : Nat → Nat) (n m : Nat) : Prop := ∀ x, x < n → (m.testBit (f x) = true ↔ m.testBit x = true)
theorem zrg_end {f : Nat → Nat} {n p m i c : Nat} (hf : ∀ q, q < n → f q < n) (hi : ∀ a b, a < n → b < n → f a = f b → a = b) (hp : p < n) (hc : zclo f n m) (hm : m.testBit p = false) (h0 : ∀ x, c.testBit x = true ↔ (m.testBit x = true ∨ ∃ j, j < i ∧ zit f p j = x)) (h1 : ∀ j, j < i → ∀ l, l < j → ¬ zit f p l = zit f p j) (h2 : ∀ j, j < i → m.testBit (zit f p j) = false) (hs : c.testBit (zit f p i) = true) : c = m ||| zrg f p n 0 0 ∧ zclo f n c := by
  have hlt := zit_lt hf hp
  have hnm : m.testBit (zit f p i) = false := by
    cases i with
    | zero => exact hm
    | succ i =>
      have := h2 i (Nat.lt_succ_self _)
      cases hb : m.testBit (zit f p (i + 1)) with
      | false => rfl
      | true =>
        have := (hc (zit f p i) (hlt i)).mp hb
        rw [h2 i (Nat.lt_succ_self _)] at this
        cases this
  have hback : 0 < i ∧ zit f p i = p := by
    rcases (h0 _).mp hs with z | ⟨j, hj, e⟩
    · rw [hnm] at z; cases z
    · cases i with
      | zero => exact absurd hj (Nat.not_lt_zero _)
      | succ i =>
        refine ⟨Nat.succ_pos _, ?_⟩
        cases j with
        | zero => exact e.symm
        | succ j =>
          have := hi _ _ (hlt j) (hlt i) e
          exact absurd this (h1 i (Nat.lt_succ_self _) j (by omega))
  have hall : ∀ j, ∃ l, l < i ∧ zit f p l = zit f p j := by
    intro j
    induction j with
    | zero => exact ⟨0, hback.1, rfl⟩
    | succ j ih =>
      obtain ⟨l, hl, e⟩ := ih
      by_cases hli : l + 1 = i
      · refine ⟨0, hback.1, ?_⟩
        show p = f (zit f p j)
        rw [← e]
        have : zit f p i = f (zit f p l) := by rw [← hli]; rfl
        rw [← this, hback.2]
      · exact ⟨l + 1, by omega, congrArg f e⟩
  have hin : i ≤ n := z_pig n i (zit f p) (fun a _ => hlt a) (fun a b ha hb e => by
    rcases Nat.lt_trichotomy a b with z | z | z
    · exact absurd e (h1 b hb a z)
    · exact z
    · exact absurd e.symm (h1 a ha b z))
  have hcx : ∀ x, c.testBit x = true ↔ (m.testBit x = true ∨ ∃ j, zit f p j = x) := fun x => (h0 x).trans ⟨fun z => z.elim Or.inl (fun ⟨j, _, e⟩ => Or.inr ⟨j, e⟩), fun z => z.elim Or.inl (fun ⟨j, e⟩ => by
    obtain ⟨l, hl, e'⟩ := hall j
    exact Or.inr ⟨l, hl, e'.trans e⟩)⟩
  refine ⟨?_, fun x hx => ?_⟩
  · apply Nat.eq_of_testBit_eq
    intro x
    rw [Bool.eq_iff_iff, hcx x, Nat.testBit_or, Bool.or_eq_true, zrg_tb, Nat.zero_testBit]
    constructor
    · rintro (z | ⟨j, e⟩)
      · exact Or.inl z
      · obtain ⟨l, hl, e'⟩ := hall j
        exact Or.inr (Or.inr ⟨l, Nat.zero_le _, by omega, e'.trans e⟩)
    · rintro (z | z | ⟨j, _, _, e⟩)
      · exact Or.inl z
      · cases z
      · exact Or.inr ⟨j, e⟩
  · rw [hcx, hcx]
    constructor
    · rintro (z | ⟨j, e⟩)
      · exact Or.inl ((hc x hx).mp z)
      · refine Or.inr ?_
        cases j with
        | succ j => exact ⟨j, hi _ _ (hlt j) hx e⟩
        | zero =>
          obtain ⟨l, rfl⟩ : ∃ l, i = l + 1 := ⟨i - 1, by omega⟩
          exact ⟨l, hi _ _ (hlt l) hx (hback.2.trans e)⟩
    · rintro (z | ⟨j, e⟩)
      · exact Or.inl ((hc x hx).mpr z)
      · exact Or.inr ⟨j + 1, congrArg f e⟩
theorem s_M_sets_37 {I : zI} {J : zJ} {t : zX} {live p m : Nat} {s : zT} (hQ : zQ I t live s) (hp : p < xP t) (hc : zclo (zf s) (xP t) m) (hm : m.testBit p = false) {x2 x3 : Int32} {Q : Int32 → zI → zJ → Prop} {K : Int32 → Int32 → Int32 → zI → zJ → Prop} (hq : ∀ c, c = m ||| zrg (zf s) p (xP t) 0 0 → zclo (zf s) (xP t) c → K (nI c) x2 x3 I J) : ∀ k i c, c < 64 → 64 - c < k → (∀ x, c.testBit x = true ↔ (m.testBit x = true ∨ ∃ j, j < i ∧ zit (zf s) p j = x)) → (∀ j, j < i → ∀ l, l < j → ¬ zit (zf s) p l = zit (zf s) p j) → (∀ j, j < i → m.testBit (zit (zf s) p j) = false) → v_M_sets_37 5000 k (nI c) x2 x3 (nI (zit (zf s) p i)) I J Q K
  | 0, _, _, _, hk, _, _, _ => absurd hk (Nat.not_lt_zero _)
  | k + 1, i, c, h64, hk, h0, h1, h2 => by
    have hP := hQ.1.1.2.1
    obtain ⟨f1, f2⟩ := zf_ok hP hQ.1.2.2.1
    have hz := zit_lt (fun q hq => (f1 q hq).1) hp i
    rw [v_M_sets_37]; dsimp only; rw [z_bM c h64 _ (by omega)]
    cases hb : c.testBit (zit (zf s) p i) with
    | true =>
      obtain ⟨e, hcl⟩ := zrg_end (fun q hq => (f1 q hq).1) f2 hp hc hm h0 h1 h2 hb
      exact z_nr (by rw [if_pos rfl]; decide) (hq c e hcl)
    | false =>
      refine z_yr (by rw [if_neg (by decide)]) (fun y ey => ?_)
      rw [z_c12, nI_clamp (by omega)]
      refine ⟨vp_in_nI (by omega) (by decide), fun y4 e4 => ?_⟩
      have e : I 393 (12 + zit (zf s) p i) = sS s (zit (zf s) p i) := hQ.2.2.2.2.2.1 _ hz
      rw [ey, e4, e, (f1 _ hz).2, z_sh _ (by omega), nI_or]
      refine s_M_sets_37 hQ hp hc hm hq k (i + 1) (c ||| 2 ^ zit (zf s) p i) (z_or64 h64 (by omega)) (by have := z_or_up hb; omega) (fun x => ?_) (fun j hj l hl => ?_) (fun j hj => ?_)
      · rw [Nat.testBit_or, Nat.testBit_two_pow, Bool.or_eq_true, decide_eq_true_eq, h0 x]
        constructor
        · rintro ((z | ⟨j, hj, z⟩) | z)
          · exact Or.inl z
          · exact Or.inr ⟨j, by omega, z⟩
          · exact Or.inr ⟨i, Nat.lt_succ_self _, z⟩
        · rintro (z | ⟨j, hj, z⟩)
          · exact Or.inl (Or.inl z)
          · by_cases hji : j = i
            · subst hji; exact Or.inr z
            · exact Or.inl (Or.inr ⟨j, by omega, z⟩)
      · by_cases hji : j = i
        · subst hji
          intro z
          have := (h0 (zit (zf s) p j)).mpr (Or.inr ⟨l, hl, z⟩)
          rw [hb] at this; cases this
        · exact h1 j (by omega) l hl
      · by_cases hji : j = i
        · subst hji
          cases hm' : m.testBit (zit (zf s) p j) with
          | false => rfl
          | true =>
            have := (h0 (zit (zf s) p j)).mpr (Or.inl hm')
            rw [hb] at this; cases this
        · exact h2 j (by omega)
def zst6 (f : Nat → Nat) (n : Nat) : Nat → Nat → Nat → Nat → Nat
  | 0, _, c, _ => c
  | r + 1, i, c, m => if m.testBit i = true then zst6 f n r (i + 1) c m else zst6 f n r (i + 1) (c + 1) (m ||| zrg f i n 0 0)
theorem s_sets_6 {I : zI} {J : zJ} {t : zX} {live : Nat} {s : zT} (hQ : zQ I t live s) {Q : Int32 → zI → zJ → Prop} : ∀ r i k c m, m < 64 → i + r = xP t → r < k → Q (nI (zst6 (zf s) (xP t) r i c m)) I J → v_X_sets_6 5000 k (nI c) (nI m) (nI i) I J Q
  | _, _, 0, _, _, _, _, hk, _ => absurd hk (Nat.not_lt_zero _)
  | 0, i, k + 1, c, m, hm, hi, hk, hq => by
    have hP := hQ.1.1.2.1
    rw [v_X_sets_6]; dsimp only; rw [hQ.1.2.1.2.1]
    exact z_y (nI_le (by omega) (by omega)) hq
  | r + 1, i, k + 1, c, m, hm, hi, hk, hq => by
    have hP := hQ.1.1.2.1
    obtain ⟨f1, f2⟩ := zf_ok hP hQ.1.2.2.1
    rw [v_X_sets_6]; dsimp only; rw [hQ.1.2.1.2.1]
    rw [zst6] at hq
    refine z_n (nI_ge (by omega) (by omega)) ⟨fun q => ?_, fun q => ?_⟩
    · have hb : m.testBit i = true := by
        cases h : m.testBit i with
        | true => rfl
        | false => exact absurd ((z_bX m hm i (by omega)).mpr h) q
      rw [if_pos hb] at hq
      rw [nI_1]
      exact s_sets_6 hQ r (i + 1) k c m hm (by omega) (by omega) hq
    · have hb := (z_bX m hm i (by omega)).mp q
      rw [if_neg (by rw [hb]; decide)] at hq
      refine s_ringFrom_7 (p := i) hQ (by omega) (xP t) 0 5000 0 (by omega) (by omega) (fun y ey => ?_)
      rw [ey, nI_or, nI_1, nI_1]
      exact s_sets_6 hQ r (i + 1) k (c + 1) _ (Nat.or_lt_two_pow (n := 6) hm (zrg_64 hP (fun q hq => (f1 q hq).1) (by omega) _ _ _ (by decide))) (by omega) (by omega) hq
theorem s_M_sets_6 {I : zI} {J : zJ} {t : zX} {live : Nat} {s : zT} (hQ : zQ I t live s) {Q : Int32 → zI → zJ → Prop} : ∀ r i k c m, m < 64 → zclo (zf s) (xP t) m → i + r = xP t → r < k → Q (nI (zst6 (zf s) (xP t) r i c m)) I J → v_M_sets_6 5000 k (nI m) (nI c) (nI i) I J Q
  | _, _, 0, _, _, _, _, _, hk, _ => absurd hk (Nat.not_lt_zero _)
  | 0, i, k + 1, c, m, hm, hcl, hi, hk, hq => by
    have hP := hQ.1.1.2.1
    have hl := hQ.2.1.1
    rw [v_M_sets_6]; dsimp only; rw [hQ.2.1.2.1, nI_clamp (by omega), hQ.2.1.2.2.2.1]
    exact ⟨vp_in_nI hl (by decide), z_y (nI_le (by omega) (by omega)) hq⟩
  | r + 1, i, k + 1, c, m, hm, hcl, hi, hk, hq => by
    have hP := hQ.1.1.2.1
    have hl := hQ.2.1.1
    obtain ⟨f1, f2⟩ := zf_ok hP hQ.1.2.2.1
    rw [v_M_sets_6]; dsimp only; rw [hQ.2.1.2.1, nI_clamp (by omega), hQ.2.1.2.2.2.1, z_bM m hm i (by omega)]
    rw [zst6] at hq
    refine ⟨vp_in_nI hl (by decide), z_n (nI_ge (by omega) (by omega)) ?_⟩
    cases hb : m.testBit i with
    | true =>
      rw [if_pos hb] at hq
      rw [nI_1, nI_1]
      exact z_yr (by rw [if_pos rfl]) (s_M_sets_6 hQ r (i + 1) k c m hm hcl (by omega) (by omega) hq)
    | false =>
      rw [if_neg (by rw [hb]; decide)] at hq
      refine z_nr (by rw [if_neg (by decide)]; decide) ?_
      rw [nI_1]
      refine s_M_sets_37 (p := i) (m := m) hQ (by omega) hcl hb (fun c' ec' hc' => ?_) 5000 0 m hm (by omega) (fun x => ⟨Or.inl, fun z => z.elim id (fun ⟨j, hj, _⟩ => absurd hj (Nat.not_lt_zero _))⟩) (fun j hj => absurd hj (Nat.not_lt_zero _)) (fun j hj => absurd hj (Nat.not_lt_zero _))
      rw [nI_1]
      rw [← ec'] at hq
      exact s_M_sets_6 hQ r (i + 1) k (c + 1) c' (by rw [ec']; exact Nat.or_lt_two_pow (n := 6) hm (zrg_64 hP (fun q hq => (f1 q hq).1) (by omega) _ _ _ (by decide))) hc' (by omega) (by omega) hq
theorem zclo_0 (f : Nat → Nat) (n : Nat) : zclo f n 0 := fun x _ => by rw [Nat.zero_testBit, Nat.zero_testBit]
theorem s_X_sets {I : zI} {J : zJ} {t : zX} {live : Nat} {s : zT} (hQ : zQ I t live s) {Q : Int32 → zI → zJ → Prop} (hq : Q (nI (zst6 (zf s) (xP t) (xP t) 0 0 0)) I J) : v_X_sets 5000 I J Q := s_sets_6 hQ (xP t) 0 5000 0 0 (by decide) (by omega) (by have := hQ.1.1.2.1; omega) hq
theorem s_M_sets {I : zI} {J : zJ} {t : zX} {live : Nat} {s : zT} (hQ : zQ I t live s) {Q : Int32 → zI → zJ → Prop} (hq : Q (nI (zst6 (zf s) (xP t) (xP t) 0 0 0)) I J) : v_M_sets 5000 I J Q := s_M_sets_6 hQ (xP t) 0 5000 0 0 (by decide) (zclo_0 _ _) (by omega) (by have := hQ.1.1.2.1; omega) hq
theorem zok_sets : zOK_sets Rel := zok_q (vX := v_X_sets 5000) (vM := v_M_sets 5000) (fun I J hR t live s hQ => ⟨nI (zst6 (zf s) (xP t) (xP t) 0 0 0), fun Q hq => s_X_sets hQ (hq I zK.rfl), fun I1 Q k1 hQ1 hq => s_M_sets hQ1 (hq I1 zK.rfl)⟩)
theorem zok_changes : zOK_changes Rel := zok_q (vX := v_X_changes 5000) (vM := v_M_changes 5000) (fun I J hR t live s hQ => ⟨nI (xP t) - nI (zst6 (zf s) (xP t) (xP t) 0 0 0), fun Q hq => s_X_sets hQ (by rw [hQ.1.2.1.2.1]; exact hq I zK.rfl), fun I1 Q k1 hQ1 hq => by
  have hl := hQ1.2.1.1
  unfold v_M_changes
  rw [hQ1.2.1.2.1, nI_clamp (by omega), hQ1.2.1.2.2.2.1]
  exact ⟨vp_in_nI hl (by decide), s_M_sets hQ1 (hq I1 zK.rfl)⟩⟩)
