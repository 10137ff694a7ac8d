/-! crowded, free, crossed -/
theorem zmany_n (t : zX) (s : zT) (x : Int32) : ∀ r i c, ∃ d, d ≤ r ∧ zmany t s x r i (nI c) = nI (c + d)
  | 0, _, c => ⟨0, Nat.le_refl _, rfl⟩
  | r + 1, i, c => by
    rw [zmany]
    by_cases h : znl t s i = x
    · rw [if_pos h, nI_1]
      obtain ⟨d, hd, e⟩ := zmany_n t s x r (i + 1) (c + 1)
      exact ⟨d + 1, by omega, by rw [e]; congr 1; omega⟩
    · rw [if_neg h]
      obtain ⟨d, hd, e⟩ := zmany_n t s x r (i + 1) c
      exact ⟨d, by omega, e⟩
abbrev zmn (t : zX) (s : zT) (n : Nat) : Int32 := zmany t s (nI n) (xP t) 0 0
theorem zmn_n (t : zX) (s : zT) (n : Nat) : ∃ d, d ≤ xP t ∧ zmn t s n = nI d := by
  obtain ⟨d, hd, e⟩ := zmany_n t s (nI n) (xP t) 0 0
  rw [Nat.zero_add] at e
  exact ⟨d, hd, e⟩
def zcw (g : Nat → Int32) : Nat → Nat → Nat → Nat
  | 0, _, b => b
  | r + 1, i, b => zcw g r (i + 1) (if g i ≤ g b then b else i)
theorem s_crowded_7 {I : zI} {J : zJ} {t : zX} {live : Nat} {s : zT} (hQ : zQ I t live s) {x1 : Int32} {Q : Int32 → zI → zJ → Prop} : ∀ r i k b, i + r = 5 → r < k → Q (if x1 = 0 then nI (zcw (zmn t s) r i b) else if x1 = 1 then zmn t s (zcw (zmn t s) r i b) else -1) I J → v_X_crowded_7 5000 k x1 (nI b) (zmn t s b) (nI i) I J Q
  | _, _, 0, _, _, hk, _ => absurd hk (Nat.not_lt_zero _)
  | 0, i, k + 1, b, hi, hk, hq => by
    rw [v_X_crowded_7]
    refine z_y (nI_le (a := 5) (by omega) (by omega)) ⟨fun q => ?_, fun q => ⟨fun q' => ?_, fun q' => ?_⟩⟩
    · rw [if_pos q] at hq; exact hq
    · rw [if_neg q, if_pos q'] at hq; exact hq
    · rw [if_neg q, if_neg q'] at hq; exact hq
  | r + 1, i, k + 1, b, hi, hk, hq => by
    rw [v_X_crowded_7]
    rw [zcw] at hq
    refine z_n (nI_ge (b := 5) (by omega) (by decide)) (s_peopleOnNail hQ.1 ⟨fun q => ?_, fun q => ?_⟩)
    · rw [if_pos q] at hq
      rw [nI_1]
      exact s_crowded_7 hQ r (i + 1) k b (by omega) (by omega) hq
    · rw [if_neg q] at hq
      rw [nI_1]
      exact s_crowded_7 hQ r (i + 1) k i (by omega) (by omega) hq
theorem s_crowded {I : zI} {J : zJ} {t : zX} {live : Nat} {s : zT} (hQ : zQ I t live s) {x1 : Int32} {Q : Int32 → zI → zJ → Prop} (hq : Q (if x1 = 0 then nI (zcw (zmn t s) 4 1 0) else if x1 = 1 then zmn t s (zcw (zmn t s) 4 1 0) else -1) I J) : v_X_crowded 5000 x1 I J Q := by
  have hP := hQ.1.1.2.1
  obtain ⟨d, hd, e⟩ := zmn_n t s 0
  show v_X_crowded_7 5000 (4999 + 1) x1 (nI 0) 0 (nI 0) I J Q
  rw [v_X_crowded_7]
  refine z_n (by decide) (s_peopleOnNail hQ.1 ⟨fun q => ?_, fun q => ?_⟩)
  · have e0 : (0 : Int32) = zmn t s 0 := by
      have q : zmn t s 0 ≤ 0 := q
      rw [e] at q ⊢
      have : d ≤ 0 := (nI_leI (a := d) (b := 0) (by omega) (by decide)).mp q
      have : d = 0 := by omega
      subst this
      rfl
    rw [nI_1, e0]
    exact s_crowded_7 hQ 4 1 4999 0 (by decide) (by decide) hq
  · rw [nI_1]
    exact s_crowded_7 hQ 4 1 4999 0 (by decide) (by decide) hq
theorem s_M_crowded_19 {I : zI} {J : zJ} {t : zX} {live : Nat} {s : zT} (hX : mX I t live s) {x1 : Int32} {Q : Int32 → zI → zJ → Prop} : ∀ r i k b, i + r = 5 → r < k → b < 5 → Q (if x1 = 0 then nI (zcw (zmn t s) r i b) else zmn t s (zcw (zmn t s) r i b)) I J → v_M_crowded_19 5000 k x1 (nI b) (nI i) I J Q
  | _, _, 0, _, _, hk, _, _ => absurd hk (Nat.not_lt_zero _)
  | 0, i, k + 1, b, hi, hk, hb, hq => by
    rw [v_M_crowded_19]
    refine z_y (nI_le (a := 5) (by omega) (by omega)) ⟨fun q => ?_, fun q => ?_⟩
    · rw [if_neg q] at hq; exact s_M_manyOn hX (z_ne2 (by omega)) hq
    · rw [if_pos q] at hq; exact hq
  | r + 1, i, k + 1, b, hi, hk, hb, hq => by
    rw [v_M_crowded_19]
    rw [zcw] at hq
    refine z_n (nI_ge (b := 5) (by omega) (by decide)) (s_M_manyOn hX (z_ne2 (by omega)) (s_M_manyOn hX (z_ne2 (by omega)) ⟨fun q => ?_, fun q => ?_⟩))
    · rw [if_pos q] at hq
      rw [nI_1]
      exact s_M_crowded_19 hX r (i + 1) k b (by omega) (by omega) hb hq
    · rw [if_neg q] at hq
      rw [nI_1]
      exact s_M_crowded_19 hX r (i + 1) k i (by omega) (by omega) (by omega) hq
theorem zok_crowded : zOK_crowded Rel := fun a0 => zok_q (vX := v_X_crowded 5000 a0) (vM := v_M_crowded 5000 a0) (fun I J hR t live s hQ => by
  refine ⟨_, fun Q hq => s_crowded hQ (hq I zK.rfl), fun I1 Q k1 hQ1 hq => ?_⟩
  by_cases hz : zin a0 2
  · obtain ⟨k, hk, rfl⟩ := hz
    refine z_in1 (n := 2) (by decide) (by decide) hk (z_nr z_10 (hQ1.copies (fun I2 o2 hX2 _ _ => s_M_crowded_19 hX2 4 1 5000 0 (by decide) (by decide) (by decide) ?_)))
    have := hq I2 (zK.fS o2)
    have hc : k = 0 ∨ k = 1 := by omega
    rcases hc with rfl | rfl
    · exact this
    · exact this
  · have := zin2' hz
    rw [if_neg this.1, if_neg this.2] at hq
    exact z_in0 (n := 2) (by decide) (by decide) hz (z_yr z_00 (hq I1 zK.rfl)))
def zfr (t : zX) (s : zT) : Nat → Nat → Option Nat → Option Nat
  | 0, _, b => b
  | r + 1, i, b => zfr t s r (i + 1) (if zwho (sO s) (nI i) (xP t) 0 < 0 then b.elim (some i) fun j => if xB t i ≤ xB t j then some j else some i else b)
theorem s_free_9 {I : zI} {J : zJ} {t : zX} {live : Nat} {s : zT} (hQ : zQ I t live s) {x1 : Int32} {Q : Int32 → zI → zJ → Prop} : ∀ r i k (b : Option Nat), i + r = xH t → r < k → Q (if x1 = 0 then zol (zfr t s r i b) else if x1 = 1 then (zfr t s r i b).elim (-2) (xB t) else -1) I J → v_X_free_9 5000 k x1 (zol b) (b.elim (-2) (xB t)) (nI i) I J Q
  | _, _, 0, _, _, hk, _ => absurd hk (Nat.not_lt_zero _)
  | 0, i, k + 1, b, hi, hk, hq => by
    have hH := hQ.1.1.1
    rw [v_X_free_9]; dsimp only; rw [hQ.1.2.1.1]
    refine z_y (nI_le (by omega) (by omega)) ⟨fun q => ?_, fun q => ⟨fun q' => ?_, fun q' => ?_⟩⟩
    · rw [if_pos q] at hq; exact hq
    · rw [if_neg q, if_pos q'] at hq; exact hq
    · rw [if_neg q, if_neg q'] at hq; exact hq
  | r + 1, i, k + 1, b, hi, hk, hq => by
    have hH := hQ.1.1.1
    rw [v_X_free_9]; dsimp only; rw [hQ.1.2.1.1]
    rw [zfr] at hq
    refine z_n (nI_ge (by omega) (by omega)) (s_isTaken hQ.1 (fun q => z_yr z_00 ?_) (fun q => z_nr z_10 ?_))
    · rw [if_pos q] at hq
      rw [nI_clamp (by omega), hQ.1.2.1.2.2.2.1 i (by omega)]
      refine ⟨vp_in_nI (by omega) (by decide), ?_⟩
      cases b with
      | none =>
        have hn : ¬ xB t i ≤ -2 := by
          obtain ⟨j, hj, e⟩ := hQ.1.1.2.2.2.1 i (by omega)
          rw [e]
          intro z
          exact absurd (Int32.lt_of_le_of_lt z z_neg2) (nI_pos (by omega))
        refine z_n hn (fun y ey => ?_)
        rw [nI_1, ey]
        exact s_free_9 hQ r (i + 1) k (some i) (by omega) (by omega) hq
      | some j =>
        have hq : Q (if x1 = 0 then zol (zfr t s r (i + 1) (if xB t i ≤ xB t j then some j else some i)) else if x1 = 1 then (zfr t s r (i + 1) (if xB t i ≤ xB t j then some j else some i)).elim (-2) (xB t) else -1) I J := hq
        refine ⟨fun q => ?_, fun q y ey => ?_⟩
        · have q : xB t i ≤ xB t j := q
          rw [if_pos q] at hq
          rw [nI_1]
          exact s_free_9 hQ r (i + 1) k (some j) (by omega) (by omega) hq
        · have q : ¬ xB t i ≤ xB t j := q
          rw [if_neg q] at hq
          rw [nI_1, ey]
          exact s_free_9 hQ r (i + 1) k (some i) (by omega) (by omega) hq
    · rw [if_neg q] at hq
      rw [nI_1]
      exact s_free_9 hQ r (i + 1) k b (by omega) (by omega) hq
theorem z_le0 {x : Int32} : 0 ≤ x ↔ ¬ x < 0 := Int32.not_lt.symm
theorem s_M_free_20 {I : zI} {J : zJ} {t : zX} {live : Nat} {s : zT} (hX : mX I t live s) {x1 : Int32} {Q : Int32 → zI → zJ → Prop} {K : Int32 → Int32 → zI → zJ → Prop} : ∀ r i k (b : Option Nat), i + r = xH t → r < k → (∀ j, b = some j → j < i) → ((∀ j, zfr t s r i b = some j → j < i + r) → K x1 (zol (zfr t s r i b)) I J) → v_M_free_20 5000 k x1 (zol b) (nI i) I J Q K
  | _, _, 0, _, _, hk, _, _ => absurd hk (Nat.not_lt_zero _)
  | 0, i, k + 1, b, hi, hk, hb, hq => by
    have hH := hX.1.1
    have hl := hX.2.1.1
    rw [v_M_free_20]; dsimp only; rw [hX.2.1.2.1, nI_clamp (n := live) (by omega), hX.2.1.2.2.1]
    exact ⟨vp_in_nI hl (by decide), z_y (nI_le (by omega) (by omega)) (hq hb)⟩
  | r + 1, i, k + 1, b, hi, hk, hb, hq => by
    have hH := hX.1.1
    have hl := hX.2.1.1
    rw [v_M_free_20]; dsimp only; rw [hX.2.1.2.1, nI_clamp (n := live) (by omega), hX.2.1.2.2.1]
    rw [zfr, show i + (r + 1) = i + 1 + r by omega] at hq
    refine ⟨vp_in_nI hl (by decide), z_n (nI_ge (by omega) (by omega)) (s_M_whoIsOn hX ⟨fun q => ?_, fun q => ?_⟩)⟩
    · rw [if_neg (z_le0.mp q)] at hq
      rw [nI_1]
      exact s_M_free_20 hX r (i + 1) k b (by omega) (by omega) (fun j e => Nat.lt_succ_of_lt (hb j e)) hq
    · have q' : zwho (sO s) (nI i) (xP t) 0 < 0 := by
        rw [z_le0] at q
        exact Decidable.of_not_not q
      rw [if_pos q'] at hq
      cases b with
      | none =>
        refine z_y z_neg2 ?_
        rw [nI_1]
        exact s_M_free_20 hX r (i + 1) k (some i) (by omega) (by omega) (fun j e => by cases e; exact Nat.lt_succ_self _) hq
      | some j =>
        have hj := hb j rfl
        have hq : ((∀ j', zfr t s r (i + 1) (if xB t i ≤ xB t j then some j else some i) = some j' → j' < i + 1 + r) → K x1 (zol (zfr t s r (i + 1) (if xB t i ≤ xB t j then some j else some i))) I J) := hq
        refine z_n (nI_pos (n := j) (by omega)) ?_
        rw [show zol (some j) = nI j from rfl, hX.2.1.2.1, z_m7, z_m7, nI_clamp (n := 7 * live + i) (by omega), nI_clamp (n := 7 * live + j) (by omega), hX.2.1.2.2.2.2.2.1 i (by omega), hX.2.1.2.2.2.2.2.1 j (by omega)]
        refine ⟨vp_in_nI (by omega) (by decide), vp_in_nI (by omega) (by decide), fun q => ?_, fun q => ?_⟩
        · rw [if_pos q] at hq
          rw [nI_1]
          exact s_M_free_20 hX r (i + 1) k (some j) (by omega) (by omega) (fun j' e => by cases e; exact Nat.lt_succ_of_lt hj) hq
        · rw [if_neg q] at hq
          rw [nI_1]
          exact s_M_free_20 hX r (i + 1) k (some i) (by omega) (by omega) (fun j' e => by cases e; exact Nat.lt_succ_self _) hq
theorem zok_free : zOK_free Rel := fun a0 => zok_q (vX := v_X_free 5000 a0) (vM := v_M_free 5000 a0) (fun I J hR t live s hQ => by
  have hH := hQ.1.1.1
  refine ⟨_, fun Q hq => s_free_9 hQ (xH t) 0 5000 none (by omega) (by omega) (hq I zK.rfl), fun I1 Q k1 hQ1 hq => ?_⟩
  by_cases hz : zin a0 2
  · have hz2 := zin2 hz
    obtain ⟨k, hk, rfl⟩ := hz
    refine z_in1 (n := 2) (by decide) (by decide) hk (z_nr z_10 (hQ1.copies (fun I2 o2 hX2 _ _ => s_M_free_20 hX2 (xH t) 0 5000 none (by omega) (by omega) (fun j e => by cases e) (fun hl => ?_))))
    have := hq I2 (zK.fS o2)
    have hli := hX2.2.1.1
    cases e : zfr t s (xH t) 0 none with
    | none =>
      rw [e] at this
      refine z_y z_neg2 ?_
      rcases hz2 with q | q
      · rw [if_pos q] at this; exact this
      · rw [if_neg (by rw [q]; decide), if_pos q] at this; exact this
    | some j =>
      rw [e] at this hl
      have hj := hl j rfl
      refine z_n (nI_pos (n := j) (by omega)) ?_
      rw [show zol (some j) = nI j from rfl, hX2.2.1.2.1, z_m7, nI_clamp (n := 7 * live + j) (by omega), hX2.2.1.2.2.2.2.2.1 j (by omega)]
      refine ⟨fun q => ⟨vp_in_nI (by omega) (by decide), ?_⟩, fun q => ?_⟩
      · rw [if_neg q] at this
        rcases hz2 with q' | q'
        · exact absurd q' q
        · rw [if_pos q'] at this; exact this
      · rw [if_pos q] at this; exact this
  · have := zin2' hz
    rw [if_neg this.1, if_neg this.2] at hq
    exact z_in0 (n := 2) (by decide) (by decide) hz (z_yr z_00 (hq I1 zK.rfl)))
/-- pairs that have each other's selves: how many, the first -/
def zcr (s : zT) : Nat → Nat → Nat → Int32 → Nat × Int32
  | 0, _, c, f => (c, f)
  | r + 1, i, c, f => if nI i < sS s i ∧ sS s (sS s i).toNatClampNeg = nI i then zcr s r (i + 1) (c + 1) (if f = -2 then 10 * nI i + sS s i else f) else zcr s r (i + 1) c f
theorem s_crossed_8 {I : zI} {J : zJ} {t : zX} {live : Nat} {s : zT} (hQ : zQ I t live s) {x1 : Int32} {Q : Int32 → zI → zJ → Prop} : ∀ r i k c (f : Int32), i + r = xP t → r < k → Q (if x1 = 0 then nI (zcr s r i c f).1 else if x1 = 1 then (zcr s r i c f).2 else -1) I J → v_X_crossed_8 5000 k x1 (nI c) f (nI i) I J Q
  | _, _, 0, _, _, _, hk, _ => absurd hk (Nat.not_lt_zero _)
  | 0, i, k + 1, c, f, hi, hk, hq => by
    have hP := hQ.1.1.2.1
    rw [v_X_crossed_8]; dsimp only; rw [hQ.1.2.1.2.1]
    refine z_y (nI_le (by omega) (by omega)) ⟨fun q => ?_, fun q => ⟨fun q' => ?_, fun q' => ?_⟩⟩
    · rw [if_pos q] at hq; exact hq
    · rw [if_neg q, if_pos q'] at hq; exact hq
    · rw [if_neg q, if_neg q'] at hq; exact hq
  | r + 1, i, k + 1, c, f, hi, hk, hq => by
    have hP := hQ.1.1.2.1
    have hs := hQ.1.2.2.2.1.2.2.2.1
    obtain ⟨j, hj, ej⟩ := hQ.1.2.2.1.2.2.2.1 i (by omega)
    rw [v_X_crossed_8]; dsimp only; rw [hQ.1.2.1.2.1, nI_clamp (n := i) (by omega), show I 52 i = sS s i from hs i (by omega), ej]
    rw [zcr, ej, nI_clamp (by omega)] at hq
    refine z_n (nI_ge (by omega) (by omega)) ⟨vp_in_nI (by omega) (by decide), fun y ey => ?_⟩
    rw [ey]
    refine ⟨fun q => ?_, fun q => ⟨vp_in_nI (by omega) (by decide), ?_⟩⟩
    · rw [if_neg (show ¬ (nI i < nI j ∧ sS s j = nI i) from fun z => Int32.not_lt.mpr q z.1)] at hq
      rw [nI_1]
      exact s_crossed_8 hQ r (i + 1) k c f (by omega) (by omega) hq
    · rw [nI_clamp (by omega), show I 52 j = sS s j from hs j hj]
      refine ⟨fun q' => ?_, fun q' => ⟨fun q'' => ?_, fun q'' y2 ey2 => ?_⟩⟩
      · rw [if_neg (show ¬ (nI i < nI j ∧ sS s j = nI i) from fun z => q' z.2)] at hq
        rw [nI_1]
        exact s_crossed_8 hQ r (i + 1) k c f (by omega) (by omega) hq
      · rw [if_pos (show nI i < nI j ∧ sS s j = nI i from ⟨Int32.not_le.mp q, q'⟩), if_neg q''] at hq
        rw [nI_1, nI_1]
        exact s_crossed_8 hQ r (i + 1) k (c + 1) f (by omega) (by omega) hq
      · rw [if_pos (show nI i < nI j ∧ sS s j = nI i from ⟨Int32.not_le.mp q, q'⟩), if_pos q''] at hq
        rw [nI_1, nI_1, ey2]
        exact s_crossed_8 hQ r (i + 1) k (c + 1) _ (by omega) (by omega) hq
theorem s_M_crossed_39 {I : zI} {J : zJ} {t : zX} {live : Nat} {s : zT} (hQ : zQ I t live s) {x1 : Int32} {a j : Nat} (ha : a < xP t) (hj : j < xP t) (ej : sS s a = nI j) {Q : Int32 → zI → zJ → Prop} {K : Int32 → Int32 → Int32 → Int32 → zI → zJ → Prop} : ∀ r i k c (f : Int32), i + r = xP t → r < k → (i ≤ j ∧ sS s j = nI a → K x1 (nI (c + 1)) (if nI c = 0 then 10 * nI a + nI j else f) (nI a) I J) → (¬ (i ≤ j ∧ sS s j = nI a) → K x1 (nI c) f (nI a) I J) → v_M_crossed_39 5000 k x1 (nI c) f (nI a) (nI i) I J Q K
  | _, _, 0, _, _, _, hk, _, _ => absurd hk (Nat.not_lt_zero _)
  | 0, i, k + 1, c, f, hi, hk, hy, hn => by
    have hP := hQ.1.1.2.1
    have hl := hQ.2.1.1
    rw [v_M_crossed_39]; dsimp only; rw [hQ.2.1.2.1, nI_clamp (n := live) (by omega), hQ.2.1.2.2.2.1]
    exact ⟨vp_in_nI hl (by decide), z_y (nI_le (by omega) (by omega)) (hn (by omega))⟩
  | r + 1, i, k + 1, c, f, hi, hk, hy, hn => by
    have hP := hQ.1.1.2.1
    have hl := hQ.2.1.1
    have hs := hQ.2.2.2.2.2.1
    rw [v_M_crossed_39]; dsimp only; rw [hQ.2.1.2.1, nI_clamp (n := live) (by omega), hQ.2.1.2.2.2.1, z_c12, z_c12, nI_clamp (n := 12 + a) (by omega), nI_clamp (n := 12 + i) (by omega), hs a ha, hs i (by omega), ej]
    refine ⟨vp_in_nI hl (by decide), z_n (nI_ge (by omega) (by omega)) ⟨vp_in_nI (by omega) (by decide), fun q => ?_, fun q => ⟨vp_in_nI (by omega) (by decide), ?_⟩⟩⟩
    · have hij : ¬ j = i := fun z => q (by rw [z])
      rw [nI_1]
      exact s_M_crossed_39 hQ ha hj ej r (i + 1) k c f (by omega) (by omega) (fun z => hy ⟨by omega, z.2⟩) (fun z => hn (fun z' => z ⟨by omega, z'.2⟩))
    · have hij : j = i := (nI_eq (by omega) (by omega)).mp q
      subst hij
      refine ⟨fun q' => ⟨fun q'' => ?_, fun q'' y ey => ?_⟩, fun q' => ?_⟩
      · have hy := hy ⟨Nat.le_refl _, q'⟩
        rw [if_neg q''] at hy
        rw [nI_1, nI_1]
        exact s_M_crossed_39 hQ ha hj ej r (j + 1) k (c + 1) f (by omega) (by omega) (fun z => absurd z.1 (by omega)) (fun _ => hy)
      · have hy := hy ⟨Nat.le_refl _, q'⟩
        rw [if_pos q''] at hy
        rw [nI_1, nI_1, ey]
        exact s_M_crossed_39 hQ ha hj ej r (j + 1) k (c + 1) _ (by omega) (by omega) (fun z => absurd z.1 (by omega)) (fun _ => hy)
      · rw [nI_1]
        exact s_M_crossed_39 hQ ha hj ej r (j + 1) k c f (by omega) (by omega) (fun z => absurd z.1 (by omega)) (fun _ => hn (fun z => q' z.2))
theorem z_ten {a j : Nat} (ha : a < 10) (hj : j < 10) : 10 * nI a + nI j = nI (10 * a + j) := (congrArg (· + nI j) (nI_mul 10 a)).trans (nI_add _ _)
theorem s_M_crossed_19 {I : zI} {J : zJ} {t : zX} {live : Nat} {s : zT} (hQ : zQ I t live s) {x1 : Int32} {Q : Int32 → zI → zJ → Prop} : ∀ r i k c (f : Int32), i + r = xP t → r < k → c ≤ i → (c = 0 ↔ f = -2) → Q (if x1 = 0 then nI (zcr s r i c f).1 else (zcr s r i c f).2) I J → v_M_crossed_19 5000 k x1 (nI c) f (nI i) I J Q
  | _, _, 0, _, _, _, hk, _, _, _ => absurd hk (Nat.not_lt_zero _)
  | 0, i, k + 1, c, f, hi, hk, hc, hf, hq => by
    have hP := hQ.1.1.2.1
    have hl := hQ.2.1.1
    rw [v_M_crossed_19]; dsimp only; rw [hQ.2.1.2.1, nI_clamp (n := live) (by omega), hQ.2.1.2.2.2.1]
    refine ⟨vp_in_nI hl (by decide), z_y (nI_le (by omega) (by omega)) ⟨fun q => ?_, fun q => ?_⟩⟩
    · rw [if_neg q] at hq; exact hq
    · rw [if_pos q] at hq; exact hq
  | r + 1, i, k + 1, c, f, hi, hk, hc, hf, hq => by
    have hP := hQ.1.1.2.1
    have hl := hQ.2.1.1
    obtain ⟨j, hj, ej⟩ := hQ.1.2.2.1.2.2.2.1 i (by omega)
    rw [v_M_crossed_19]; dsimp only; rw [hQ.2.1.2.1, nI_clamp (n := live) (by omega), hQ.2.1.2.2.2.1]
    refine ⟨vp_in_nI hl (by decide), z_n (nI_ge (by omega) (by omega)) (fun y ey => ?_)⟩
    rw [ey, nI_1]
    rw [zcr, ej, nI_clamp (by omega)] at hq
    have e0 : (nI c = 0) ↔ f = -2 := Iff.trans (nI_eq (a := c) (b := 0) (by omega) (by decide)) hf
    refine s_M_crossed_39 hQ (by omega) hj ej r (i + 1) 5000 c f (by omega) (by omega) (fun z => ?_) (fun z => ?_)
    · rw [nI_1]
      rw [if_pos (show nI i < nI j ∧ sS s j = nI i from ⟨nI_lt (by omega) (by omega), z.2⟩)] at hq
      have ef : (if nI c = 0 then 10 * nI i + nI j else f) = (if f = -2 then 10 * nI i + nI j else f) := by
        by_cases h : f = -2
        · rw [if_pos h, if_pos (e0.mpr h)]
        · rw [if_neg h, if_neg (fun z => h (e0.mp z))]
      rw [ef]
      refine s_M_crossed_19 hQ r (i + 1) k (c + 1) _ (by omega) (by omega) (by omega) ⟨fun z => absurd z (by omega), fun z => ?_⟩ hq
      by_cases h : f = -2
      · rw [if_pos h, z_ten (by omega) (by omega)] at z
        exact absurd z (z_ne2 (by omega))
      · rw [if_neg h] at z
        exact absurd z h
    · rw [nI_1]
      rw [if_neg (show ¬ (nI i < nI j ∧ sS s j = nI i) from fun z' => z ⟨(nI_ltI (by omega) (by omega)).mp z'.1, z'.2⟩)] at hq
      exact s_M_crossed_19 hQ r (i + 1) k c f (by omega) (by omega) (by omega) hf hq
theorem zok_crossed : zOK_crossed Rel := fun a0 => zok_q (vX := v_X_crossed 5000 a0) (vM := v_M_crossed 5000 a0) (fun I J hR t live s hQ => by
  have hP := hQ.1.1.2.1
  refine ⟨_, fun Q hq => s_crossed_8 hQ (xP t) 0 5000 0 (-2) (by omega) (by omega) (hq I zK.rfl), fun I1 Q k1 hQ1 hq => ?_⟩
  by_cases hz : zin a0 2
  · have hz2 := zin2 hz
    obtain ⟨k, hk, rfl⟩ := hz
    refine z_in1 (n := 2) (by decide) (by decide) hk (z_nr z_10 (s_M_crossed_19 hQ1 (xP t) 0 5000 0 (-2) (by omega) (by omega) (by omega) ⟨fun _ => rfl, fun _ => rfl⟩ ?_))
    have := hq I1 zK.rfl
    rcases hz2 with q | q
    · rw [if_pos q] at this ⊢; exact this
    · have q0 : ¬ nI k = 0 := by rw [q]; decide
      rw [if_neg q0, if_pos q] at this
      rw [if_neg q0]
      exact this
  · have := zin2' hz
    rw [if_neg this.1, if_neg this.2] at hq
    exact z_in0 (n := 2) (by decide) (by decide) hz (z_yr z_00 (hq I1 zK.rfl)))
