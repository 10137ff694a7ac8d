/-! tells, straight, holder, fit, crowded, free, crossed -/
theorem z_inl {I : zI} {J : zJ} {x m : Int32} {n : Nat} (hm : nI n - 1 = m) (hn : n < 100) {Q : Int32 → zI → zJ → Prop} (h1 : ∀ p, p < n → x = nI p → Q 1 I J) (h0 : ¬ zin x n → Q 0 I J) : v_M_in 5000 x 0 m I J Q := hm ▸ z_in hn h1 h0
theorem z_in1 {I : zI} {J : zJ} {m : Int32} {n p : Nat} (hm : nI n - 1 = m) (hn : n < 100) (hp : p < n) {Q : Int32 → zI → zJ → Prop} (hq : Q 1 I J) : v_M_in 5000 (nI p) 0 m I J Q := z_inl hm hn (fun _ _ _ => hq) (fun z => absurd ⟨p, hp, rfl⟩ z)
theorem z_in0 {I : zI} {J : zJ} {x m : Int32} {n : Nat} (hm : nI n - 1 = m) (hn : n < 100) (hp : ¬ zin x n) {Q : Int32 → zI → zJ → Prop} (hq : Q 0 I J) : v_M_in 5000 x 0 m I J Q := z_inl hm hn (fun p q e => absurd ⟨p, q, e⟩ hp) (fun _ => hq)
theorem rng_no {x : Int32} {n : Nat} (hn : n + 1 < 2 ^ 31) (h : ¬ zin x (n + 1)) : x < 0 ∨ (¬ x < 0 ∧ ¬ x ≤ nI n ∧ nI n < x ∧ nI (n + 1) ≤ x) := by
  rcases zin_n hn h with q | ⟨q1, q2⟩
  · exact Or.inl q
  · refine Or.inr ⟨q1, ?_, ?_, q2⟩
    · intro z
      exact nI_ge (Nat.lt_succ_self n) hn (Int32.le_trans q2 z)
    · exact Int32.lt_of_lt_of_le (nI_lt (Nat.lt_succ_self n) hn) q2
theorem zin2 {x : Int32} (h : zin x 2) : x = 0 ∨ x = 1 := by
  obtain ⟨j, hj, rfl⟩ := h
  have : j = 0 ∨ j = 1 := by omega
  rcases this with rfl | rfl
  · exact Or.inl rfl
  · exact Or.inr rfl
theorem zin2' {x : Int32} (h : ¬ zin x 2) : ¬ x = 0 ∧ ¬ x = 1 := ⟨fun e => h ⟨0, by decide, e⟩, fun e => h ⟨1, by decide, e⟩⟩
theorem z01y {x : Int32} (h : zin x 2) {I : zI} {J : zJ} {Q : Int32 → zI → zJ → Prop} (hq : Q 1 I J) : v_X_isZeroOrOne 5000 x I J Q := by
  rcases zin2 h with e | e
  · exact z_y e hq
  · exact z_n (by rw [e]; decide) (z_yr e hq)
theorem z01n {x : Int32} (h : ¬ zin x 2) {I : zI} {J : zJ} {Q : Int32 → zI → zJ → Prop} (hq : Q 0 I J) : v_X_isZeroOrOne 5000 x I J Q := z_n (zin2' h).1 (z_nr (zin2' h).2 hq)
theorem z_ne2 {n : Nat} (h : n < 2 ^ 31) : ¬ nI n = -2 := fun z => absurd (z ▸ z_neg2) (nI_pos h)
theorem zok_tells : zOK_tells Rel := fun a0 a1 => zok_q (vX := v_X_tells 5000 a0 a1) (vM := v_M_tells 5000 a0 a1) (fun I J hR t live s hQ => by
  have hX := hQ.1
  have hP := hX.1.2.1
  have hH := hX.1.1
  by_cases hz : zin a0 (xP t)
  · obtain ⟨p, hp, rfl⟩ := hz
    by_cases hk : zin a1 4
    · obtain ⟨k, hk, rfl⟩ := hk
      have k0 : ¬ nI k < 0 := nI_pos (by omega)
      have k3 : nI k ≤ 3 := nI_le (b := 3) (by omega) (by decide)
      rcases z_on hX.2.2.1 hp with e | ⟨h, hh, e⟩
      · exact ⟨-2, fun Q hq => hQ.xP1 hp (z_n z_10 (z_n k0 (z_y k3 (s_isHung hX hp (fun _ => z_yr z_00 (hq I zK.rfl)) (fun y hy e' => absurd (e'.symm.trans e) (z_ne2 (by omega))))))), fun I1 Q k1 hQ1 hq => hQ1.mP1 hp (z_n z_10 (z_in1 (n := 4) (by decide) (by decide) hk (z_nr z_10 (hQ1.copies (fun I2 o2 hX2 _ _ => s_M_isUp hX2 hp (fun _ => z_y z_00 (hq I2 (zK.fS o2))) (fun y hy e' => absurd (e'.symm.trans e) (z_ne2 (by omega))))))))⟩
      · exact ⟨ztell t s k p, fun Q hq => hQ.xP1 hp (z_n z_10 (z_n k0 (z_y k3 (s_isHung hX hp (fun e' => absurd (e.symm.trans e') (z_ne2 (by omega))) (fun y hy e' => z_nr z_10 (s_lookAtHung hX hp hh e (fun I1 o1 f1 => s_lawTells (hX.frC (fun b j q1 _ => o1 b j q1)) hk f1 (fun I2 o2 => by
            have := hq I2 (zK.fC (fun b j q1 q2 => (o2 b j q2).trans (o1 b j q1)))
            unfold ztell zlt2 at this
            rw [e, nI_clamp (by omega)] at this
            exact this)))))))), fun I1 Q k1 hQ1 hq => hQ1.mP1 hp (z_n z_10 (z_in1 (n := 4) (by decide) (by decide) hk (z_nr z_10 (hQ1.copies (fun I2 o2 hX2 _ _ => s_M_isUp hX2 hp (fun e' => absurd (e.symm.trans e') (z_ne2 (by omega))) (fun y hy e' => z_n z_10 (s_M_toldOf hX2 hp hk hh e (fun I3 o3 => hq I3 ((zK.fS o2).trans (zK.fM o3))))))))))⟩
    · refine ⟨-1, fun Q hq => hQ.xP1 hp (z_n z_10 ?_), fun I1 Q k1 hQ1 hq => hQ1.mP1 hp (z_n z_10 (z_in0 (n := 4) (by decide) (by decide) hk (z_yr z_00 (hq I1 zK.rfl))))⟩
      rcases rng_no (by decide) hk with q | q
      · exact z_y q (hq I zK.rfl)
      · exact z_n q.1 (z_n q.2.1 (hq I zK.rfl))
  · exact ⟨-1, fun Q hq => hQ.xP0 hz (z_y z_00 (hq I zK.rfl)), fun I1 Q k1 hQ1 hq => hQ1.mP0 hz (z_y z_00 (hq I1 zK.rfl))⟩)
def zol (b : Option Nat) : Int32 := b.elim (-2) nI
/-- the straightest -/
def zstr (s : zT) : Nat → Nat → Option Nat → Option Nat
  | 0, _, b => b
  | r + 1, i, b => zstr s r (i + 1) (if sO s i < 0 then b else b.elim (some i) fun j => if sC s j ≤ sC s i then some j else some i)
theorem s_straight_7 {I : zI} {J : zJ} {t : zX} {live : Nat} {s : zT} (hQ : zQ I t live s) {Q : Int32 → zI → zJ → Prop} : ∀ r i k (b : Option Nat) (x : Int32), i + r = xP t → r < k → (∀ j, b = some j → j < i ∧ x = sC s j) → Q (zol (zstr s r i b)) I J → v_X_straight_7 5000 k (zol b) x (nI i) I J Q
  | _, _, 0, _, _, _, hk, _, _ => absurd hk (Nat.not_lt_zero _)
  | 0, i, k + 1, b, x, hi, hk, hb, hq => by
    have hX := hQ.1
    have hP := hX.1.2.1
    rw [v_X_straight_7]; dsimp only; rw [hX.2.1.2.1]
    exact z_y (nI_le (by omega) (by omega)) hq
  | r + 1, i, k + 1, b, x, hi, hk, hb, hq => by
    have hX := hQ.1
    have hP := hX.1.2.1
    have hH := hX.1.1
    have hc := hX.2.2.2.1.2.2.2.2.1 i (by omega)
    rw [v_X_straight_7]; dsimp only; rw [hX.2.1.2.1]
    rw [zstr] at hq
    refine z_n (nI_ge (by omega) (by omega)) (s_isHung hX (by omega) (fun e => z_y z_00 ?_) (fun h hh e => z_n z_10 ?_))
    · rw [if_pos (by rw [e]; decide)] at hq
      rw [nI_1]
      exact s_straight_7 hQ r (i + 1) k b x (by omega) (by omega) (fun j e => ⟨Nat.lt_succ_of_lt (hb j e).1, (hb j e).2⟩) hq
    · rw [if_neg (by rw [e]; exact nI_pos (by omega))] at hq
      rw [nI_clamp (by omega), hc]
      have v6 : vp_in (nI i) 6 := vp_in_nI (by omega) (by decide)
      cases b with
      | none =>
        refine z_y rfl ⟨v6, fun y ey => ?_⟩
        rw [nI_1, ey]
        exact s_straight_7 hQ r (i + 1) k (some i) _ (by omega) (by omega) (fun j e => by cases e; exact ⟨Nat.lt_succ_self _, rfl⟩) hq
      | some j =>
        obtain ⟨hj, hx⟩ := hb j rfl
        refine z_n (z_ne2 (n := j) (by omega)) ⟨v6, ?_⟩
        rw [hx]
        have hq : Q (zol (zstr s r (i + 1) (if sC s j ≤ sC s i then some j else some i))) I J := hq
        by_cases hc : sC s j ≤ sC s i
        · rw [if_pos hc] at hq
          refine z_y hc ?_
          rw [nI_1]
          exact s_straight_7 hQ r (i + 1) k (some j) _ (by omega) (by omega) (fun j' e => by cases e; exact ⟨Nat.lt_succ_of_lt hj, rfl⟩) hq
        · rw [if_neg hc] at hq
          refine z_n hc (fun y ey => ?_)
          rw [nI_1, ey]
          exact s_straight_7 hQ r (i + 1) k (some i) _ (by omega) (by omega) (fun j' e => by cases e; exact ⟨Nat.lt_succ_self _, rfl⟩) hq
theorem s_M_straight_5 {I : zI} {J : zJ} {t : zX} {live : Nat} {s : zT} (hQ : zQ I t live s) {Q : Int32 → zI → zJ → Prop} : ∀ r i k (b : Option Nat), i + r = xP t → r < k → (∀ j, b = some j → j < i) → Q (zol (zstr s r i b)) I J → v_M_straight_5 5000 k (zol b) (nI i) I J Q
  | _, _, 0, _, _, hk, _, _ => absurd hk (Nat.not_lt_zero _)
  | 0, i, k + 1, b, hi, hk, hb, hq => by
    have hP := hQ.1.1.2.1
    have hl := hQ.2.1.1
    rw [v_M_straight_5]; dsimp only; rw [hQ.2.1.2.1, nI_clamp (by omega), hQ.2.1.2.2.2.1]
    exact ⟨vp_in_nI hl (by decide), z_y (nI_le (by omega) (by omega)) hq⟩
  | r + 1, i, k + 1, b, hi, hk, hb, hq => by
    have hP := hQ.1.1.2.1
    have hH := hQ.1.1.1
    have hl := hQ.2.1.1
    obtain ⟨m0, m1, m2, m3, m4, m5, _⟩ := hQ.2.2
    rw [v_M_straight_5]; dsimp only; rw [hQ.2.1.2.1, nI_clamp (n := live) (by omega), hQ.2.1.2.2.2.1, z_c6, nI_clamp (n := 6 + i) (by omega), m2 i (by omega), z_c18, nI_clamp (n := 18 + i) (by omega), m4 i (by omega)]
    rw [zstr] at hq
    refine ⟨vp_in_nI hl (by decide), z_n (nI_ge (by omega) (by omega)) ⟨vp_in_nI (by omega) (by decide), fun e => ?_, fun e => ?_⟩⟩
    · rw [if_pos e] at hq
      rw [nI_1]
      exact s_M_straight_5 hQ r (i + 1) k b (by omega) (by omega) (fun j e => Nat.lt_succ_of_lt (hb j e)) hq
    · rw [if_neg e] at hq
      cases b with
      | none =>
        refine z_y z_neg2 ?_
        rw [nI_1]
        exact s_M_straight_5 hQ r (i + 1) k (some i) (by omega) (by omega) (fun j e => by cases e; exact Nat.lt_succ_self _) hq
      | some j =>
        have hj := hb j rfl
        have hq : Q (zol (zstr s r (i + 1) (if sC s j ≤ sC s i then some j else some i))) I J := hq
        refine z_n (nI_pos (n := j) (by omega)) ⟨vp_in_nI (by omega) (by decide), ?_⟩
        rw [show zol (some j) = nI j from rfl, z_c18, nI_clamp (n := 18 + j) (by omega), m4 j (by omega)]
        refine ⟨vp_in_nI (by omega) (by decide), fun q => ?_, fun q => ?_⟩
        · rw [if_pos q] at hq
          rw [nI_1]
          exact s_M_straight_5 hQ r (i + 1) k (some j) (by omega) (by omega) (fun j' e => by cases e; exact Nat.lt_succ_of_lt hj) hq
        · rw [if_neg q] at hq
          rw [nI_1]
          exact s_M_straight_5 hQ r (i + 1) k (some i) (by omega) (by omega) (fun j' e => by cases e; exact Nat.lt_succ_self _) hq
theorem zok_straight : zOK_straight Rel := zok_q (vX := v_X_straight 5000) (vM := v_M_straight 5000) (fun I J hR t live s hQ =>
  ⟨zol (zstr s (xP t) 0 none), fun Q hq => s_straight_7 hQ (xP t) 0 5000 none 0 (by omega) (by have := hQ.1.1.2.1; omega) (fun j e => by cases e) (hq I zK.rfl), fun I1 Q k1 hQ1 hq => s_M_straight_5 hQ1 (xP t) 0 5000 none (by omega) (by have := hQ.1.1.2.1; omega) (fun j e => by cases e) (hq I1 zK.rfl)⟩)
def zhol (s : zT) (x : Int32) : Nat → Nat → Int32
  | 0, _ => -1
  | r + 1, i => if sS s i = x then nI i else zhol s x r (i + 1)
theorem s_holder_2 {I : zI} {J : zJ} {t : zX} {live : Nat} {s : zT} (hQ : zQ I t live s) {x : Int32} {Q : Int32 → zI → zJ → Prop} : ∀ r i k, i + r = xP t → r < k → Q (zhol s x r i) I J → v_X_holder_2 5000 k x (nI i) I J Q
  | _, _, 0, _, hk, _ => absurd hk (Nat.not_lt_zero _)
  | 0, i, k + 1, hi, hk, hq => by
    have hP := hQ.1.1.2.1
    rw [v_X_holder_2]; dsimp only; rw [hQ.1.2.1.2.1]
    exact z_y (nI_le (by omega) (by omega)) hq
  | r + 1, i, k + 1, hi, hk, hq => by
    have hP := hQ.1.1.2.1
    rw [v_X_holder_2]; dsimp only; rw [hQ.1.2.1.2.1, nI_clamp (by omega), hQ.1.2.2.2.1.2.2.2.1 i (by omega)]
    rw [zhol] at hq
    refine z_n (nI_ge (by omega) (by omega)) ⟨vp_in_nI (by omega) (by decide), fun q => ?_, fun q => ?_⟩
    · rw [if_neg q] at hq
      rw [nI_1]
      exact s_holder_2 hQ r (i + 1) k (by omega) (by omega) hq
    · rw [if_pos q] at hq
      exact hq
theorem s_M_holder_12 {I : zI} {J : zJ} {t : zX} {live : Nat} {s : zT} (hQ : zQ I t live s) {x : Int32} {Q : Int32 → zI → zJ → Prop} : ∀ r i k, i + r = xP t → r < k → Q (zhol s x r i) I J → v_M_holder_12 5000 k x (nI i) I J Q
  | _, _, 0, _, hk, _ => absurd hk (Nat.not_lt_zero _)
  | 0, i, k + 1, hi, hk, hq => by
    have hP := hQ.1.1.2.1
    have hl := hQ.2.1.1
    rw [v_M_holder_12]; dsimp only; rw [hQ.2.1.2.1, nI_clamp (by omega), hQ.2.1.2.2.2.1]
    exact ⟨vp_in_nI hl (by decide), z_y (nI_le (by omega) (by omega)) hq⟩
  | r + 1, i, k + 1, hi, hk, hq => by
    have hP := hQ.1.1.2.1
    have hl := hQ.2.1.1
    rw [v_M_holder_12]; dsimp only; rw [hQ.2.1.2.1, nI_clamp (n := live) (by omega), hQ.2.1.2.2.2.1, z_c12, nI_clamp (by omega), hQ.2.2.2.2.2.1 i (by omega)]
    rw [zhol] at hq
    refine ⟨vp_in_nI hl (by decide), z_n (nI_ge (by omega) (by omega)) ⟨vp_in_nI (by omega) (by decide), fun q => ?_, fun q => ?_⟩⟩
    · rw [if_neg q] at hq
      rw [nI_1]
      exact s_M_holder_12 hQ r (i + 1) k (by omega) (by omega) hq
    · rw [if_pos q] at hq
      exact hq
theorem zhol_no {s : zT} {nH nP : Nat} (hw : zW nH nP s) {x : Int32} (hx : ¬ zin x nP) : ∀ r i, i + r = nP → zhol s x r i = -1
  | 0, _, _ => rfl
  | r + 1, i, hi => by
    have hn : ¬ sS s i = x := fun e => hx (by rw [← e]; exact hw.2.2.2.1 i (by omega))
    rw [zhol, if_neg hn]
    exact zhol_no hw hx r (i + 1) (by omega)
theorem zok_holder : zOK_holder Rel := fun a0 => zok_q (vX := v_X_holder 5000 a0) (vM := v_M_holder 5000 a0) (fun I J hR t live s hQ =>
  ⟨zhol s a0 (xP t) 0, fun Q hq => s_holder_2 hQ (xP t) 0 5000 (by omega) (by have := hQ.1.1.2.1; omega) (hq I zK.rfl), fun I1 Q k1 hQ1 hq => by
    by_cases hz : zin a0 (xP t)
    · obtain ⟨p, hp, rfl⟩ := hz
      exact hQ1.mP1 hp (z_nr z_10 (s_M_holder_12 hQ1 (xP t) 0 5000 (by omega) (by have := hQ.1.1.2.1; omega) (hq I1 zK.rfl)))
    · rw [zhol_no hQ.1.2.2.1 hz _ _ (Nat.zero_add _)] at hq
      exact hQ1.mP0 hz (z_yr z_00 (hq I1 zK.rfl))⟩)
/-- the first one of least worth -/
def zarg (g : Nat → Int32) : Nat → Nat → Option Nat → Option Nat
  | 0, _, b => b
  | r + 1, i, b => zarg g r (i + 1) (b.elim (some i) fun j => if g j ≤ g i then some j else some i)
theorem s_fit_27 {J : zJ} {t : zX} {live p : Nat} {s : zT} (hp : p < xP t) {x2 : Int32} {Q : Int32 → zI → zJ → Prop} : ∀ r i k (b : Option Nat) (x : Int32) (I : zI), zQ I t live s → i + r = xH t → r < k → (b = none → x = -2) → (∀ j, b = some j → j < i ∧ x = zlt2 t s 3 p j 0) → (∀ I' : zI, frC I I' → Q (if x2 = 0 then zol (zarg (fun h => zlt2 t s 3 p h 0) r i b) else (zarg (fun h => zlt2 t s 3 p h 0) r i b).elim (-2) fun h => zlt2 t s 3 p h 0) I' J) → v_X_fit_27 5000 k (nI p) x2 (zol b) x (nI i) I J Q
  | _, _, 0, _, _, _, _, _, hk, _, _, _ => absurd hk (Nat.not_lt_zero _)
  | 0, i, k + 1, b, x, I, hQ, hi, hk, hb0, hb, hq => by
    have hH := hQ.1.1.1
    rw [v_X_fit_27]; dsimp only; rw [hQ.1.2.1.1]
    refine z_y (nI_le (by omega) (by omega)) ⟨fun q => ?_, fun q => ?_⟩
    · have := hq I (fun _ _ _ _ => rfl)
      rw [if_neg q] at this
      cases b with
      | none => rw [hb0 rfl]; exact this
      | some j => rw [(hb j rfl).2]; exact this
    · have := hq I (fun _ _ _ _ => rfl)
      rw [if_pos q] at this
      exact this
  | r + 1, i, k + 1, b, x, I, hQ, hi, hk, hb0, hb, hq => by
    have hH := hQ.1.1.1
    rw [v_X_fit_27]; dsimp only; rw [hQ.1.2.1.1]
    rw [zarg] at hq
    refine z_n (nI_ge (by omega) (by omega)) (s_costAlone hQ.1 hp (by omega) (fun I1 o1 => ?_))
    have hQ1 : zQ I1 t live s := hQ.kept (zK.fC (J := J) o1)
    cases b with
    | none =>
      refine z_y rfl ?_
      rw [nI_1]
      exact s_fit_27 hp r (i + 1) k (some i) _ I1 hQ1 (by omega) (by omega) (fun e => by cases e) (fun j e => by cases e; exact ⟨Nat.lt_succ_self _, rfl⟩) (fun I' o' => hq I' (frC.tr o1 o'))
    | some j =>
      obtain ⟨hj, hx⟩ := hb j rfl
      refine z_n (z_ne2 (n := j) (by omega)) ?_
      rw [hx]
      by_cases hc : zlt2 t s 3 p j 0 ≤ zlt2 t s 3 p i 0
      · refine z_y hc ?_
        rw [nI_1]
        refine s_fit_27 hp r (i + 1) k (some j) _ I1 hQ1 (by omega) (by omega) (fun e => by cases e) (fun j' e => by cases e; exact ⟨Nat.lt_succ_of_lt hj, rfl⟩) (fun I' o' => ?_)
        have := hq I' (frC.tr o1 o')
        simp only [Option.elim, hc, if_true] at this
        exact this
      · refine z_n hc ?_
        rw [nI_1]
        refine s_fit_27 hp r (i + 1) k (some i) _ I1 hQ1 (by omega) (by omega) (fun e => by cases e) (fun j' e => by cases e; exact ⟨Nat.lt_succ_self _, rfl⟩) (fun I' o' => ?_)
        have := hq I' (frC.tr o1 o')
        simp only [Option.elim, hc, if_false] at this
        exact this
theorem s_M_fit_29 {J : zJ} {t : zX} {live p : Nat} {s : zT} (hp : p < xP t) {x2 : Int32} {Q : Int32 → zI → zJ → Prop} {K : Int32 → Int32 → Int32 → zI → zJ → Prop} : ∀ r i k (b : Option Nat) (I : zI), mX I t live s → i + r = xH t → r < k → (∀ j, b = some j → j < i) → (∀ I' : zI, frM I I' → K (nI p) x2 (zol (zarg (fun h => zlt2 t s 3 p h 0) r i b)) I' J) → v_M_fit_29 5000 k (nI p) x2 (zol b) (nI i) I J Q K
  | _, _, 0, _, _, _, _, hk, _, _ => absurd hk (Nat.not_lt_zero _)
  | 0, i, k + 1, b, I, hX, hi, hk, hb, hq => by
    have hH := hX.1.1
    have hl := hX.2.1.1
    rw [v_M_fit_29]; dsimp only; rw [hX.2.1.2.1, nI_clamp (by omega), hX.2.1.2.2.1]
    exact ⟨vp_in_nI hl (by decide), z_y (nI_le (by omega) (by omega)) (hq I (fun _ _ _ _ _ => rfl))⟩
  | r + 1, i, k + 1, b, I, hX, hi, hk, hb, hq => by
    have hH := hX.1.1
    have hl := hX.2.1.1
    rw [v_M_fit_29]; dsimp only; rw [hX.2.1.2.1, nI_clamp (by omega), hX.2.1.2.2.1]
    rw [zarg] at hq
    refine ⟨vp_in_nI hl (by decide), z_n (nI_ge (by omega) (by omega)) ?_⟩
    cases b with
    | none =>
      refine z_y z_neg2 ?_
      rw [nI_1]
      exact s_M_fit_29 hp r (i + 1) k (some i) I hX (by omega) (by omega) (fun j e => by cases e; exact Nat.lt_succ_self _) hq
    | some j =>
      have hj := hb j rfl
      refine z_n (nI_pos (n := j) (by omega)) (s_M_costsAt hX hp (by omega) (fun I1 o1 => s_M_costsAt (hX.frM o1) hp (h := j) (by omega) (fun I2 o2 => ?_)))
      have o3 := frM.tr o1 o2
      by_cases hc : zlt2 t s 3 p j 0 ≤ zlt2 t s 3 p i 0
      · refine z_y hc ?_
        rw [nI_1]
        refine s_M_fit_29 hp r (i + 1) k (some j) I2 (hX.frM o3) (by omega) (by omega) (fun j' e => by cases e; exact Nat.lt_succ_of_lt hj) (fun I' o' => ?_)
        have := hq I' (frM.tr o3 o')
        simp only [Option.elim, hc, if_true] at this
        exact this
      · refine z_n hc ?_
        rw [nI_1]
        refine s_M_fit_29 hp r (i + 1) k (some i) I2 (hX.frM o3) (by omega) (by omega) (fun j' e => by cases e; exact Nat.lt_succ_self _) (fun I' o' => ?_)
        have := hq I' (frM.tr o3 o')
        simp only [Option.elim, hc, if_false] at this
        exact this
theorem zarg_lt (g : Nat → Int32) : ∀ r i (b : Option Nat), (∀ j, b = some j → j < i) → ∀ j, zarg g r i b = some j → j < i + r
  | 0, i, b, hb, j, e => hb j e
  | r + 1, i, b, hb, j, e => by
    rw [zarg] at e
    have := zarg_lt g r (i + 1) _ (fun j' e' => ?_) j e
    · omega
    · cases b with
      | none => cases e'; omega
      | some j'' =>
        have hj := hb j'' rfl
        simp only [Option.elim] at e'
        by_cases hc : g j'' ≤ g i
        · rw [if_pos hc] at e'; cases e'; omega
        · rw [if_neg hc] at e'; cases e'; omega
theorem zok_fit : zOK_fit Rel := fun a0 a1 => zok_q (vX := v_X_fit 5000 a0 a1) (vM := v_M_fit 5000 a0 a1) (fun I J hR t live s hQ => by
  have hP := hQ.1.1.2.1
  have hH := hQ.1.1.1
  by_cases hz : zin a0 (xP t)
  · obtain ⟨p, hp, rfl⟩ := hz
    by_cases hk : zin a1 2
    · refine ⟨if a1 = 0 then zol (zarg (fun h => zlt2 t s 3 p h 0) (xH t) 0 none) else (zarg (fun h => zlt2 t s 3 p h 0) (xH t) 0 none).elim (-2) fun h => zlt2 t s 3 p h 0, fun Q hq => hQ.xP1 hp (z_n z_10 (z01y hk (z_nr z_10 (s_fit_27 hp (xH t) 0 5000 none (-2) I hQ (by omega) (by omega) (fun _ => rfl) (fun j e => by cases e) (fun I' o' => hq I' (zK.fC o')))))), fun I1 Q k1 hQ1 hq => hQ1.mP1 hp (z_n z_10 ?_)⟩
      obtain ⟨k, hk, rfl⟩ := hk
      refine z_in1 (n := 2) (by decide) (by decide) hk (z_nr z_10 (hQ1.copies (fun I2 o2 hX2 _ _ => s_M_fit_29 hp (xH t) 0 5000 none I2 hX2 (by omega) (by omega) (fun j e => by cases e) (fun I3 o3 => ?_))))
      have hl := zarg_lt (fun h => zlt2 t s 3 p h 0) (xH t) 0 none (fun j e => by cases e)
      cases e : zarg (fun h => zlt2 t s 3 p h 0) (xH t) 0 none with
      | none =>
        rw [e] at hq
        refine z_y z_neg2 ?_
        have := hq I3 ((zK.fS o2).trans (zK.fM o3))
        by_cases hc : nI k = 0
        · rw [if_pos hc] at this; exact this
        · rw [if_neg hc] at this; exact this
      | some j =>
        rw [e] at hq
        have hj := hl j e
        refine z_n (nI_pos (n := j) (by omega)) ⟨fun q => ?_, fun q => ?_⟩
        · rw [if_neg q] at hq
          exact s_M_costsAt (hX2.frM o3) hp (by omega) (fun I4 o4 => hq I4 ((zK.fS o2).trans ((zK.fM o3).trans (zK.fM o4))))
        · rw [if_pos q] at hq
          exact hq I3 ((zK.fS o2).trans (zK.fM o3))
    · exact ⟨-1, fun Q hq => hQ.xP1 hp (z_n z_10 (z01n hk (z_yr z_00 (hq I zK.rfl)))), fun I1 Q k1 hQ1 hq => hQ1.mP1 hp (z_n z_10 (z_in0 (n := 2) (by decide) (by decide) hk (z_yr z_00 (hq I1 zK.rfl))))⟩
  · exact ⟨-1, fun Q hq => hQ.xP0 hz (z_y z_00 (hq I zK.rfl)), fun I1 Q k1 hQ1 hq => hQ1.mP0 hz (z_y z_00 (hq I1 zK.rfl))⟩)
