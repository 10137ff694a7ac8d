/-! the start: Reader, Past, the class -/
def zTxB (x : Nat) : Bool := decide (zS x = .inl 8) && decide (zS (x + 1) = .inr (0, 7)) && decide (zS (x + 2) = .inr (0, 7)) && decide (zS (x + 3) = .inr (0, 6)) && decide (zS (x + 4) = .inr (0, 6)) && decide (zS (x + 5) = .inr (0, 6))
def zTxL (y : Nat) : Bool := decide (zS y = .inl 0) && decide (zS (y + 1) = .inr (0, 400)) && decide (zS (y + 2) = .inr (0, 400)) && zRL y [(1, y + 2), (0, y + 1)] && zR0 (y + 1) && zR0 (y + 2)
theorem zTxk_of {x : Nat} (h : zTxB x = true) (hl : (List.range 4).all (fun k => zTxL (x + 6 + 3 * k)) = true) (hL : zRL x [(10, x + 15), (9, x + 12), (8, x + 9), (7, x + 6), (6, x + 5), (5, x + 4), (4, x + 3), (2, x + 2), (1, x + 1)] = true) (hz : (List.range 5).all (fun j => zR0 (x + 1 + j)) = true) : zTxk x := by
  unfold zTxB at h
  simp only [Bool.and_eq_true, decide_eq_true_eq] at h
  obtain ⟨⟨⟨⟨⟨h0, h1⟩, h2⟩, h3⟩, h4⟩, h5⟩ := h
  refine ⟨h0, h1, h2, h3, h4, h5, fun k hk => ?_, zRL_ok hL, fun d q1 q2 j => ?_⟩
  · have := List.all_eq_true.mp hl k (List.mem_range.mpr hk)
    unfold zTxL at this
    simp only [Bool.and_eq_true, decide_eq_true_eq] at this
    obtain ⟨⟨⟨⟨⟨b0, b1⟩, b2⟩, b3⟩, b4⟩, b5⟩ := this
    exact ⟨b0, b1, b2, zRL_ok b3, zR0_ok b4, zR0_ok b5⟩
  · have := zR0_row hz (d - 1) j (by omega)
    rwa [show x + 1 + (d - 1) = x + d by omega] at this
theorem zTxk_8 : zTxk 8 := zTxk_of (by decide +kernel) (by decide +kernel) (by decide +kernel) (by decide +kernel)
theorem zTxk_27 : zTxk 27 := zTxk_of (by decide +kernel) (by decide +kernel) (by decide +kernel) (by decide +kernel)
section
variable {I : zI} {J : zJ} {R : zRf}
theorem k_Reader (h3 : z3 26 I J R) (hk : zKp 26 26 R R []) {Q : qH → Prop} (hq : ∀ (I' : zI) (R' : zRf), z3 48 I' J R' → zPo 26 48 I I' R R' → I' 26 13 = -1 → Q (zHn 48 I' J R')) : w_Reader_init 5000 26 2 (zHn 26 I J R) Q := by
  refine ⟨by decide, k_new (by decide) (by decide) h3 rfl (fun g1 => ⟨by decide, by decide, by decide, k_Text (by decide) zTxk_27 g1 (zKp.zero h3) (fun I2 R2 g2 p2 _ _ => k_setR (by decide) rfl (k_alloc (by decide) (by decide) (g2.r (by decide)) rfl (by decide) rfl (fun g3 => k_alloc (by decide) (by decide) g3 rfl (by decide) rfl (fun g4 => ?_))))⟩)⟩
  have k4 := ((((hk.sub (m := 44) (by decide) p2.2.1 p2.2.2).st (f := 5) (v := 27)).al (f := 6) (v := 45) (g2.r (a := 26) (k := 5) (v := 27) (by decide)) (zR0_ok (by decide +kernel))).al (f := 7) (v := 46) g3 (zR0_ok (by decide +kernel)))
  have k4 : zKp 46 26 R (qu (qu (qu R2 26 5 27) 26 6 45) 26 7 46) [(7, 46), (6, 45), (5, 27)] := k4
  have g4 : z3 46 I2 J (qu (qu (qu R2 26 5 27) 26 6 45) 26 7 46) := g4
  refine k_new (n := 46) (by decide) (by decide) g4 rfl (fun g5 => ⟨by decide, by decide, by decide, k_Waits g5 (zKp.zero g4) (fun R6 g6 p6 => k_setR (by decide) rfl (k_setI (by decide) rfl (k_setR (by decide) rfl ⟨by decide, by decide, hq _ _ (((g6.r (by decide)).i (by decide)).r (by decide)) ⟨fun a k q => ?_, ?_, ?_⟩ qu_same⟩)))⟩)
  · rw [qu_off (Or.inl (by omega)), p2.1 a k (by omega)]
  · exact (((k4.sub (m := 48) (by decide) p6.2.1 p6.2.2).st (f := 9) (v := 47)).st (f := 0) (v := 2)).2.1
  · exact (((k4.sub (m := 48) (by decide) p6.2.1 p6.2.2).st (f := 9) (v := 47)).st (f := 0) (v := 2)).fin (zRL_ok (by decide +kernel))
/-- the States of a row of references: owner x0, row x0' = x0 + 1, i of them made -/
def zKs (x0 y b i : Nat) (R0 R : zRf) (L : List (Nat × Nat)) : Prop := (∀ k, R x0 k = zlu L k) ∧ (∀ a k, a < y → a ≠ x0 → R a k = R0 a k) ∧ (∀ k, R y k = if k < i then b + 6 * k else 0) ∧ ∀ a, y < a → a < b + 6 * i → ∀ k, R a k = zR a k
theorem zKs.next {x0 y b i : Nat} {R0 R R' : zRf} {L : List (Nat × Nat)} (h : zKs x0 y b i R0 R L) (hx : x0 < y) (hy : y < b) (p1 : ∀ a k, a < b + 6 * i → R' a k = R a k) (p2 : ∀ a, b + 6 * i ≤ a → a ≤ b + 6 * i + 5 → ∀ k, R' a k = zR a k) : zKs x0 y b (i + 1) R0 (qu R' y i (b + 6 * i)) L := by
  refine ⟨fun k => ?_, fun a k q1 q2 => ?_, fun k => ?_, fun a q1 q2 k => ?_⟩
  · rw [qu_off (Or.inl (by omega)), p1 _ _ (by omega)]; exact h.1 k
  · rw [qu_off (Or.inl (by omega)), p1 _ _ (by omega)]; exact h.2.1 a k q1 q2
  · by_cases e : k = i
    · rw [e, qu_same, if_pos (by omega)]
    · rw [qu_off (Or.inr e), p1 _ _ (by omega), h.2.2.1 k]
      by_cases l : k < i
      · rw [if_pos l, if_pos (by omega)]
      · rw [if_neg l, if_neg (by omega)]
  · rw [qu_off (Or.inl (by omega))]
    rcases Nat.lt_or_ge a (b + 6 * i) with z | z
    · rw [p1 _ _ z]; exact h.2.2.2 a q1 z k
    · exact p2 a z (by omega) k
theorem k_Past25 {R0 : zRf} (t4 : R0 8 4 = 11) (t6 : R0 8 6 = 13) {Q : qH → Prop} : ∀ r i k (I : zI) (R : zRf), i + r = 40 → r < k → z3 (101 + 6 * i) I J R → zKs 100 101 102 i R0 R [(0, 101)] → (∀ (I' : zI) (R' : zRf), z3 341 I' J R' → zKs 100 101 102 40 R0 R' [(0, 101)] → (∀ a l, a < 102 → I' a l = I a l) → Q (zHn 341 I' J R')) → w_Past_init_25 5000 k 100 8 (nI i) (1 + 6 * i) (40 + 38 * i) (zHn (101 + 6 * i) I J R) Q
  | _, _, 0, _, _, _, hk, _, _, _ => absurd hk (Nat.not_lt_zero _)
  | 0, i, k + 1, I, R, hi, hk, h3, hs, hq => by
    have : i = 40 := by omega
    subst this
    exact z_y (by decide) ⟨by decide, by decide, hq I R h3 hs (fun _ _ _ => rfl)⟩
  | r + 1, i, k + 1, I, R, hi, hk, h3, hs, hq => by
    rw [w_Past_init_25]; dsimp only; rw [nI_1]
    have fr : ∀ a l, a < 100 → R a l = R0 a l := fun a l q => hs.2.1 a l (by omega) (by omega)
    have e0 : R 100 0 = 101 := hs.1 0
    have st := zStk_past (i := i) (by omega)
    have s6 : zS (101 + 6 * i + 1) = .inl 6 := by have := st.1.1; rwa [show 101 + 6 * i + 1 = 102 + 6 * i by omega]
    refine z_n (nI_ge (b := 40) (by omega) (by decide)) ⟨(hnS (by omega)).trans rfl, k_new (by omega) (by omega) h3 s6 (fun g1 => ⟨by omega, by omega, by omega, ?_⟩)⟩
    have z0 := zKp.zero h3
    rw [show 101 + 6 * i + 1 = 102 + 6 * i by omega] at g1 z0 ⊢
    refine k_State (by omega) st (by rw [fr _ _ (by decide)]; exact t4) (by rw [fr _ _ (by decide)]; exact t6) g1 z0 (fun I2 R2 g2 p2 _ => ⟨(hnS (by omega)).trans st.1.1, ?_, fun h15 e15 => ?_⟩)
    · show qok _ (R 100 0) 4 _
      rw [e0]; exact hnok (by omega) rfl (vp_in_nI (by omega) (by decide))
    · have e15 : h15 = zHn (102 + 6 * i + 5) I2 J (qu R2 101 i (102 + 6 * i)) := by rw [e15]; show qsR _ (R 100 0) _ _ = _; rw [e0, nI_clamp (by omega)]; rfl
      subst e15
      have nx := zKs.next hs (by decide) (by decide) p2.2.1 p2.2.2
      have g3 := g2.r (a := 101) (k := i) (v := 102 + 6 * i) (by omega)
      have en : 102 + 6 * i + 5 = 101 + 6 * (i + 1) := by omega
      rw [en] at g3 ⊢
      rw [show 1 + 6 * i + 1 + 5 = 1 + 6 * (i + 1) by omega, show 40 + 38 * i + 7 + 31 = 40 + 38 * (i + 1) by omega]
      exact k_Past25 t4 t6 r (i + 1) k I2 _ (by omega) (by omega) g3 nx (fun I' R' a1 a2 a3 => hq I' R' a1 a2 (fun a l q => by rw [a3 a l q, p2.1 a l (by omega)]))
theorem zR_st {y b n : Nat} (hn : n ≤ 72) (h : (List.range 72).all (fun k => zR y k == if k < n then b + 6 * k else 0) = true) : ∀ k, zR y k = if k < n then b + 6 * k else 0 := fun k => by
  rcases Nat.lt_or_ge k 72 with z | z
  · exact beq_iff_eq.mp (List.all_eq_true.mp h k (List.mem_range.mpr z))
  · rw [zR_big y z, if_neg (by omega)]
theorem k_Past (t4 : R 8 4 = 11) (t6 : R 8 6 = 13) (h3 : z3 100 I J R) (hk : zKp 100 100 R R []) {Q : qH → Prop} (hq : ∀ (I' : zI) (R' : zRf), z3 341 I' J R' → zPo 100 341 I I' R R' → I' 100 1 = 0 → I' 100 2 = 0 → Q (zHn 341 I' J R')) : w_Past_init 5000 100 8 (zHn 100 I J R) Q := by
  refine ⟨by decide, k_alloc (by decide) (by decide) h3 rfl (by decide) rfl (fun g1 => k_setI (by decide) rfl (k_setI (by decide) rfl ?_))⟩
  have k0 : zKs 100 101 102 0 R (qu R 100 0 101) [(0, 101)] := ⟨qu_lu hk.1, fun a k q1 q2 => qu_off (Or.inl q2), fun k => by rw [qu_off (Or.inl (by decide)), if_neg (by omega)]; exact h3.2.2 _ _ (by decide), fun a q1 q2 => absurd q1 (by omega)⟩
  refine k_Past25 t4 t6 40 0 5000 _ _ (by decide) (by decide) ((g1.i (by decide)).i (by decide)) k0 (fun I' R' a1 a2 a3 => hq I' R' a1 ⟨fun a k q => ?_, fun a k q => a2.2.1 a k (by omega) (by omega), fun a q1 q2 k => ?_⟩ ?_ ?_)
  · rw [a3 a k (by omega), qu_off (Or.inl (by omega)), qu_off (Or.inl (by omega))]
  · by_cases e : a = 100
    · rw [e, a2.1]; exact zRL_ok (by decide +kernel) k
    · by_cases e2 : a = 101
      · rw [e2, a2.2.2.1]; exact (zR_st (by decide) (by decide +kernel) k).symm
      · exact a2.2.2.2 a (by omega) (by omega) k
  · rw [a3 _ _ (by decide), qu_off (Or.inr (by decide)), qu_same]
  · rw [a3 _ _ (by decide), qu_same]
theorem k_X168 {R0 : zRf} {L : List (Nat × Nat)} (t4 : R0 8 4 = 11) (t6 : R0 8 6 = 13) (l10 : zlu L 10 = 342) (l1 : zlu L 1 = 8) {Q : qH → Prop} : ∀ r i k (I : zI) (R : zRf), i + r = 3 → r < k → z3 (342 + 6 * i) I J R → zKs 1 342 343 i R0 R L → (∀ (I' : zI) (R' : zRf), z3 360 I' J R' → zKs 1 342 343 3 R0 R' L → (∀ a l, a < 343 → (a ≠ 1 ∨ l ≠ 11) → I' a l = I a l) → I' 1 11 = 0 → Q (zHn 360 I' J R')) → w_X_init_168 5000 k 1 (nI i) (341 + 6 * i) (12616 + 38 * i) (zHn (342 + 6 * i) I J R) Q
  | _, _, 0, _, _, _, hk, _, _, _ => absurd hk (Nat.not_lt_zero _)
  | 0, i, k + 1, I, R, hi, hk, h3, hs, hq => by
    have : i = 3 := by omega
    subst this
    exact z_y (by decide) (k_setI (by decide) rfl ⟨by decide, by decide, hq _ R (h3.i (by decide)) hs (fun a l _ q => qu_off q) qu_same⟩)
  | r + 1, i, k + 1, I, R, hi, hk, h3, hs, hq => by
    rw [w_X_init_168]; dsimp only; rw [nI_1]
    have fr : ∀ a l, a < 342 → a ≠ 1 → R a l = R0 a l := fun a l q1 q2 => hs.2.1 a l (by omega) q2
    have e0 : R 1 10 = 342 := (hs.1 10).trans l10
    have e1 : R 1 1 = 8 := (hs.1 1).trans l1
    have st := zStk_slot (i := i) (by omega)
    have s6 : zS (342 + 6 * i + 1) = .inl 6 := by have := st.1.1; rwa [show 342 + 6 * i + 1 = 343 + 6 * i by omega]
    refine z_n (nI_ge (b := 3) (by omega) (by decide)) ⟨(hnS (by omega)).trans rfl, k_new (by omega) (by omega) h3 s6 (fun g1 => ⟨(hnS (by omega)).trans rfl, by omega, by omega, by omega, ?_⟩)⟩
    have z0 := zKp.zero h3
    rw [show qR (zHn (342 + 6 * i + 1) I J R) 1 1 = 8 from e1]
    rw [show 342 + 6 * i + 1 = 343 + 6 * i by omega] at g1 z0 ⊢
    refine k_State (by omega) st (by rw [fr _ _ (by decide) (by decide)]; exact t4) (by rw [fr _ _ (by decide) (by decide)]; exact t6) g1 z0 (fun I2 R2 g2 p2 _ => ⟨(hnS (by omega)).trans st.1.1, ?_, fun h15 e15 => ?_⟩)
    · show qok _ (R 1 10) 4 _
      rw [e0]; exact hnok (by omega) rfl (vp_in_nI (by omega) (by decide))
    · have e15 : h15 = zHn (343 + 6 * i + 5) I2 J (qu R2 342 i (343 + 6 * i)) := by rw [e15]; show qsR _ (R 1 10) _ _ = _; rw [e0, nI_clamp (by omega)]; rfl
      subst e15
      have nx := zKs.next hs (by decide) (by decide) p2.2.1 p2.2.2
      have g3 := g2.r (a := 342) (k := i) (v := 343 + 6 * i) (by omega)
      have en : 343 + 6 * i + 5 = 342 + 6 * (i + 1) := by omega
      rw [en] at g3 ⊢
      rw [show 341 + 6 * i + 1 + 5 = 341 + 6 * (i + 1) by omega, show 12616 + 38 * i + 7 + 31 = 12616 + 38 * (i + 1) by omega]
      exact k_X168 t4 t6 l10 l1 r (i + 1) k I2 _ (by omega) (by omega) g3 nx (fun I' R' a1 a2 a3 a4 => hq I' R' a1 a2 (fun a l q q' => by rw [a3 a l q q', p2.1 a l (by omega)]) a4)
theorem rCLaw.same {I' : zI} {y : Nat} {w : zLw} (h : rCLaw I y w) (e : ∀ a k, y ≤ a → a ≤ y + 2 → I' a k = I a k) : rCLaw I' y w := ⟨h.1, (e _ _ (by omega) (by omega)).trans h.2.1, fun i q hq => by rw [e _ _ (by omega) (by omega), e _ _ (by omega) (by omega)]; exact h.2.2 i q hq⟩
/-- what the class' constructor leaves -/
def zX1 (I : zI) (J : zJ) (R : zRf) : Prop := z3 360 I J R ∧ (∀ a, 1 ≤ a → a ≤ 360 → ∀ k, R a k = zR a k) ∧ I 2 1 = 0 ∧ (∀ k, k < 21 → J 4 k = lN (zKeys.getD k 0)) ∧ (∀ l, l = 0 ∨ l = 3 ∨ l = 11 ∨ l = 12 → I 8 l = 0) ∧ (∀ k, k < 4 → rCLaw I (8 + 6 + 3 * k) (zplain k)) ∧ I 26 13 = -1 ∧ I 49 1 = 0 ∧ I 83 7 = 0 ∧ I 100 1 = 0 ∧ I 100 2 = 0 ∧ I 1 11 = 0
theorem k_X (h3 : z3 1 I J R) (hk : zKp 1 1 R R []) {Q : qH → Prop} (hq : ∀ (I' : zI) (J' : zJ) (R' : zRf), zX1 I' J' R' → (∀ k, R' 0 k = R 0 k) → Q (zHn 360 I' J' R')) : w_X_init 5000 1 (zHn 1 I J R) Q := by
  refine ⟨by decide, k_new (by decide) (by decide) h3 rfl (fun g1 => ⟨by decide, by decide, by decide, k_Tape g1 (zKp.zero h3) (fun I1 J R1 g1 p1 v1 w1 => k_setR (by decide) rfl ?_)⟩)⟩
  have k1 : zKp 7 1 R (qu R1 1 0 2) [(0, 2)] := (hk.sub (m := 7) (by decide) p1.2.1 p1.2.2).st (f := 0) (v := 2)
  have g1 : z3 7 I1 J (qu R1 1 0 2) := g1.r (by decide)
  generalize hR1 : qu R1 1 0 (1 + 1) = R1' at *
  refine k_new (by decide) (by decide) g1 rfl (fun g2 => ⟨by decide, by decide, by decide, k_Text (by decide) zTxk_8 g2 (zKp.zero g1) (fun I2 R2 g2 p2 v2 l2 => k_setR (by decide) rfl ?_)⟩)
  have k2 : zKp 25 1 R (qu R2 1 1 8) [(1, 8), (0, 2)] := (k1.sub (m := 25) (by decide) p2.2.1 p2.2.2).st (f := 1) (v := 8)
  have g2 : z3 25 I2 J (qu R2 1 1 8) := g2.r (by decide)
  generalize hR2 : qu R2 1 1 (7 + 1) = R2' at *
  refine k_new (by decide) (by decide) g2 rfl (fun g3 => ⟨(hnS (by decide)).trans rfl, by decide, by decide, by decide, ?_⟩)
  rw [show qR (zHn (25 + 1) I2 J R2') 1 0 = 2 from k2.1 0]
  refine k_Reader g3 (zKp.zero g2) (fun I3 R3 g3 p3 v3 => k_setR (by decide) rfl ?_)
  have k3 : zKp 48 1 R (qu R3 1 2 26) [(2, 26), (1, 8), (0, 2)] := (k2.sub (m := 48) (by decide) p3.2.1 p3.2.2).st (f := 2) (v := 26)
  have g3 : z3 48 I3 J (qu R3 1 2 26) := g3.r (by decide)
  generalize hR3 : qu R3 1 2 (25 + 1) = R3' at *
  refine k_new (by decide) (by decide) g3 rfl (fun g4 => ⟨(hnS (by decide)).trans rfl, by decide, by decide, by decide, ?_⟩)
  rw [show qR (zHn (48 + 1) I3 J R3') 1 1 = 8 from k3.1 1]
  refine k_State (by decide) zStk_49 ((k3.2.2 8 (by decide) (by decide) 4).trans (by decide +kernel)) ((k3.2.2 8 (by decide) (by decide) 6).trans (by decide +kernel)) g4 (zKp.zero g3) (fun I4 R4 g4 p4 v4 => k_setR (by decide) rfl ?_)
  have k4 : zKp 54 1 R (qu R4 1 3 49) [(3, 49), (2, 26), (1, 8), (0, 2)] := (k3.sub (m := 54) (by decide) p4.2.1 p4.2.2).st (f := 3) (v := 49)
  have g4 : z3 54 I4 J (qu R4 1 3 49) := g4.r (by decide)
  generalize hR4 : qu R4 1 3 (48 + 1) = R4' at *
  refine k_new (by decide) (by decide) g4 rfl (fun g5 => ⟨(hnS (by decide)).trans rfl, by decide, by decide, by decide, ?_⟩)
  rw [show qR (zHn (54 + 1) I4 J R4') 1 1 = 8 from k4.1 1]
  refine k_State (by decide) zStk_55 ((k4.2.2 8 (by decide) (by decide) 4).trans (by decide +kernel)) ((k4.2.2 8 (by decide) (by decide) 6).trans (by decide +kernel)) g5 (zKp.zero g4) (fun I5 R5 g5 p5 _ => k_setR (by decide) rfl ?_)
  have k5 : zKp 60 1 R (qu R5 1 4 55) [(4, 55), (3, 49), (2, 26), (1, 8), (0, 2)] := (k4.sub (m := 60) (by decide) p5.2.1 p5.2.2).st (f := 4) (v := 55)
  have g5 : z3 60 I5 J (qu R5 1 4 55) := g5.r (by decide)
  generalize hR5 : qu R5 1 4 (54 + 1) = R5' at *
  refine k_new (by decide) (by decide) g5 rfl (fun g6 => ⟨(hnS (by decide)).trans rfl, by decide, by decide, by decide, ?_⟩)
  rw [show qR (zHn (60 + 1) I5 J R5') 1 1 = 8 from k5.1 1]
  refine k_Reck g6 (zKp.zero g5) (fun R6 g6 p6 => k_setR (by decide) rfl ?_)
  have k6 : zKp 63 1 R (qu R6 1 5 61) [(5, 61), (4, 55), (3, 49), (2, 26), (1, 8), (0, 2)] := (k5.sub (m := 63) (by decide) p6.2.1 p6.2.2).st (f := 5) (v := 61)
  have g6 : z3 63 I5 J (qu R6 1 5 61) := g6.r (by decide)
  generalize hR6 : qu R6 1 5 (60 + 1) = R6' at *
  refine k_new (by decide) (by decide) g6 rfl (fun g7 => ⟨(hnS (by decide)).trans rfl, by decide, by decide, by decide, ?_⟩)
  rw [show qR (zHn (63 + 1) I5 J R6') 1 1 = 8 from k6.1 1, show qR (zHn (63 + 1) I5 J R6') 1 5 = 61 from k6.1 5]
  refine k_Night g7 (zKp.zero g6) (fun R7 g7 p7 => k_setR (by decide) rfl ?_)
  have k7 : zKp 65 1 R (qu R7 1 6 64) [(6, 64), (5, 61), (4, 55), (3, 49), (2, 26), (1, 8), (0, 2)] := (k6.sub (m := 65) (by decide) p7.2.1 p7.2.2).st (f := 6) (v := 64)
  have g7 : z3 65 I5 J (qu R7 1 6 64) := g7.r (by decide)
  generalize hR7 : qu R7 1 6 (63 + 1) = R7' at *
  refine k_new (by decide) (by decide) g7 rfl (fun g8 => ⟨(hnS (by decide)).trans rfl, by decide, by decide, by decide, ?_⟩)
  rw [show qR (zHn (65 + 1) I5 J R7') 1 1 = 8 from k7.1 1, show qR (zHn (65 + 1) I5 J R7') 1 5 = 61 from k7.1 5]
  refine k_Plan g8 (zKp.zero g7) (fun R8 g8 p8 => k_setR (by decide) rfl ?_)
  have k8 : zKp 82 1 R (qu R8 1 7 66) [(7, 66), (6, 64), (5, 61), (4, 55), (3, 49), (2, 26), (1, 8), (0, 2)] := (k7.sub (m := 82) (by decide) p8.2.1 p8.2.2).st (f := 7) (v := 66)
  have g8 : z3 82 I5 J (qu R8 1 7 66) := g8.r (by decide)
  generalize hR8 : qu R8 1 7 (65 + 1) = R8' at *
  refine k_new (by decide) (by decide) g8 rfl (fun g9 => ⟨(hnS (by decide)).trans rfl, by decide, by decide, by decide, ?_⟩)
  rw [show qR (zHn (82 + 1) I5 J R8') 1 1 = 8 from k8.1 1, show qR (zHn (82 + 1) I5 J R8') 1 6 = 64 from k8.1 6]
  refine k_Told ((k8.2.2 8 (by decide) (by decide) 4).trans (by decide +kernel)) ((k8.2.2 8 (by decide) (by decide) 6).trans (by decide +kernel)) g9 (zKp.zero g8) (fun I9 R9 g9 p9 v9 => k_setR (by decide) rfl ?_)
  have k9 : zKp 99 1 R (qu R9 1 8 83) [(8, 83), (7, 66), (6, 64), (5, 61), (4, 55), (3, 49), (2, 26), (1, 8), (0, 2)] := (k8.sub (m := 99) (by decide) p9.2.1 p9.2.2).st (f := 8) (v := 83)
  have g9 : z3 99 I9 J (qu R9 1 8 83) := g9.r (by decide)
  generalize hR9 : qu R9 1 8 (82 + 1) = R9' at *
  refine k_new (by decide) (by decide) g9 rfl (fun g10 => ⟨(hnS (by decide)).trans rfl, by decide, by decide, by decide, ?_⟩)
  rw [show qR (zHn (99 + 1) I9 J R9') 1 1 = 8 from k9.1 1]
  refine k_Past ((k9.2.2 8 (by decide) (by decide) 4).trans (by decide +kernel)) ((k9.2.2 8 (by decide) (by decide) 6).trans (by decide +kernel)) g10 (zKp.zero g9) (fun I10 R10 g10 p10 v10 w10 => k_setR (by decide) rfl ?_)
  have k10 : zKp 341 1 R (qu R10 1 9 100) [(9, 100), (8, 83), (7, 66), (6, 64), (5, 61), (4, 55), (3, 49), (2, 26), (1, 8), (0, 2)] := (k9.sub (m := 341) (by decide) p10.2.1 p10.2.2).st (f := 9) (v := 100)
  have g10 : z3 341 I10 J (qu R10 1 9 100) := g10.r (by decide)
  generalize hR10 : qu R10 1 9 (99 + 1) = R10' at *
  refine k_alloc (n := 341) (by decide) (by decide) g10 rfl (by decide) rfl (fun g20 => ?_)
  have ks : zKs 1 342 343 0 R10' (qu R10' 1 10 342) [(10, 342), (9, 100), (8, 83), (7, 66), (6, 64), (5, 61), (4, 55), (3, 49), (2, 26), (1, 8), (0, 2)] := ⟨qu_lu k10.1, fun a k q1 q2 => qu_off (Or.inl q2), fun k => by rw [qu_off (Or.inl (by decide)), if_neg (by omega)]; exact g10.2.2 _ _ (by decide), fun a q1 q2 => absurd q1 (by omega)⟩
  refine k_X168 ((k10.2.2 8 (by decide) (by decide) 4).trans (by decide +kernel)) ((k10.2.2 8 (by decide) (by decide) 6).trans (by decide +kernel)) rfl rfl 3 0 5000 _ _ (by decide) (by decide) g20 ks (fun I' R' a1 a2 a3 a4 => hq I' J R' ⟨a1, fun a q1 q2 k => ?_, ?_, w1, ?_, ?_, ?_, ?_, ?_, ?_, ?_, a4⟩ (fun k => ?_))
  · by_cases e : a = 1
    · rw [e, a2.1]; exact zRL_ok (by decide +kernel) k
    · by_cases e2 : a = 342
      · rw [e2, a2.2.2.1]; exact (zR_st (by decide) (by decide +kernel) k).symm
      · rcases Nat.lt_or_ge a 342 with z | z
        · rw [a2.2.1 a k z e]; exact k10.2.2 a (by omega) (by omega) k
        · exact a2.2.2.2 a (by omega) (by omega) k
  · rw [a3 2 1 (by decide) (by decide), p10.1 _ _ (by decide), p9.1 _ _ (by decide), p5.1 _ _ (by decide), p4.1 _ _ (by decide), p3.1 _ _ (by decide), p2.1 _ _ (by decide)]; exact v1
  · intro l hl
    rw [a3 8 l (by decide) (Or.inl (by decide)), p10.1 _ _ (by decide), p9.1 _ _ (by decide), p5.1 _ _ (by decide), p4.1 _ _ (by decide), p3.1 _ _ (by decide)]; exact v2 l hl
  · exact fun k hk => (l2 k hk).kept (fun b j q1 q2 => by rw [a3 b j (by omega) (Or.inl (by omega)), p10.1 _ _ (by omega), p9.1 _ _ (by omega), p5.1 _ _ (by omega), p4.1 _ _ (by omega), p3.1 _ _ (by omega)])
  · rw [a3 26 13 (by decide) (by decide), p10.1 _ _ (by decide), p9.1 _ _ (by decide), p5.1 _ _ (by decide), p4.1 _ _ (by decide)]; exact v3
  · rw [a3 49 1 (by decide) (by decide), p10.1 _ _ (by decide), p9.1 _ _ (by decide), p5.1 _ _ (by decide)]; exact v4
  · rw [a3 83 7 (by decide) (by decide), p10.1 _ _ (by decide)]; exact v9
  · rw [a3 100 1 (by decide) (by decide)]; exact v10
  · rw [a3 100 2 (by decide) (by decide)]; exact w10
  · rw [a2.2.1 0 k (by decide) (by decide)]; exact k10.2.1 0 k (by decide)
end
