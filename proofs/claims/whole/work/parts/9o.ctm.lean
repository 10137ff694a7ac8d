/-! the start: the constructor of the reference -/
section
variable {I : zI} {J : zJ} {R R0 : zRf} {L : List (Nat × Nat)}
theorem k_M94 (h3 : z3 371 I J R) (hk : zKp 371 361 R0 R L) {Q : qH → Prop} (hq : ∀ R' : zRf, z3 383 I J R' → zKp 383 361 R0 R' ((36, 383) :: (34, 382) :: (33, 381) :: (32, 380) :: (31, 379) :: (30, 378) :: (29, 377) :: (28, 376) :: (27, 375) :: (26, 374) :: (25, 373) :: (24, 372) :: L) → w_M_init_187 5000 361 22 6009 (zHn 383 I J R') Q) : w_M_init_94 5000 361 10 5661 (zHn 371 I J R) Q := by
  unfold w_M_init_94
  refine k_alloc (by decide) (by decide) h3 rfl (by decide) rfl (fun g1 => k_alloc (by decide) (by decide) g1 rfl (by decide) rfl (fun g2 => k_alloc (by decide) (by decide) g2 rfl (by decide) rfl (fun g3 => k_alloc (by decide) (by decide) g3 rfl (by decide) rfl (fun g4 => k_alloc (by decide) (by decide) g4 rfl (by decide) rfl (fun g5 => k_alloc (by decide) (by decide) g5 rfl (by decide) rfl (fun g6 => k_alloc (by decide) (by decide) g6 rfl (by decide) rfl (fun g7 => k_alloc (by decide) (by decide) g7 rfl (by decide) rfl (fun g8 => k_alloc (by decide) (by decide) g8 rfl (by decide) rfl (fun g9 => k_alloc (by decide) (by decide) g9 rfl (by decide) rfl (fun g10 => k_alloc (by decide) (by decide) g10 rfl (by decide) rfl (fun g11 => k_alloc (by decide) (by decide) g11 rfl (by decide) rfl (fun g12 => ?_))))))))))))
  exact hq _ g12 ((((((((((((hk.al (f := 24) (v := 372) h3 (zR0_ok (by decide +kernel))).al (f := 25) (v := 373) g1 (zR0_ok (by decide +kernel))).al (f := 26) (v := 374) g2 (zR0_ok (by decide +kernel))).al (f := 27) (v := 375) g3 (zR0_ok (by decide +kernel))).al (f := 28) (v := 376) g4 (zR0_ok (by decide +kernel))).al (f := 29) (v := 377) g5 (zR0_ok (by decide +kernel))).al (f := 30) (v := 378) g6 (zR0_ok (by decide +kernel))).al (f := 31) (v := 379) g7 (zR0_ok (by decide +kernel))).al (f := 32) (v := 380) g8 (zR0_ok (by decide +kernel))).al (f := 33) (v := 381) g9 (zR0_ok (by decide +kernel))).al (f := 34) (v := 382) g10 (zR0_ok (by decide +kernel))).al (f := 36) (v := 383) g11 (zR0_ok (by decide +kernel)))
theorem k_M187 (h3 : z3 383 I J R) (hk : zKp 383 361 R0 R L) {Q : qH → Prop} (hq : ∀ R' : zRf, z3 395 I J R' → zKp 395 361 R0 R' ((53, 395) :: (50, 394) :: (49, 393) :: (47, 392) :: (46, 391) :: (44, 390) :: (43, 389) :: (42, 388) :: (40, 387) :: (39, 386) :: (38, 385) :: (37, 384) :: L) → w_M_init_290 5000 361 34 9272 (zHn 395 I J R') Q) : w_M_init_187 5000 361 22 6009 (zHn 383 I J R) Q := by
  unfold w_M_init_187
  refine k_alloc (by decide) (by decide) h3 rfl (by decide) rfl (fun g1 => k_alloc (by decide) (by decide) g1 rfl (by decide) rfl (fun g2 => k_alloc (by decide) (by decide) g2 rfl (by decide) rfl (fun g3 => k_alloc (by decide) (by decide) g3 rfl (by decide) rfl (fun g4 => k_alloc (by decide) (by decide) g4 rfl (by decide) rfl (fun g5 => k_alloc (by decide) (by decide) g5 rfl (by decide) rfl (fun g6 => k_alloc (by decide) (by decide) g6 rfl (by decide) rfl (fun g7 => k_alloc (by decide) (by decide) g7 rfl (by decide) rfl (fun g8 => k_alloc (by decide) (by decide) g8 rfl (by decide) rfl (fun g9 => k_alloc (by decide) (by decide) g9 rfl (by decide) rfl (fun g10 => k_alloc (by decide) (by decide) g10 rfl (by decide) rfl (fun g11 => k_alloc (by decide) (by decide) g11 rfl (by decide) rfl (fun g12 => ?_))))))))))))
  exact hq _ g12 ((((((((((((hk.al (f := 37) (v := 384) h3 (zR0_ok (by decide +kernel))).al (f := 38) (v := 385) g1 (zR0_ok (by decide +kernel))).al (f := 39) (v := 386) g2 (zR0_ok (by decide +kernel))).al (f := 40) (v := 387) g3 (zR0_ok (by decide +kernel))).al (f := 42) (v := 388) g4 (zR0_ok (by decide +kernel))).al (f := 43) (v := 389) g5 (zR0_ok (by decide +kernel))).al (f := 44) (v := 390) g6 (zR0_ok (by decide +kernel))).al (f := 46) (v := 391) g7 (zR0_ok (by decide +kernel))).al (f := 47) (v := 392) g8 (zR0_ok (by decide +kernel))).al (f := 49) (v := 393) g9 (zR0_ok (by decide +kernel))).al (f := 50) (v := 394) g10 (zR0_ok (by decide +kernel))).al (f := 53) (v := 395) g11 (zR0_ok (by decide +kernel)))
theorem k_M290 (h3 : z3 395 I J R) (hk : zKp 395 361 R0 R L) {Q : qH → Prop} (hq : ∀ R' : zRf, z3 407 I J R' → zKp 407 361 R0 R' ((68, 407) :: (67, 406) :: (66, 405) :: (65, 404) :: (64, 403) :: (62, 402) :: (60, 401) :: (59, 400) :: (58, 399) :: (56, 398) :: (55, 397) :: (54, 396) :: L) → w_M_init_390 5000 361 46 12044 (zHn 407 I J R') Q) : w_M_init_290 5000 361 34 9272 (zHn 395 I J R) Q := by
  unfold w_M_init_290
  refine k_alloc (by decide) (by decide) h3 rfl (by decide) rfl (fun g1 => k_alloc (by decide) (by decide) g1 rfl (by decide) rfl (fun g2 => k_alloc (by decide) (by decide) g2 rfl (by decide) rfl (fun g3 => k_alloc (by decide) (by decide) g3 rfl (by decide) rfl (fun g4 => k_alloc (by decide) (by decide) g4 rfl (by decide) rfl (fun g5 => k_alloc (by decide) (by decide) g5 rfl (by decide) rfl (fun g6 => k_alloc (by decide) (by decide) g6 rfl (by decide) rfl (fun g7 => k_alloc (by decide) (by decide) g7 rfl (by decide) rfl (fun g8 => k_alloc (by decide) (by decide) g8 rfl (by decide) rfl (fun g9 => k_alloc (by decide) (by decide) g9 rfl (by decide) rfl (fun g10 => k_alloc (by decide) (by decide) g10 rfl (by decide) rfl (fun g11 => k_alloc (by decide) (by decide) g11 rfl (by decide) rfl (fun g12 => ?_))))))))))))
  exact hq _ g12 ((((((((((((hk.al (f := 54) (v := 396) h3 (zR0_ok (by decide +kernel))).al (f := 55) (v := 397) g1 (zR0_ok (by decide +kernel))).al (f := 56) (v := 398) g2 (zR0_ok (by decide +kernel))).al (f := 58) (v := 399) g3 (zR0_ok (by decide +kernel))).al (f := 59) (v := 400) g4 (zR0_ok (by decide +kernel))).al (f := 60) (v := 401) g5 (zR0_ok (by decide +kernel))).al (f := 62) (v := 402) g6 (zR0_ok (by decide +kernel))).al (f := 64) (v := 403) g7 (zR0_ok (by decide +kernel))).al (f := 65) (v := 404) g8 (zR0_ok (by decide +kernel))).al (f := 66) (v := 405) g9 (zR0_ok (by decide +kernel))).al (f := 67) (v := 406) g10 (zR0_ok (by decide +kernel))).al (f := 68) (v := 407) g11 (zR0_ok (by decide +kernel)))
/-! words -/
def zapw (r : Int64) (x : Int32) : Int64 := if x = 0 then r else 27 * r + ((x - 97) + 1).toInt64
theorem k_app {r : Int64} {x : Int32} {h : qH} {Q : Int64 → qH → Prop} (hq : Q (zapw r x) h) : w_M_appends 5000 r x h Q := by
  refine ⟨fun e => ?_, fun e => ?_⟩
  · unfold zapw at hq; rw [if_neg e] at hq; exact hq
  · unfold zapw at hq; rw [if_pos e] at hq; exact hq
def zkJ (J0 J : zJ) (n : Nat) : Prop := (∀ b l, b ≠ 368 → J b l = J0 b l) ∧ ∀ k, k < n → J 368 k = lN (zKeys.getD k 0)
theorem k_kw {J0 : zJ} {n : Nat} {K a b c d e f g : Int32} (hJ : zkJ J0 J n) (eK : K = nI n) (hin : n < 21) (ew : zapw (zapw (zapw (zapw (zapw (zapw (zapw 0 a) b) c) d) e) f) g = lN (zKeys.getD n 0)) {C1 C2 : Prop} (c1 : C1) (c2 : C2) {P : qH → Prop} (hq : ∀ J' : zJ, zkJ J0 J' (n + 1) → P (zH I J')) : qS (zH I J) 361 = .inl 12 ∧ (C1 ∧ C2 ∧ w_M_word 5000 a b c d e f g (zH I J) (fun r2 h3 => (qok h3 (qR (zH I J) 361 9) 3 K ∧ ∀ h7 : qH, h7 = qsJ h3 (qR (zH I J) 361 9) K.toNatClampNeg r2 → P h7))) := by
  refine ⟨rfl, c1, c2, k_app (k_app (k_app (k_app (k_app (k_app (k_app ⟨⟨21, rfl, by rw [eK]; exact vp_in_nI hin (by decide)⟩, fun h7 e7 => ?_⟩))))))⟩
  have e7 : h7 = zH I (qu J 368 n (lN (zKeys.getD n 0))) := by rw [e7, ew, eK, nI_clamp (by omega)]; rfl
  subst e7
  refine hq _ ⟨fun b l q => by rw [qu_off (Or.inl q)]; exact hJ.1 b l q, fun k hk => ?_⟩
  by_cases ek : k = n
  · rw [ek, qu_same]
  · rw [qu_off (Or.inr ek)]; exact hJ.2 k (by omega)
theorem k_M480 {J0 : zJ} (hJ : zkJ J0 J 3) {Q : qH → Prop} (hq : ∀ J' : zJ, zkJ J0 J' 7 → w_M_init_566 5000 361 48 12143 (zH I J') Q) : w_M_init_480 5000 361 48 12143 (zH I J) Q := by
  unfold w_M_init_480
  exact k_kw hJ (by decide) (by decide) (by decide +kernel) (by decide) (by decide) (fun J0 j0 => k_kw j0 (by decide) (by decide) (by decide +kernel) (by decide) (by decide) (fun J1 j1 => k_kw j1 (by decide) (by decide) (by decide +kernel) (by decide) (by decide) (fun J2 j2 => k_kw j2 (by decide) (by decide) (by decide +kernel) (by decide) (by decide) (fun J3 j3 => hq _ j3))))
theorem k_M566 {J0 : zJ} (hJ : zkJ J0 J 7) {Q : qH → Prop} (hq : ∀ J' : zJ, zkJ J0 J' 11 → w_M_init_648 5000 361 48 12143 (zH I J') Q) : w_M_init_566 5000 361 48 12143 (zH I J) Q := by
  unfold w_M_init_566
  exact k_kw hJ (by decide) (by decide) (by decide +kernel) (by decide) (by decide) (fun J0 j0 => k_kw j0 (by decide) (by decide) (by decide +kernel) (by decide) (by decide) (fun J1 j1 => k_kw j1 (by decide) (by decide) (by decide +kernel) (by decide) (by decide) (fun J2 j2 => k_kw j2 (by decide) (by decide) (by decide +kernel) (by decide) (by decide) (fun J3 j3 => hq _ j3))))
theorem k_M648 {J0 : zJ} (hJ : zkJ J0 J 11) {Q : qH → Prop} (hq : ∀ J' : zJ, zkJ J0 J' 15 → w_M_init_733 5000 361 48 12143 (zH I J') Q) : w_M_init_648 5000 361 48 12143 (zH I J) Q := by
  unfold w_M_init_648
  exact k_kw hJ (by decide) (by decide) (by decide +kernel) (by decide) (by decide) (fun J0 j0 => k_kw j0 (by decide) (by decide) (by decide +kernel) (by decide) (by decide) (fun J1 j1 => k_kw j1 (by decide) (by decide) (by decide +kernel) (by decide) (by decide) (fun J2 j2 => k_kw j2 (by decide) (by decide) (by decide +kernel) (by decide) (by decide) (fun J3 j3 => hq _ j3))))
theorem k_M733 {J0 : zJ} (hJ : zkJ J0 J 15) {Q : qH → Prop} (hq : ∀ J' : zJ, zkJ J0 J' 19 → w_M_init_823 5000 361 48 12143 (zH I J') Q) : w_M_init_733 5000 361 48 12143 (zH I J) Q := by
  unfold w_M_init_733
  exact k_kw hJ (by decide) (by decide) (by decide +kernel) (by decide) (by decide) (fun J0 j0 => k_kw j0 (by decide) (by decide) (by decide +kernel) (by decide) (by decide) (fun J1 j1 => k_kw j1 (by decide) (by decide) (by decide +kernel) (by decide) (by decide) (fun J2 j2 => k_kw j2 (by decide) (by decide) (by decide +kernel) (by decide) (by decide) (fun J3 j3 => hq _ j3))))
theorem k_M823 {J0 : zJ} (hJ : zkJ J0 J 19) (e18 : I 361 18 = 0) (e374 : I 374 0 = 0) {Q : qH → Prop} (hq : ∀ (I' : zI) (J' : zJ), zkJ J0 J' 21 → (∀ b l, b ≠ 393 → b ≠ 394 → ¬ (b = 361 ∧ (l = 51 ∨ l = 52)) → I' b l = I b l) → (∀ p, 18 ≤ p → p < 32 → I' 393 p = 0) → Q (zH I' J')) : w_M_init_823 5000 361 48 12143 (zH I J) Q := by
  unfold w_M_init_823
  refine k_kw hJ (by decide) (by decide) (by decide +kernel) (by decide) (by decide) (fun J1 j1 => k_kw j1 (by decide) (by decide) (by decide +kernel) (by decide) (by decide) (fun J2 j2 => ⟨rfl, by decide, by decide, u_M_begins 5000 I J2 (fun I' J' => J' = J2 ∧ (∀ b l, b ≠ 394 → ¬ (b = 361 ∧ (l = 51 ∨ l = 52)) → I' b l = I b l) ∧ ∀ p, 18 ≤ p → p < 32 → I' 394 p = 0) _ (fun I' J' hp => ?_) ?_⟩))
  · obtain ⟨rfl, o1, o2⟩ := hp
    refine ⟨rfl, by decide, by decide, u_M_keepsRow 5000 I' J' (fun I'' J'' => J'' = J' ∧ (∀ b l, b ≠ 393 → I'' b l = I' b l) ∧ ∀ p, p < 32 → I'' 393 p = I' 394 p) _ (fun I'' J'' hp => ?_) (m_keepsRow 32 0 5000 I' (by decide) (by decide) (fun p hp => absurd hp (Nat.not_lt_zero _)) (fun I'' a1 a2 => ⟨rfl, a1, a2⟩))⟩
    obtain ⟨rfl, a1, a2⟩ := hp
    exact ⟨by decide, by decide, hq I'' J'' j2 (fun b l q1 q2 q3 => by rw [a1 b l q1, o1 b l q2 q3]) (fun p q1 q2 => by rw [a2 p q2, o2 p q1 q2])⟩
  · refine m_begins2 32 0 5000 I (by decide) (by decide) (fun p hp => absurd hp (Nat.not_lt_zero _)) (fun I1 a1 z1 => m_begins23 6 0 5000 I1 (by decide) (by decide) (fun p hp => absurd hp (Nat.not_lt_zero _)) (fun I2 a2 z2 => m_begins58 (s := 0) (m := 0) (by decide) (by decide) 0 0 5000 I2 ?_ ?_ (by decide) (by decide) (fun p hp => absurd hp (Nat.not_lt_zero _)) (fun I3 a3 z3 z4 => ⟨?_, fun I5 e5 I6 e6 => ?_⟩)))
    · rw [a2 _ _ (by omega), a1 _ _ (by decide)]; exact e18
    · rw [a2 _ _ (by omega), a1 _ _ (by decide)]; exact e374
    · have : I3 361 18 = 0 := by rw [a3 _ _ (by omega), a2 _ _ (by omega), a1 _ _ (by decide)]; exact e18
      rw [this]; exact vp_in_nI (n := 0) (by decide) (by decide)
    · subst e5 e6
      refine ⟨rfl, fun b l q1 q2 => ?_, fun p q1 q2 => ?_⟩
      · rw [qu_off (by omega), qu_off (by omega), a3 _ _ (by omega), a2 _ _ (by omega), a1 _ _ q1]
      · rw [qu_off (Or.inl (by decide)), qu_off (Or.inl (by decide)), a3 _ _ (by omega), a2 _ _ (by omega)]; exact z1 p q2
/-! the heap is the laid one -/
theorem zR_out {a : Nat} (ha : 409 < a) (k : Nat) : zR a k = 0 := by
  have hb : ∀ c, c < 411 → Nat.blt a c = false := fun c hc => by
    have : ¬ a < c := by omega
    rw [← Bool.not_eq_true]
    intro z
    exact this (Nat.le_of_ble_eq_true z)
  simp [zR, hb]
theorem zS_out {a : Nat} (ha : 409 < a) : zS a = .inl 99 := by
  have hb : ∀ c, c < 411 → Nat.blt a c = false := fun c hc => by
    have : ¬ a < c := by omega
    rw [← Bool.not_eq_true]
    intro z
    exact this (Nat.le_of_ble_eq_true z)
  simp [zS, hb]
theorem zHn_zH (h3 : z3 409 I J R) (h : ∀ a, a ≤ 409 → ∀ k, R a k = zR a k) : zHn 409 I J R = zH I J := by
  have e1 : (fun a => if a ≤ 409 then zS a else .inl 99) = zS := funext fun a => by
    by_cases l : a ≤ 409
    · rw [if_pos l]
    · rw [if_neg l, zS_out (by omega)]
  have e2 : R = zR := funext fun a => funext fun k => by
    rcases Nat.lt_or_ge 409 a with z | z
    · rw [zR_out z, h3.2.2 a k z]
    · exact h a z k
  unfold zHn zH
  rw [e1, e2]
theorem k_M390 (h3 : z3 407 I J R) (hk : zKp 407 361 R0 R L) (hL : ∀ k, zlu ((70, 409) :: (69, 408) :: L) k = zR 361 k) (h0 : ∀ a, a < 361 → ∀ k, R0 a k = zR a k) (e18 : I 361 18 = 0) {Q : qH → Prop} (hq : ∀ (I' : zI) (J' : zJ), zkJ J J' 21 → (∀ b l, ¬ (371 ≤ b ∧ b ≤ 382) → b ≠ 393 → b ≠ 394 → ¬ (b = 361 ∧ (l = 51 ∨ l = 52)) → I' b l = I b l) → (∀ b, b = 371 ∨ b = 374 ∨ b = 378 ∨ b = 379 ∨ b = 380 → I' b 0 = 0) → (∀ p, p < 4 → I' 381 p = 0 ∧ I' 382 p = 0) → (∀ p, 18 ≤ p → p < 32 → I' 393 p = 0) → Q (zH I' J')) : w_M_init_390 5000 361 46 12044 (zHn 407 I J R) Q := by
  unfold w_M_init_390
  refine k_alloc (by decide) (by decide) h3 rfl (by decide) rfl (fun g1 => k_alloc (by decide) (by decide) g1 rfl (by decide) rfl (fun g2 => ?_))
  have k2 : zKp 409 361 R0 _ _ := (hk.al (f := 69) (v := 408) h3 (zR0_ok (by decide +kernel))).al (f := 70) (v := 409) g1 (zR0_ok (by decide +kernel))
  have eH := zHn_zH g2 (fun a ha k => by
    rcases Nat.lt_or_ge a 361 with z | z
    · rw [k2.2.1 a k z]; exact h0 a z k
    · exact k2.fin hL a z ha k)
  rw [show zHn (407 + 1 + 1) I J _ = zH I J from eH]
  refine ⟨rfl, by decide, by decide, u_M_plain 5000 0 I J (fun I1 J1 => J1 = J ∧ (∀ b l, ¬ (371 ≤ b ∧ b ≤ 382) → I1 b l = I b l) ∧ (∀ b, b = 371 ∨ b = 374 ∨ b = 378 ∨ b = 379 ∨ b = 380 → I1 b 0 = 0) ∧ (∀ p, p < 4 → I1 381 p = 0 ∧ I1 382 p = 0)) _ (fun I1 J1 hp => ?_) (m_plain (s := 0) (by decide) (fun I1 a1 a2 a3 a4 => ⟨rfl, fun b l q => a1 b l (by omega) (by omega) (by omega), a2, fun p hp => by have := a4 p hp; rwa [show 4 * 0 + p = p by omega] at this⟩))⟩
  obtain ⟨rfl, o1, z1, y1⟩ := hp
  refine ⟨rfl, by decide, by decide, u_M_plain 5000 1 I1 J1 (fun I2 J2 => J2 = J1 ∧ (∀ b l, ¬ (371 ≤ b ∧ b ≤ 382) → I2 b l = I b l) ∧ (∀ b, b = 371 ∨ b = 374 ∨ b = 378 ∨ b = 379 ∨ b = 380 → I2 b 0 = 0) ∧ (∀ p, p < 4 → I2 381 p = 0 ∧ I2 382 p = 0)) _ (fun I2 J2 hp => ?_) (m_plain (s := 1) (by decide) (fun I2 a1 a2 a3 a4 => ⟨rfl, fun b l q => by rw [a1 b l (by omega) (by omega) (by omega)]; exact o1 b l q, fun b hb => by rw [a1 b 0 (by omega) (by omega) (by omega)]; exact z1 b hb, fun p hp => by rw [a1 381 p (by omega) (by omega) (by omega), a1 382 p (by omega) (by omega) (by omega)]; exact y1 p hp⟩))⟩
  obtain ⟨rfl, o2, z2, y2⟩ := hp
  refine k_kw (J0 := J2) (n := 0) ⟨fun _ _ _ => rfl, fun k hk => absurd hk (Nat.not_lt_zero _)⟩ (by decide) (by decide) (by decide +kernel) (by decide) (by decide) (fun J3 j3 => k_kw j3 (by decide) (by decide) (by decide +kernel) (by decide) (by decide) (fun J4 j4 => k_kw j4 (by decide) (by decide) (by decide +kernel) (by decide) (by decide) (fun J5 j5 => k_M480 j5 (fun J6 j6 => k_M566 j6 (fun J7 j7 => k_M648 j7 (fun J8 j8 => k_M733 j8 (fun J9 j9 => k_M823 j9 ?_ (z2 374 (by decide)) (fun I' J' j' o' y' => hq I' J' j' (fun b l q1 q2 q3 q4 => by rw [o' b l q2 q3 q4]; exact o2 b l q1) (fun b hb => by rw [o' b 0 (by omega) (by omega) (by omega)]; exact z2 b hb) (fun p hp => by rw [o' 381 p (by decide) (by decide) (by omega), o' 382 p (by decide) (by decide) (by omega)]; exact y2 p hp) y'))))))))
  rw [o2 _ _ (by omega)]; exact e18
theorem zlw_plain {k : Nat} : zlwOK (zplain k) := by
  refine ⟨fun q hq => absurd hq (List.not_mem_nil), ?_⟩
  unfold zplain
  by_cases e : k = 0 ∨ k = 3
  · show zpfOK [if k = 0 ∨ k = 3 then (1, 0) else (0, 0)] 0 15
    rw [if_pos e]
    exact ⟨by decide, fun _ => ⟨0, by decide, rfl⟩, rfl⟩
  · show zpfOK [if k = 0 ∨ k = 3 then (1, 0) else (0, 0)] 0 15
    rw [if_neg e]
    exact ⟨by decide, fun z => absurd z (by decide), rfl⟩
theorem k_M (hx : zX1 I J R) (r0 : ∀ k, R 0 k = 0) (h3 : z3 361 I J R) (hk : zKp 361 361 R R []) {Q : qH → Prop} (hq : ∀ (I' : zI) (J' : zJ), Rel I' J' → Q (zH I' J')) : w_M_init 5000 361 (zHn 361 I J R) Q := by
  refine ⟨by decide, k_alloc (by decide) (by decide) h3 rfl (by decide) rfl (fun g1 => k_alloc (by decide) (by decide) g1 rfl (by decide) rfl (fun g2 => k_alloc (by decide) (by decide) g2 rfl (by decide) rfl (fun g3 => k_alloc (by decide) (by decide) g3 rfl (by decide) rfl (fun g4 => k_alloc (by decide) (by decide) g4 rfl (by decide) rfl (fun g5 => k_alloc (by decide) (by decide) g5 rfl (by decide) rfl (fun g6 => k_alloc (by decide) (by decide) g6 rfl (by decide) rfl (fun g7 => k_setI (by decide) rfl (k_alloc (by decide) (by decide) (g7.i (by decide)) rfl (by decide) rfl (fun g8 => k_alloc (by decide) (by decide) g8 rfl (by decide) rfl (fun g9 => k_alloc (by decide) (by decide) g9 rfl (by decide) rfl (fun g10 => ?_)))))))))))⟩
  have k10 := ((((((((((hk.al (f := 1) (v := 362) h3 (zR0_ok (by decide +kernel))).al (f := 3) (v := 363) g1 (zR0_ok (by decide +kernel))).al (f := 5) (v := 364) g2 (zR0_ok (by decide +kernel))).al (f := 6) (v := 365) g3 (zR0_ok (by decide +kernel))).al (f := 7) (v := 366) g4 (zR0_ok (by decide +kernel))).al (f := 8) (v := 367) g5 (zR0_ok (by decide +kernel))).al (f := 9) (v := 368) g6 (zR0_ok (by decide +kernel))).al (f := 21) (v := 369) (g7.i (a := 361) (k := 17) (v := -1) (by decide)) (zR0_ok (by decide +kernel))).al (f := 22) (v := 370) g8 (zR0_ok (by decide +kernel))).al (f := 23) (v := 371) g9 (zR0_ok (by decide +kernel)))
  obtain ⟨x3, xr, x1, x2, x4, x5, x6, x7, x8, x9, x10, x11⟩ := hx
  have z0 : ∀ a l, 360 < a → I a l = 0 := x3.1
  refine k_M94 g10 k10 (fun R11 g11 k11 => k_M187 g11 k11 (fun R12 g12 k12 => k_M290 g12 k12 (fun R13 g13 k13 => k_M390 g13 k13 (zRL_ok (by decide +kernel)) (fun a ha k => ?_) ?_ (fun I' J' j' o' z' y' w' => hq I' J' ?_))))
  · rcases Nat.eq_zero_or_pos a with e | e
    · rw [e, r0, zR0_ok (by decide +kernel)]
    · exact xr a e (by omega) k
  · rw [qu_off (Or.inr (by decide))]; exact z0 _ _ (by decide)
  have lo : ∀ b l, b < 361 → I' b l = I b l := fun b l q => by rw [o' b l (by omega) (by omega) (by omega) (by omega), qu_off (Or.inl (by omega))]
  have m0 : ∀ l, l ≠ 17 → l ≠ 51 → l ≠ 52 → I' 361 l = 0 := fun l q1 q2 q3 => by rw [o' 361 l (by omega) (by omega) (by omega) (by omega), qu_off (Or.inr q1)]; exact z0 _ _ (by decide)
  have v : ∀ {q : Nat → Prop} (h : Nat), h < 0 → q h := fun h z => absurd z (Nat.not_lt_zero _)
  refine ⟨0, 0, 0, 0, 0, 0, 0, 0, ⟨by decide, (lo _ _ (by decide)).trans x1, m0 2 (by decide) (by decide) (by decide), fun i z => absurd z (Nat.not_lt_zero _)⟩, ?_, ⟨by decide, by decide, by decide, m0 18 (by decide) (by decide) (by decide), (lo _ _ (by decide)).trans (x4 0 (by decide)), z' 371 (by decide), (lo _ _ (by decide)).trans (x4 3 (by decide)), z' 374 (by decide), fun i z => absurd z (Nat.not_lt_zero _), fun i z => absurd z (Nat.not_lt_zero _), fun i z => absurd z (Nat.not_lt_zero _), ?_, ?_, fun k hk => ?_⟩, ?_, ⟨by decide, by decide, (lo _ _ (by decide)).trans x10, (lo _ _ (by decide)).trans x9, m0 57 (by decide) (by decide) (by decide), fun i z => absurd z (Nat.not_lt_zero _)⟩, ⟨by decide, (lo _ _ (by decide)).trans x8, m0 63 (by decide) (by decide) (by decide), fun i z => absurd z (Nat.not_lt_zero _)⟩, ⟨by decide, (lo _ _ (by decide)).trans x11, fun i hi => Or.inr ⟨Nat.zero_testBit i, ?_⟩⟩, fun k hk => ⟨?_, j'.2 k hk⟩⟩
  · rw [lo _ _ (by decide), x6, o' 361 17 (by omega) (by omega) (by omega) (by omega), qu_same]
  · rw [lo _ _ (by decide), x4 11 (by decide), z' 379 (by decide)]
  · rw [lo _ _ (by decide), x4 12 (by decide), z' 380 (by decide)]
  · exact ⟨zplain k, zlw_plain, (x5 k hk).kept (fun b j q1 q2 => lo b j (by omega)), Or.inl ⟨by rw [show 4 * 0 + k = k by omega, (y' k hk).1, (y' k hk).2], rfl⟩⟩
  · have e : I' 49 1 = I' 393 (0 + 31) := by rw [lo _ _ (by decide), x7]; exact (w' 31 (by decide) (by decide)).symm
    exact ⟨⟨fun i z => absurd z (Nat.not_lt_zero _), fun i z => absurd z (Nat.not_lt_zero _), fun i _ z => absurd z (Nat.not_lt_zero _), fun i z => absurd z (Nat.not_lt_zero _), fun i _ z => absurd z (Nat.not_lt_zero _), fun i z => absurd z (Nat.not_lt_zero _), fun i z => absurd z (Nat.not_lt_zero _)⟩, e, fun i z => absurd z (Nat.not_lt_zero _), fun i z => absurd z (Nat.not_lt_zero _), fun i z => absurd z (Nat.not_lt_zero _), fun i z => absurd z (Nat.not_lt_zero _), fun i z => absurd z (Nat.not_lt_zero _), fun p _ q => w' _ (by omega) (by omega), fun p _ q => w' _ (by omega) (by omega)⟩
  · rw [o' 408 i (by omega) (by omega) (by omega) (by omega), qu_off (Or.inl (by decide))]; exact z0 _ _ (by decide)
  · rw [j'.1 4 k (by decide)]; exact x2 k hk
end
