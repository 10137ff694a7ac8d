/-! the start: the class' constructors -/
section
variable {x0 : Nat} {I : zI} {J : zJ} {R : zRf}
theorem t_add {n x : Nat} {k v : Int32} (hx : x + 2 ≤ n) (hS : zS x = .inl 0) (s1 : zS (x + 1) = .inr (0, 400)) (s2 : zS (x + 2) = .inr (0, 400)) (r0 : R x 0 = x + 1) (r1 : R x 1 = x + 2) {P : zI → zJ → Prop} {Q : qH → Prop} (hQ : ∀ I' J', P I' J' → Q (zHn n I' J' R)) (hv : v_Law_add 5000 x k v I J P) : w_Law_add 5000 x k v (zHn n I J R) Q := by
  have S0 : ∀ I', qS (zHn n I' J R) x = .inl 0 := fun I' => (hnS (by omega)).trans hS
  refine ⟨S0 I, fun q => hQ _ _ (hv.1 q), fun q => ?_⟩
  obtain ⟨v1, hv⟩ := hv.2 q
  refine ⟨?_, fun h4 e4 => ?_⟩
  · show qok _ (R x 0) 0 _
    rw [r0]; exact hnok (by omega) s1 v1
  · have e4 : h4 = zHn n (qu I (x + 1) (I x 2).toNatClampNeg k) J R := by rw [e4]; show qsI _ (R x 0) _ _ = _; rw [r0]; rfl
    subst e4
    obtain ⟨v2, hv⟩ := hv _ rfl
    refine ⟨S0 _, ?_, fun h7 e7 => ?_⟩
    · show qok _ (R x 1) 0 _
      rw [r1]; exact hnok (by omega) s2 v2
    · have e7 : h7 = zHn n (qu (qu I (x + 1) (I x 2).toNatClampNeg k) (x + 2) ((qu I (x + 1) (I x 2).toNatClampNeg k) x 2).toNatClampNeg v) J R := by rw [e7]; show qsI _ (R x 1) _ _ = _; rw [r1]; rfl
      subst e7
      refine ⟨S0 _, fun h9 e9 => ?_⟩
      subst e9
      exact hQ _ _ (hv _ rfl _ rfl)
theorem t_one {n x : Nat} {k v : Int32} (hx : x + 2 ≤ n) (hS : zS x = .inl 0) (s1 : zS (x + 1) = .inr (0, 400)) (s2 : zS (x + 2) = .inr (0, 400)) (r0 : R x 0 = x + 1) (r1 : R x 1 = x + 2) {Q : qH → Prop} (hq : ∀ I' : zI, (∀ b l, ¬ (x ≤ b ∧ b ≤ x + 2) → I' b l = I b l) → zLs I' x [(k, v), (4, 0)] → Q (zHn n I' J R)) : w_Law_becomeOneStep 5000 x k v (zHn n I J R) Q := by
  have S0 : ∀ I' J', qS (zHn n I' J' R) x = .inl 0 := fun I' J' => (hnS (by omega)).trans hS
  have h := s_oneStep (x := x) (k := k) (v := v) (I := I) (J := J) (Q := fun I' J' => J' = J → Q (zHn n I' J' R)) (fun I' o' g' _ => hq I' o' g')
  refine ⟨S0 _ _, fun h2 e2 => ?_⟩
  subst e2
  have h := h _ rfl
  refine ⟨S0 _ _, t_add hx hS s1 s2 r0 r1 (Q := fun h4 => qS h4 x = .inl 0 ∧ w_Law_add 5000 x 4 0 h4 (fun h6 => Q h6)) (P := fun I2 J2 => v_Law_add 5000 x 4 0 I2 J2 (fun I3 J3 => J3 = J → Q (zHn n I3 J3 R)) ∧ J2 = J) (fun I' J' hp => ?_) ?_⟩
  · obtain ⟨hp, rfl⟩ := hp
    refine ⟨S0 _ _, t_add hx hS s1 s2 r0 r1 (P := fun I3 J3 => (J3 = J' → Q (zHn n I3 J3 R)) ∧ J3 = J') (fun I'' J'' hp2 => hp2.1 hp2.2) ?_⟩
    exact ⟨fun q => ⟨hp.1 q, rfl⟩, fun q => ⟨(hp.2 q).1, fun I3 e3 => ⟨((hp.2 q).2 I3 e3).1, fun I5 e5 I6 e6 => ⟨((hp.2 q).2 I3 e3).2 I5 e5 I6 e6, rfl⟩⟩⟩⟩
  · exact ⟨fun q => ⟨h.1 q, rfl⟩, fun q => ⟨(h.2 q).1, fun I3 e3 => ⟨((h.2 q).2 I3 e3).1, fun I5 e5 I6 e6 => ⟨((h.2 q).2 I3 e3).2 I5 e5 I6 e6, rfl⟩⟩⟩⟩
/-- what Text needs -/
def zTxk (x : Nat) : Prop := zS x = .inl 8 ∧ zS (x + 1) = .inr (0, 7) ∧ zS (x + 2) = .inr (0, 7) ∧ zS (x + 3) = .inr (0, 6) ∧ zS (x + 4) = .inr (0, 6) ∧ zS (x + 5) = .inr (0, 6) ∧ (∀ k, k < 4 → zS (x + 6 + 3 * k) = .inl 0 ∧ zS (x + 6 + 3 * k + 1) = .inr (0, 400) ∧ zS (x + 6 + 3 * k + 2) = .inr (0, 400) ∧ (∀ j, zlu [(1, x + 6 + 3 * k + 2), (0, x + 6 + 3 * k + 1)] j = zR (x + 6 + 3 * k) j) ∧ (∀ j, zR (x + 6 + 3 * k + 1) j = 0) ∧ ∀ j, zR (x + 6 + 3 * k + 2) j = 0) ∧ (∀ j, zlu [(10, x + 15), (9, x + 12), (8, x + 9), (7, x + 6), (6, x + 5), (5, x + 4), (4, x + 3), (2, x + 2), (1, x + 1)] j = zR x j) ∧ (∀ d, 1 ≤ d → d ≤ 5 → ∀ j, zR (x + d) j = 0)
theorem k_clear22 {n x : Nat} (hx : x + 5 ≤ n) (hS : zS x = .inl 8) (s5 : zS (x + 5) = .inr (0, 6)) (r6 : R x 6 = x + 5) {Q : qH → Prop} {K : Nat → qH → Prop} : ∀ r i k (I : zI), i + r = 6 → r < k → (∀ I' : zI, (∀ a l, a ≠ x + 5 → I' a l = I a l) → K x (zHn n I' J R)) → w_Text_clear_22 5000 k x (nI i) (zHn n I J R) Q K
  | _, _, 0, _, _, hk, _ => absurd hk (Nat.not_lt_zero _)
  | 0, i, k + 1, I, hi, hk, hq => z_y (nI_le (a := 6) (by omega) (by omega)) (hq I (fun _ _ _ => rfl))
  | r + 1, i, k + 1, I, hi, hk, hq => by
    rw [w_Text_clear_22]; dsimp only; rw [nI_1]
    refine z_n (nI_ge (b := 6) (by omega) (by decide)) ⟨(hnS (by omega)).trans hS, ?_, fun h4 e4 => ?_⟩
    · show qok _ (R x 6) 0 _
      rw [r6]; exact hnok (by omega) s5 (vp_in_nI (by omega) (by decide))
    · have e4 : h4 = zHn n (qu I (x + 5) (nI i).toNatClampNeg (-2)) J R := by rw [e4]; show qsI _ (R x 6) _ _ = _; rw [r6]; rfl
      subst e4
      exact k_clear22 hx hS s5 r6 r (i + 1) k _ (by omega) (by omega) (fun I' o' => hq I' (fun a l q => by rw [o' a l q, qu_off (Or.inl q)]))
theorem k_clear {x : Nat} (ht : zTxk x) (hr : ∀ a, x ≤ a → a ≤ x + 17 → ∀ k, R a k = zR a k) {Q : qH → Prop} (hq : ∀ I' : zI, (∀ a l, ¬ (x ≤ a ∧ a ≤ x + 17) → I' a l = I a l) → (∀ l, l = 0 ∨ l = 3 ∨ l = 11 ∨ l = 12 → I' x l = 0) → (∀ k, k < 4 → rCLaw I' (x + 6 + 3 * k) (zplain k)) → Q (zHn (x + 17) I' J R)) : w_Text_clear 5000 x (zHn (x + 17) I J R) Q := by
  obtain ⟨hS, s1, s2, s3, s4, s5, hl, hL, hz⟩ := ht
  have rx : ∀ k, R x k = zlu [(10, x + 15), (9, x + 12), (8, x + 9), (7, x + 6), (6, x + 5), (5, x + 4), (4, x + 3), (2, x + 2), (1, x + 1)] k := fun k => by rw [hr x (by omega) (by omega), hL]
  have rl : ∀ j, j < 4 → R (x + 6 + 3 * j) 0 = x + 6 + 3 * j + 1 ∧ R (x + 6 + 3 * j) 1 = x + 6 + 3 * j + 2 := fun j hj => by
    rw [hr _ (by omega) (by omega), hr _ (by omega) (by omega), ← (hl j hj).2.2.2.1, ← (hl j hj).2.2.2.1]
    exact ⟨rfl, rfl⟩
  have S0 : ∀ I', qS (zHn (x + 17) I' J R) x = .inl 8 := fun I' => (hnS (by omega)).trans hS
  refine ⟨S0 _, fun h2 e2 => ?_⟩
  subst e2
  refine ⟨S0 _, fun h4 e4 => ?_⟩
  subst e4
  refine ⟨S0 _, fun h6 e6 => ?_⟩
  subst e6
  refine ⟨S0 _, fun h8 e8 => ?_⟩
  have e8 : h8 = zHn (x + 17) (qu (qu (qu (qu I x 0 0) x 3 0) x 11 0) x 12 0) J R := e8
  subst e8
  generalize eI : qu (qu (qu (qu I x 0 0) x 3 0) x 11 0) x 12 0 = I8
  have o8 : ∀ a l, a ≠ x → I8 a l = I a l := fun a l q => by rw [← eI, qu_off (Or.inl q), qu_off (Or.inl q), qu_off (Or.inl q), qu_off (Or.inl q)]
  have v8 : ∀ l, l = 0 ∨ l = 3 ∨ l = 11 ∨ l = 12 → I8 x l = 0 := fun l hl => by
    rw [← eI]
    rcases hl with rfl | rfl | rfl | rfl
    · rw [qu_off (Or.inr (by decide)), qu_off (Or.inr (by decide)), qu_off (Or.inr (by decide)), qu_same]
    · rw [qu_off (Or.inr (by decide)), qu_off (Or.inr (by decide)), qu_same]
    · rw [qu_off (Or.inr (by decide)), qu_same]
    · rw [qu_same]
  have law : ∀ (j : Nat) (hj : j < 4) (f : Nat) (k v : Int32) (I' : zI) (Q' : qH → Prop), R x f = x + 6 + 3 * j → (∀ I2 : zI, (∀ b l, ¬ (x + 6 + 3 * j ≤ b ∧ b ≤ x + 6 + 3 * j + 2) → I2 b l = I' b l) → zLs I2 (x + 6 + 3 * j) [(k, v), (4, 0)] → Q' (zHn (x + 17) I2 J R)) → (qS (zHn (x + 17) I' J R) x = .inl 8 ∧ (qS (zHn (x + 17) I' J R) (qR (zHn (x + 17) I' J R) x f) = .inl 0 ∧ w_Law_becomeOneStep 5000 (qR (zHn (x + 17) I' J R) x f) k v (zHn (x + 17) I' J R) Q')) := fun j hj f k v I' Q' hf h => by
    have e : qR (zHn (x + 17) I' J R) x f = x + 6 + 3 * j := hf
    rw [e]
    exact ⟨S0 _, (hnS (by omega)).trans (hl j hj).1, t_one (by omega) (hl j hj).1 (hl j hj).2.1 (hl j hj).2.2.1 (rl j hj).1 (rl j hj).2 h⟩
  refine k_clear22 (by omega) hS s5 (rx 6) 6 0 5000 I8 (by decide) (by decide) (fun I9 o9 => law 0 (by decide) 7 2 0 I9 _ (rx 7) (fun A1 p1 g1 => law 1 (by decide) 8 1 0 A1 _ (rx 8) (fun A2 p2 g2 => law 2 (by decide) 9 1 0 A2 _ (rx 9) (fun A3 p3 g3 => law 3 (by decide) 10 2 0 A3 _ (rx 10) (fun A4 p4 g4 => hq A4 (fun a l q => ?_) (fun l hl => ?_) (fun k hk => ?_))))))
  · rw [p4 a l (by omega), p3 a l (by omega), p2 a l (by omega), p1 a l (by omega), o9 a l (by omega), o8 a l (by omega)]
  · rw [p4 _ _ (by omega), p3 _ _ (by omega), p2 _ _ (by omega), p1 _ _ (by omega), o9 _ _ (by omega)]; exact v8 l hl
  · have mk : ∀ (y : Nat) (S : List (Int32 × Int32)) (w : zLw), zcLaw w.1 w.2 0 = S → S.length ≤ 400 → zLs A4 y S → rCLaw A4 y w := fun y S w ew hS hz => ⟨by rw [ew]; exact hS, by rw [ew]; exact hz.1, fun i q hq => hz.2 i q (by rw [ew] at hq; exact hq)⟩
    rcases (show k = 0 ∨ k = 1 ∨ k = 2 ∨ k = 3 by omega) with rfl | rfl | rfl | rfl
    · exact mk _ _ (zplain 0) rfl (by decide) (g1.kept (fun b l q1 q2 => by rw [p4 b l (by omega), p3 b l (by omega), p2 b l (by omega)]))
    · exact mk _ _ (zplain 1) rfl (by decide) (g2.kept (fun b l q1 q2 => by rw [p4 b l (by omega), p3 b l (by omega)]))
    · exact mk _ _ (zplain 2) rfl (by decide) (g3.kept (fun b l q1 q2 => by rw [p4 b l (by omega)]))
    · exact mk _ _ (zplain 3) rfl (by decide) g4
theorem k_Text (hp : 0 < x0) (ht : zTxk x0) (h3 : z3 x0 I J R) (hk : zKp x0 x0 R R []) {Q : qH → Prop} (hq : ∀ (I' : zI) (R' : zRf), z3 (x0 + 17) I' J R' → zPo x0 (x0 + 17) I I' R R' → (∀ l, l = 0 ∨ l = 3 ∨ l = 11 ∨ l = 12 → I' x0 l = 0) → (∀ k, k < 4 → rCLaw I' (x0 + 6 + 3 * k) (zplain k)) → Q (zHn (x0 + 17) I' J R')) : w_Text_init 5000 x0 (zHn x0 I J R) Q := by
  obtain ⟨hS, s1, s2, s3, s4, s5, hl, hL, hz⟩ := id ht
  obtain ⟨a0, a1, a2, a3, a4, a5⟩ := hl 0 (by decide)
  obtain ⟨b0, b1, b2, b3, b4, b5⟩ := hl 1 (by decide)
  obtain ⟨c0, c1, c2, c3, c4, c5⟩ := hl 2 (by decide)
  obtain ⟨d0, d1, d2, d3, d4, d5⟩ := hl 3 (by decide)
  refine ⟨hp, k_alloc (by decide) (by decide) h3 s1 (Nat.le_refl _) hS (fun g1 => k_alloc (by decide) (by decide) g1 s2 (by omega) hS (fun g2 => k_alloc (by decide) (by decide) g2 s3 (by omega) hS (fun g3 => k_alloc (by decide) (by decide) g3 s4 (by omega) hS (fun g4 => k_alloc (by decide) (by decide) g4 s5 (by omega) hS (fun g5 => k_new (by decide) (by decide) g5 a0 (fun g6 => ⟨by omega, by decide, by decide, k_Law a0 a1 a2 (by omega) a3 a4 a5 g6 (zKp.zero g5) (fun I7 R7 g7 p7 => k_setR (by omega) hS ?_)⟩))))))⟩
  have k5 := ((((hk.al (f := 1) (v := x0 + 1) h3 (hz 1 (by decide) (by decide))).al (f := 2) (v := x0 + 2) g1 (hz 2 (by decide) (by decide))).al (f := 4) (v := x0 + 3) g2 (hz 3 (by decide) (by decide))).al (f := 5) (v := x0 + 4) g3 (hz 4 (by decide) (by decide))).al (f := 6) (v := x0 + 5) g4 (hz 5 (by decide) (by decide))
  have k7 := (k5.sub (m := x0 + 8) (by omega) p7.2.1 p7.2.2).st (f := 7) (v := x0 + 6)
  have g7 := g7.r (a := x0) (k := 7) (v := x0 + 6) (by omega)
  generalize qu R7 x0 7 (x0 + 6) = R8 at *
  refine k_new (by decide) (by decide) g7 b0 (fun g8 => ⟨by omega, by decide, by decide, k_Law b0 b1 b2 (by omega) b3 b4 b5 g8 (zKp.zero g7) (fun I9 R9 g9 p9 => k_setR (by omega) hS ?_)⟩)
  have k9 := (k7.sub (m := x0 + 11) (by omega) p9.2.1 p9.2.2).st (f := 8) (v := x0 + 9)
  have g9 := g9.r (a := x0) (k := 8) (v := x0 + 9) (by omega)
  generalize qu R9 x0 8 (x0 + 9) = R10 at *
  refine k_new (by decide) (by decide) g9 c0 (fun g10 => ⟨by omega, by decide, by decide, k_Law c0 c1 c2 (by omega) c3 c4 c5 g10 (zKp.zero g9) (fun I11 R11 g11 p11 => k_setR (by omega) hS ?_)⟩)
  have k11 := (k9.sub (m := x0 + 14) (by omega) p11.2.1 p11.2.2).st (f := 9) (v := x0 + 12)
  have g11 := g11.r (a := x0) (k := 9) (v := x0 + 12) (by omega)
  generalize qu R11 x0 9 (x0 + 12) = R12 at *
  refine k_new (by decide) (by decide) g11 d0 (fun g12 => ⟨by omega, by decide, by decide, k_Law d0 d1 d2 (by omega) d3 d4 d5 g12 (zKp.zero g11) (fun I13 R13 g13 p13 => k_setR (by omega) hS ?_)⟩)
  have k13 := (k11.sub (m := x0 + 17) (by omega) p13.2.1 p13.2.2).st (f := 10) (v := x0 + 15)
  have g13 := g13.r (a := x0) (k := 10) (v := x0 + 15) (by omega)
  generalize qu R13 x0 10 (x0 + 15) = R14 at *
  have fin := k13.fin hL
  refine ⟨(hnS (by omega)).trans hS, by decide, by decide, k_clear ht fin (fun I' o' v' l' => ⟨by decide, by decide, hq I' R14 ⟨fun a k q => ?_, g13.2⟩ ⟨fun a k q => ?_, k13.2.1, fin⟩ v' l'⟩)⟩
  · rw [o' a k (by omega)]; exact g13.1 a k q
  · rw [o' a k (by omega), p13.1 a k (by omega), p11.1 a k (by omega), p9.1 a k (by omega), p7.1 a k (by omega)]
end
