/-! calls that do something: what they owe -/
theorem zcp_same {I : zI} {a : Nat} {f : Nat → Int32} : zcp I a f a = f := if_pos rfl
theorem zcp_off {I : zI} {a b : Nat} {f : Nat → Int32} (h : b ≠ a) : zcp I a f b = I b := if_neg h
theorem cpy0 {f g : Nat → Int32} {n k : Nat} (h : k < n) : va_cpy f g 0 0 n k = f k := by
  unfold va_cpy
  rw [if_pos (by omega)]
  congr 1
  omega
theorem zcpok6 : zcpok (0 : Int32) (0 : Int32) (6 : Int32) 6 6 := by
  unfold zcpok
  decide
theorem zcpok7 : zcpok (0 : Int32) (0 : Int32) (7 : Int32) 7 7 := by
  unfold zcpok
  decide
theorem s_become {I : zI} {J : zJ} {nH nP a c : Nat} {s : zT} (hP : nP ≤ 6) (hH : nH ≤ 7) (hd : c + 5 < a ∨ a + 5 < c) (hS : cS I nH nP a s) {Q : zI → zJ → Prop} (hq : ∀ I' : zI, cS I' nH nP c s → (∀ b j, (b < c ∨ c + 5 < b) → I' b j = I b j) → Q I' J) : v_State_become 5000 c a I J Q := by
  obtain ⟨s0, s1, s2, s3, s4, s5⟩ := hS
  intro I1 e1
  refine ⟨zcpok6, fun I3 e3 => ⟨zcpok6, fun I6 e6 => ⟨zcpok6, fun I9 e9 => ⟨zcpok6, fun I12 e12 => ⟨zcpok7, fun I15 e15 => ?_⟩⟩⟩⟩⟩
  rw [z_l0, z_l6] at e3 e6 e9 e12
  rw [z_l0, z_l7] at e15
  have o1 : ∀ b j, b ≠ c → I1 b j = I b j := fun b j q => by rw [e1, qu_off (Or.inl q)]
  have o3 : ∀ b, b ≠ c + 1 → I3 b = I1 b := fun b q => by rw [e3, zcp_off q]
  have o6 : ∀ b, b ≠ c + 2 → I6 b = I3 b := fun b q => by rw [e6, zcp_off q]
  have o9 : ∀ b, b ≠ c + 3 → I9 b = I6 b := fun b q => by rw [e9, zcp_off q]
  have o12 : ∀ b, b ≠ c + 4 → I12 b = I9 b := fun b q => by rw [e12, zcp_off q]
  have o15 : ∀ b, b ≠ c + 5 → I15 b = I12 b := fun b q => by rw [e15, zcp_off q]
  refine hq I15 ⟨?_, fun p hp => ?_, fun p hp => ?_, fun p hp => ?_, fun p hp => ?_, fun p hp => ?_⟩ (fun b j q => by rw [o15 b (by omega), o12 b (by omega), o9 b (by omega), o6 b (by omega), o3 b (by omega), o1 b j (by omega)])
  · rw [o15 _ (by omega), o12 _ (by omega), o9 _ (by omega), o6 _ (by omega), o3 _ (by omega), e1, qu_same, s0]
  · rw [o15 _ (by omega), o12 _ (by omega), o9 _ (by omega), o6 _ (by omega), e3, zcp_same, cpy0 (by omega), o1 _ _ (by omega), s1 p hp]
  · rw [o15 _ (by omega), o12 _ (by omega), o9 _ (by omega), e6, zcp_same, cpy0 (by omega), o3 _ (by omega), o1 _ _ (by omega), s2 p hp]
  · rw [o15 _ (by omega), o12 _ (by omega), e9, zcp_same, cpy0 (by omega), o6 _ (by omega), o3 _ (by omega), o1 _ _ (by omega), s3 p hp]
  · rw [o15 _ (by omega), e12, zcp_same, cpy0 (by omega), o9 _ (by omega), o6 _ (by omega), o3 _ (by omega), o1 _ _ (by omega), s4 p hp]
  · rw [e15, zcp_same, cpy0 (by omega), o12 _ (by omega), o9 _ (by omega), o6 _ (by omega), o3 _ (by omega), o1 _ _ (by omega), s5 p hp]
/-- the class has kept a state, and has another now -/
def xDid (I I1 : zI) (t : zX) (s s' : zT) (u x : Nat) : Prop := cS I1 (xH t) (xP t) (102 + 6 * x) s ∧ I1 100 1 = nI ((x + 1) % 40) ∧ I1 100 2 = nI (min 40 (u + 1)) ∧ cS I1 (xH t) (xP t) 49 s' ∧ zW (xH t) (xP t) s' ∧ ∀ b j, zE b j → b ≠ 100 → (b < 102 + 6 * x ∨ 107 + 6 * x < b) → (b < 49 ∨ 54 < b) → I1 b j = I b j
def mDid (I1 I2 : zI) (t : zX) (s' : zT) (u : Nat) : Prop := mR I2 (xH t) (xP t) 393 s' ∧ I2 361 57 = nI (min 40 (u + 1)) ∧ (∀ k, k < 32 → I2 399 (32 * (min 40 (u + 1) - 1) + k) = I1 393 k) ∧ (∀ j, j < 32 * (min 40 (u + 1) - 1) → I2 399 j = I1 399 (if u = 40 then j + 32 else j)) ∧ ∀ b j, zE b j → b ≠ 393 → b ≠ 399 → ¬ (b = 361 ∧ j = 57) → I2 b j = I1 b j
def mQ (I : zI) (t : zX) (live : Nat) (s : zT) : Prop := zX_ok t ∧ mT I t live ∧ zW (xH t) (xP t) s ∧ mR I (xH t) (xP t) 393 s
theorem mQ.copies {I : zI} {J : zJ} {t : zX} {live : Nat} {s : zT} (h : mQ I t live s) {Q : zI → zJ → Prop} (hq : ∀ I' : zI, frS I I' → mX I' t live s → I' 361 51 = xD t → I' 361 52 = 0 → Q I' J) : v_M_copies 5000 I J Q := s_M_copies h.1 h.2.1 h.2.2.1 h.2.2.2 hq
theorem mQ.still {I : zI} {J : zJ} {t : zX} {live : Nat} {s : zT} (h : mQ I t live s) {Q : zI → zJ → Prop} (hq : ∀ I' : zI, frS I I' → mX I' t live s → I' 361 51 = xD t → I' 361 52 = 1 → Q I' J) : v_M_copiesStill 5000 I J Q := s_M_copiesStill h.1 h.2.1 h.2.2.1 h.2.2.2 hq
theorem mQ.P1 {I : zI} {J : zJ} {t : zX} {live p : Nat} {s : zT} (h : mQ I t live s) (hp : p < xP t) {Q : Int32 → zI → zJ → Prop} (hq : Q 1 I J) : v_M_isPerson 5000 (nI p) I J Q := s_M_isPerson h.1 h.2.1 (fun _ _ _ => hq) (fun z => absurd ⟨p, hp, rfl⟩ z)
theorem mQ.H1 {I : zI} {J : zJ} {t : zX} {live p : Nat} {s : zT} (h : mQ I t live s) (hp : p < xH t) {Q : Int32 → zI → zJ → Prop} (hq : Q 1 I J) : v_M_isHanger 5000 (nI p) I J Q := s_M_isHanger h.1 h.2.1 (fun _ _ _ => hq) (fun z => absurd ⟨p, hp, rfl⟩ z)
theorem zQ.m {I : zI} {t : zX} {live : Nat} {s : zT} (h : zQ I t live s) : mQ I t live s := ⟨h.1.1, h.2.1, h.1.2.2.1, h.2.2⟩
theorem mQ.fS {I I' : zI} {t : zX} {live : Nat} {s : zT} (h : mQ I t live s) (e : frS I I') : mQ I' t live s := ⟨h.1, h.2.1.kept (fun b j q1 q2 => e b j (by omega) (by omega)) (e _ _ (by decide) (by decide)), h.2.2.1, h.2.2.2.kept (fun k => e _ _ (by decide) (by omega))⟩
/-- what both did gives Rel again -/
theorem Rel.did {I I1 I2 : zI} {J : zJ} {n live u x td m : Nat} {t : zX} {s s' : zT} (hx : zX_ok t) (hw : zW (xH t) (xP t) s) (h1 : rTape I n) (h2 : I 26 13 = I 361 17) (h3 : cT I t) (h3' : mT I t live) (hr : mR I (xH t) (xP t) 393 s) (h5 : rPast I (xH t) (xP t) u x) (h6 : rTold I (xP t) td) (h7 : rSlot I (xH t) (xP t) m) (h8 : rKeys J) (hX : xDid I I1 t s s' u x) (hM : mDid I1 I2 t s' u) : Rel I2 J := by
  obtain ⟨x1, x2, x3, x4, x5, x6⟩ := hX
  obtain ⟨m1, m2, m3, m4, m5⟩ := hM
  obtain ⟨p1, p2, p3, p4, p5, p6⟩ := h5
  have e : ∀ b j, zE b j → b ≠ 393 → b ≠ 399 → ¬ (b = 361 ∧ j = 57) → b ≠ 100 → (b < 102 + 6 * x ∨ 107 + 6 * x < b) → (b < 49 ∨ 54 < b) → I2 b j = I b j := fun b j q1 q2 q3 q4 q5 q6 q7 => by rw [m5 b j q1 q2 q3 q4, x6 b j q1 q5 q6 q7]
  have ec : ∀ b j, (102 ≤ b ∧ b ≤ 341) → I2 b j = I1 b j := fun b j q => m5 b j (Or.inr (Or.inr (Or.inr (Or.inr (Or.inl (Or.inr (Or.inl q))))))) (by omega) (by omega) (by omega)
  have ec1 : ∀ b j, (102 ≤ b ∧ b ≤ 341) → (b < 102 + 6 * x ∨ 107 + 6 * x < b) → I1 b j = I b j := fun b j q q' => x6 b j (Or.inr (Or.inr (Or.inr (Or.inr (Or.inl (Or.inr (Or.inl q))))))) (by omega) q' (by omega)
  have en : ∀ b j, (49 ≤ b ∧ b ≤ 54) → I2 b j = I1 b j := fun b j q => m5 b j (Or.inr (Or.inr (Or.inr (Or.inl (Or.inl q))))) (by omega) (by omega) (by omega)
  have e100 : ∀ j, I2 100 j = I1 100 j := fun j => m5 100 j (Or.inr (Or.inr (Or.inr (Or.inr (Or.inl (Or.inl rfl)))))) (by decide) (by decide) (by omega)
  have e393 : ∀ j, I1 393 j = I 393 j := fun j => x6 393 j (Or.inr (Or.inr (Or.inr (Or.inl (Or.inr rfl))))) (by decide) (by omega) (by omega)
  have e399 : ∀ j, I1 399 j = I 399 j := fun j => x6 399 j (Or.inr (Or.inr (Or.inr (Or.inr (Or.inl (Or.inr (Or.inr (Or.inl rfl)))))))) (by decide) (by omega) (by omega)
  refine ⟨n, xH t, xP t, live, min 40 (u + 1), (x + 1) % 40, td, m, ?_, ?_, ?_, ?_, ?_, ?_, ?_, h8⟩
  · exact h1.kept (fun a k q => e a k (Or.inl q) (by omega) (by omega) (by omega) (by omega) (by omega) (by omega))
  · rw [e 26 13 (Or.inr (Or.inl (by decide))) (by decide) (by decide) (by decide) (by decide) (by omega) (by decide), e 361 17 (Or.inr (Or.inl (by decide))) (by decide) (by decide) (by decide) (by decide) (by omega) (by decide)]
    exact h2
  · exact (rText.mk hx h3 h3').kept (fun a k q => e a k (Or.inr (Or.inr (Or.inl q))) (by omega) (by omega) (by omega) (by omega) (by omega) (by omega))
  · exact zPair.mk x5 (x4.kept (fun b k q1 q2 => en b k (by omega))) (mS_zero.mpr m1)
  · refine ⟨by omega, by omega, by rw [e100, x3], by rw [e100, x2], m2, fun j hj => ?_⟩
    by_cases hj0 : j = 0
    · subst hj0
      have ex : ((x + 1) % 40 + 39 - 0) % 40 = x := by omega
      rw [ex]
      refine zPair.mk hw (x1.kept (fun b k q1 q2 => ec b k (by omega))) ?_
      obtain ⟨r0, r1, r2, r3, r4, r5, r6, r7⟩ := hr
      have hP := hx.2.1
      have hH := hx.1
      have g : ∀ k, k < 32 → I2 399 (32 * (min 40 (u + 1) - 1 - 0) + k) = I 393 k := fun k hk => by rw [Nat.sub_zero, m3 k hk, e393]
      exact ⟨by rw [g _ (by omega), r0], fun p hp => by rw [g _ (by omega), r1 p hp], fun p hp => by rw [g _ (by omega), r2 p hp], fun p hp => by rw [g _ (by omega), r3 p hp], fun p hp => by rw [g _ (by omega), r4 p hp], fun p hp => by rw [g _ (by omega), r5 p hp], fun p hp hp' => by rw [g _ (by omega), r6 p hp hp'], fun p hp hp' => by rw [g _ (by omega), r7 p hp hp']⟩
    · have hp := p6 (j - 1) (by omega)
      have ex : ((x + 1) % 40 + 39 - j) % 40 = (x + 39 - (j - 1)) % 40 := by omega
      have hne : ¬ (x + 39 - (j - 1)) % 40 = x := by omega
      have hlt : (x + 39 - (j - 1)) % 40 < 40 := Nat.mod_lt _ (by decide)
      rw [ex]
      obtain ⟨s2, w2, c2, r2⟩ := hp.get
      refine zPair.mk w2 (c2.kept (fun b k q1 q2 => by rw [ec b k (by omega), ec1 b k (by omega) (by omega)])) ?_
      have hP := hx.2.1
      have hH := hx.1
      have g : ∀ k, k < 32 → I2 399 (32 * (min 40 (u + 1) - 1 - j) + k) = I 399 (32 * (u - 1 - (j - 1)) + k) := fun k hk => by
        rw [m4 _ (by omega), e399]
        congr 1
        by_cases hu : u = 40
        · rw [if_pos hu]; omega
        · rw [if_neg hu]; omega
      obtain ⟨r0, r1, r2, r3, r4, r5, r6, r7⟩ := r2
      exact ⟨by rw [g _ (by omega), r0], fun p hp => by rw [g _ (by omega), r1 p hp], fun p hp => by rw [g _ (by omega), r2 p hp], fun p hp => by rw [g _ (by omega), r3 p hp], fun p hp => by rw [g _ (by omega), r4 p hp], fun p hp => by rw [g _ (by omega), r5 p hp], fun p hp hp' => by rw [g _ (by omega), r6 p hp hp'], fun p hp hp' => by rw [g _ (by omega), r7 p hp hp']⟩
  · exact h6.kept (fun a k q => e a k (Or.inr (Or.inr (Or.inr (Or.inr (Or.inr (Or.inl q)))))) (by omega) (by omega) (by omega) (by omega) (by omega) (by omega))
  · exact h7.kept (fun a k q => e a k (Or.inr (Or.inr (Or.inr (Or.inr (Or.inr (Or.inr q)))))) (by omega) (by omega) (by omega) (by omega) (by omega) (by omega))
theorem zok_m {vX vM : zI → zJ → (Int32 → zI → zJ → Prop) → Prop} (h : ∀ I J, Rel I J → ∀ t live s u x, zQ I t live s → I 100 2 = nI u → I 100 1 = nI x → I 361 57 = nI u → u ≤ 40 → x < 40 → (∃ r, (∀ Q : Int32 → zI → zJ → Prop, (∀ I1, zK I I1 J J → Q r I1 J) → vX I J Q) ∧ (∀ (I1 : zI) (Q : Int32 → zI → zJ → Prop), zK I I1 J J → zQ I1 t live s → (∀ I2, zK I1 I2 J J → Q r I2 J) → vM I1 J Q)) ∨ (∃ r s', (∀ Q : Int32 → zI → zJ → Prop, (∀ I1, xDid I I1 t s s' u x → Q r I1 J) → vX I J Q) ∧ (∀ (I1 : zI) (Q : Int32 → zI → zJ → Prop), mQ I1 t live s → I1 361 57 = nI u → (∀ I2, mDid I1 I2 t s' u → Q r I2 J) → vM I1 J Q))) (I : zI) (J : zJ) (K : zI → zJ → Prop) (hR : Rel I J) (hK : ∀ I J, Rel I J → K I J) : vX I J (fun r I1 J1 => vM I1 J1 (fun r2 I2 J2 => r = r2 ∧ K I2 J2)) := by
  obtain ⟨n, nH, nP, live, u, x, td, m, h1, h2, h3, h4, h5, h6, h7, h8⟩ := id hR
  obtain ⟨t, rfl, rfl, hx, hc, hm⟩ := h3.get
  obtain ⟨s, hw, hs, hr⟩ := h4.get
  have hr := mS_zero.mp hr
  have hQ : zQ I t live s := ⟨⟨hx, hc, hw, hs, by omega, by omega⟩, hm, hr⟩
  rcases h I J hR t live s u x hQ h5.2.2.1 h5.2.2.2.1 h5.2.2.2.2.1 h5.1 h5.2.1 with ⟨r, g1, g2⟩ | ⟨r, s', g1, g2⟩
  · exact g1 _ (fun I1 k1 => g2 I1 _ k1 (hQ.kept k1) (fun I2 k2 => ⟨rfl, hK I2 J (hR.kept (k1.trans k2))⟩))
  · refine g1 _ (fun I1 d1 => g2 I1 _ ⟨hx, ?_, hw, ?_⟩ ?_ (fun I2 d2 => ⟨rfl, hK I2 J (Rel.did hx hw h1 h2 hc hm hr h5 h6 h7 h8 d1 d2)⟩))
    · exact hm.kept (fun b k q1 q2 => d1.2.2.2.2.2 b k (Or.inr (Or.inr (Or.inl (Or.inr (Or.inl ⟨q1, q2⟩))))) (by omega) (by have := h5.2.1; omega) (by omega)) (d1.2.2.2.2.2 361 18 (Or.inr (Or.inr (Or.inl (Or.inr (Or.inr ⟨rfl, rfl⟩))))) (by decide) (by have := h5.2.1; omega) (by decide))
    · exact hr.kept (fun k => d1.2.2.2.2.2 393 k (Or.inr (Or.inr (Or.inr (Or.inl (Or.inr rfl))))) (by decide) (by have := h5.2.1; omega) (by decide))
    · rw [d1.2.2.2.2.2 361 57 (Or.inr (Or.inr (Or.inr (Or.inr (Or.inl (Or.inr (Or.inr (Or.inr ⟨rfl, rfl⟩)))))))) (by decide) (by have := h5.2.1; omega) (by decide)]
      exact h5.2.2.2.2.1
