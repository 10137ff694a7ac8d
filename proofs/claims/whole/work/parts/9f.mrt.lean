/-! reading: the reference's tells -/
section
variable {B : Nat → Nat} {n s : Nat}
abbrev zOwn (s b l : Nat) : Prop := (b = 361 ∧ (11 ≤ l ∧ l ≤ 16 ∨ l = 20 ∨ l = 35 ∨ l = 41 ∨ l = 45)) ∨ b = 370 ∨ b = 390 ∨ ((b = 371 ∨ b = 374 ∨ b = 378 ∨ b = 379 ∨ b = 380) ∧ l = s) ∨ ((b = 372 ∨ b = 373) ∧ 7 * s ≤ l ∧ l < 7 * s + 7) ∨ ((b = 375 ∨ b = 376 ∨ b = 377) ∧ 6 * s ≤ l ∧ l < 6 * s + 6) ∨ ((b = 381 ∨ b = 382) ∧ 4 * s ≤ l ∧ l < 4 * s + 4) ∨ (383 ≤ b ∧ b ≤ 387 ∧ 130 * s ≤ l ∧ l < 130 * s + 130) ∨ ((b = 388 ∨ b = 389) ∧ 420 * s ≤ l ∧ l < 420 * s + 420)
abbrev frMo (s : Nat) (I I' : zI) : Prop := ∀ b l, ¬ zOwn s b l → I' b l = I b l
abbrev frMJ (J J' : zJ) : Prop := ∀ b l, b ≠ 369 → J' b l = J b l
theorem frMo.tr {I I' I'' : zI} (h : frMo s I I') (g : frMo s I' I'') : frMo s I I'' := fun b l q => by rw [g b l q, h b l q]
theorem frMo.cell {I I' : zI} {c x : Nat} (ho : zOwn s c x) (h : ∀ a l, ¬ (a = c ∧ l = x) → I' a l = I a l) : frMo s I I' := fun b l q => h b l (fun z => q (by rw [z.1, z.2]; exact ho))
theorem fr5.mo {I I' : zI} (h : ∀ b l, ¬ (b = 361 ∧ (l = 11 ∨ l = 13 ∨ l = 14 ∨ l = 15 ∨ l = 16)) → I' b l = I b l) : frMo s I I' := fun b l q => h b l (fun z => q (Or.inl ⟨z.1, by have := z.2; omega⟩))
theorem frP.mo {I I' : zI} (h : frP I I') : frMo s I I' := fun b l q => h b l (fun z => q (Or.inl ⟨z.1, by have := z.2; omega⟩))
def zWb (W : Nat × Nat) (p : Nat) : Prop := W.1 ≠ 0 → W.2 < p
theorem zWb.up {W : Nat × Nat} {p p' : Nat} (h : zWb W p) (hp : p ≤ p') : zWb W p' := fun z => by have := h z; omega
theorem zWb.keep {W : Nat × Nat} {k p p' : Nat} (h : zWb W p) (hp : p < p') : zWb (zkeep k p W) p' := by
  unfold zkeep
  by_cases e : W.1 = 0
  · rw [if_pos e]; exact fun _ => hp
  · rw [if_neg e]; exact h.up (by omega)
theorem zWb.ite {c : Prop} [Decidable c] {W : Nat × Nat} {k p p' : Nat} (h : zWb W p) (hp : p < p') : zWb (if c then zkeep k p W else W) p' := by
  split
  · exact h.keep hp
  · exact h.up (by omega)
theorem zWb.num {W : Nat × Nat} {m i p' : Nat} (h : zWb W (zpsn B n i)) (hp : zpsn B n i < p') : zWb (znum (tV B n) (zpsn B n) m i W) p' := by
  unfold znum
  exact h.ite hp
def zBm2 (I : zI) (c a b w s lim : Nat) (bk : zBk) : Prop := I c s = nI bk.1 ∧ bk.1 ≤ lim ∧ ∀ j, j < bk.1 → I a (w * s + j) = bk.2.2.1 j ∧ I b (w * s + j) = bk.2.2.2 j
def zHg (I : zI) (s : Nat) (G : Nat × (Nat → Int32)) : Prop := I 378 s = nI G.1 ∧ G.1 ≤ 6 ∧ ∀ p, p < 6 → I 377 (6 * s + p) = G.2 p
def zML1 (I : zI) (s k : Nat) (b o : Nat) : Option zLw → Prop
  | none => I 381 (4 * s + k) = 0 ∧ I 382 (4 * s + k) = 0
  | some w => ∃ b1, 130 * s ≤ b1 ∧ b1 + w.1.length < b ∧ I 381 (4 * s + k) = nI b1 ∧ I 382 (4 * s + k) = nI (b1 + w.1.length + 1) ∧ zBs I w.1 b1 o ∧ zB0 I w.2 (b1 + w.1.length) o
def zML (I : zI) (s : Nat) (L : Nat → Option zLw) (b o : Nat) : Prop := ∀ k, k < 4 → zML1 I s k b o (L k)
theorem zBm2.kept {I I' : zI} {c a b w lim : Nat} {bk : zBk} (h : zBm2 I c a b w s lim bk) (e : I' c s = I c s) (e2 : ∀ j, I' a j = I a j) (e3 : ∀ j, I' b j = I b j) : zBm2 I' c a b w s lim bk := ⟨by rw [e]; exact h.1, h.2.1, fun j hj => by rw [e2, e3]; exact h.2.2 j hj⟩
theorem zHg.kept {I I' : zI} {G : Nat × (Nat → Int32)} (h : zHg I s G) (e : I' 378 s = I 378 s) (e2 : ∀ j, I' 377 j = I 377 j) : zHg I' s G := ⟨by rw [e]; exact h.1, h.2.1, fun p hp => by rw [e2]; exact h.2.2 p hp⟩
theorem zML1.kept {I I' : zI} {k b o b' o' : Nat} {ow : Option zLw} (h : zML1 I s k b o ow) (e : I' 381 (4 * s + k) = I 381 (4 * s + k)) (e1 : I' 382 (4 * s + k) = I 382 (4 * s + k)) (e2 : ∀ a j, 383 ≤ a → a ≤ 387 → j < b → I' a j = I a j) (f : ∀ a j, a = 388 ∨ a = 389 → j < o → I' a j = I a j) (hb : b ≤ b') (ho : o ≤ o') : zML1 I' s k b' o' ow := by
  cases ow with
  | none => exact ⟨by rw [e]; exact h.1, by rw [e1]; exact h.2⟩
  | some w =>
    obtain ⟨b1, h1, h2, h3, h4, h5, h6⟩ := h
    exact ⟨b1, h1, by omega, by rw [e]; exact h3, by rw [e1]; exact h4, h5.kept f ho w.1 b1 (fun a j q1 q2 q3 q4 => e2 a j q1 q2 (by omega)), h6.kept (fun a q1 q2 => e2 a _ q1 q2 (by omega)) f ho⟩
theorem zML.kept {I I' : zI} {L : Nat → Option zLw} {b o : Nat} (h : zML I s L b o) (e : ∀ a j, 381 ≤ a → a ≤ 389 → I' a j = I a j) : zML I' s L b o := fun k hk => (h k hk).kept (e _ _ (by omega) (by omega)) (e _ _ (by omega) (by omega)) (fun a j q1 q2 _ => e a j (by omega) (by omega)) (fun a j q _ => e a j (by omega) (by omega)) (Nat.le_refl _) (Nat.le_refl _)
def zGm (I : zI) (J : zJ) (B : Nat → Nat) (n s i : Nat) (g : zG) (o b : Nat) (af : Nat → Nat) : Prop := zBm2 I 371 372 373 7 s 7 (gH g) ∧ zBm2 I 374 375 376 6 s 6 (gP g) ∧ zNm I J g af ∧ zHg I s (gG g) ∧ zML I s (gL g) b o ∧ (I 379 s = (gM g).1 ∧ I 380 s = (gM g).2) ∧ (zWr2 I (gW g) ∧ zWb (gW g) (zpsn B n i)) ∧ I 361 12 = 0 ∧ (I 361 41 = nI o ∧ 420 * s ≤ o ∧ o ≤ 420 * s + i) ∧ (I 361 35 = nI b ∧ 130 * s ≤ b ∧ 4 * b ≤ 520 * s + i) ∧ ∀ p, (gP g).1 ≤ p → (gG g).2 p = -2
theorem m_room {I : zI} {J : zJ} {i c m : Nat} (hM : zM I J B n s i) (hk : tK B n i ≠ 1 ∧ tK B n i ≠ 2) (hc : c ≤ m) (hm : m < 100) {Q : zI → zJ → Prop} (h1 : c < m → ∀ j, zgo i = .inr j → ∀ I' : zI, frP I I' → zM I' J B n s j → Q I' J) (h0 : c < m → ∀ k j, zgo i = .inl (k, j) → ∀ I' : zI, frP I I' → zDe I' B n k j → Q I' J) (h2 : ¬ c < m → ∀ I' : zI, frP I I' → zDe I' B n 2 i → Q I' J) : v_M_roomFor 5000 (nI c) (nI m) I J Q := by
  refine ⟨fun q => ?_, fun q => ?_⟩
  · have q : c ≠ m := fun z => q (by rw [z])
    exact z_yr hM.2.1 (m_goesOn hM hk (h1 (by omega)) (h0 (by omega)))
  · have q := (nI_eq (by omega) (by omega)).mp q
    exact m_fail (k := 2) hM (fun I' o' d' => z_nr (fun z => d'.ne z) (h2 (by omega) I' o' d'))
theorem m_ends {I : zI} {J : zJ} {i t N : Nat} {x2 : Int32} (hM : zM I J B n s i) (ht : t ≤ 400) (h20 : I 361 20 = nI N) (hN : N < 13) (hnm : J 367 t = tV B n t) {Q : zI → zJ → Prop} (hok : ∀ j, zpass (tK B n) 59 i = .inr j → ∀ (I' : zI) (J' : zJ), (∀ b l, ¬ (b = 361 ∧ (l = 11 ∨ l = 13 ∨ l = 14 ∨ l = 20)) → ¬ (b = 370 ∧ l = N) → I' b l = I b l) → (∀ b l, ¬ (b = 369 ∧ l = N) → J' b l = J b l) → zM I' J' B n s j → I' 361 20 = nI (N + 1) → I' 370 N = x2 → J' 369 N = tV B n t → Q I' J') (hbad : ∀ k j, zpass (tK B n) 59 i = .inl (k, j) → ∀ I' : zI, frP I I' → zDe I' B n k j → Q I' J) : v_M_endsName 5000 (nI t) x2 I J Q := by
  refine m_must hM (c := 59) rfl (by unfold zkv; omega) (by decide) (fun j ej I1 o1 m1 => z_y m1.le ?_) (fun k j ej I1 o1 d1 => z_n d1.nle (hbad k j ej I1 o1 d1))
  have e20 : I1 361 20 = nI N := by rw [o1 _ _ (by omega)]; exact h20
  rw [e20, nI_clamp (by omega), nI_clamp (by omega), hnm]
  refine ⟨vp_in_nI (by omega) (by decide), vp_in_nI (by omega) (by decide), fun J5 e5 => ⟨vp_in_nI (by omega) (by decide), fun I7 e7 I8 e8 => ?_⟩⟩
  have o7 : ∀ b l, ¬ (b = 370 ∧ l = N) → I7 b l = I1 b l := fun b l q => by rw [e7, qu_off (by omega)]
  rw [o7 _ _ (by omega), e20, nI_1] at e8
  have o8 : ∀ b l, ¬ (b = 361 ∧ l = 20) → I8 b l = I7 b l := fun b l q => by rw [e8, qu_off (by omega)]
  have p5 : ∀ b l, ¬ (b = 369 ∧ l = N) → J5 b l = J b l := fun b l q => by rw [e5, qu_off (by omega)]
  exact hok j ej I8 J5 (fun b l q1 q2 => by rw [o8 b l (by omega), o7 b l q2, o1 b l (by omega)]) p5 (m1.kept (fun b l q => by rw [o8 b l (by omega), o7 b l (by omega)]) (fun l => p5 _ _ (by omega))) (by rw [e8, qu_same]) (by rw [o8 _ _ (by omega), e7, qu_same]) (by rw [e5, qu_same])
theorem m_ends_d {I : zI} {J : zJ} {k j : Nat} {x1 x2 : Int32} (hD : zDe I B n k j) {Q : zI → zJ → Prop} (hq : Q I J) : v_M_endsName 5000 x1 x2 I J Q := m_must_d hD (z_n hD.nle hq)
theorem zNm_H {I I' : zI} {J J' : zJ} {g g' : zG} {af : Nat → Nat} {w0 : Int64} (h : zNm I J g af) (hH : (gH g').1 = (gH g).1 + 1) (hH2 : (gH g').2.1 = zud (gH g).2.1 (gH g).1 w0) (hP : gP g' = gP g) (hl : (gH g).1 < 7) (e20 : I' 361 20 = nI ((gH g).1 + (gP g).1 + 1)) (e370 : I' 370 ((gH g).1 + (gP g).1) = nI (gH g).1) (e369 : J' 369 ((gH g).1 + (gP g).1) = w0) (o370 : ∀ k, k < (gH g).1 + (gP g).1 → I' 370 k = I 370 k) (o369 : ∀ k, k < (gH g).1 + (gP g).1 → J' 369 k = J 369 k) : zNm I' J' g' (zud af ((gH g).1 + (gP g).1) (gH g).1) := by
  obtain ⟨h1, h2, h3, h4, h5⟩ := h
  have en : (gH g').1 + (gP g').1 = (gH g).1 + (gP g).1 + 1 := by rw [hH, hP]; omega
  have ei : ∀ w, zidx (gH g').2.1 w (gH g').1 0 = (zidx (gH g).2.1 w (gH g).1 0).or (if w0 = w then some (gH g).1 else none) := fun w => by
    rw [hH, hH2, zidx_app, Nat.zero_add, zud_s, zidx_cg (f := zud (gH g).2.1 (gH g).1 w0) (f' := (gH g).2.1) (gH g).1 0 (fun j _ hj => zud_n (by omega))]
  have el : ∀ w t, zlk (J' 369) (zud af ((gH g).1 + (gP g).1) (gH g).1) w t ((gH g).1 + (gP g).1 + 1) 0 = (zlk (J 369) af w t ((gH g).1 + (gP g).1) 0).or (if w0 = w ∧ t ≤ (gH g).1 ∧ (gH g).1 < t + 10 then some ((gH g).1 - t) else none) := fun w t => by
    rw [zlk_app, Nat.zero_add, zud_s, e369, zlk_cg (nf := J' 369) (nf' := J 369) (af := zud af ((gH g).1 + (gP g).1) (gH g).1) (af' := af) ((gH g).1 + (gP g).1) 0 (fun j _ hj => ⟨o369 j (by omega), zud_n (by omega)⟩)]
  refine ⟨by rw [en]; exact e20, fun k hk => ?_, fun w => ?_, fun w => ?_, fun w => ?_⟩
  · rw [en] at hk
    by_cases e : k = (gH g).1 + (gP g).1
    · rw [e, zud_s]; exact ⟨e370, by omega⟩
    · rw [zud_n e, o370 k (by omega)]; exact h2 k (by omega)
  · rw [en, el, h3, ei]
    congr 1
    by_cases e : w0 = w
    · rw [if_pos ⟨e, by omega, by omega⟩, if_pos e]; rfl
    · rw [if_neg (fun z => e z.1), if_neg e]
  · rw [en, el, h4, hP, if_neg (by omega), Option.or_none]
  · have hany : zany (J' 369) w ((gH g).1 + (gP g).1 + 1) 0 = (ztold g w || decide (w0 = w)) := by
      rw [zany_app, Nat.zero_add, e369, zany_cg (nf := J' 369) (nf' := J 369) ((gH g).1 + (gP g).1) 0 (fun j _ hj => o369 j (by omega)), h5]
    rw [en, hany]
    unfold ztold
    rw [ei, hP]
    by_cases e : w0 = w
    · rw [if_pos e, decide_eq_true e]
      cases zidx (gH g).2.1 w (gH g).1 0 <;> cases (zidx (gP g).2.1 w (gP g).1 0).isSome <;> rfl
    · rw [if_neg e, decide_eq_false e, Option.or_none, Bool.or_false]
theorem zNm_P {I I' : zI} {J J' : zJ} {g g' : zG} {af : Nat → Nat} {w0 : Int64} (h : zNm I J g af) (hP : (gP g').1 = (gP g).1 + 1) (hP2 : (gP g').2.1 = zud (gP g).2.1 (gP g).1 w0) (hH : gH g' = gH g) (hl : (gP g).1 < 6) (e20 : I' 361 20 = nI ((gH g).1 + (gP g).1 + 1)) (e370 : I' 370 ((gH g).1 + (gP g).1) = nI (10 + (gP g).1)) (e369 : J' 369 ((gH g).1 + (gP g).1) = w0) (o370 : ∀ k, k < (gH g).1 + (gP g).1 → I' 370 k = I 370 k) (o369 : ∀ k, k < (gH g).1 + (gP g).1 → J' 369 k = J 369 k) : zNm I' J' g' (zud af ((gH g).1 + (gP g).1) (10 + (gP g).1)) := by
  obtain ⟨h1, h2, h3, h4, h5⟩ := h
  have en : (gH g').1 + (gP g').1 = (gH g).1 + (gP g).1 + 1 := by rw [hH, hP]; omega
  have ei : ∀ w, zidx (gP g').2.1 w (gP g').1 0 = (zidx (gP g).2.1 w (gP g).1 0).or (if w0 = w then some (gP g).1 else none) := fun w => by
    rw [hP, hP2, zidx_app, Nat.zero_add, zud_s, zidx_cg (f := zud (gP g).2.1 (gP g).1 w0) (f' := (gP g).2.1) (gP g).1 0 (fun j _ hj => zud_n (by omega))]
  have el : ∀ w t, zlk (J' 369) (zud af ((gH g).1 + (gP g).1) (10 + (gP g).1)) w t ((gH g).1 + (gP g).1 + 1) 0 = (zlk (J 369) af w t ((gH g).1 + (gP g).1) 0).or (if w0 = w ∧ t ≤ 10 + (gP g).1 ∧ 10 + (gP g).1 < t + 10 then some (10 + (gP g).1 - t) else none) := fun w t => by
    rw [zlk_app, Nat.zero_add, zud_s, e369, zlk_cg (nf := J' 369) (nf' := J 369) (af := zud af ((gH g).1 + (gP g).1) (10 + (gP g).1)) (af' := af) ((gH g).1 + (gP g).1) 0 (fun j _ hj => ⟨o369 j (by omega), zud_n (by omega)⟩)]
  refine ⟨by rw [en]; exact e20, fun k hk => ?_, fun w => ?_, fun w => ?_, fun w => ?_⟩
  · rw [en] at hk
    by_cases e : k = (gH g).1 + (gP g).1
    · rw [e, zud_s]; exact ⟨e370, by omega⟩
    · rw [zud_n e, o370 k (by omega)]; exact h2 k (by omega)
  · rw [en, el, h3, hH, if_neg (by omega), Option.or_none]
  · rw [en, el, h4, ei]
    congr 1
    by_cases e : w0 = w
    · rw [if_pos ⟨e, by omega, by omega⟩, if_pos e, show 10 + (gP g).1 - 10 = (gP g).1 by omega]
    · rw [if_neg (fun z => e z.1), if_neg e]
  · have hany : zany (J' 369) w ((gH g).1 + (gP g).1 + 1) 0 = (ztold g w || decide (w0 = w)) := by
      rw [zany_app, Nat.zero_add, e369, zany_cg (nf := J' 369) (nf' := J 369) ((gH g).1 + (gP g).1) 0 (fun j _ hj => o369 j (by omega)), h5]
    rw [en, hany]
    unfold ztold
    rw [ei, hH]
    by_cases e : w0 = w
    · rw [if_pos e, decide_eq_true e]
      cases zidx (gP g).2.1 w (gP g).1 0 <;> cases (zidx (gH g).2.1 w (gH g).1 0).isSome <;> rfl
    · rw [if_neg e, decide_eq_false e, Option.or_none, Bool.or_false]
theorem m_tHanger {I : zI} {J : zJ} {i o b : Nat} {g : zG} {af : Nat → Nat} (hn : n ≤ 2000) (hM : zM I J B n s i) (hG : zGm I J B n s i g o b af) (hk : tK B n i = 256) {Q : zI → zJ → Prop} (hok : ∀ a, ztl (tK B n) (tV B n) (zpsn B n) g i = .inr a → ∀ (I' : zI) (J' : zJ) (o' b' : Nat) (af' : Nat → Nat), frMo s I I' → frMJ J J' → zM I' J' B n s a.1 → zGm I' J' B n s a.1 a.2 o' b' af' → i < a.1 → Q I' J') (hbad : ∀ k j, ztl (tK B n) (tV B n) (zpsn B n) g i = .inl (k, j) → ∀ I' : zI, frMo s I I' → zDe I' B n k j → Q I' J) : (v_M_roomFor 5000 (I 371 ((I 361 19)).toNatClampNeg) (7 : Int32) I J (fun I5 J5 => (((I5 361 13) ≤ 0 → (vp_in (I5 361 19) 2 ∧ (∀ y8 : Int32, y8 = (((7 : Int32) * (I5 361 19)) + (I5 371 ((I5 361 19)).toNatClampNeg)) → (v_M_named 5000  I5 J5 (fun r9 I10 J10 => (v_M_bounded 5000 (0 : Int32) (4 : Int32) I10 J10 (fun r11 I12 J12 => (vp_in y8 14 ∧ ∀ I14 : zI, I14 = qu I12 372 (y8).toNatClampNeg r11 → (v_M_bounded 5000 (0 : Int32) (99 : Int32) I14 J12 (fun r15 I16 J16 => (vp_in y8 14 ∧ ∀ I18 : zI, I18 = qu I16 373 (y8).toNatClampNeg r15 → (vp_in (I18 361 19) 2 ∧ (v_M_endsName 5000 r9 (I18 371 ((I18 361 19)).toNatClampNeg) I18 J16 (fun I20 J20 => ((¬ (I20 361 13) = 0 → Q I20 J20) ∧ ((I20 361 13) = 0 → (vp_in (I20 361 19) 2 ∧ (∀ I23 : zI, I23 = qu I20 371 ((I20 361 19)).toNatClampNeg ((I20 371 ((I20 361 19)).toNatClampNeg) + (1 : Int32)) → Q I23 J20)))))))))))))))))) ∧ (¬ (I5 361 13) ≤ 0 → Q I5 J5)))) := by
  obtain ⟨hH, hP, hN, hHg, hML, hMo, ⟨hW, hWb⟩, h12, ⟨h41, ho1, ho2⟩, ⟨h35, hb1, hb2⟩, hon⟩ := id hG
  have hs := hM.2.2.2.1
  have lH := hH.2.1
  have lP := hP.2.1
  have pp : ∀ {t : Nat}, tK B n t ≠ 1 → zpsn B n t < zpsn B n (t + 1) := fun h => zpsn_lt h
  rw [hM.2.2.1, nI_clamp (by omega), (hH).1]
  unfold ztl at hok hbad
  rw [if_pos hk] at hok hbad
  have fx : ∀ {I1 I2 : zI}, frP I1 I2 → frMo s I1 I2 := fun h => h.mo
  refine m_room hM (by omega) (hH).2.1 (by decide) (fun hlt i1 e1 I5 o5 m5 => z_y m5.le ?_) (fun hlt k j ej I5 o5 d5 => z_n d5.nle (hbad k j (by rw [if_pos hlt]; unfold zent; rw [ej]; rfl) I5 (fx o5) d5)) (fun hlt I5 o5 d5 => z_n d5.nle (hbad 2 i (if_neg hlt) I5 (fx o5) d5))
  rw [if_pos hlt] at hok hbad
  unfold zent at hok hbad
  rw [e1, zbi_r] at hok hbad
  have q1 := (zgo_r e1).2
  have p1 := pp (t := i) (by omega)
  rw [← q1] at p1
  rw [m5.2.2.1, nI_clamp (by omega), o5 371 s (by omega), (hH).1, z_m7]
  refine ⟨vp_in_nI hs (by decide), fun y8 e8 => ?_⟩
  rw [e8, nI_clamp (n := 7 * s + (gH g).1) (by omega)]
  have vy : vp_in (nI (7 * s + (gH g).1)) 14 := vp_in_nI (by omega) (by decide)
  -- a fault: what is left
  have dE : ∀ (k j : Nat) (I18 : zI) (r9 : Int32), (∀ I' : zI, frMo s I I' → zDe I' B n k j → Q I' J) → frMo s I I18 → I18 361 19 = nI s → zDe I18 B n k j → (vp_in (I18 361 19) 2 ∧ (v_M_endsName 5000 r9 (I18 371 ((I18 361 19)).toNatClampNeg) I18 J (fun I20 J20 => ((¬ (I20 361 13) = 0 → Q I20 J20) ∧ ((I20 361 13) = 0 → (vp_in (I20 361 19) 2 ∧ (∀ I23 : zI, I23 = qu I20 371 ((I20 361 19)).toNatClampNeg ((I20 371 ((I20 361 19)).toNatClampNeg) + (1 : Int32)) → Q I23 J20))))))) := fun k j I18 r9 hb f18 e18 d18 => by
    rw [e18]
    exact ⟨vp_in_nI hs (by decide), m_ends_d d18 (z_nr (fun z => d18.ne z) (hb I18 f18 d18))⟩
  have dD : ∀ (k j : Nat) (I14 : zI) (r9 : Int32), (∀ I' : zI, frMo s I I' → zDe I' B n k j → Q I' J) → frMo s I I14 → I14 361 19 = nI s → zDe I14 B n k j → (v_M_bounded 5000 (0 : Int32) (99 : Int32) I14 J (fun r15 I16 J16 => (vp_in (nI (7 * s + (gH g).1)) 14 ∧ ∀ I18 : zI, I18 = qu I16 373 (7 * s + (gH g).1) r15 → (vp_in (I18 361 19) 2 ∧ (v_M_endsName 5000 r9 (I18 371 ((I18 361 19)).toNatClampNeg) I18 J16 (fun I20 J20 => ((¬ (I20 361 13) = 0 → Q I20 J20) ∧ ((I20 361 13) = 0 → (vp_in (I20 361 19) 2 ∧ (∀ I23 : zI, I23 = qu I20 371 ((I20 361 19)).toNatClampNeg ((I20 371 ((I20 361 19)).toNatClampNeg) + (1 : Int32)) → Q I23 J20)))))))))) := fun k j I14 r9 hb f14 e14 d14 => m_bounded_d d14 ⟨vy, fun I18 e18 => by
    have o18 : ∀ a l, ¬ (a = 373 ∧ l = 7 * s + (gH g).1) → I18 a l = I14 a l := fun a l q => by rw [e18, qu_off (by omega)]
    exact dE k j I18 r9 hb (f14.tr (frMo.cell (by omega) o18)) (by rw [o18 _ _ (by omega)]; exact e14) (d14.kept (fun l q => o18 _ _ (by omega)))⟩
  refine m_named (g := g) (af := af) hn m5 (hN.kept (o5 _ _ (by omega)) (fun j => o5 _ _ (by omega)) rfl) (by omega) (hW.kept (fun l q => o5 _ _ (by omega))) (hWb.up (by omega)) (fun i2 e2 I10 o10 m10 w10 => ?_) (fun k j ej I10 o10 d10 => m_bounded_d d10 ⟨vy, fun I14 e14 => ?_⟩)
  · rw [e2, zbi_r] at hok hbad
    have q2 := (zpass_r e2).2.2
    have k2 := (zpass_r e2).1
    have p2 := pp (t := i1) (by omega)
    rw [← q2] at p2
    have f10 : frMo s I I10 := (fx o5).tr (fr5.mo o10)
    refine m_bounded (m := 4) hn m10 w10 (by decide) ((hWb.up (Nat.le_of_lt p1)).ite p2) (fun i3 e3 I12 o12 m12 w12 => ⟨vy, fun I14 e14 => ?_⟩) (fun k j ej I12 r11 o12 d12 => ⟨vy, fun I14 e14 => ?_⟩)
    · rw [e3, zbi_r] at hok hbad
      have q3 := (zpass_r e3).2.2
      have k3 := (zpass_r e3).1
      have p3 := pp (t := i2) (by omega)
      rw [← q3] at p3
      have o14 : ∀ a l, ¬ (a = 372 ∧ l = 7 * s + (gH g).1) → I14 a l = I12 a l := fun a l q => by rw [e14, qu_off (by omega)]
      have f14 : frMo s I I14 := (f10.tr (fr5.mo o12)).tr (frMo.cell (by omega) o14)
      have wb3 := ((hWb.up (Nat.le_of_lt p1)).ite (c := ztold g (tV B n i1) = true) (k := 3) p2).num (m := 4) p3
      refine m_bounded (m := 99) hn (m12.kept (fun b l q => o14 b l (by omega)) (fun _ => rfl)) (w12.kept (fun l q => o14 _ _ (by omega))) (by decide) wb3 (fun i4 e4 I16 o16 m16 w16 => ⟨vy, fun I18 e18 => ?_⟩) (fun k j ej I16 r15 o16 d16 => ⟨vy, fun I18 e18 => ?_⟩)
      · rw [e4, zbi_r] at hok hbad
        have q4 := (zpass_r e4).2.2
        have k4 := (zpass_r e4).1
        have p4 := pp (t := i3) (by omega)
        rw [← q4] at p4
        have wb4 := wb3.num (m := 99) p4
        have o18 : ∀ a l, ¬ (a = 373 ∧ l = 7 * s + (gH g).1) → I18 a l = I16 a l := fun a l q => by rw [e18, qu_off (by omega)]
        have x18 : ∀ a l, ¬ (a = 361 ∧ (l = 11 ∨ l = 13 ∨ l = 14 ∨ l = 15 ∨ l = 16)) → ¬ ((a = 372 ∨ a = 373) ∧ l = 7 * s + (gH g).1) → I18 a l = I a l := fun a l q1 q2 => by rw [o18 a l (by omega), o16 a l q1, o14 a l (by omega), o12 a l q1, o10 a l q1, o5 a l (by omega)]
        have f18 : frMo s I I18 := (f14.tr (fr5.mo o16)).tr (frMo.cell (by omega) o18)
        have m18 : zM I18 J B n s i4 := m16.kept (fun b l q => o18 b l (by omega)) (fun _ => rfl)
        rw [m18.2.2.1, nI_clamp (by omega), x18 371 s (by omega) (by omega), (hH).1]
        refine ⟨vp_in_nI hs (by decide), m_ends (t := i1) (N := (gH g).1 + (gP g).1) m18 m5.2.2.2.2.2.1 (by rw [x18 _ _ (by omega) (by omega)]; exact hN.1) (by omega) (m5.tk.2.2.2 k2) (fun i5 e5 I20 J20 o20 j20 m20 n20 a20 w20 => z_yr m20.2.1 ?_) (fun k j ej I20 o20 d20 => z_nr (fun z => d20.ne z) (hbad k j (by rw [ej]; rfl) I20 (f18.tr o20.mo) d20))⟩
        rw [e5, zbi_r] at hok hbad
        have q5 := (zpass_r e5).2.2
        have k5 := (zpass_r e5).1
        have p5 := pp (t := i4) (by omega)
        rw [← q5] at p5
        have eC : I20 371 s = nI (gH g).1 := by rw [o20 _ _ (by omega) (by omega), x18 _ _ (by omega) (by omega)]; exact (hH).1
        rw [m20.2.2.1, nI_clamp (by omega), eC, nI_1]
        refine ⟨vp_in_nI hs (by decide), fun I23 e23 => ?_⟩
        have o23 : ∀ a l, ¬ (a = 371 ∧ l = s) → I23 a l = I20 a l := fun a l q => by rw [e23, qu_off (by omega)]
        have x23 : ∀ a l, ¬ (a = 361 ∧ (l = 11 ∨ l = 13 ∨ l = 14 ∨ l = 15 ∨ l = 16 ∨ l = 20)) → ¬ ((a = 372 ∨ a = 373) ∧ l = 7 * s + (gH g).1) → ¬ (a = 370 ∧ l = (gH g).1 + (gP g).1) → ¬ (a = 371 ∧ l = s) → I23 a l = I a l := fun a l q1 q2 q3 q4 => by rw [o23 a l q4, o20 a l (by omega) q3, x18 a l (by omega) q2]
        have f20 : frMo s I18 I20 := fun b l q => o20 b l (fun z => q (Or.inl ⟨z.1, by have := z.2; omega⟩)) (fun z => q (Or.inr (Or.inl z.1)))
        have f23 : frMo s I I23 := (f18.tr f20).tr (frMo.cell (by omega) o23)
        have hB23 : zBm2 I23 371 372 373 7 s 7 ((gH g).1 + 1, zud (gH g).2.1 (gH g).1 (tV B n i1), zud (gH g).2.2.1 (gH g).1 (tV B n i2).toInt32, zud (gH g).2.2.2 (gH g).1 (tV B n i3).toInt32) := by
          refine ⟨by rw [e23, qu_same], hlt, fun j hj => ?_⟩
          have hj' : j < (gH g).1 + 1 := hj
          by_cases e : j = (gH g).1
          · subst e
            refine ⟨?_, ?_⟩
            · show _ = zud _ _ _ _
              rw [zud_s, o23 _ _ (by omega), o20 _ _ (by omega) (by omega), o18 _ _ (by omega), o16 _ _ (by omega), e14, qu_same]
            · show _ = zud _ _ _ _
              rw [zud_s, o23 _ _ (by omega), o20 _ _ (by omega) (by omega), e18, qu_same]
          · obtain ⟨g1, g2⟩ := (hH).2.2 j (by omega)
            refine ⟨?_, ?_⟩
            · show _ = zud _ _ _ _
              rw [zud_n e, x23 _ _ (by omega) (by omega) (by omega) (by omega)]; exact g1
            · show _ = zud _ _ _ _
              rw [zud_n e, x23 _ _ (by omega) (by omega) (by omega) (by omega)]; exact g2
        refine hok _ rfl I23 J20 o b (zud af ((gH g).1 + (gP g).1) (gH g).1) f23 (fun b l q => j20 b l (by omega)) (m20.kept (fun b l q => o23 b l (by omega)) (fun _ => rfl)) ⟨hB23, hP.kept (x23 _ _ (by omega) (by omega) (by omega) (by omega)) (fun j => x23 _ _ (by omega) (by omega) (by omega) (by omega)) (fun j => x23 _ _ (by omega) (by omega) (by omega) (by omega)), zNm_H hN rfl rfl rfl hlt (by rw [o23 _ _ (by omega)]; exact n20) (by rw [o23 _ _ (by omega)]; exact a20) w20 (fun k hk => x23 _ _ (by omega) (by omega) (by omega) (by omega)) (fun k hk => j20 _ _ (by omega)), hHg.kept (x23 _ _ (by omega) (by omega) (by omega) (by omega)) (fun j => x23 _ _ (by omega) (by omega) (by omega) (by omega)), hML.kept (fun a j q1 q2 => x23 _ _ (by omega) (by omega) (by omega) (by omega)), ⟨by rw [x23 _ _ (by omega) (by omega) (by omega) (by omega)]; exact hMo.1, by rw [x23 _ _ (by omega) (by omega) (by omega) (by omega)]; exact hMo.2⟩, ⟨w16.kept (fun l q => by rw [o23 _ _ (by omega), o20 _ _ (by omega) (by omega), o18 _ _ (by omega)]), wb4.up (Nat.le_of_lt p5)⟩, by rw [x23 _ _ (by omega) (by omega) (by omega) (by omega)]; exact h12, ⟨by rw [x23 _ _ (by omega) (by omega) (by omega) (by omega)]; exact h41, ho1, by show _ ≤ 420 * s + i5; omega⟩, ⟨by rw [x23 _ _ (by omega) (by omega) (by omega) (by omega)]; exact h35, hb1, by show _ ≤ 520 * s + i5; omega⟩, fun p hp => hon p hp⟩ (by show i < i5; omega)
      · have o18 : ∀ a l, ¬ (a = 373 ∧ l = 7 * s + (gH g).1) → I18 a l = I16 a l := fun a l q => by rw [e18, qu_off (by omega)]
        exact dE k j I18 _ (hbad k j (by rw [ej]; rfl)) ((f14.tr (fr5.mo o16)).tr (frMo.cell (by omega) o18)) (by rw [o18 _ _ (by omega), o16 _ _ (by omega), o14 _ _ (by omega)]; exact m12.2.2.1) (d16.kept (fun l q => o18 _ _ (by omega)))
    · have o14 : ∀ a l, ¬ (a = 372 ∧ l = 7 * s + (gH g).1) → I14 a l = I12 a l := fun a l q => by rw [e14, qu_off (by omega)]
      exact dD k j I14 _ (hbad k j (by rw [ej]; rfl)) ((f10.tr (fr5.mo o12)).tr (frMo.cell (by omega) o14)) (by rw [o14 _ _ (by omega), o12 _ _ (by omega)]; exact m10.2.2.1) (d12.kept (fun l q => o14 _ _ (by omega)))
  · have o14 : ∀ a l, ¬ (a = 372 ∧ l = 7 * s + (gH g).1) → I14 a l = I10 a l := fun a l q => by rw [e14, qu_off (by omega)]
    exact dD k j I14 _ (hbad k j (by rw [ej]; rfl)) (((fx o5).tr (fx o10)).tr (frMo.cell (by omega) o14)) (by rw [o14 _ _ (by omega), o10 _ _ (by omega)]; exact m5.2.2.1) (d10.kept (fun l q => o14 _ _ (by omega)))
theorem m_tPerson {I : zI} {J : zJ} {i o b : Nat} {g : zG} {af : Nat → Nat} (hn : n ≤ 2000) (hM : zM I J B n s i) (hG : zGm I J B n s i g o b af) (hk : tK B n i = 257) {Q : zI → zJ → Prop} (hok : ∀ a, ztl (tK B n) (tV B n) (zpsn B n) g i = .inr a → ∀ (I' : zI) (J' : zJ) (o' b' : Nat) (af' : Nat → Nat), frMo s I I' → frMJ J J' → zM I' J' B n s a.1 → zGm I' J' B n s a.1 a.2 o' b' af' → i < a.1 → Q I' J') (hbad : ∀ k j, ztl (tK B n) (tV B n) (zpsn B n) g i = .inl (k, j) → ∀ I' : zI, frMo s I I' → zDe I' B n k j → Q I' J) : (v_M_roomFor 5000 (I 374 ((I 361 19)).toNatClampNeg) (6 : Int32) I J (fun I5 J5 => (((I5 361 13) ≤ 0 → (vp_in (I5 361 19) 2 ∧ (∀ y8 : Int32, y8 = (((6 : Int32) * (I5 361 19)) + (I5 374 ((I5 361 19)).toNatClampNeg)) → (v_M_named 5000  I5 J5 (fun r9 I10 J10 => (v_M_bounded 5000 (0 : Int32) (99 : Int32) I10 J10 (fun r11 I12 J12 => (vp_in y8 12 ∧ ∀ I14 : zI, I14 = qu I12 375 (y8).toNatClampNeg r11 → (v_M_bounded 5000 (0 : Int32) (9 : Int32) I14 J12 (fun r15 I16 J16 => (vp_in y8 12 ∧ ∀ I18 : zI, I18 = qu I16 376 (y8).toNatClampNeg r15 → (vp_in (I18 361 19) 2 ∧ (v_M_endsName 5000 r9 ((10 : Int32) + (I18 374 ((I18 361 19)).toNatClampNeg)) I18 J16 (fun I20 J20 => ((¬ (I20 361 13) = 0 → Q I20 J20) ∧ ((I20 361 13) = 0 → (vp_in (I20 361 19) 2 ∧ (∀ I23 : zI, I23 = qu I20 374 ((I20 361 19)).toNatClampNeg ((I20 374 ((I20 361 19)).toNatClampNeg) + (1 : Int32)) → Q I23 J20)))))))))))))))))) ∧ (¬ (I5 361 13) ≤ 0 → Q I5 J5)))) := by
  obtain ⟨hH, hP, hN, hHg, hML, hMo, ⟨hW, hWb⟩, h12, ⟨h41, ho1, ho2⟩, ⟨h35, hb1, hb2⟩, hon⟩ := id hG
  have hs := hM.2.2.2.1
  have lH := hH.2.1
  have lP := hP.2.1
  have pp : ∀ {t : Nat}, tK B n t ≠ 1 → zpsn B n t < zpsn B n (t + 1) := fun h => zpsn_lt h
  rw [hM.2.2.1, nI_clamp (by omega), (hP).1]
  unfold ztl at hok hbad
  rw [if_neg (by omega), if_pos hk] at hok hbad
  have fx : ∀ {I1 I2 : zI}, frP I1 I2 → frMo s I1 I2 := fun h => h.mo
  refine m_room hM (by omega) (hP).2.1 (by decide) (fun hlt i1 e1 I5 o5 m5 => z_y m5.le ?_) (fun hlt k j ej I5 o5 d5 => z_n d5.nle (hbad k j (by rw [if_pos hlt]; unfold zent; rw [ej]; rfl) I5 (fx o5) d5)) (fun hlt I5 o5 d5 => z_n d5.nle (hbad 2 i (if_neg hlt) I5 (fx o5) d5))
  rw [if_pos hlt] at hok hbad
  unfold zent at hok hbad
  rw [e1, zbi_r] at hok hbad
  have q1 := (zgo_r e1).2
  have p1 := pp (t := i) (by omega)
  rw [← q1] at p1
  rw [m5.2.2.1, nI_clamp (by omega), o5 374 s (by omega), (hP).1, z_m6]
  refine ⟨vp_in_nI hs (by decide), fun y8 e8 => ?_⟩
  rw [e8, nI_clamp (n := 6 * s + (gP g).1) (by omega)]
  have vy : vp_in (nI (6 * s + (gP g).1)) 12 := vp_in_nI (by omega) (by decide)
  -- a fault: what is left
  have dE : ∀ (k j : Nat) (I18 : zI) (r9 : Int32), (∀ I' : zI, frMo s I I' → zDe I' B n k j → Q I' J) → frMo s I I18 → I18 361 19 = nI s → zDe I18 B n k j → (vp_in (I18 361 19) 2 ∧ (v_M_endsName 5000 r9 ((10 : Int32) + (I18 374 ((I18 361 19)).toNatClampNeg)) I18 J (fun I20 J20 => ((¬ (I20 361 13) = 0 → Q I20 J20) ∧ ((I20 361 13) = 0 → (vp_in (I20 361 19) 2 ∧ (∀ I23 : zI, I23 = qu I20 374 ((I20 361 19)).toNatClampNeg ((I20 374 ((I20 361 19)).toNatClampNeg) + (1 : Int32)) → Q I23 J20))))))) := fun k j I18 r9 hb f18 e18 d18 => by
    rw [e18]
    exact ⟨vp_in_nI hs (by decide), m_ends_d d18 (z_nr (fun z => d18.ne z) (hb I18 f18 d18))⟩
  have dD : ∀ (k j : Nat) (I14 : zI) (r9 : Int32), (∀ I' : zI, frMo s I I' → zDe I' B n k j → Q I' J) → frMo s I I14 → I14 361 19 = nI s → zDe I14 B n k j → (v_M_bounded 5000 (0 : Int32) (9 : Int32) I14 J (fun r15 I16 J16 => (vp_in (nI (6 * s + (gP g).1)) 12 ∧ ∀ I18 : zI, I18 = qu I16 376 (6 * s + (gP g).1) r15 → (vp_in (I18 361 19) 2 ∧ (v_M_endsName 5000 r9 ((10 : Int32) + (I18 374 ((I18 361 19)).toNatClampNeg)) I18 J16 (fun I20 J20 => ((¬ (I20 361 13) = 0 → Q I20 J20) ∧ ((I20 361 13) = 0 → (vp_in (I20 361 19) 2 ∧ (∀ I23 : zI, I23 = qu I20 374 ((I20 361 19)).toNatClampNeg ((I20 374 ((I20 361 19)).toNatClampNeg) + (1 : Int32)) → Q I23 J20)))))))))) := fun k j I14 r9 hb f14 e14 d14 => m_bounded_d d14 ⟨vy, fun I18 e18 => by
    have o18 : ∀ a l, ¬ (a = 376 ∧ l = 6 * s + (gP g).1) → I18 a l = I14 a l := fun a l q => by rw [e18, qu_off (by omega)]
    exact dE k j I18 r9 hb (f14.tr (frMo.cell (by omega) o18)) (by rw [o18 _ _ (by omega)]; exact e14) (d14.kept (fun l q => o18 _ _ (by omega)))⟩
  refine m_named (g := g) (af := af) hn m5 (hN.kept (o5 _ _ (by omega)) (fun j => o5 _ _ (by omega)) rfl) (by omega) (hW.kept (fun l q => o5 _ _ (by omega))) (hWb.up (by omega)) (fun i2 e2 I10 o10 m10 w10 => ?_) (fun k j ej I10 o10 d10 => m_bounded_d d10 ⟨vy, fun I14 e14 => ?_⟩)
  · rw [e2, zbi_r] at hok hbad
    have q2 := (zpass_r e2).2.2
    have k2 := (zpass_r e2).1
    have p2 := pp (t := i1) (by omega)
    rw [← q2] at p2
    have f10 : frMo s I I10 := (fx o5).tr (fr5.mo o10)
    refine m_bounded (m := 99) hn m10 w10 (by decide) ((hWb.up (Nat.le_of_lt p1)).ite p2) (fun i3 e3 I12 o12 m12 w12 => ⟨vy, fun I14 e14 => ?_⟩) (fun k j ej I12 r11 o12 d12 => ⟨vy, fun I14 e14 => ?_⟩)
    · rw [e3, zbi_r] at hok hbad
      have q3 := (zpass_r e3).2.2
      have k3 := (zpass_r e3).1
      have p3 := pp (t := i2) (by omega)
      rw [← q3] at p3
      have o14 : ∀ a l, ¬ (a = 375 ∧ l = 6 * s + (gP g).1) → I14 a l = I12 a l := fun a l q => by rw [e14, qu_off (by omega)]
      have f14 : frMo s I I14 := (f10.tr (fr5.mo o12)).tr (frMo.cell (by omega) o14)
      have wb3 := ((hWb.up (Nat.le_of_lt p1)).ite (c := ztold g (tV B n i1) = true) (k := 3) p2).num (m := 99) p3
      refine m_bounded (m := 9) hn (m12.kept (fun b l q => o14 b l (by omega)) (fun _ => rfl)) (w12.kept (fun l q => o14 _ _ (by omega))) (by decide) wb3 (fun i4 e4 I16 o16 m16 w16 => ⟨vy, fun I18 e18 => ?_⟩) (fun k j ej I16 r15 o16 d16 => ⟨vy, fun I18 e18 => ?_⟩)
      · rw [e4, zbi_r] at hok hbad
        have q4 := (zpass_r e4).2.2
        have k4 := (zpass_r e4).1
        have p4 := pp (t := i3) (by omega)
        rw [← q4] at p4
        have wb4 := wb3.num (m := 9) p4
        have o18 : ∀ a l, ¬ (a = 376 ∧ l = 6 * s + (gP g).1) → I18 a l = I16 a l := fun a l q => by rw [e18, qu_off (by omega)]
        have x18 : ∀ a l, ¬ (a = 361 ∧ (l = 11 ∨ l = 13 ∨ l = 14 ∨ l = 15 ∨ l = 16)) → ¬ ((a = 375 ∨ a = 376) ∧ l = 6 * s + (gP g).1) → I18 a l = I a l := fun a l q1 q2 => by rw [o18 a l (by omega), o16 a l q1, o14 a l (by omega), o12 a l q1, o10 a l q1, o5 a l (by omega)]
        have f18 : frMo s I I18 := (f14.tr (fr5.mo o16)).tr (frMo.cell (by omega) o18)
        have m18 : zM I18 J B n s i4 := m16.kept (fun b l q => o18 b l (by omega)) (fun _ => rfl)
        rw [m18.2.2.1, nI_clamp (by omega), x18 374 s (by omega) (by omega), (hP).1, show (10 : Int32) + nI (gP g).1 = nI (10 + (gP g).1) from nI_add 10 _]
        refine ⟨vp_in_nI hs (by decide), m_ends (t := i1) (N := (gH g).1 + (gP g).1) m18 m5.2.2.2.2.2.1 (by rw [x18 _ _ (by omega) (by omega)]; exact hN.1) (by omega) (m5.tk.2.2.2 k2) (fun i5 e5 I20 J20 o20 j20 m20 n20 a20 w20 => z_yr m20.2.1 ?_) (fun k j ej I20 o20 d20 => z_nr (fun z => d20.ne z) (hbad k j (by rw [ej]; rfl) I20 (f18.tr o20.mo) d20))⟩
        rw [e5, zbi_r] at hok hbad
        have q5 := (zpass_r e5).2.2
        have k5 := (zpass_r e5).1
        have p5 := pp (t := i4) (by omega)
        rw [← q5] at p5
        have eC : I20 374 s = nI (gP g).1 := by rw [o20 _ _ (by omega) (by omega), x18 _ _ (by omega) (by omega)]; exact (hP).1
        rw [m20.2.2.1, nI_clamp (by omega), eC, nI_1]
        refine ⟨vp_in_nI hs (by decide), fun I23 e23 => ?_⟩
        have o23 : ∀ a l, ¬ (a = 374 ∧ l = s) → I23 a l = I20 a l := fun a l q => by rw [e23, qu_off (by omega)]
        have x23 : ∀ a l, ¬ (a = 361 ∧ (l = 11 ∨ l = 13 ∨ l = 14 ∨ l = 15 ∨ l = 16 ∨ l = 20)) → ¬ ((a = 375 ∨ a = 376) ∧ l = 6 * s + (gP g).1) → ¬ (a = 370 ∧ l = (gH g).1 + (gP g).1) → ¬ (a = 374 ∧ l = s) → I23 a l = I a l := fun a l q1 q2 q3 q4 => by rw [o23 a l q4, o20 a l (by omega) q3, x18 a l (by omega) q2]
        have f20 : frMo s I18 I20 := fun b l q => o20 b l (fun z => q (Or.inl ⟨z.1, by have := z.2; omega⟩)) (fun z => q (Or.inr (Or.inl z.1)))
        have f23 : frMo s I I23 := (f18.tr f20).tr (frMo.cell (by omega) o23)
        have hB23 : zBm2 I23 374 375 376 6 s 6 ((gP g).1 + 1, zud (gP g).2.1 (gP g).1 (tV B n i1), zud (gP g).2.2.1 (gP g).1 (tV B n i2).toInt32, zud (gP g).2.2.2 (gP g).1 (tV B n i3).toInt32) := by
          refine ⟨by rw [e23, qu_same], hlt, fun j hj => ?_⟩
          have hj' : j < (gP g).1 + 1 := hj
          by_cases e : j = (gP g).1
          · subst e
            refine ⟨?_, ?_⟩
            · show _ = zud _ _ _ _
              rw [zud_s, o23 _ _ (by omega), o20 _ _ (by omega) (by omega), o18 _ _ (by omega), o16 _ _ (by omega), e14, qu_same]
            · show _ = zud _ _ _ _
              rw [zud_s, o23 _ _ (by omega), o20 _ _ (by omega) (by omega), e18, qu_same]
          · obtain ⟨g1, g2⟩ := (hP).2.2 j (by omega)
            refine ⟨?_, ?_⟩
            · show _ = zud _ _ _ _
              rw [zud_n e, x23 _ _ (by omega) (by omega) (by omega) (by omega)]; exact g1
            · show _ = zud _ _ _ _
              rw [zud_n e, x23 _ _ (by omega) (by omega) (by omega) (by omega)]; exact g2
        refine hok _ rfl I23 J20 o b (zud af ((gH g).1 + (gP g).1) (10 + (gP g).1)) f23 (fun b l q => j20 b l (by omega)) (m20.kept (fun b l q => o23 b l (by omega)) (fun _ => rfl)) ⟨hH.kept (x23 _ _ (by omega) (by omega) (by omega) (by omega)) (fun j => x23 _ _ (by omega) (by omega) (by omega) (by omega)) (fun j => x23 _ _ (by omega) (by omega) (by omega) (by omega)), hB23, zNm_P hN rfl rfl rfl hlt (by rw [o23 _ _ (by omega)]; exact n20) (by rw [o23 _ _ (by omega)]; exact a20) w20 (fun k hk => x23 _ _ (by omega) (by omega) (by omega) (by omega)) (fun k hk => j20 _ _ (by omega)), hHg.kept (x23 _ _ (by omega) (by omega) (by omega) (by omega)) (fun j => x23 _ _ (by omega) (by omega) (by omega) (by omega)), hML.kept (fun a j q1 q2 => x23 _ _ (by omega) (by omega) (by omega) (by omega)), ⟨by rw [x23 _ _ (by omega) (by omega) (by omega) (by omega)]; exact hMo.1, by rw [x23 _ _ (by omega) (by omega) (by omega) (by omega)]; exact hMo.2⟩, ⟨w16.kept (fun l q => by rw [o23 _ _ (by omega), o20 _ _ (by omega) (by omega), o18 _ _ (by omega)]), wb4.up (Nat.le_of_lt p5)⟩, by rw [x23 _ _ (by omega) (by omega) (by omega) (by omega)]; exact h12, ⟨by rw [x23 _ _ (by omega) (by omega) (by omega) (by omega)]; exact h41, ho1, by show _ ≤ 420 * s + i5; omega⟩, ⟨by rw [x23 _ _ (by omega) (by omega) (by omega) (by omega)]; exact h35, hb1, by show _ ≤ 520 * s + i5; omega⟩, fun p hp => hon p (by have hp' : (gP g).1 + 1 ≤ p := hp; omega)⟩ (by show i < i5; omega)
      · have o18 : ∀ a l, ¬ (a = 376 ∧ l = 6 * s + (gP g).1) → I18 a l = I16 a l := fun a l q => by rw [e18, qu_off (by omega)]
        exact dE k j I18 _ (hbad k j (by rw [ej]; rfl)) ((f14.tr (fr5.mo o16)).tr (frMo.cell (by omega) o18)) (by rw [o18 _ _ (by omega), o16 _ _ (by omega), o14 _ _ (by omega)]; exact m12.2.2.1) (d16.kept (fun l q => o18 _ _ (by omega)))
    · have o14 : ∀ a l, ¬ (a = 375 ∧ l = 6 * s + (gP g).1) → I14 a l = I12 a l := fun a l q => by rw [e14, qu_off (by omega)]
      exact dD k j I14 _ (hbad k j (by rw [ej]; rfl)) ((f10.tr (fr5.mo o12)).tr (frMo.cell (by omega) o14)) (by rw [o14 _ _ (by omega), o12 _ _ (by omega)]; exact m10.2.2.1) (d12.kept (fun l q => o14 _ _ (by omega)))
  · have o14 : ∀ a l, ¬ (a = 375 ∧ l = 6 * s + (gP g).1) → I14 a l = I10 a l := fun a l q => by rw [e14, qu_off (by omega)]
    exact dD k j I14 _ (hbad k j (by rw [ej]; rfl)) (((fx o5).tr (fx o10)).tr (frMo.cell (by omega) o14)) (by rw [o14 _ _ (by omega), o10 _ _ (by omega)]; exact m5.2.2.1) (d10.kept (fun l q => o14 _ _ (by omega)))
theorem m_tMoth {I : zI} {J : zJ} {i o b : Nat} {g : zG} {af : Nat → Nat} (hn : n ≤ 2000) (hM : zM I J B n s i) (hG : zGm I J B n s i g o b af) (hk : tK B n i = 263) {Q : zI → zJ → Prop} (hok : ∀ a, ztl (tK B n) (tV B n) (zpsn B n) g i = .inr a → ∀ (I' : zI) (J' : zJ) (o' b' : Nat) (af' : Nat → Nat), frMo s I I' → frMJ J J' → zM I' J' B n s a.1 → zGm I' J' B n s a.1 a.2 o' b' af' → i < a.1 → Q I' J') (hbad : ∀ k j, ztl (tK B n) (tV B n) (zpsn B n) g i = .inl (k, j) → ∀ I' : zI, frMo s I I' → zDe I' B n k j → Q I' J) : (v_M_goesOn 5000  I J (fun I79 J79 => (v_M_bounded 5000 (0 : Int32) (100 : Int32) I79 J79 (fun r80 I81 J81 => (vp_in (I79 361 19) 2 ∧ ∀ I83 : zI, I83 = qu I81 379 ((I79 361 19)).toNatClampNeg r80 → (v_M_must 5000 (4 : Int32) I83 J81 (fun I84 J84 => Q I84 J84))))))) := by
  obtain ⟨hH, hP, hN, hHg, hML, hMo, ⟨hW, hWb⟩, h12, ⟨h41, ho1, ho2⟩, ⟨h35, hb1, hb2⟩, hon⟩ := id hG
  have hs := hM.2.2.2.1
  have pp : ∀ {t : Nat}, tK B n t ≠ 1 → zpsn B n t < zpsn B n (t + 1) := fun h => zpsn_lt h
  unfold ztl at hok hbad
  rw [if_neg (by omega), if_neg (by omega), if_neg (by omega), if_pos hk] at hok hbad
  unfold zone at hok hbad
  refine m_goesOn hM (by omega) (fun i1 e1 I1 o1 m1 => ?_) (fun k j ej I1 o1 d1 => ?_)
  · rw [e1, zbi_r] at hok hbad
    have q1 := (zgo_r e1).2
    have p1 := pp (t := i) (by omega)
    rw [← q1] at p1
    have wb1 : zWb (gW g) (zpsn B n i1) := hWb.up (Nat.le_of_lt p1)
    rw [m1.2.2.1, nI_clamp (by omega)]
    refine m_bounded (m := 100) hn m1 (hW.kept (fun l q => o1 _ _ (by omega))) (by decide) wb1 (fun i2 e2 I2 o2 m2 w2 => ⟨vp_in_nI hs (by decide), fun I3 e3 => ?_⟩) (fun k j ej I2 r o2 d2 => ⟨vp_in_nI hs (by decide), fun I3 e3 => ?_⟩)
    · rw [e2, zbi_r] at hok hbad
      have q2 := (zpass_r e2).2.2
      have k2 := (zpass_r e2).1
      have p2 := pp (t := i1) (by omega)
      rw [← q2] at p2
      have wb2 := wb1.num (m := 100) p2
      have o3 : ∀ a l, ¬ (a = 379 ∧ l = s) → I3 a l = I2 a l := fun a l q => by rw [e3, qu_off (by omega)]
      refine m_must (m2.kept (fun b l q => o3 b l (by omega)) (fun _ => rfl)) (c := 59) rfl (by unfold zkv; omega) (by decide) (fun i3 e4 I4 o4 m4 => ?_) (fun k j ej I4 o4 d4 => hbad k j (by rw [ej]; rfl) I4 (((o1.mo.tr (fr5.mo o2)).tr (frMo.cell (by omega) o3)).tr o4.mo) d4)
      rw [e4, zbi_r] at hok hbad
      have q4 := (zpass_r e4).2.2
      have k4 := (zpass_r e4).1
      have p4 := pp (t := i2) (by omega)
      rw [← q4] at p4
      have x4 : ∀ a l, ¬ (a = 361 ∧ (l = 11 ∨ l = 13 ∨ l = 14 ∨ l = 15 ∨ l = 16)) → ¬ (a = 379 ∧ l = s) → I4 a l = I a l := fun a l q1 q2 => by rw [o4 a l (by omega), o3 a l q2, o2 a l q1, o1 a l (by omega)]
      refine hok _ rfl I4 J o b af (((o1.mo.tr (fr5.mo o2)).tr (frMo.cell (by omega) o3)).tr o4.mo) (fun _ _ _ => rfl) m4 ⟨hH.kept (x4 _ _ (by omega) (by omega)) (fun j => x4 _ _ (by omega) (by omega)) (fun j => x4 _ _ (by omega) (by omega)), hP.kept (x4 _ _ (by omega) (by omega)) (fun j => x4 _ _ (by omega) (by omega)) (fun j => x4 _ _ (by omega) (by omega)), hN.kept (x4 _ _ (by omega) (by omega)) (fun j => x4 _ _ (by omega) (by omega)) rfl, hHg.kept (x4 _ _ (by omega) (by omega)) (fun j => x4 _ _ (by omega) (by omega)), hML.kept (fun a j q1 q2 => x4 _ _ (by omega) (by omega)), ⟨by rw [o4 _ _ (by omega), e3, qu_same]; rfl, by rw [x4 _ _ (by omega) (by omega)]; exact hMo.2⟩, ⟨w2.kept (fun l q => by rw [o4 _ _ (by omega), o3 _ _ (by omega)]), wb2.up (Nat.le_of_lt p4)⟩, by rw [x4 _ _ (by omega) (by omega)]; exact h12, ⟨by rw [x4 _ _ (by omega) (by omega)]; exact h41, ho1, by show _ ≤ 420 * s + i3; omega⟩, ⟨by rw [x4 _ _ (by omega) (by omega)]; exact h35, hb1, by show _ ≤ 520 * s + i3; omega⟩, hon⟩ (by show i < i3; omega)
    · have o3 : ∀ a l, ¬ (a = 379 ∧ l = s) → I3 a l = I2 a l := fun a l q => by rw [e3, qu_off (by omega)]
      have d3 := d2.kept (I' := I3) (fun l q => o3 _ _ (by omega))
      exact m_must_d d3 (hbad k j (by rw [ej]; rfl) I3 ((o1.mo.tr (fr5.mo o2)).tr (frMo.cell (by omega) o3)) d3)
  · refine m_bounded_d d1 ?_
    rw [o1 _ _ (by omega), hM.2.2.1, nI_clamp (by omega)]
    refine ⟨vp_in_nI hs (by decide), fun I3 e3 => ?_⟩
    have o3 : ∀ a l, ¬ (a = 379 ∧ l = s) → I3 a l = I1 a l := fun a l q => by rw [e3, qu_off (by omega)]
    have d3 := d1.kept (I' := I3) (fun l q => o3 _ _ (by omega))
    exact m_must_d d3 (hbad k j (by rw [ej]; rfl) I3 (o1.mo.tr (frMo.cell (by omega) o3)) d3)
theorem m_tSeed {I : zI} {J : zJ} {i o b : Nat} {g : zG} {af : Nat → Nat} (hn : n ≤ 2000) (hM : zM I J B n s i) (hG : zGm I J B n s i g o b af) (hk : tK B n i = 264) {Q : zI → zJ → Prop} (hok : ∀ a, ztl (tK B n) (tV B n) (zpsn B n) g i = .inr a → ∀ (I' : zI) (J' : zJ) (o' b' : Nat) (af' : Nat → Nat), frMo s I I' → frMJ J J' → zM I' J' B n s a.1 → zGm I' J' B n s a.1 a.2 o' b' af' → i < a.1 → Q I' J') (hbad : ∀ k j, ztl (tK B n) (tV B n) (zpsn B n) g i = .inl (k, j) → ∀ I' : zI, frMo s I I' → zDe I' B n k j → Q I' J) : (v_M_goesOn 5000  I J (fun I79 J79 => (v_M_bounded 5000 (0 : Int32) (9999 : Int32) I79 J79 (fun r80 I81 J81 => (vp_in (I79 361 19) 2 ∧ ∀ I83 : zI, I83 = qu I81 380 ((I79 361 19)).toNatClampNeg r80 → (v_M_must 5000 (4 : Int32) I83 J81 (fun I84 J84 => Q I84 J84))))))) := by
  obtain ⟨hH, hP, hN, hHg, hML, hMo, ⟨hW, hWb⟩, h12, ⟨h41, ho1, ho2⟩, ⟨h35, hb1, hb2⟩, hon⟩ := id hG
  have hs := hM.2.2.2.1
  have pp : ∀ {t : Nat}, tK B n t ≠ 1 → zpsn B n t < zpsn B n (t + 1) := fun h => zpsn_lt h
  unfold ztl at hok hbad
  rw [if_neg (by omega), if_neg (by omega), if_neg (by omega), if_neg (by omega), if_pos hk] at hok hbad
  unfold zone at hok hbad
  refine m_goesOn hM (by omega) (fun i1 e1 I1 o1 m1 => ?_) (fun k j ej I1 o1 d1 => ?_)
  · rw [e1, zbi_r] at hok hbad
    have q1 := (zgo_r e1).2
    have p1 := pp (t := i) (by omega)
    rw [← q1] at p1
    have wb1 : zWb (gW g) (zpsn B n i1) := hWb.up (Nat.le_of_lt p1)
    rw [m1.2.2.1, nI_clamp (by omega)]
    refine m_bounded (m := 9999) hn m1 (hW.kept (fun l q => o1 _ _ (by omega))) (by decide) wb1 (fun i2 e2 I2 o2 m2 w2 => ⟨vp_in_nI hs (by decide), fun I3 e3 => ?_⟩) (fun k j ej I2 r o2 d2 => ⟨vp_in_nI hs (by decide), fun I3 e3 => ?_⟩)
    · rw [e2, zbi_r] at hok hbad
      have q2 := (zpass_r e2).2.2
      have k2 := (zpass_r e2).1
      have p2 := pp (t := i1) (by omega)
      rw [← q2] at p2
      have wb2 := wb1.num (m := 9999) p2
      have o3 : ∀ a l, ¬ (a = 380 ∧ l = s) → I3 a l = I2 a l := fun a l q => by rw [e3, qu_off (by omega)]
      refine m_must (m2.kept (fun b l q => o3 b l (by omega)) (fun _ => rfl)) (c := 59) rfl (by unfold zkv; omega) (by decide) (fun i3 e4 I4 o4 m4 => ?_) (fun k j ej I4 o4 d4 => hbad k j (by rw [ej]; rfl) I4 (((o1.mo.tr (fr5.mo o2)).tr (frMo.cell (by omega) o3)).tr o4.mo) d4)
      rw [e4, zbi_r] at hok hbad
      have q4 := (zpass_r e4).2.2
      have k4 := (zpass_r e4).1
      have p4 := pp (t := i2) (by omega)
      rw [← q4] at p4
      have x4 : ∀ a l, ¬ (a = 361 ∧ (l = 11 ∨ l = 13 ∨ l = 14 ∨ l = 15 ∨ l = 16)) → ¬ (a = 380 ∧ l = s) → I4 a l = I a l := fun a l q1 q2 => by rw [o4 a l (by omega), o3 a l q2, o2 a l q1, o1 a l (by omega)]
      refine hok _ rfl I4 J o b af (((o1.mo.tr (fr5.mo o2)).tr (frMo.cell (by omega) o3)).tr o4.mo) (fun _ _ _ => rfl) m4 ⟨hH.kept (x4 _ _ (by omega) (by omega)) (fun j => x4 _ _ (by omega) (by omega)) (fun j => x4 _ _ (by omega) (by omega)), hP.kept (x4 _ _ (by omega) (by omega)) (fun j => x4 _ _ (by omega) (by omega)) (fun j => x4 _ _ (by omega) (by omega)), hN.kept (x4 _ _ (by omega) (by omega)) (fun j => x4 _ _ (by omega) (by omega)) rfl, hHg.kept (x4 _ _ (by omega) (by omega)) (fun j => x4 _ _ (by omega) (by omega)), hML.kept (fun a j q1 q2 => x4 _ _ (by omega) (by omega)), ⟨by rw [x4 _ _ (by omega) (by omega)]; exact hMo.1, by rw [o4 _ _ (by omega), e3, qu_same]; rfl⟩, ⟨w2.kept (fun l q => by rw [o4 _ _ (by omega), o3 _ _ (by omega)]), wb2.up (Nat.le_of_lt p4)⟩, by rw [x4 _ _ (by omega) (by omega)]; exact h12, ⟨by rw [x4 _ _ (by omega) (by omega)]; exact h41, ho1, by show _ ≤ 420 * s + i3; omega⟩, ⟨by rw [x4 _ _ (by omega) (by omega)]; exact h35, hb1, by show _ ≤ 520 * s + i3; omega⟩, hon⟩ (by show i < i3; omega)
    · have o3 : ∀ a l, ¬ (a = 380 ∧ l = s) → I3 a l = I2 a l := fun a l q => by rw [e3, qu_off (by omega)]
      have d3 := d2.kept (I' := I3) (fun l q => o3 _ _ (by omega))
      exact m_must_d d3 (hbad k j (by rw [ej]; rfl) I3 ((o1.mo.tr (fr5.mo o2)).tr (frMo.cell (by omega) o3)) d3)
  · refine m_bounded_d d1 ?_
    rw [o1 _ _ (by omega), hM.2.2.1, nI_clamp (by omega)]
    refine ⟨vp_in_nI hs (by decide), fun I3 e3 => ?_⟩
    have o3 : ∀ a l, ¬ (a = 380 ∧ l = s) → I3 a l = I1 a l := fun a l q => by rw [e3, qu_off (by omega)]
    have d3 := d1.kept (I' := I3) (fun l q => o3 _ _ (by omega))
    exact m_must_d d3 (hbad k j (by rw [ej]; rfl) I3 (o1.mo.tr (frMo.cell (by omega) o3)) d3)
end
