/-! reading: the reference's loop and all of it -/
section
variable {B : Nat → Nat} {n s : Nat}
theorem zmk_w {k : Nat} (h : 256 ≤ k) : zmk k = k - 236 := by
  unfold zmk
  repeat rw [if_neg (by omega)]
theorem zmk_nw {k : Nat} (hv : zkv k) (h : k < 256) : zmk k < 20 := by
  unfold zkv at hv
  rcases hv with h | h | h | h | (h | h | h | h | h | h | h | h | h) | h
  all_goals first
    | (subst h; decide)
    | omega
theorem m_tellOne {I : zI} {J : zJ} {i o b : Nat} {g : zG} {af : Nat → Nat} (hn : n ≤ 2000) (hM : zM I J B n s i) (hG : zGm I J B n s i g o b af) {Q : zI → zJ → Prop} (hok : ∀ a, ztl (tK B n) (tV B n) (zpsn B n) g i = .inr a → ∀ (I' : zI) (J' : zJ) (o' b' : Nat) (af' : Nat → Nat), frMo s I I' → frMJ J J' → zM I' J' B n s a.1 → zGm I' J' B n s a.1 a.2 o' b' af' → i < a.1 → Q I' J') (hbad : ∀ k j, ztl (tK B n) (tV B n) (zpsn B n) g i = .inl (k, j) → ∀ I' : zI, frMo s I I' → zDe I' B n k j → Q I' J) : v_M_tellOne 5000 I J Q := by
  have hs := hM.2.2.2.1
  have h400 := hM.2.2.2.2.2.1
  have hv := tK_v B n i
  have hlt := tK_lt B n i
  have hz := zmk_lt hv
  have v2 : vp_in (I 361 19) 2 := by rw [hM.2.2.1]; exact vp_in_nI hs (by decide)
  have e364 : I 364 ((I 361 11)).toNatClampNeg = nI (zmk (tK B n i)) := by rw [hM.1, nI_clamp (by omega)]; exact hM.tk.1
  have is : ∀ m, m < 100 → (nI (zmk (tK B n i)) = nI m ↔ zmk (tK B n i) = m) := fun m hm => nI_eq (by omega) (by omega)
  have kd : ∀ m, 20 ≤ m → zmk (tK B n i) = m → tK B n i = m + 236 := fun m hm e => by
    rcases Nat.lt_or_ge (tK B n i) 256 with z | z
    · have := zmk_nw hv z; omega
    · have := zmk_w z; omega
  have dflt : (tK B n i ≠ 256 ∧ tK B n i ≠ 257 ∧ tK B n i ≠ 258 ∧ tK B n i ≠ 263 ∧ tK B n i ≠ 264) → (∀ y92 : Int32, y92 = (nI (zmk (tK B n i)) - (23 : Int32)) → ((y92 < 0 → (v_M_tellOne_397 5000 y92 I J Q )) ∧ (¬ y92 < 0 → (((nI (zmk (tK B n i))) ≤ (26 : Int32) → (((I 361 13) ≤ 0 → (v_M_goesOn 5000  I J (fun I96 J96 => (v_M_tellLaw 5000 y92 I96 J96 (fun I97 J97 => Q I97 J97))))) ∧ (¬ (I 361 13) ≤ 0 → Q I J))) ∧ (¬ (nI (zmk (tK B n i))) ≤ (26 : Int32) → (v_M_tellOne_397 5000 y92 I J Q )))))) := fun hne y ey => by
    have bad : ¬ (259 ≤ tK B n i ∧ tK B n i ≤ 262) → v_M_tellOne_397 5000 y I J Q := fun h => by
      refine m_fail (k := 1) hM (fun I' o' d' => z_n d'.nle (hbad 1 i ?_ I' o'.mo d'))
      unfold ztl
      rw [if_neg hne.1, if_neg hne.2.1, if_neg hne.2.2.1, if_neg hne.2.2.2.1, if_neg hne.2.2.2.2, if_neg h]
    by_cases hl : 259 ≤ tK B n i ∧ tK B n i ≤ 262
    · have e := zmk_w (k := tK B n i) (by omega)
      have ey2 : y = nI (tK B n i - 259) := by
        have e3 : zmk (tK B n i) - 23 = tK B n i - 259 := by omega
        rw [ey, show nI (zmk (tK B n i)) - 23 = nI (zmk (tK B n i) - 23) from nI_sub (b := 23) (by omega), e3]
      rw [ey2]
      exact z_n (nI_pos (by omega)) (z_y (nI_le (b := 26) (by omega) (by decide)) (z_y hM.le (m_tLaw hM hG hl hok hbad)))
    · rcases Nat.lt_or_ge (tK B n i) 259 with z | z
      · have h23 : zmk (tK B n i) < 23 := by
          rcases Nat.lt_or_ge (tK B n i) 256 with y | y
          · have := zmk_nw hv y; omega
          · have := zmk_w y; omega
        refine z_y ?_ (bad hl)
        rw [ey]
        exact pk_sneg (b := 23) (by decide) h23
      · have e := zmk_w (k := tK B n i) (by omega)
        exact ⟨fun _ => bad hl, fun _ => z_n (fun z => by have := (nI_leI (b := 26) (by omega) (by decide)).mp z; omega) (bad hl)⟩
  unfold v_M_tellOne
  rw [e364]
  refine ⟨by rw [hM.1]; exact vp_in_nI (by omega) (by decide), fun y ey => ?_⟩
  rw [ey]
  have k20 := fun e => kd 20 (by decide) ((is 20 (by decide)).mp e)
  have k21 := fun e => kd 21 (by decide) ((is 21 (by decide)).mp e)
  have k22 := fun e => kd 22 (by decide) ((is 22 (by decide)).mp e)
  have k23 := fun e => kd 23 (by decide) ((is 23 (by decide)).mp e)
  have k24 := fun e => kd 24 (by decide) ((is 24 (by decide)).mp e)
  have k25 := fun e => kd 25 (by decide) ((is 25 (by decide)).mp e)
  have k26 := fun e => kd 26 (by decide) ((is 26 (by decide)).mp e)
  have k27 := fun e => kd 27 (by decide) ((is 27 (by decide)).mp e)
  have k28 := fun e => kd 28 (by decide) ((is 28 (by decide)).mp e)
  refine ⟨fun q => ⟨v2, m_tHanger hn hM hG (k20 q) hok hbad⟩, fun q20 => ⟨fun q => ⟨v2, m_tPerson hn hM hG (k21 q) hok hbad⟩, fun q21 => ⟨fun q => ⟨v2, m_tHangs hn hM hG (k22 q) hok hbad⟩, fun q22 => ⟨fun q => dflt ?_, fun _ => ⟨fun q => dflt ?_, fun _ => ⟨fun q => dflt ?_, fun _ => ⟨fun q => dflt ?_, fun _ => ⟨fun q => m_tMoth hn hM hG (k27 q) hok hbad, fun q27 => ⟨fun q => m_tSeed hn hM hG (k28 q) hok hbad, fun q28 => dflt ?_⟩⟩⟩⟩⟩⟩⟩⟩⟩
  · have := k23 q; omega
  · have := k24 q; omega
  · have := k25 q; omega
  · have := k26 q; omega
  · have e : ∀ m, 256 ≤ m → m < 277 → tK B n i = m → nI (zmk (tK B n i)) = nI (m - 236) := fun m h1 h2 e => by rw [zmk_w (by omega), e]
    refine ⟨fun z => q20 (e 256 (by decide) (by decide) z), fun z => q21 (e 257 (by decide) (by decide) z), fun z => q22 (e 258 (by decide) (by decide) z), fun z => q27 (e 263 (by decide) (by decide) z), fun z => q28 (e 264 (by decide) (by decide) z)⟩
theorem m_112 {Q : Int32 → zI → zJ → Prop} {K : zI → zJ → Prop} (hn : n ≤ 2000) : ∀ r i k g o b af (I : zI) (J : zJ), zM I J B n s i → zGm I J B n s i g o b af → 401 ≤ i + r → r + 1 < k → (∀ g', zall (tK B n) (tV B n) (zpsn B n) r i g = .inr g' → ∀ (I' : zI) (J' : zJ) (i' o' b' : Nat) (af' : Nat → Nat), frMo s I I' → frMJ J J' → zM I' J' B n s i' → zGm I' J' B n s i' g' o' b' af' → K I' J') → (∀ k j, zall (tK B n) (tV B n) (zpsn B n) r i g = .inl (k, j) → ∀ (I' : zI) (J' : zJ), frMo s I I' → frMJ J J' → zDe I' B n k j → K I' J') → v_M_read_112 5000 k I J Q K
  | 0, i, k, g, o, b, af, I, J, hM, hG, hr, hk, hok, hbad => absurd hM.2.2.2.2.2.1 (by omega)
  | r + 1, i, 0, g, o, b, af, I, J, hM, hG, hr, hk, hok, hbad => absurd hk (Nat.not_lt_zero _)
  | r + 1, i, k + 1, g, o, b, af, I, J, hM, hG, hr, hk, hok, hbad => by
    rw [zall] at hok hbad
    obtain ⟨k', rfl⟩ : ∃ k', k = k' + 1 := ⟨k - 1, by omega⟩
    rw [v_M_read_112]
    refine z_yr hM.2.1 (m_is hM (c := 1) (m := 0) rfl (by unfold zkv; omega) (fun q => z_nr z_10 ?_) (fun q => z_yr z_00 ?_))
    · rw [if_pos q] at hok
      exact hok g rfl I J i o b af (fun _ _ _ => rfl) (fun _ _ _ => rfl) hM hG
    · rw [if_neg q] at hok hbad
      refine m_tellOne hn hM hG (fun a ea I1 J1 o1 b1 af1 f1 j1 m1 g1 hlt => ?_) (fun k2 j2 ej I1 f1 d1 => ?_)
      · rw [ea, zbi_r] at hok hbad
        exact m_112 hn r a.1 (k' + 1) a.2 o1 b1 af1 I1 J1 m1 g1 (by omega) (by omega) (fun g' eg I' J' i' o' b' af' f' j' => hok g' eg I' J' i' o' b' af' (f1.tr f') (fun b l q => by rw [j' b l q, j1 b l q])) (fun k2 j2 e2 I' J' f' j' d' => hbad k2 j2 e2 I' J' (f1.tr f') (fun b l q => by rw [j' b l q, j1 b l q]) d')
      · rw [ej, zbi_l] at hbad
        rw [v_M_read_112]
        exact z_nr (fun z => d1.ne z) (hbad k2 j2 rfl I1 J f1 (fun _ _ _ => rfl) d1)
/-! before and behind the loop -/
theorem m_read10 {J : zJ} {m : Nat} (hm : m ≤ 2000) {Q : Int32 → zI → zJ → Prop} {K : zI → zJ → Prop} : ∀ r i k (I : zI), I 361 4 = nI m → i + r = m → r < k → (∀ I' : zI, (∀ b l, b ≠ 363 → I' b l = I b l) → (∀ j, j < i → I' 363 j = I 363 j) → (∀ j, i ≤ j → j < m → I' 363 j = (I 362 j).toInt8.toInt32) → K I' J) → v_M_read_10 5000 k (nI i) I J Q K
  | _, _, 0, _, _, _, hk, _ => absurd hk (Nat.not_lt_zero _)
  | 0, i, k + 1, I, h4, hi, hk, hq => by
    rw [v_M_read_10]; dsimp only; rw [h4]
    exact z_y (nI_le (by omega) (by omega)) (hq I (fun _ _ _ => rfl) (fun _ _ => rfl) (fun j h1 h2 => absurd h1 (by omega)))
  | r + 1, i, k + 1, I, h4, hi, hk, hq => by
    rw [v_M_read_10]; dsimp only; rw [h4, nI_clamp (by omega), vp_nar_byte, nI_1]
    refine z_n (nI_ge (by omega) (by omega)) ⟨vp_in_nI (by omega) (by decide), vp_in_nI (by omega) (by decide), fun I4 e4 => ?_⟩
    have o4 : ∀ b l, ¬ (b = 363 ∧ l = i) → I4 b l = I b l := fun b l q => by rw [e4, qu_off (by omega)]
    refine m_read10 hm r (i + 1) k I4 (by rw [o4 _ _ (by omega)]; exact h4) (by omega) (by omega) (fun I' o' g' f' => hq I' (fun b l q => by rw [o' b l q, o4 b l (by omega)]) (fun j hj => by rw [g' j (by omega), o4 _ _ (by omega)]) (fun j h1 h2 => ?_))
    by_cases e : j = i
    · subst e; rw [g' j (by omega), e4, qu_same]
    · rw [f' j (by omega) h2, o4 _ _ (by omega)]
theorem m_plain37 {J : zJ} (hs : s < 2) {Q : zI → zJ → Prop} {K : Int32 → zI → zJ → Prop} : ∀ r i k (I : zI), i + r = 6 → r < k → (∀ p, p < i → I 377 (6 * s + p) = -2) → (∀ I' : zI, (∀ b l, ¬ (b = 377 ∧ 6 * s ≤ l ∧ l < 6 * s + 6) → I' b l = I b l) → (∀ p, p < 6 → I' 377 (6 * s + p) = -2) → K (nI s) I' J) → v_M_plain_37 5000 k (nI s) (nI i) I J Q K
  | _, _, 0, _, _, hk, _, _ => absurd hk (Nat.not_lt_zero _)
  | 0, i, k + 1, I, hi, hk, hd, hq => z_y (nI_le (a := 6) (by omega) (by omega)) (hq I (fun _ _ _ => rfl) (fun p hp => hd p (by omega)))
  | r + 1, i, k + 1, I, hi, hk, hd, hq => by
    rw [v_M_plain_37]; dsimp only; rw [z_m6, nI_clamp (by omega), nI_1]
    refine z_n (nI_ge (b := 6) (by omega) (by decide)) ⟨vp_in_nI (by omega) (by decide), fun I3 e3 => ?_⟩
    have o3 : ∀ b l, ¬ (b = 377 ∧ l = 6 * s + i) → I3 b l = I b l := fun b l q => by rw [e3, qu_off (by omega)]
    refine m_plain37 hs r (i + 1) k I3 (by omega) (by omega) (fun p hp => ?_) (fun I' o' h' => hq I' (fun b l q => by rw [o' b l q, o3 b l (by omega)]) h')
    by_cases e : p = i
    · subst e; rw [e3, qu_same]
    · rw [o3 _ _ (by omega)]; exact hd p (by omega)
theorem m_plain64 {J : zJ} (hs : s < 2) {Q : zI → zJ → Prop} : ∀ r i k (I : zI), i + r = 4 → r < k → (∀ p, p < i → I 381 (4 * s + p) = 0 ∧ I 382 (4 * s + p) = 0) → (∀ I' : zI, (∀ b l, ¬ ((b = 381 ∨ b = 382) ∧ 4 * s ≤ l ∧ l < 4 * s + 4) → I' b l = I b l) → (∀ p, p < 4 → I' 381 (4 * s + p) = 0 ∧ I' 382 (4 * s + p) = 0) → Q I' J) → v_M_plain_64 5000 k (nI s) (nI i) I J Q
  | _, _, 0, _, _, hk, _, _ => absurd hk (Nat.not_lt_zero _)
  | 0, i, k + 1, I, hi, hk, hd, hq => z_y (nI_le (a := 4) (by omega) (by omega)) (hq I (fun _ _ _ => rfl) (fun p hp => hd p (by omega)))
  | r + 1, i, k + 1, I, hi, hk, hd, hq => by
    rw [v_M_plain_64]; dsimp only; rw [z_m4, nI_clamp (by omega), nI_1]
    refine z_n (nI_ge (b := 4) (by omega) (by decide)) ⟨vp_in_nI (by omega) (by decide), fun I3 e3 => ⟨vp_in_nI (by omega) (by decide), fun I5 e5 => ?_⟩⟩
    have o5 : ∀ b l, ¬ ((b = 381 ∨ b = 382) ∧ l = 4 * s + i) → I5 b l = I b l := fun b l q => by rw [e5, qu_off (by omega), e3, qu_off (by omega)]
    refine m_plain64 hs r (i + 1) k I5 (by omega) (by omega) (fun p hp => ?_) (fun I' o' h' => hq I' (fun b l q => by rw [o' b l q, o5 b l (by omega)]) h')
    by_cases e : p = i
    · subst e; exact ⟨by rw [e5, qu_off (by omega), e3, qu_same], by rw [e5, qu_same]⟩
    · rw [o5 _ _ (by omega), o5 _ _ (by omega)]; exact hd p (by omega)
theorem m_plain {I : zI} {J : zJ} (hs : s < 2) {Q : zI → zJ → Prop} (hq : ∀ I' : zI, (∀ b l, ¬ ((b = 371 ∨ b = 374 ∨ b = 378 ∨ b = 379 ∨ b = 380) ∧ l = s) → ¬ (b = 377 ∧ 6 * s ≤ l ∧ l < 6 * s + 6) → ¬ ((b = 381 ∨ b = 382) ∧ 4 * s ≤ l ∧ l < 4 * s + 4) → I' b l = I b l) → (∀ b, b = 371 ∨ b = 374 ∨ b = 378 ∨ b = 379 ∨ b = 380 → I' b s = 0) → (∀ p, p < 6 → I' 377 (6 * s + p) = -2) → (∀ p, p < 4 → I' 381 (4 * s + p) = 0 ∧ I' 382 (4 * s + p) = 0) → Q I' J) : v_M_plain 5000 (nI s) I J Q := by
  have v : vp_in (nI s) 2 := vp_in_nI hs (by decide)
  unfold v_M_plain
  rw [nI_clamp (by omega)]
  refine ⟨v, fun I2 e2 => ⟨v, fun I4 e4 => ⟨v, fun I6 e6 => ⟨v, fun I8 e8 => ⟨v, fun I10 e10 => ?_⟩⟩⟩⟩⟩
  have o10 : ∀ b l, ¬ ((b = 371 ∨ b = 374 ∨ b = 378 ∨ b = 379 ∨ b = 380) ∧ l = s) → I10 b l = I b l := fun b l q => by rw [e10, qu_off (by omega), e8, qu_off (by omega), e6, qu_off (by omega), e4, qu_off (by omega), e2, qu_off (by omega)]
  have v10 : ∀ b, b = 371 ∨ b = 374 ∨ b = 378 ∨ b = 379 ∨ b = 380 → I10 b s = 0 := fun b hb => by
    rcases hb with rfl | rfl | rfl | rfl | rfl
    · rw [e10, qu_off (by omega), e8, qu_off (by omega), e6, qu_off (by omega), e4, qu_off (by omega), e2, qu_same]
    · rw [e10, qu_off (by omega), e8, qu_off (by omega), e6, qu_off (by omega), e4, qu_same]
    · rw [e10, qu_off (by omega), e8, qu_off (by omega), e6, qu_same]
    · rw [e10, qu_off (by omega), e8, qu_same]
    · rw [e10, qu_same]
  refine m_plain37 hs 6 0 5000 I10 (by decide) (by decide) (fun p hp => absurd hp (Nat.not_lt_zero _)) (fun I11 o11 h11 => m_plain64 hs 4 0 5000 I11 (by decide) (by decide) (fun p hp => absurd hp (Nat.not_lt_zero _)) (fun I12 o12 h12 => hq I12 (fun b l q1 q2 q3 => by rw [o12 b l q3, o11 b l q2, o10 b l q1]) (fun b hb => by rw [o12 _ _ (by omega), o11 _ _ (by omega)]; exact v10 b hb) (fun p hp => by rw [o12 _ _ (by omega)]; exact h11 p hp) h12))
theorem m_begins2 {J : zJ} {Q K : zI → zJ → Prop} : ∀ r i k (I : zI), i + r = 32 → r < k → (∀ p, p < i → I 394 p = 0) → (∀ I' : zI, (∀ b l, b ≠ 394 → I' b l = I b l) → (∀ p, p < 32 → I' 394 p = 0) → K I' J) → v_M_begins_2 5000 k (nI i) I J Q K
  | _, _, 0, _, _, hk, _, _ => absurd hk (Nat.not_lt_zero _)
  | 0, i, k + 1, I, hi, hk, hd, hq => z_y (nI_le (a := 32) (by omega) (by omega)) (hq I (fun _ _ _ => rfl) (fun p hp => hd p (by omega)))
  | r + 1, i, k + 1, I, hi, hk, hd, hq => by
    rw [v_M_begins_2]; dsimp only; rw [nI_clamp (by omega), nI_1]
    refine z_n (nI_ge (b := 32) (by omega) (by decide)) ⟨vp_in_nI (by omega) (by decide), fun I3 e3 => ?_⟩
    refine m_begins2 r (i + 1) k I3 (by omega) (by omega) (fun p hp => ?_) (fun I' o' h' => hq I' (fun b l q => by rw [o' b l q, e3, qu_off (Or.inl q)]) h')
    by_cases e : p = i
    · subst e; rw [e3, qu_same]
    · rw [e3, qu_off (Or.inr e)]; exact hd p (by omega)
theorem m_begins23 {J : zJ} {Q K : zI → zJ → Prop} : ∀ r i k (I : zI), i + r = 6 → r < k → (∀ p, p < i → I 394 (6 + p) = -2 ∧ I 394 (12 + p) = nI p) → (∀ I' : zI, (∀ b l, ¬ (b = 394 ∧ 6 ≤ l ∧ l < 18) → I' b l = I b l) → (∀ p, p < 6 → I' 394 (6 + p) = -2 ∧ I' 394 (12 + p) = nI p) → K I' J) → v_M_begins_23 5000 k (nI i) I J Q K
  | _, _, 0, _, _, hk, _, _ => absurd hk (Nat.not_lt_zero _)
  | 0, i, k + 1, I, hi, hk, hd, hq => z_y (nI_le (a := 6) (by omega) (by omega)) (hq I (fun _ _ _ => rfl) (fun p hp => hd p (by omega)))
  | r + 1, i, k + 1, I, hi, hk, hd, hq => by
    rw [v_M_begins_23]; dsimp only; rw [z_c6, z_c12, nI_clamp (by omega), nI_clamp (by omega), nI_1]
    refine z_n (nI_ge (b := 6) (by omega) (by decide)) ⟨vp_in_nI (by omega) (by decide), fun I3 e3 => ⟨vp_in_nI (by omega) (by decide), fun I5 e5 => ?_⟩⟩
    have o5 : ∀ b l, ¬ (b = 394 ∧ (l = 6 + i ∨ l = 12 + i)) → I5 b l = I b l := fun b l q => by rw [e5, qu_off (by omega), e3, qu_off (by omega)]
    refine m_begins23 r (i + 1) k I5 (by omega) (by omega) (fun p hp => ?_) (fun I' o' h' => hq I' (fun b l q => by rw [o' b l q, o5 b l (by omega)]) h')
    by_cases e : p = i
    · subst e; exact ⟨by rw [e5, qu_off (by omega), e3, qu_same], by rw [e5, qu_same]⟩
    · rw [o5 _ _ (by omega), o5 _ _ (by omega)]; exact hd p (by omega)
theorem m_begins58 {J : zJ} {m : Nat} (hs : s < 2) (hm : m ≤ 6) {Q K : zI → zJ → Prop} : ∀ r i k (I : zI), I 361 18 = nI s → I 374 s = nI m → i + r = m → r < k → (∀ p, p < i → I 394 p = I 375 (6 * s + p) ∧ I 394 (6 + p) = I 377 (6 * s + p)) → (∀ I' : zI, (∀ b l, ¬ (b = 394 ∧ l < 12) → I' b l = I b l) → (∀ p, p < m → I' 394 p = I 375 (6 * s + p) ∧ I' 394 (6 + p) = I 377 (6 * s + p)) → (∀ p, m ≤ p → p < 6 → I' 394 p = I 394 p ∧ I' 394 (6 + p) = I 394 (6 + p)) → K I' J) → v_M_begins_58 5000 k (nI i) I J Q K
  | _, _, 0, _, _, _, _, hk, _, _ => absurd hk (Nat.not_lt_zero _)
  | 0, i, k + 1, I, h18, h374, hi, hk, hd, hq => by
    rw [v_M_begins_58]; dsimp only; rw [h18, nI_clamp (by omega), h374]
    exact ⟨vp_in_nI hs (by decide), z_y (nI_le (by omega) (by omega)) (hq I (fun _ _ _ => rfl) (fun p hp => hd p (by omega)) (fun _ _ _ => ⟨rfl, rfl⟩))⟩
  | r + 1, i, k + 1, I, h18, h374, hi, hk, hd, hq => by
    rw [v_M_begins_58]; dsimp only; rw [h18, nI_clamp (n := s) (by omega), h374, z_m6, nI_clamp (n := 6 * s + i) (by omega), nI_clamp (n := i) (by omega)]
    refine ⟨vp_in_nI hs (by decide), z_n (nI_ge (by omega) (by omega)) ⟨vp_in_nI (by omega) (by decide), vp_in_nI (by omega) (by decide), fun I5 e5 => ?_⟩⟩
    have o5 : ∀ b l, ¬ (b = 394 ∧ l = i) → I5 b l = I b l := fun b l q => by rw [e5, qu_off (by omega)]
    rw [o5 361 18 (by omega), h18, z_m6, z_c6, nI_clamp (n := 6 * s + i) (by omega), nI_clamp (n := 6 + i) (by omega), nI_1]
    refine ⟨vp_in_nI (by omega) (by decide), vp_in_nI (by omega) (by decide), fun I8 e8 => ?_⟩
    have o8 : ∀ b l, ¬ (b = 394 ∧ (l = i ∨ l = 6 + i)) → I8 b l = I b l := fun b l q => by rw [e8, qu_off (by omega), o5 b l (by omega)]
    refine m_begins58 hs hm r (i + 1) k I8 (by rw [o8 _ _ (by omega)]; exact h18) (by rw [o8 _ _ (by omega)]; exact h374) (by omega) (by omega) (fun p hp => ?_) (fun I' o' h' g' => hq I' (fun b l q => by rw [o' b l q, o8 b l (by omega)]) (fun p hp => ?_) (fun p h1 h2 => ?_))
    · rw [o8 375 _ (by omega), o8 377 _ (by omega)]
      by_cases e : p = i
      · subst e; exact ⟨by rw [e8, qu_off (by omega), e5, qu_same], by rw [e8, qu_same, o5 _ _ (by omega)]⟩
      · rw [o8 _ _ (by omega), o8 _ _ (by omega)]; exact hd p (by omega)
    · have := h' p hp
      rw [o8 375 _ (by omega), o8 377 _ (by omega)] at this
      exact this
    · have := g' p h1 h2
      rw [o8 394 _ (by omega), o8 394 _ (by omega)] at this
      exact this
theorem m_keepsRow {J : zJ} {Q : zI → zJ → Prop} : ∀ r i k (I : zI), i + r = 32 → r < k → (∀ p, p < i → I 393 p = I 394 p) → (∀ I' : zI, (∀ b l, b ≠ 393 → I' b l = I b l) → (∀ p, p < 32 → I' 393 p = I 394 p) → Q I' J) → v_M_keepsRow_2 5000 k (nI i) I J Q
  | _, _, 0, _, _, hk, _, _ => absurd hk (Nat.not_lt_zero _)
  | 0, i, k + 1, I, hi, hk, hd, hq => z_y (nI_le (a := 32) (by omega) (by omega)) (hq I (fun _ _ _ => rfl) (fun p hp => hd p (by omega)))
  | r + 1, i, k + 1, I, hi, hk, hd, hq => by
    rw [v_M_keepsRow_2]; dsimp only; rw [nI_clamp (by omega), nI_1]
    refine z_n (nI_ge (b := 32) (by omega) (by decide)) ⟨vp_in_nI (by omega) (by decide), vp_in_nI (by omega) (by decide), fun I3 e3 => ?_⟩
    have o3 : ∀ b l, ¬ (b = 393 ∧ l = i) → I3 b l = I b l := fun b l q => by rw [e3, qu_off (by omega)]
    refine m_keepsRow r (i + 1) k I3 (by omega) (by omega) (fun p hp => ?_) (fun I' o' h' => hq I' (fun b l q => by rw [o' b l q, o3 b l (by omega)]) (fun p hp => by rw [h' p hp, o3 _ _ (by omega)]))
    rw [o3 394 _ (by omega)]
    by_cases e : p = i
    · subst e; rw [e3, qu_same]
    · rw [o3 _ _ (by omega)]; exact hd p (by omega)
theorem m_219 {J : zJ} {Q : Int32 → zI → zJ → Prop} : ∀ r i k (I : zI), i + r = 3 → r < k → (∀ p, p < i → I 408 p = 0) → (∀ I' : zI, (∀ b l, b ≠ 408 → I' b l = I b l) → (∀ p, p < 3 → I' 408 p = 0) → Q 0 I' J) → v_M_read_219 5000 k (nI i) I J Q
  | _, _, 0, _, _, hk, _, _ => absurd hk (Nat.not_lt_zero _)
  | 0, i, k + 1, I, hi, hk, hd, hq => z_y (nI_le (a := 3) (by omega) (by omega)) (hq I (fun _ _ _ => rfl) (fun p hp => hd p (by omega)))
  | r + 1, i, k + 1, I, hi, hk, hd, hq => by
    rw [v_M_read_219]; dsimp only; rw [nI_clamp (by omega), nI_1, z_nar01 (Or.inl rfl)]
    refine z_n (nI_ge (b := 3) (by omega) (by decide)) ⟨vp_in_nI (by omega) (by decide), fun I3 e3 => ?_⟩
    refine m_219 r (i + 1) k I3 (by omega) (by omega) (fun p hp => ?_) (fun I' o' h' => hq I' (fun b l q => by rw [o' b l q, e3, qu_off (Or.inl q)]) h')
    by_cases e : p = i
    · subst e; rw [e3, qu_same]
    · rw [e3, qu_off (Or.inr e)]; exact hd p (by omega)
end
