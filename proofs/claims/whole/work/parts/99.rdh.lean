/-! reading: the class' hangs, laws, all tells -/
section
variable {B : Nat → Nat} {n : Nat}
theorem s_personNamed {I : zI} {J : zJ} {i : Nat} {g : zG} {W : Nat × Nat} (hP : zGb I J 3 46 30 31 6 (gP g)) (hG : ∀ p, p < 6 → I 32 p = (gG g).2 p) (hC : zC I J B n i) (hW : zWk I W) {Q : Int32 → zI → zJ → Prop} (hq : ∀ I' : zI, (∀ b j, ¬ (b = 26 ∧ (j = 10 ∨ j = 11)) → I' b j = I b j) → zWk I' (zwhoW (tV B n) (zpsn B n) g i W) → Q (zo1 (zwhp (tV B n) g i)) I' J) : v_Reader_personNamed 5000 I J Q := by
  have l2 := hP.2.1
  unfold zwhoW at hq
  have e : zwhp (tV B n) g i = zidx (J 46) (tV B n i) (gP g).1 0 := (zidx_cg (f := J 46) (f' := (gP g).2.1) (gP g).1 0 (fun j _ hj => (hP.2.2 j (by omega)).1)).symm
  unfold v_Reader_personNamed
  rw [hP.1]
  rw [e] at hq
  refine s_indexOf2 (x := 46) hC.2.2.1 l2 (by decide) (gP g).1 0 5000 (by omega) (by omega) ?_
  cases e1 : zidx (J 46) (tV B n i) (gP g).1 0 with
  | none =>
    rw [e1] at hq
    exact z_n (by decide) (s_keepF (k := 4) hC hW (by decide) (fun I1 o1 w1 => hq I1 o1 w1))
  | some p =>
    rw [e1] at hq
    have hp := (zidx_lt _ _ _ e1).2
    refine z_y (nI_pos' (by omega)) ?_
    show vp_in (nI p) 6 ∧ _
    rw [show (zo1 (some p)).toNatClampNeg = p from nI_clamp (by omega), hG p (by omega)]
    refine ⟨vp_in_nI (by omega) (by decide), fun q => ?_, fun q => ?_⟩
    · have hq := hq I (fun _ _ _ => rfl)
      simp only [Option.elim] at hq
      rw [if_pos q] at hq
      exact hq hW
    · simp only [Option.elim] at hq
      rw [if_neg q] at hq
      exact s_keepF (k := 3) hC hW (by decide) (fun I1 o1 w1 => hq I1 o1 w1)
theorem s_taken {I : zI} {J : zJ} {m h : Nat} {f : Nat → Int32} (h3 : I 27 3 = nI m) (hm : m ≤ 6) (hf : ∀ p, p < 6 → I 32 p = f p) {Q : Int32 → zI → zJ → Prop} (h1 : ∀ r, r = 1 → Q r I J → Q r I J) : ∀ r i k, i + r = m → r < k → (ztkn f h r i = true → Q 1 I J) → (¬ ztkn f h r i = true → Q 0 I J) → v_Text_isFirstTaken_2 5000 k 27 (nI h) (nI i) I J Q
  | _, _, 0, _, hk, _, _ => absurd hk (Nat.not_lt_zero _)
  | 0, i, k + 1, hi, hk, hy, hn => by
    rw [v_Text_isFirstTaken_2]; dsimp only; rw [h3]
    exact z_y (nI_le (by omega) (by omega)) (hn (by rw [ztkn]; decide))
  | r + 1, i, k + 1, hi, hk, hy, hn => by
    rw [v_Text_isFirstTaken_2]; dsimp only; rw [h3, nI_clamp (by omega), show 27 + 5 = 32 from rfl, hf i (by omega), nI_1]
    rw [ztkn] at hy hn
    refine z_n (nI_ge (by omega) (by omega)) ⟨vp_in_nI (by omega) (by decide), fun q => ?_, fun q => ?_⟩
    · rw [if_neg q] at hy hn
      exact s_taken h3 hm hf h1 r (i + 1) k (by omega) (by omega) hy hn
    · rw [if_pos q] at hy
      exact hy rfl
theorem s_hangerNamed {I : zI} {J : zJ} {i : Nat} {g : zG} {W : Nat × Nat} (hH : zGb I J 0 45 28 29 7 (gH g)) (hP : zGb I J 3 46 30 31 6 (gP g)) (hG : ∀ p, p < 6 → I 32 p = (gG g).2 p) (hC : zC I J B n i) (hW : zWk I W) {Q : Int32 → zI → zJ → Prop} (hq : ∀ I' : zI, (∀ b j, ¬ (b = 26 ∧ (j = 10 ∨ j = 11)) → I' b j = I b j) → zWk I' (zwhcW (tV B n) (zpsn B n) g i W) → Q (zo1 (zwhc (tV B n) g i)) I' J) : v_Reader_hangerNamed 5000 I J Q := by
  have l1 := hH.2.1
  have l2 := hP.2.1
  unfold zwhcW at hq
  have e : zwhc (tV B n) g i = zidx (J 45) (tV B n i) (gH g).1 0 := (zidx_cg (f := J 45) (f' := (gH g).2.1) (gH g).1 0 (fun j _ hj => (hH.2.2 j (by omega)).1)).symm
  unfold v_Reader_hangerNamed
  rw [hH.1]
  rw [e] at hq
  refine s_indexOf2 (x := 45) hC.2.2.1 l1 (by decide) (gH g).1 0 5000 (by omega) (by omega) ?_
  cases e1 : zidx (J 45) (tV B n i) (gH g).1 0 with
  | none =>
    rw [e1] at hq
    exact z_n (by decide) (s_keepF (k := 4) hC hW (by decide) (fun I1 o1 w1 => hq I1 o1 w1))
  | some h =>
    rw [e1] at hq
    have hp := (zidx_lt _ _ _ e1).2
    simp only [Option.elim] at hq
    refine z_y (nI_pos' (by omega)) (s_taken (h := h) hP.1 l2 hG (fun _ _ q => q) (gP g).1 0 5000 (by omega) (by omega) (fun ht => z_n z_10 ?_) (fun ht => z_y z_00 ?_))
    · rw [if_pos ht] at hq
      exact s_keepF (k := 3) hC hW (by decide) (fun I1 o1 w1 => hq I1 o1 w1)
    · rw [if_neg ht] at hq
      exact hq I (fun _ _ _ => rfl) hW
theorem s_readHangs {I : zI} {J : zJ} {i : Nat} {g : zG} (hG : zGc I J g) (hC : zC I J B n i) (hk : tK B n i = 258) {Q : Int32 → zI → zJ → Prop} (hok : ∀ a, ztl (tK B n) (tV B n) (zpsn B n) g i = .inr a → ∀ (I' : zI) (J' : zJ), frO I I' → frOJ J J' → zC I' J' B n a.1 → zGc I' J' a.2 → i < a.1 → Q 1 I' J') (hbad : ∀ k j, ztl (tK B n) (tV B n) (zpsn B n) g i = .inl (k, j) → ∀ (I' : zI) (J' : zJ), zBd I J B n k j I' J' → Q 0 I' J') : v_Reader_readHangs 5000 I J Q := by
  obtain ⟨hH, hP, hGG, hGL, hGM, hW, h12, h13⟩ := id hG
  have l1 := hH.2.1
  have l2 := hP.2.1
  have l3 := hGG.2.1
  unfold ztl at hok hbad
  rw [if_neg (by omega), if_neg (by omega), if_pos hk] at hok hbad
  unfold v_Reader_readHangs
  rw [hGG.1, nI_1]
  refine ⟨fun q I2 e2 => ?_, fun q => ?_⟩
  · have hlt := (nI_ltI (b := 6) (by omega) (by decide)).mp q
    rw [if_pos hlt] at hok hbad
    unfold zhng at hok hbad
    have o2 : ∀ b l, ¬ (b = 26 ∧ l = 8) → I2 b l = I b l := fun b l q => by rw [e2, qu_off (by omega)]
    have fo2 : frO I I2 := fun b l q => o2 b l (by omega)
    have jo : frOJ J J := fun _ _ _ _ _ => rfl
    refine s_goOn (hC.kept (fun b l q => o2 b l (by omega)) (fun _ _ _ => rfl)) (by omega) (fun i1 e1 I4 J4 o4 p4 c4 => z_nr z_10 ?_) (fun k j ej I4 b4 => z_yr z_00 (hbad k j (by rw [ej]; rfl) I4 J (b4.from fo2 jo)))
    rw [e1, zbi_r] at hok hbad
    have f4 : ∀ b l, ¬ (b = 26 ∧ (l = 1 ∨ l = 2 ∨ l = 8)) → I4 b l = I b l := fun b l q => by rw [o4 b l (by omega), o2 b l (by omega)]
    refine s_personNamed (g := g) (hP.kept (f4 _ _ (by omega)) (fun j => f4 _ _ (by omega)) (fun j => f4 _ _ (by omega)) (fun j => p4 _ _ (by omega))) (fun p hp => by rw [f4 _ _ (by omega)]; exact hGG.2.2 p hp) c4 (hW.kept (fun j q => f4 _ _ (by omega))) (fun I7 o7 w7 => ?_)
    have f7 : ∀ b l, ¬ (b = 26 ∧ (l = 1 ∨ l = 2 ∨ l = 8 ∨ l = 10 ∨ l = 11)) → I7 b l = I b l := fun b l q => by rw [o7 b l (by omega), f4 b l (by omega)]
    refine s_pass (c := 3) (c4.kept (fun b l q => o7 b l (by omega)) (fun _ _ _ => rfl)) (by decide) (by decide) (fun i2 e2' I9 J9 o9 p9 c9 => z_nr z_10 ?_) (fun k j ej I9 b9 => z_yr z_00 (hbad k j (by rw [ej]; rfl) I9 J4 (b9.from (fun b l q => f7 b l (by omega)) p4.o)))
    rw [e2', zbi_r] at hok hbad
    have f9 : ∀ b l, ¬ (b = 26 ∧ (l = 1 ∨ l = 2 ∨ l = 8 ∨ l = 10 ∨ l = 11)) → I9 b l = I b l := fun b l q => by rw [o9 b l (by omega), f7 b l (by omega)]
    have j9 : frGJ J J9 := p4.tr p9
    refine s_hangerNamed (g := g) (hH.kept (f9 _ _ (by omega)) (fun j => f9 _ _ (by omega)) (fun j => f9 _ _ (by omega)) (fun j => j9 _ _ (by omega))) (hP.kept (f9 _ _ (by omega)) (fun j => f9 _ _ (by omega)) (fun j => f9 _ _ (by omega)) (fun j => j9 _ _ (by omega))) (fun p hp => by rw [f9 _ _ (by omega)]; exact hGG.2.2 p hp) c9 (w7.kept (fun j q => o9 _ _ (by omega))) (fun I12 o12 w12 => ?_)
    have f12 : ∀ b l, ¬ (b = 26 ∧ (l = 1 ∨ l = 2 ∨ l = 8 ∨ l = 10 ∨ l = 11)) → I12 b l = I b l := fun b l q => by rw [o12 b l (by omega), f9 b l (by omega)]
    refine s_pass (c := 3) (c9.kept (fun b l q => o12 b l (by omega)) (fun _ _ _ => rfl)) (by decide) (by decide) (fun i3 e3 I14 J14 o14 p14 c14 => z_nr z_10 ?_) (fun k j ej I14 b14 => z_yr z_00 (hbad k j (by rw [ej]; rfl) I14 J9 (b14.from (fun b l q => f12 b l (by omega)) j9.o)))
    rw [e3, zbi_r] at hok hbad
    have f14 : ∀ b l, ¬ (b = 26 ∧ (l = 1 ∨ l = 2 ∨ l = 8 ∨ l = 10 ∨ l = 11)) → I14 b l = I b l := fun b l q => by rw [o14 b l (by omega), f12 b l (by omega)]
    have e8 : I14 26 8 = nI ((gG g).1 + 1) := by rw [o14 _ _ (by omega), o12 _ _ (by omega), o9 _ _ (by omega), o7 _ _ (by omega), o4 _ _ (by omega), e2, qu_same]
    have j14 : frGJ J J14 := j9.tr p14
    have q1 := (zgo_r e1).2
    have q2 := (zpass_r e2').2.2
    have q3 := (zpass_r e3).2.2
    have fin : ∀ (I23 : zI) (on : Nat → Int32), (∀ b l, ¬ (b = 32) → I23 b l = I14 b l) → (∀ p, p < 6 → I23 32 p = on p) → on = (zwhp (tV B n) g i1).elim (gG g).2 (fun p => (zwhc (tV B n) g i2).elim (gG g).2 fun h => zud (gG g).2 p (nI h)) → v_Reader_pass 5000 59 I23 J14 (fun r24 I25 J25 => qzb r24 ∧ Q r24 I25 J25) := fun I23 on o23 h23 eon => by
      refine s_pass (c := 59) (c14.kept (fun b l q => o23 b l (by omega)) (fun _ _ _ => rfl)) (by decide) (by decide) (fun i4 e4 I25 J25 o25 p25 c25 => ⟨Or.inr rfl, ?_⟩) (fun k j ej I25 b25 => ⟨Or.inl rfl, hbad k j (by rw [ej]; rfl) I25 J14 (b25.from (fun b l q => by rw [o23 b l (by omega), f14 b l (by omega)]) j14.o)⟩)
      rw [e4, zbi_r] at hok hbad
      have q4 := (zpass_r e4).2.2
      have f25 : ∀ b l, ¬ (b = 26 ∧ (l = 1 ∨ l = 2 ∨ l = 8 ∨ l = 10 ∨ l = 11)) → b ≠ 32 → I25 b l = I b l := fun b l q1 q2 => by rw [o25 b l (by omega), o23 b l q2, f14 b l q1]
      have j25 : frGJ J J25 := j14.tr p25
      refine hok _ rfl I25 J25 (fun b l q => f25 b l (by omega) (by omega)) j25.o c25 ⟨hH.kept (f25 _ _ (by omega) (by omega)) (fun j => f25 _ _ (by omega) (by omega)) (fun j => f25 _ _ (by omega) (by omega)) (fun j => j25 _ _ (by omega)), hP.kept (f25 _ _ (by omega) (by omega)) (fun j => f25 _ _ (by omega) (by omega)) (fun j => f25 _ _ (by omega) (by omega)) (fun j => j25 _ _ (by omega)), ⟨?_, hlt, fun p hp => ?_⟩, hGL.kept (fun b j q1 q2 => f25 b j (by omega) (by omega)), hGM.kept (f25 _ _ (by omega) (by omega)) (f25 _ _ (by omega) (by omega)), w12.kept (fun j q => by rw [o25 _ _ (by omega), o23 _ _ (by omega), o14 _ _ (by omega)]), ?_, ?_⟩ (show i < i4 by omega)
      · rw [o25 _ _ (by omega), o23 _ _ (by omega)]; exact e8
      · rw [o25 _ _ (by omega), h23 p hp, eon]; rfl
      · rw [f25 _ _ (by omega) (by omega)]; exact h12
      · rw [f25 _ _ (by omega) (by omega)]; exact h13
    have h14 : ∀ p, p < 6 → I14 32 p = (gG g).2 p := fun p hp => by rw [f14 _ _ (by omega)]; exact hGG.2.2 p hp
    cases ep : zwhp (tV B n) g i1 with
    | none => exact z_y (by decide) (fin I14 _ (fun _ _ _ => rfl) h14 (by rw [ep]; rfl))
    | some p =>
      have hp := (zidx_lt _ _ _ ep).2
      refine z_n (nI_pos (n := p) (by omega)) ?_
      cases eh : zwhc (tV B n) g i2 with
      | none => exact z_y (by decide) (fin I14 _ (fun _ _ _ => rfl) h14 (by rw [ep, eh]; rfl))
      | some h =>
        have hh := (zidx_lt _ _ _ eh).2
        refine z_n (nI_pos (n := h) (by omega)) ⟨vp_in_nI (n := p) (by omega) (by decide), fun I23 e23 => ?_⟩
        rw [show (zo1 (some p)).toNatClampNeg = p from nI_clamp (by omega)] at e23
        refine fin I23 (zud (gG g).2 p (nI h)) (fun b l q => by rw [e23, qu_off (by omega)]) (fun p' hp' => ?_) (by rw [ep, eh]; rfl)
        by_cases e : p' = p
        · subst e; rw [e23, qu_same, zud_s]; rfl
        · rw [e23, qu_off (by omega), zud_n e]; exact h14 p' hp'
  · rw [if_neg (fun z => q (nI_lt z (by decide)))] at hbad
    exact s_fails (k := 2) hC (fun I' b' => ⟨Or.inl rfl, hbad 2 i rfl I' J b'⟩)
theorem s_tellLaw {I : zI} {J : zJ} {i x : Nat} {g : zG} (hG : zGc I J g) (hC : zC I J B n i) (hk : 259 ≤ tK B n i ∧ tK B n i ≤ 262) (hx : x = 33 + 3 * (tK B n i - 259)) {Q : Int32 → zI → zJ → Prop} (hok : ∀ a, ztl (tK B n) (tV B n) (zpsn B n) g i = .inr a → ∀ (I' : zI) (J' : zJ), frO I I' → frOJ J J' → zC I' J' B n a.1 → zGc I' J' a.2 → i < a.1 → Q 1 I' J') (hbad : ∀ k j, ztl (tK B n) (tV B n) (zpsn B n) g i = .inl (k, j) → ∀ (I' : zI) (J' : zJ), zBd I J B n k j I' J' → Q 0 I' J') : v_Reader_readLaw 5000 x I J Q := by
  obtain ⟨hH, hP, hGG, hGL, hGM, hW, h12, h13⟩ := id hG
  have hx2 : 27 ≤ x ∧ x + 2 < 47 := by omega
  unfold ztl at hok hbad
  rw [if_neg (by omega), if_neg (by omega), if_neg (by omega), if_neg (by omega), if_neg (by omega), if_pos hk] at hok hbad
  refine s_readLaw hx2 hC (by omega) (fun a ea I' J' o' p' c' r' hlt => ?_) (fun k j ej I' J' b' => hbad k j (by rw [ej]; rfl) I' J' b')
  rw [ea, zbi_r] at hok
  refine hok _ rfl I' J' (o'.o hx2) p'.o c' ⟨hH.kept (o' _ _ (by omega) (by omega) (by omega) (by omega)) (fun j => o' _ _ (by omega) (by omega) (by omega) (by omega)) (fun j => o' _ _ (by omega) (by omega) (by omega) (by omega)) (fun j => p' _ _ (by omega)), hP.kept (o' _ _ (by omega) (by omega) (by omega) (by omega)) (fun j => o' _ _ (by omega) (by omega) (by omega) (by omega)) (fun j => o' _ _ (by omega) (by omega) (by omega) (by omega)) (fun j => p' _ _ (by omega)), hGG.kept (o' _ _ (by omega) (by omega) (by omega) (by omega)) (fun j => o' _ _ (by omega) (by omega) (by omega) (by omega)), fun k hk4 => ?_, hGM.kept (o' _ _ (by omega) (by omega) (by omega) (by omega)) (o' _ _ (by omega) (by omega) (by omega) (by omega)), hW.kept (fun j q => o' _ _ (by omega) (by omega) (by omega) (by omega)), ?_, ?_⟩ hlt
  · show rCLaw I' (33 + 3 * k) ((zud (gL g) (tK B n i - 259) (some a.2) k).getD (zplain k))
    by_cases e : k = tK B n i - 259
    · rw [e, zud_s, ← hx]; exact r'
    · rw [zud_n e]
      exact (hGL k hk4).kept (fun b j q1 q2 => o' b j (by omega) (by omega) (by omega) (by omega))
  · rw [o' _ _ (by omega) (by omega) (by omega) (by omega)]; exact h12
  · rw [o' _ _ (by omega) (by omega) (by omega) (by omega)]; exact h13
theorem s_readTell {I : zI} {J : zJ} {i : Nat} {g : zG} (hG : zGc I J g) (hC : zC I J B n i) (hk : ¬ (259 ≤ tK B n i ∧ tK B n i ≤ 262)) {Q : Int32 → zI → zJ → Prop} (hok : ∀ a, ztl (tK B n) (tV B n) (zpsn B n) g i = .inr a → ∀ (I' : zI) (J' : zJ), frO I I' → frOJ J J' → zC I' J' B n a.1 → zGc I' J' a.2 → i < a.1 → Q 1 I' J') (hbad : ∀ k j, ztl (tK B n) (tV B n) (zpsn B n) g i = .inl (k, j) → ∀ (I' : zI) (J' : zJ), zBd I J B n k j I' J' → Q 0 I' J') : v_Reader_readTell 5000 I J Q := by
  have hok' : ∀ a, ztl (tK B n) (tV B n) (zpsn B n) g i = .inr a → ∀ (I' : zI) (J' : zJ), frO I I' → frOJ J J' → zC I' J' B n a.1 → zGc I' J' a.2 → i < a.1 → qzb 1 ∧ Q 1 I' J' := fun a ea I' J' o p c g h => ⟨Or.inr rfl, hok a ea I' J' o p c g h⟩
  have hbad' : ∀ k j, ztl (tK B n) (tV B n) (zpsn B n) g i = .inl (k, j) → ∀ (I' : zI) (J' : zJ), zBd I J B n k j I' J' → qzb 0 ∧ Q 0 I' J' := fun k j ej I' J' b => ⟨Or.inl rfl, hbad k j ej I' J' b⟩
  have e : ∀ c, c < 1000 → (nI (tK B n i) = nI c ↔ tK B n i = c) := fun c hc => tK_is hc
  have bad : tK B n i ≠ 256 → tK B n i ≠ 257 → tK B n i ≠ 258 → tK B n i ≠ 263 → tK B n i ≠ 264 → v_Reader_fails 5000 1 I J (fun r29 I30 J30 => qzb r29 ∧ Q r29 I30 J30) := fun h1 h2 h3 h4 h5 => by
    refine s_fails (k := 1) hC (fun I' b' => hbad' 1 i ?_ I' J b')
    unfold ztl
    rw [if_neg h1, if_neg h2, if_neg h3, if_neg h4, if_neg h5, if_neg hk]
  intro y ey
  rw [ey, hC.2.1]
  refine ⟨fun q => s_readHanger hG hC ((e 256 (by decide)).mp q) hok' hbad', fun q1 => ⟨fun q => s_readPerson hG hC ((e 257 (by decide)).mp q) hok' hbad', fun q2 => ⟨fun q => s_readHangs hG hC ((e 258 (by decide)).mp q) hok' hbad', fun q3 => ?_⟩⟩⟩
  refine z_n (fun q => hk (by have := (e 259 (by decide)).mp q; omega)) (z_n (fun q => hk (by have := (e 260 (by decide)).mp q; omega)) (z_n (fun q => hk (by have := (e 261 (by decide)).mp q; omega)) (z_n (fun q => hk (by have := (e 262 (by decide)).mp q; omega)) ⟨fun q => s_readMoth hG hC ((e 263 (by decide)).mp q) hok' hbad', fun q4 => ⟨fun q => s_readSeed hG hC ((e 264 (by decide)).mp q) hok' hbad', fun q5 => ?_⟩⟩)))
  exact bad (fun z => q1 ((e _ (by decide)).mpr z)) (fun z => q2 ((e _ (by decide)).mpr z)) (fun z => q3 ((e _ (by decide)).mpr z)) (fun z => q4 ((e _ (by decide)).mpr z)) (fun z => q5 ((e _ (by decide)).mpr z))
theorem s_all43 {Q : Int32 → zI → zJ → Prop} {K : zI → zJ → Prop} : ∀ r i k y g (I : zI) (J : zJ), zGc I J g → zC I J B n i → y ≤ i → 401 ≤ i + r → r + 1 < k → (∀ g', zall (tK B n) (tV B n) (zpsn B n) r i g = .inr g' → ∀ (I' : zI) (J' : zJ), frO I I' → frOJ J J' → zGc I' J' g' → K I' J') → (∀ k j, zall (tK B n) (tV B n) (zpsn B n) r i g = .inl (k, j) → ∀ (I' : zI) (J' : zJ), zBd I J B n k j I' J' → K I' J') → v_Reader_readAll_43 5000 k 1 (nI y) I J Q K
  | 0, i, k, y, g, I, J, hG, hC, hy, hr, hk, hok, hbad => absurd hC.2.2.2.2.1 (by omega)
  | r + 1, i, 0, y, g, I, J, hG, hC, hy, hr, hk, hok, hbad => absurd hk (Nat.not_lt_zero _)
  | r + 1, i, k + 1, y, g, I, J, hG, hC, hy, hr, hk, hok, hbad => by
    have h400 := hC.2.2.2.2.1
    have hlt := tK_lt B n i
    rw [zall] at hok hbad
    have ok' : tK B n i ≠ 1 → ∀ a, ztl (tK B n) (tV B n) (zpsn B n) g i = .inr a → ∀ (I' : zI) (J' : zJ), frO I I' → frOJ J J' → zC I' J' B n a.1 → zGc I' J' a.2 → i < a.1 → v_Reader_readAll_43 5000 k 1 (nI y + 1) I' J' Q K := fun h1 a ea I' J' o' p' c' g' hi => by
      rw [if_neg h1, ea, zbi_r] at hok hbad
      rw [nI_1]
      exact s_all43 r a.1 k (y + 1) a.2 I' J' g' c' (by omega) (by omega) (by omega) (fun g2 e2 I2 J2 o2 p2 h2 => hok g2 e2 I2 J2 (fun b l q => by rw [o2 b l q, o' b l q]) (fun b l q1 q2 q3 => by rw [p2 b l q1 q2 q3, p' b l q1 q2 q3]) h2) (fun k2 j2 e2 I2 J2 b2 => hbad k2 j2 e2 I2 J2 (b2.from o' p'))
    have bad' : tK B n i ≠ 1 → ∀ k2 j, ztl (tK B n) (tV B n) (zpsn B n) g i = .inl (k2, j) → ∀ (I' : zI) (J' : zJ), zBd I J B n k2 j I' J' → v_Reader_readAll_43 5000 k 0 (nI y + 1) I' J' Q K := fun h1 k2 j ej I' J' b' => by
      rw [if_neg h1, ej, zbi_l] at hbad
      obtain ⟨k', rfl⟩ : ∃ k', k = k' + 1 := ⟨k - 1, by omega⟩
      have := hbad k2 j rfl I' J' b'
      exact ⟨fun _ => this, fun _ => z_y z_00 this⟩
    rw [v_Reader_readAll_43]; dsimp only; rw [hC.2.1]
    refine z_n (nI_nlt (a := 400) (by omega) (by decide)) (z_n z_10 ⟨fun q => ?_, fun q => ?_⟩)
    · rw [if_pos ((tK_is (c := 1) (by decide)).mp q)] at hok
      exact hok g rfl I J (fun _ _ _ => rfl) (fun _ _ _ _ _ => rfl) hG
    · have h1 : tK B n i ≠ 1 := fun z => q ((tK_is (c := 1) (by decide)).mpr z)
      refine ⟨fun q2 => z_y z_00 (s_readTell hG hC ?_ (ok' h1) (bad' h1)), fun q2 => ⟨fun q3 => z_y z_00 (s_readTell hG hC ?_ (ok' h1) (bad' h1)), fun q3 => z_n z_10 ?_⟩⟩
      · have := (nI_ltI (b := 259) (by omega) (by decide)).mp q2; omega
      · have := (nI_ltI (a := 262) (by decide) (by omega)).mp q3; omega
      · have h2 : ¬ tK B n i < 259 := fun z => q2 (nI_lt z (by decide))
        have h3 : ¬ 262 < tK B n i := fun z => q3 (nI_lt z (by omega))
        rw [hC.2.1, show nI (tK B n i) - 259 = nI (tK B n i - 259) from nI_sub (b := 259) (by omega)]
        have e : ∀ c, c < 100 → (nI (tK B n i - 259) = nI c ↔ tK B n i - 259 = c) := fun c hc => nI_eq (by omega) (by omega)
        refine ⟨fun q => s_tellLaw hG hC (by omega) (by have := (e 0 (by decide)).mp q; omega) (ok' h1) (bad' h1), fun q4 => ⟨fun q => s_tellLaw hG hC (by omega) (by have := (e 1 (by decide)).mp q; omega) (ok' h1) (bad' h1), fun q5 => ⟨fun q => s_tellLaw hG hC (by omega) (by have := (e 2 (by decide)).mp q; omega) (ok' h1) (bad' h1), fun q6 => s_tellLaw hG hC (by omega) ?_ (ok' h1) (bad' h1)⟩⟩⟩
        have n0 : tK B n i - 259 ≠ 0 := fun z => q4 ((e 0 (by decide)).mpr z)
        have n1 : tK B n i - 259 ≠ 1 := fun z => q5 ((e 1 (by decide)).mpr z)
        have n2 : tK B n i - 259 ≠ 2 := fun z => q6 ((e 2 (by decide)).mpr z)
        omega
/-! the draft cleared, all read -/
theorem s_oneStep {I : zI} {J : zJ} {x : Nat} {k v : Int32} {Q : zI → zJ → Prop} (hq : ∀ I' : zI, (∀ b l, ¬ (x ≤ b ∧ b ≤ x + 2) → I' b l = I b l) → zLs I' x [(k, v), (4, 0)] → Q I' J) : v_Law_becomeOneStep 5000 x k v I J Q := fun I1 e1 => s_add (S := []) ⟨by rw [e1, qu_same]; rfl, fun i q h => by cases h⟩ (by decide) (fun I2 o2 g2 => s_add g2 (show 1 < 400 by decide) (fun I3 o3 g3 => hq I3 (fun b l q => by rw [o3 b l q, o2 b l q, e1, qu_off (by omega)]) g3))
theorem s_clear22 {J : zJ} {x : Nat} {Q K : zI → zJ → Prop} : ∀ r i k (I : zI), i + r = 6 → r < k → (∀ p, p < i → I (x + 5) p = -2) → (∀ I' : zI, (∀ b l, b ≠ x + 5 → I' b l = I b l) → (∀ p, p < 6 → I' (x + 5) p = -2) → K I' J) → v_Text_clear_22 5000 k x (nI i) I J Q K
  | _, _, 0, _, _, hk, _, _ => absurd hk (Nat.not_lt_zero _)
  | 0, i, k + 1, I, hi, hk, hd, hq => z_y (nI_le (a := 6) (by omega) (by omega)) (hq I (fun _ _ _ => rfl) (fun p hp => hd p (by omega)))
  | r + 1, i, k + 1, I, hi, hk, hd, hq => by
    rw [v_Text_clear_22]; dsimp only; rw [nI_clamp (by omega), nI_1]
    refine z_n (nI_ge (b := 6) (by omega) (by decide)) ⟨vp_in_nI (by omega) (by decide), fun I3 e3 => ?_⟩
    refine s_clear22 r (i + 1) k I3 (by omega) (by omega) (fun p hp => ?_) (fun I' o' h' => hq I' (fun b l q => by rw [o' b l q, e3, qu_off (Or.inl q)]) h')
    by_cases e : p = i
    · subst e; rw [e3, qu_same]
    · rw [e3, qu_off (Or.inr e)]; exact hd p (by omega)
/-- the code of the fault, its place -/
def zrF (R : zF zG) : Nat := match R with
  | .inl e => e.1
  | .inr g => (gW g).1
def zrP (pl : Nat → Nat) (R : zF zG) : Int32 := match R with
  | .inl e => nI (pl e.2)
  | .inr g => if (gW g).1 = 0 then -1 else nI (gW g).2
abbrev zR1 (B : Nat → Nat) (n : Nat) : zF zG := zall (tK B n) (tV B n) (zpsn B n) 401 0 zg0
theorem s_readAll {I : zI} {J : zJ} (hB : zBy I B n) (hK : rKeys J) {Q : Int32 → zI → zJ → Prop} (hq : ∀ (I' : zI) (J' : zJ), (∀ b j, b < 26 ∨ 48 < b → ¬ (b = 2 ∧ j = 3) → b ≠ 5 → b ≠ 6 → I' b j = I b j) → (∀ b j, b ≠ 7 → b ≠ 26 → b ≠ 45 → b ≠ 46 → J' b j = J b j) → I' 26 13 = zrP (zpsn B n) (zR1 B n) → zrF (zR1 B n) < 10 → (∀ e, zR1 B n = .inl e → ¬ e.1 = 0) → (∀ g, zR1 B n = .inr g → (gW g).1 = 0 → zGc I' J' g) → Q (nI (zrF (zR1 B n))) I' J') : v_Reader_readAll 5000 I J Q := by
  intro I1 e1 I2 e2 I3 e3 I4 e4
  have o4 : ∀ b l, ¬ (b = 26 ∧ (l = 8 ∨ l = 10 ∨ l = 12 ∨ l = 13)) → I4 b l = I b l := fun b l q => by rw [e4, qu_off (by omega), e3, qu_off (by omega), e2, qu_off (by omega), e1, qu_off (by omega)]
  have v8 : I4 26 8 = 0 := by rw [e4, qu_same]
  have v10 : I4 26 10 = 0 := by rw [e4, qu_off (by decide), e3, qu_same]
  have v13 : I4 26 13 = -1 := by rw [e4, qu_off (by decide), e3, qu_off (by decide), e2, qu_same]
  have v12 : I4 26 12 = 0 := by rw [e4, qu_off (by decide), e3, qu_off (by decide), e2, qu_off (by decide), e1, qu_same]
  intro A1 f1 A2 f2 A3 f3 A4 f4
  have oA : ∀ b l, ¬ (b = 27 ∧ (l = 0 ∨ l = 3 ∨ l = 11 ∨ l = 12)) → A4 b l = I4 b l := fun b l q => by rw [f4, qu_off (by omega), f3, qu_off (by omega), f2, qu_off (by omega), f1, qu_off (by omega)]
  have u12 : A4 27 12 = 0 := by rw [f4, qu_same]
  have u11 : A4 27 11 = 0 := by rw [f4, qu_off (by decide), f3, qu_same]
  have u3 : A4 27 3 = 0 := by rw [f4, qu_off (by decide), f3, qu_off (by decide), f2, qu_same]
  have u0 : A4 27 0 = 0 := by rw [f4, qu_off (by decide), f3, qu_off (by decide), f2, qu_off (by decide), f1, qu_same]
  refine s_clear22 (x := 27) 6 0 5000 A4 (by decide) (by decide) (fun p hp => absurd hp (Nat.not_lt_zero _)) (fun A5 o5 h5 => s_oneStep (x := 33) (fun A6 o6 g6 => s_oneStep (x := 36) (fun A7 o7 g7 => s_oneStep (x := 39) (fun A8 o8 g8 => s_oneStep (x := 42) (fun A9 o9 g9 => ?_)))))
  have oB : ∀ b l, b ≠ 32 → ¬ (33 ≤ b ∧ b ≤ 44) → A9 b l = A4 b l := fun b l q1 q2 => by rw [o9 b l (by omega), o8 b l (by omega), o7 b l (by omega), o6 b l (by omega), o5 b l q1]
  have fo9 : frO I A9 := fun b l q => by rw [oB b l (by omega) (by omega), oA b l (by omega), o4 b l (by omega)]
  have hG9 : ∀ (I' : zI) (J' : zJ), (∀ b l, 26 ≤ b → b ≤ 48 → ¬ (b = 26 ∧ (l = 1 ∨ l = 2)) → I' b l = A9 b l) → zGc I' J' zg0 := fun I' J' h => by
    refine ⟨⟨?_, Nat.zero_le _, fun j hj => absurd hj (Nat.not_lt_zero _)⟩, ⟨?_, Nat.zero_le _, fun j hj => absurd hj (Nat.not_lt_zero _)⟩, ⟨?_, Nat.zero_le _, fun p hp => ?_⟩, fun k hk => ?_, ⟨?_, ?_⟩, ⟨?_, fun z => absurd rfl z, by decide⟩, ?_, ?_⟩
    · rw [h _ _ (by omega) (by omega) (by omega), oB _ _ (by omega) (by omega), u0]; rfl
    · rw [h _ _ (by omega) (by omega) (by omega), oB _ _ (by omega) (by omega), u3]; rfl
    · rw [h _ _ (by omega) (by omega) (by omega), oB _ _ (by omega) (by omega), oA _ _ (by omega), v8]; rfl
    · rw [h _ _ (by omega) (by omega) (by omega), o9 _ _ (by omega), o8 _ _ (by omega), o7 _ _ (by omega), o6 _ _ (by omega)]; exact h5 p hp
    · have hL : ∀ (x : Nat) (S : List (Int32 × Int32)) (w : zLw), zcLaw w.1 w.2 0 = S → S.length ≤ 400 → 26 < x → x + 2 ≤ 48 → zLs A9 x S → rCLaw I' x w := fun x S w ew hS h1 h2 hz => by
        have hz2 := hz.kept (I' := I') (fun b l q1 q2 => h b l (by omega) (by omega) (by omega))
        exact ⟨by rw [ew]; exact hS, by rw [ew]; exact hz2.1, fun i q hq => hz2.2 i q (by rw [ew] at hq; exact hq)⟩
      rcases (show k = 0 ∨ k = 1 ∨ k = 2 ∨ k = 3 by omega) with rfl | rfl | rfl | rfl
      · exact hL 33 _ (zplain 0) rfl (by decide) (by decide) (by decide) (g6.kept (fun b l q1 q2 => by rw [o9 _ _ (by omega), o8 _ _ (by omega), o7 _ _ (by omega)]))
      · exact hL 36 _ (zplain 1) rfl (by decide) (by decide) (by decide) (g7.kept (fun b l q1 q2 => by rw [o9 _ _ (by omega), o8 _ _ (by omega)]))
      · exact hL 39 _ (zplain 2) rfl (by decide) (by decide) (by decide) (g8.kept (fun b l q1 q2 => by rw [o9 _ _ (by omega)]))
      · exact hL 42 _ (zplain 3) rfl (by decide) (by decide) (by decide) g9
    · rw [h _ _ (by omega) (by omega) (by omega), oB _ _ (by omega) (by omega), u11]; rfl
    · rw [h _ _ (by omega) (by omega) (by omega), oB _ _ (by omega) (by omega), u12]; rfl
    · rw [h _ _ (by omega) (by omega) (by omega), oB _ _ (by omega) (by omega), oA _ _ (by omega), v10]; rfl
    · rw [h _ _ (by omega) (by omega) (by omega), oB _ _ (by omega) (by omega), oA _ _ (by omega), v12]
    · rw [h _ _ (by omega) (by omega) (by omega), oB _ _ (by omega) (by omega), oA _ _ (by omega), v13]
  refine s_split (hB.kept (fun b l q => fo9 b l (by omega))) hK (fun C1 D1 o1 p1 t1 => s_rdAt (i := 0) t1 (by decide) (fun j hj => absurd hj (Nat.not_lt_zero _)) (fun C2 D2 o2 p2 c2 => ?_))
  have fr : ∀ b j, b < 26 ∨ 48 < b → ¬ (b = 2 ∧ j = 3) → b ≠ 5 → b ≠ 6 → C2 b j = I b j := fun b j q1 q2 q3 q4 => by rw [o2 b j (by omega), o1 b j q2 q3 q4, fo9 b j q1]
  have fj : ∀ b j, b ≠ 7 → b ≠ 26 → b ≠ 45 → b ≠ 46 → D2 b j = J b j := fun b j q1 q2 q3 q4 => by rw [p2 b j (by omega), p1 b j q1]
  refine s_all43 401 0 5000 0 zg0 C2 D2 (hG9 C2 D2 (fun b l q1 q2 q3 => by rw [o2 b l q3, o1 b l (by omega) (by omega) (by omega)])) c2 (Nat.le_refl _) (by decide) (by decide) (fun g eg I' J' o' p' g' => ?_) (fun k j ej I' J' b' => ?_)
  · have eF : zrF (zR1 B n) = (gW g).1 := by unfold zrF; rw [show zR1 B n = _ from eg]
    have eP : zrP (zpsn B n) (zR1 B n) = if (gW g).1 = 0 then -1 else nI (gW g).2 := by unfold zrP; rw [show zR1 B n = _ from eg]
    rw [eF, eP] at hq
    obtain ⟨hH, hP, hGG, hGL, hGM, hW, h12, h13⟩ := id g'
    have hw := hW.2.2
    unfold v_Reader_readAll_125
    rw [h12, hW.1]
    refine z_yr rfl ⟨fun q => ?_, fun q => ?_⟩
    · have q := (nI_eq (b := 0) (by omega) (by decide)).mp q
      rw [if_pos q] at hq
      have := hq I' J' (fun b j q1 q2 q3 q4 => by rw [o' b j q1, fr b j q1 q2 q3 q4]) (fun b j q1 q2 q3 q4 => by rw [p' b j q2 q3 q4, fj b j q1 q2 q3 q4]) h13 hw (fun e2 z => by rw [show zR1 B n = _ from eg] at z; cases z) (fun g2 e2 _ => by rw [show zR1 B n = _ from eg] at e2; cases e2; exact g')
      rw [q] at this
      exact this
    · have q : ¬ (gW g).1 = 0 := fun z => q (by rw [z]; rfl)
      rw [if_neg q] at hq
      intro I3 e3 I4 e4
      rw [e3, qu_off (by decide), hW.2.1 q] at e4
      rw [show I4 26 12 = nI (gW g).1 by rw [e4, qu_off (by decide), qu_same]]
      exact hq I4 J' (fun b j q1 q2 q3 q4 => by rw [e4, qu_off (by omega), qu_off (by omega), o' b j q1, fr b j q1 q2 q3 q4]) (fun b j q1 q2 q3 q4 => by rw [p' b j q2 q3 q4, fj b j q1 q2 q3 q4]) (by rw [e4, qu_same]) hw (fun e2 z => by rw [show zR1 B n = _ from eg] at z; cases z) (fun g2 e2 z => by rw [show zR1 B n = _ from eg] at e2; cases e2; exact absurd z q)
  · have eF : zrF (zR1 B n) = k := by unfold zrF; rw [show zR1 B n = _ from ej]
    have eP : zrP (zpsn B n) (zR1 B n) = nI (zpsn B n j) := by unfold zrP; rw [show zR1 B n = _ from ej]
    rw [eF, eP] at hq
    obtain ⟨b1, b2, b3, b4, b5⟩ := b'
    unfold v_Reader_readAll_125
    rw [b1]
    exact z_nr (nI_ne0 (by omega) (by omega)) (hq I' J' (fun b j q1 q2 q3 q4 => by rw [b3 b j q1, fr b j q1 q2 q3 q4]) (fun b j q1 q2 q3 q4 => by rw [b4 b j q2 q3 q4, fj b j q1 q2 q3 q4]) b2 (by omega) (fun e2 z => by rw [show zR1 B n = _ from ej] at z; cases z; show ¬ k = 0; omega) (fun g2 e2 _ => by rw [show zR1 B n = _ from ej] at e2; cases e2))
end
