/-! the reference: rows, nails, looks, costs -/
theorem s_M_isUp {I : zI} {J : zJ} {t : zX} {live p : Nat} {s : zT} (hX : mX I t live s) (hp : p < xP t) {Q : Int32 → zI → zJ → Prop} (h0 : sO s p = -2 → Q 0 I J) (h1 : ∀ h, h < xH t → sO s p = nI h → Q 1 I J) : v_M_isUp 5000 (nI p) I J Q := by
  have hP := hX.1.2.1
  have hH := hX.1.1
  unfold v_M_isUp
  rw [z_c6, nI_clamp (by omega), hX.2.2.2.2.2.1 p hp]
  refine ⟨vp_in_nI (by omega) (by decide), ?_⟩
  rcases z_on hX.2.2.1 hp with e | ⟨h, hh, e⟩
  · exact ⟨fun _ => h0 e, fun q => absurd (by rw [e]; decide) q⟩
  · exact ⟨fun q => absurd q (by rw [e]; exact nI_pos (by omega)), fun _ => h1 h hh e⟩
theorem s_M_nailAt {I : zI} {J : zJ} {t : zX} {live h : Nat} (hx : zX_ok t) (hT : mT I t live) (hh : h < xH t) {Q : Int32 → zI → zJ → Prop} (hq : Q (xN t h) I J) : v_M_nailAt 5000 (nI h) I J Q := by
  have hH := hx.1
  have hl := hT.1
  unfold v_M_nailAt
  rw [hT.2.1, z_m7, nI_clamp (by omega), hT.2.2.2.2.1 h hh]
  exact ⟨vp_in_nI (by omega) (by decide), hq⟩
theorem znl_up {t : zX} {s : zT} {p h : Nat} (hh : h < 2 ^ 31) (e : sO s p = nI h) : znl t s p = xN t h := by
  unfold znl
  rw [e, if_neg (nI_pos hh), nI_clamp hh]
theorem znl_fl {t : zX} {s : zT} {p : Nat} (e : sO s p = -2) : znl t s p = -2 := by
  unfold znl
  rw [e, if_pos z_neg2]
theorem zin_ne2 {x : Int32} {n : Nat} (hn : n < 2 ^ 31) (h : zin x n) : ¬ x = -2 := by
  obtain ⟨j, hj, rfl⟩ := h
  intro z
  exact absurd (z ▸ z_neg2) (nI_pos (by omega))
theorem s_M_manyOn_4 {I : zI} {J : zJ} {t : zX} {live : Nat} {s : zT} (hX : mX I t live s) {x : Int32} (hx2 : ¬ x = -2) {Q : Int32 → zI → zJ → Prop} : ∀ r i k c, i + r = xP t → r < k → Q (zmany t s x r i c) I J → v_M_manyOn_4 5000 k x c (nI i) I J Q
  | _, _, 0, _, _, hk, _ => absurd hk (Nat.not_lt_zero _)
  | 0, i, k + 1, c, hi, hk, hq => by
    have hP := hX.1.2.1
    have hl := hX.2.1.1
    rw [v_M_manyOn_4]; dsimp only; rw [hX.2.1.2.1, nI_clamp (by omega), hX.2.1.2.2.2.1]
    exact ⟨vp_in_nI hl (by decide), fun _ => hq, fun q => absurd (nI_le (by omega) (by omega)) q⟩
  | r + 1, i, k + 1, c, hi, hk, hq => by
    have hP := hX.1.2.1
    have hH := hX.1.1
    have hl := hX.2.1.1
    rw [v_M_manyOn_4]; dsimp only; rw [hX.2.1.2.1, nI_clamp (by omega), hX.2.1.2.2.2.1]
    rw [zmany] at hq
    refine ⟨vp_in_nI hl (by decide), fun q => absurd q (nI_ge (by omega) (by omega)), fun _ => s_M_isUp hX (by omega) (fun e => ⟨fun _ => ?_, fun q => absurd rfl q⟩) (fun h hh e => ⟨fun q => absurd q (by decide), fun _ => ⟨by rw [z_c6]; exact vp_in_nI (by omega) (by decide), ?_⟩⟩)⟩
    · rw [znl_fl e, if_neg (fun z => hx2 z.symm)] at hq
      rw [nI_1]
      exact s_M_manyOn_4 hX hx2 r (i + 1) k c (by omega) (by omega) hq
    · rw [z_c6, nI_clamp (by omega), hX.2.2.2.2.2.1 i (by omega), e]
      rw [znl_up (by omega) e] at hq
      refine s_M_nailAt hX.1 hX.2.1 hh ⟨fun q => ?_, fun q => ?_⟩
      · rw [if_neg q] at hq
        rw [nI_1]
        exact s_M_manyOn_4 hX hx2 r (i + 1) k c (by omega) (by omega) hq
      · rw [if_pos q] at hq
        rw [nI_1]
        exact s_M_manyOn_4 hX hx2 r (i + 1) k (c + 1) (by omega) (by omega) hq
theorem s_M_manyOn {I : zI} {J : zJ} {t : zX} {live : Nat} {s : zT} (hX : mX I t live s) {x : Int32} (hx2 : ¬ x = -2) {Q : Int32 → zI → zJ → Prop} (hq : Q (zmany t s x (xP t) 0 0) I J) : v_M_manyOn 5000 x I J Q :=
  s_M_manyOn_4 hX hx2 (xP t) 0 5000 0 (by omega) (by have := hX.1.2.1; omega) hq
theorem s_M_besideOf {I : zI} {J : zJ} {t : zX} {live p : Nat} {s : zT} (hX : mX I t live s) (hp : p < xP t) {Q : Int32 → zI → zJ → Prop} (h0 : sO s p = -2 → Q 0 I J) (h1 : ∀ h, h < xH t → sO s p = nI h → Q (zbes t s p) I J) : v_M_besideOf 5000 (nI p) I J Q := by
  have hP := hX.1.2.1
  have hH := hX.1.1
  refine s_M_isUp hX hp (fun e => ⟨fun _ => h0 e, fun q => absurd rfl q⟩) (fun h hh e => ⟨fun q => absurd q (by decide), fun _ => ⟨by rw [z_c6]; exact vp_in_nI (by omega) (by decide), ?_⟩⟩)
  rw [z_c6, nI_clamp (by omega), hX.2.2.2.2.2.1 p hp, e]
  refine s_M_nailAt hX.1 hX.2.1 hh (s_M_manyOn hX (zin_ne2 (by decide) (hX.1.2.2.1 h hh)) ?_)
  have := h1 h hh e
  unfold zbes at this
  rw [znl_up (by omega) e] at this
  exact this
theorem s_M_looks {I : zI} {J : zJ} {t : zX} {live p h : Nat} {s : zT} (hX : mX I t live s) (hp : p < xP t) (hh : h < xH t) {be : Int32} {Q : zI → zJ → Prop} (hq : ∀ I' : zI, (∀ b j, b ≠ 391 → I' b j = I b j) → (∀ j, j < 9 → I' 391 j = zvars t s p h be j) → Q I' J) : v_M_looks 5000 (nI p) (nI h) be I J Q := by
  have hP := hX.1.2.1
  have hH := hX.1.1
  have hl := hX.2.1.1
  obtain ⟨s0, s1, s2, s3, s4, s5, _⟩ := hX.2.2.2
  have v6 : vp_in (nI p) 32 := vp_in_nI (by omega) (by decide)
  have v7 : vp_in (nI (7 * live + h)) 14 := vp_in_nI (by omega) (by decide)
  have v8 : vp_in (nI (24 + h)) 32 := vp_in_nI (by omega) (by decide)
  have v9 : vp_in (nI (18 + p)) 32 := vp_in_nI (by omega) (by decide)
  obtain ⟨c0, c1, c2, c3, c4, c5, c6, c7, c8, c31, _⟩ := z_v
  unfold v_M_looks
  rw [hX.2.1.2.1, z_m7, z_c24, z_c18, nI_clamp (n := p) (by omega), nI_clamp (n := 7 * live + h) (by omega), nI_clamp (n := 24 + h) (by omega), nI_clamp (n := 18 + p) (by omega), s1 p hp, hX.2.1.2.2.2.2.2.1 h hh]
  refine ⟨v6, v7, ?_⟩
  have go : ((vp_in (nI (24 + h)) 32 ∧ (vp_in (0 : Int32) 9 ∧ ∀ I7 : zI, I7 = qu I 391 ((0 : Int32)).toNatClampNeg (zoff (sW s p) (xB t h) + (I 394 (24 + h))) → (vp_in (nI (24 + h)) 32 ∧ (vp_in (1 : Int32) 9 ∧ ∀ I10 : zI, I10 = qu I7 391 ((1 : Int32)).toNatClampNeg (I7 394 (24 + h)) → (vp_in (nI p) 32 ∧ (vp_in (2 : Int32) 9 ∧ ∀ I13 : zI, I13 = qu I10 391 ((2 : Int32)).toNatClampNeg (I10 394 p) → (vp_in (((6 : Int32) * (I13 361 18)) + nI p) 12 ∧ (vp_in (3 : Int32) 9 ∧ ∀ I16 : zI, I16 = qu I13 391 ((3 : Int32)).toNatClampNeg (I13 376 ((((6 : Int32) * (I13 361 18)) + nI p)).toNatClampNeg) → (vp_in (31 : Int32) 32 ∧ (vp_in (4 : Int32) 9 ∧ ∀ I19 : zI, I19 = qu I16 391 ((4 : Int32)).toNatClampNeg (I16 394 ((31 : Int32)).toNatClampNeg) → (vp_in (nI (18 + p)) 32 ∧ (vp_in (5 : Int32) 9 ∧ ∀ I22 : zI, I22 = qu I19 391 ((5 : Int32)).toNatClampNeg (I19 394 (18 + p)) → (vp_in (6 : Int32) 9 ∧ ∀ I24 : zI, I24 = qu I22 391 ((6 : Int32)).toNatClampNeg be → (vp_in (7 : Int32) 9 ∧ ∀ I26 : zI, I26 = qu I24 391 ((7 : Int32)).toNatClampNeg (nI p) → (v_M_nailAt 5000 (nI h) I26 J (fun r28 I29 J29 => (vp_in (8 : Int32) 9 ∧ ∀ I31 : zI, I31 = qu I29 391 ((8 : Int32)).toNatClampNeg r28 → Q I31 J29)))))))))))))))))) := by
    refine ⟨v8, c0, fun I7 e7 => ⟨v8, c1, fun I10 e10 => ⟨v6, c2, fun I13 e13 => ?_⟩⟩⟩
    rw [z_l0, s5 h hh] at e7
    have o7 : ∀ b j, b ≠ 391 → I7 b j = I b j := fun b j q => by rw [e7, qu_off (Or.inl q)]
    rw [z_l1, o7 _ _ (by decide), s5 h hh] at e10
    have o10 : ∀ b j, b ≠ 391 → I10 b j = I b j := fun b j q => by rw [e10, qu_off (Or.inl q), o7 b j q]
    rw [z_l2, o10 _ _ (by decide), s1 p hp] at e13
    have o13 : ∀ b j, b ≠ 391 → I13 b j = I b j := fun b j q => by rw [e13, qu_off (Or.inl q), o10 b j q]
    rw [o13 _ _ (by decide), hX.2.1.2.1, z_m6, nI_clamp (n := 6 * live + p) (by omega)]
    refine ⟨vp_in_nI (by omega) (by decide), c3, fun I16 e16 => ⟨c31, c4, fun I19 e19 => ⟨v9, c5, fun I22 e22 => ⟨c6, fun I24 e24 => ⟨c7, fun I26 e26 => ?_⟩⟩⟩⟩⟩
    rw [z_l3, o13 _ _ (by decide), hX.2.1.2.2.2.2.2.2.1 p hp] at e16
    have o16 : ∀ b j, b ≠ 391 → I16 b j = I b j := fun b j q => by rw [e16, qu_off (Or.inl q), o13 b j q]
    rw [z_l4, z_l31, o16 _ _ (by decide), s0] at e19
    have o19 : ∀ b j, b ≠ 391 → I19 b j = I b j := fun b j q => by rw [e19, qu_off (Or.inl q), o16 b j q]
    rw [z_l5, o19 _ _ (by decide), s4 p hp] at e22
    have o22 : ∀ b j, b ≠ 391 → I22 b j = I b j := fun b j q => by rw [e22, qu_off (Or.inl q), o19 b j q]
    rw [z_l6] at e24
    rw [z_l7] at e26
    have o24 : ∀ b j, b ≠ 391 → I24 b j = I b j := fun b j q => by rw [e24, qu_off (Or.inl q), o22 b j q]
    have o26 : ∀ b j, b ≠ 391 → I26 b j = I b j := fun b j q => by rw [e26, qu_off (Or.inl q), o24 b j q]
    refine s_M_nailAt hX.1 (hX.2.1.kept (fun b j q1 q2 => o26 b j (by omega)) (o26 _ _ (by decide))) hh ⟨c8, fun I31 e31 => ?_⟩
    rw [z_l8] at e31
    refine hq I31 (fun b j q => by rw [e31, qu_off (Or.inl q), o26 b j q]) (fun j hj => ?_)
    have hc : j = 0 ∨ j = 1 ∨ j = 2 ∨ j = 3 ∨ j = 4 ∨ j = 5 ∨ j = 6 ∨ j = 7 ∨ j = 8 := by omega
    rw [e31, e26, e24, e22, e19, e16, e13, e10, e7]
    rcases hc with rfl | rfl | rfl | rfl | rfl | rfl | rfl | rfl | rfl <;> rfl
  unfold zoff at go
  refine ⟨fun q => ?_, fun q => ?_⟩
  · rw [if_pos q] at go
    exact go
  · rw [if_neg q] at go
    exact go
theorem s_within {v m : Int32} {I : zI} {J : zJ} {Q : Int32 → zI → zJ → Prop} (hq : Q (zcl m v) I J) : v_M_within 5000 v 0 m I J Q := by
  unfold zcl at hq
  refine ⟨fun q => ?_, fun q => ?_⟩
  · rw [if_pos q] at hq
    refine ⟨fun q' => ?_, fun q' => ?_⟩
    · rw [if_pos q'] at hq
      exact hq
    · rw [if_neg q'] at hq
      exact hq
  · rw [if_neg q] at hq
    exact hq
theorem s_M_toldOf {I : zI} {J : zJ} {t : zX} {live p h k : Nat} {s : zT} (hX : mX I t live s) (hp : p < xP t) (hk : k < 4) (hh : h < xH t) (e : sO s p = nI h) {Q : Int32 → zI → zJ → Prop} (hq : ∀ I' : zI, frM I I' → Q (ztell t s k p) I' J) : v_M_toldOf 5000 (nI p) (nI k) I J Q := by
  have hP := hX.1.2.1
  have hH := hX.1.1
  unfold v_M_toldOf
  rw [z_c6, nI_clamp (by omega), hX.2.2.2.2.2.1 p hp, e]
  refine ⟨vp_in_nI (by omega) (by decide), s_M_besideOf hX hp (fun e' => absurd (e'.symm.trans e) (fun z => absurd (z ▸ z_neg2) (nI_pos (by omega)))) (fun h' _ _ => s_M_looks hX hp hh (fun I1 o1 f1 => ?_))⟩
  unfold ztell zlt2 at hq
  rw [e, nI_clamp (by omega)] at hq
  have hX1 : mX I1 t live s := hX.kept (fun b j q => o1 b j (by omega))
  have run : ∀ x : Int32, (x = if k = 0 ∨ k = 3 then zvars t s p h (zbes t s p) 0 else 0) → v_M_lawTells 5000 (nI k) x I1 J (fun r2 I3 J3 => ((¬ nI k = (2 : Int32) → (v_M_within 5000 r2 (0 : Int32) (99 : Int32) I3 J3 (fun r5 I6 J6 => Q r5 I6 J6))) ∧ (nI k = (2 : Int32) → (v_M_within 5000 r2 (0 : Int32) (100 : Int32) I3 J3 (fun r7 I8 J8 => Q r7 I8 J8))))) := by
    intro x hx
    refine s_M_lawTells hX1.2.1.1 hk hX1.2.1.2.1 (hX.1.2.2.2.2 k hk) (hX1.2.1.2.2.2.2.2.2.2.2.2 k hk) f1 hx (fun I2 o2 => ⟨fun q => s_within ?_, fun q => s_within ?_⟩)
    · have := hq I2 (fun b j q1 q2 q3 => by rw [o2 b j q2 q3, o1 b j q1])
      unfold zmost at this
      rw [if_neg (fun z => q (by rw [z]; rfl))] at this
      exact this
    · have := hq I2 (fun b j q1 q2 q3 => by rw [o2 b j q2 q3, o1 b j q1])
      unfold zmost at this
      rw [if_pos ((nI_eq (a := k) (b := 2) (by omega) (by decide)).mp q)] at this
      exact this
  have f0 := f1 0 (by decide)
  have run0 : k = 0 ∨ k = 3 → v_M_toldOf_30 5000 (nI k) (nI k) I1 J Q := fun hz => ⟨z_v.1, run _ (by rw [if_pos hz, z_l0, f0])⟩
  refine ⟨fun q => run0 (Or.inl ((nI_eq (a := k) (b := 0) (by omega) (by decide)).mp q)), fun q0 => ⟨fun q3 => run 0 ?_, fun q => run0 (Or.inr ((nI_eq (a := k) (b := 3) (by omega) (by decide)).mp q))⟩⟩
  rw [if_neg]
  rintro (z | z)
  · exact q0 (by rw [z]; rfl)
  · exact q3 (by rw [z]; rfl)
theorem s_M_costsAt {I : zI} {J : zJ} {t : zX} {live p h : Nat} {s : zT} (hX : mX I t live s) (hp : p < xP t) (hh : h < xH t) {Q : Int32 → zI → zJ → Prop} (hq : ∀ I' : zI, frM I I' → Q (zlt2 t s 3 p h 0) I' J) : v_M_costsAt 5000 (nI p) (nI h) I J Q := by
  refine s_M_looks hX hp hh (fun I1 o1 f1 => ⟨z_v.1, ?_⟩)
  have hX1 : mX I1 t live s := hX.kept (fun b j q => o1 b j (by omega))
  exact s_M_lawTells (c := 3) hX1.2.1.1 (by decide) hX1.2.1.2.1 (hX.1.2.2.2.2 3 (by decide)) (hX1.2.1.2.2.2.2.2.2.2.2.2 3 (by decide)) f1 (by rw [if_pos (Or.inr rfl), z_l0, f1 0 (by decide)]) (fun I2 o2 => s_within (hq I2 (fun b j q1 q2 q3 => by rw [o2 b j q2 q3, o1 b j q1])))
theorem s_M_costsAll_4 {J : zJ} {t : zX} {live : Nat} {s : zT} {Q : Int32 → zI → zJ → Prop} : ∀ r i k c (I : zI), mX I t live s → i + r = xP t → r < k → (∀ I' : zI, frM I I' → Q (zcosts t s r i c) I' J) → v_M_costsAll_4 5000 k c (nI i) I J Q
  | _, _, 0, _, _, _, _, hk, _ => absurd hk (Nat.not_lt_zero _)
  | 0, i, k + 1, c, I, hX, hi, hk, hq => by
    have hP := hX.1.2.1
    have hl := hX.2.1.1
    rw [v_M_costsAll_4]; dsimp only; rw [hX.2.1.2.1, nI_clamp (by omega), hX.2.1.2.2.2.1]
    exact ⟨vp_in_nI hl (by decide), fun _ => hq I (fun _ _ _ _ _ => rfl), fun q => absurd (nI_le (by omega) (by omega)) q⟩
  | r + 1, i, k + 1, c, I, hX, hi, hk, hq => by
    have hP := hX.1.2.1
    have hH := hX.1.1
    have hl := hX.2.1.1
    rw [v_M_costsAll_4]; dsimp only; rw [hX.2.1.2.1, nI_clamp (by omega), hX.2.1.2.2.2.1]
    rw [zcosts] at hq
    refine ⟨vp_in_nI hl (by decide), fun q => absurd q (nI_ge (by omega) (by omega)), fun _ => s_M_isUp hX (by omega) (fun e => ⟨fun _ => ?_, fun q => absurd rfl q⟩) (fun h hh e => ⟨fun q => absurd q (by decide), fun _ => ?_⟩)⟩
    · rw [nI_1]
      rw [if_pos (by rw [e]; decide)] at hq
      exact s_M_costsAll_4 r (i + 1) k c I hX (by omega) (by omega) hq
    · rw [if_neg (by rw [e]; exact nI_pos (by omega))] at hq
      refine s_M_toldOf (k := 3) hX (by omega) (by decide) hh e (fun I2 o2 y ey => ?_)
      rw [ey, nI_1]
      exact s_M_costsAll_4 r (i + 1) k _ I2 (hX.frM o2) (by omega) (by omega) (fun I' o' => hq I' (o2.tr o'))
theorem s_M_costsAll {I : zI} {J : zJ} {t : zX} {live : Nat} {s : zT} (hX : mX I t live s) {Q : Int32 → zI → zJ → Prop} (hq : ∀ I' : zI, frM I I' → Q (zcosts t s (xP t) 0 0) I' J) : v_M_costsAll 5000 I J Q :=
  s_M_costsAll_4 (xP t) 0 5000 0 I hX (by omega) (by have := hX.1.2.1; omega) hq
