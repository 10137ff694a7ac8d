/-! the reference: the next one on a nail, a whole night -/
theorem s_M_nextOn_53 {I : zI} {J : zJ} {t : zX} {live b : Nat} {x2 : Int32} (hx : zX_ok t) (hT : mT I t live) (hb : b < xP t) {Q : Int32 → zI → zJ → Prop} {K : Int32 → Int32 → zI → zJ → Prop} (hq : K x2 (nI ((b + 1) % xP t)) I J) : v_M_nextOn_53 5000 x2 (nI b) I J Q K := by
  have hP := hx.2.1
  have hl := hT.1
  unfold v_M_nextOn_53
  rw [hT.2.1, nI_clamp (by omega), hT.2.2.2.1, nI_1, nI_mod (by omega) (by omega)]
  exact ⟨vp_in_nI hl (by decide), nI_ne0 (by omega) (by omega), fun y e => by rw [e]; exact hq⟩
theorem s_M_nextOn_28 {I : zI} {J : zJ} {t : zX} {live q : Nat} {s : zT} {x : Int32} (hX : mX I t live s) (hx2 : ¬ x = -2) (hfq : znl t s q = x) {Q : Int32 → zI → zJ → Prop} (hq : Q (nI q) I J) : ∀ d b k, b < xP t → d < k → (b + d) % xP t = q → (∀ e, e < d → ¬ znl t s ((b + e) % xP t) = x) → v_M_nextOn_28 5000 k x (nI b) I J Q
  | _, _, 0, _, hk, _, _ => absurd hk (Nat.not_lt_zero _)
  | 0, b, k + 1, hb, hk, hd, hn => by
    have hP := hX.1.2.1
    have hH := hX.1.1
    rw [Nat.add_zero, Nat.mod_eq_of_lt hb] at hd
    subst hd
    rw [v_M_nextOn_28]
    refine s_M_isUp hX hb (fun e => absurd (hfq.symm.trans (znl_fl e)) hx2) (fun h hh e => z_n z_10 ⟨by rw [z_c6]; exact vp_in_nI (by omega) (by decide), ?_⟩)
    rw [z_c6, nI_clamp (by omega), hX.2.2.2.2.2.1 b hb, e]
    refine s_M_nailAt hX.1 hX.2.1 hh (z_y ?_ hq)
    rw [← znl_up (by omega) e]; exact hfq
  | d + 1, b, k + 1, hb, hk, hd, hn => by
    have hP := hX.1.2.1
    have hH := hX.1.1
    have hb0 := hn 0 (by omega)
    rw [Nat.add_zero, Nat.mod_eq_of_lt hb] at hb0
    have hgo : v_M_nextOn_28 5000 k x (nI ((b + 1) % xP t)) I J Q := s_M_nextOn_28 hX hx2 hfq hq d ((b + 1) % xP t) k (Nat.mod_lt _ (by omega)) (by omega) (by rw [Nat.mod_add_mod, ← hd]; congr 1; omega) (fun e he => by
      have := hn (e + 1) (by omega)
      rw [Nat.mod_add_mod]
      rw [show b + 1 + e = b + (e + 1) by omega]
      exact this)
    rw [v_M_nextOn_28]
    refine s_M_isUp hX hb (fun e => z_y z_00 (s_M_nextOn_53 hX.1 hX.2.1 hb hgo)) (fun h hh e => z_n z_10 ⟨by rw [z_c6]; exact vp_in_nI (by omega) (by decide), ?_⟩)
    rw [z_c6, nI_clamp (by omega), hX.2.2.2.2.2.1 b hb, e]
    refine s_M_nailAt hX.1 hX.2.1 hh (z_n ?_ (s_M_nextOn_53 hX.1 hX.2.1 hb hgo))
    rw [← znl_up (by omega) e]; exact hb0
theorem s_M_nextOn {I : zI} {J : zJ} {t : zX} {live p h : Nat} {s : zT} (hX : mX I t live s) (hp : p < xP t) (hh : h < xH t) (e : sO s p = nI h) {Q : Int32 → zI → zJ → Prop} (hq : Q (nI (znx (xP t) (znl t s) p)) I J) : v_M_nextOn 5000 (nI p) I J Q := by
  have hP := hX.1.2.1
  have hH := hX.1.1
  have hl := hX.2.1.1
  unfold v_M_nextOn
  rw [z_c6, nI_clamp (by omega), hX.2.2.2.2.2.1 p hp, e]
  refine ⟨vp_in_nI (by omega) (by decide), s_M_nailAt hX.1 hX.2.1 hh ?_⟩
  rw [hX.2.1.2.1, nI_clamp (by omega), hX.2.1.2.2.2.1, nI_1, nI_mod (by omega) (by omega)]
  refine ⟨vp_in_nI hl (by decide), nI_ne0 (by omega) (by omega), fun y ey => ?_⟩
  rw [ey]
  have hnp := znl_up (t := t) (by omega) e
  obtain ⟨⟨g1, g2⟩, g3⟩ := znx_spec (f := znl t s) hp
  have hfq := g2
  rw [hnp] at hfq
  have hx2 : ¬ xN t h = -2 := zin_ne2 (by decide) (hX.1.2.2.1 h hh)
  rw [hnp] at g3
  rcases g3 with ⟨h1, h2⟩ | ⟨h1, h2, h3⟩
  · refine s_M_nextOn_28 hX hx2 hfq hq (znx (xP t) (znl t s) p - p - 1) ((p + 1) % xP t) 5000 (Nat.mod_lt _ (by omega)) (by omega) ?_ (fun e he => ?_)
    · rw [Nat.mod_add_mod, show p + 1 + (znx (xP t) (znl t s) p - p - 1) = znx (xP t) (znl t s) p by omega, Nat.mod_eq_of_lt g1]
    · rw [Nat.mod_add_mod, Nat.mod_eq_of_lt (by omega)]
      exact h2 _ (by omega) (by omega)
  · refine s_M_nextOn_28 hX hx2 hfq hq (xP t - p - 1 + znx (xP t) (znl t s) p) ((p + 1) % xP t) 5000 (Nat.mod_lt _ (by omega)) (by omega) ?_ (fun e he => ?_)
    · rw [Nat.mod_add_mod, show p + 1 + (xP t - p - 1 + znx (xP t) (znl t s) p) = znx (xP t) (znl t s) p + xP t by omega, Nat.add_mod_right, Nat.mod_eq_of_lt g1]
    · rw [Nat.mod_add_mod]
      rcases Nat.lt_or_ge (p + 1 + e) (xP t) with z | z
      · rw [Nat.mod_eq_of_lt z]
        exact h2 _ (by omega) z
      · rw [Nat.mod_eq_sub_mod z, Nat.mod_eq_of_lt (by omega)]
        exact h3 _ (by omega)
def zCk (t : zX) (s : zT) (k p : Nat) : Int32 := if sO s p < 0 then 0 else ztell t s k p
def zPk (t : zX) (s : zT) (sd st : Int32) (p : Nat) : Int32 := if sO s p < 0 then 0 else if st = 0 then if ztell t s 2 p ≤ zlot 100 sd (16 * sN s + nI p) then 0 else 1 else 0
theorem zPk_b (t : zX) (s : zT) (sd st : Int32) (p : Nat) : zPk t s sd st p = 0 ∨ zPk t s sd st p = 1 := by
  unfold zPk
  by_cases h : sO s p < 0
  · exact Or.inl (if_pos h)
  · rw [if_neg h]
    by_cases h' : st = 0
    · rw [if_pos h']
      by_cases h'' : ztell t s 2 p ≤ zlot 100 sd (16 * sN s + nI p)
      · exact Or.inl (if_pos h'')
      · exact Or.inr (if_neg h'')
    · exact Or.inl (if_neg h')
abbrev frG (I I' : zI) : Prop := ∀ b j, b ≠ 391 → b ≠ 392 → ¬ (395 ≤ b ∧ b ≤ 398) → ¬ (b = 361 ∧ j = 48) → I' b j = I b j
def zFill (I : zI) (t : zX) (s : zT) (sd st : Int32) (i : Nat) : Prop := ∀ p, p < i → I 395 p = zCk t s 0 p ∧ I 396 p = zCk t s 1 p ∧ I 397 p = zPk t s sd st p ∧ I 398 p = zSn t s p
theorem mX.frG {I I' : zI} {t : zX} {live : Nat} {s : zT} (h : mX I t live s) (e : frG I I') : mX I' t live s := h.kept (fun b j q => e b j (by omega) (by omega) (by omega) (by omega))
theorem z_nar01 {x : Int32} (h : x = 0 ∨ x = 1) : vp_nar .boolean x = x := z_nar h
theorem s_M_ng109 {I : zI} {J : zJ} {t : zX} {live i : Nat} {s : zT} {sd st up x : Int32} (hX : mX I t live s) (hi : i < xP t) (hf : zFill I t s sd st i) (h5 : I 395 i = zCk t s 0 i) (h6 : I 396 i = zCk t s 1 i) (hx : x = zPk t s sd st i) (hup : up = zup1 (sO s i)) {Q : zI → zJ → Prop} {K : Int32 → zI → zJ → Prop} (hq : ∀ I' : zI, frG I I' → zFill I' t s sd st (i + 1) → K (nI (i + 1)) I' J) : v_M_nightGoes_109 5000 (nI i) up x (nI i) I J Q K := by
  have hP := hX.1.2.1
  have hH := hX.1.1
  subst hx
  refine ⟨vp_in_nI (by omega) (by decide), fun I2 e2 => ?_⟩
  rw [nI_clamp (by omega), z_nar01 (zPk_b t s sd st i)] at e2
  have o2 : ∀ b j, ¬ (b = 397 ∧ j = i) → I2 b j = I b j := fun b j q => by rw [e2, qu_off (by omega)]
  have hX2 : mX I2 t live s := hX.kept (fun b j q => o2 b j (by omega))
  have go : ∀ I6 : zI, I6 = qu I2 398 i (zSn t s i) → K (nI (i + 1)) I6 J := fun I6 e6 => by
    have o6 : ∀ b j, ¬ (b = 397 ∧ j = i) → ¬ (b = 398 ∧ j = i) → I6 b j = I b j := fun b j q1 q2 => by rw [e6, qu_off (by omega), o2 b j q1]
    refine hq I6 (fun b j q1 q2 q3 q4 => o6 b j (by omega) (by omega)) (fun p hp => ?_)
    by_cases h : p = i
    · subst h
      refine ⟨by rw [o6 _ _ (by omega) (by omega)]; exact h5, by rw [o6 _ _ (by omega) (by omega)]; exact h6, ?_, by rw [e6, qu_same]⟩
      rw [e6, qu_off (by omega), e2, qu_same]
    · obtain ⟨g1, g2, g3, g4⟩ := hf p (by omega)
      exact ⟨by rw [o6 _ _ (by omega) (by omega)]; exact g1, by rw [o6 _ _ (by omega) (by omega)]; exact g2, by rw [o6 _ _ (by omega) (by omega)]; exact g3, by rw [o6 _ _ (by omega) (by omega)]; exact g4⟩
  rcases z_on hX.2.2.1 hi with e | ⟨h, hh, e⟩
  · rw [hup, zup1_fl e]
    refine z_y z_00 ⟨by rw [z_c12]; exact vp_in_nI (by omega) (by decide), vp_in_nI (by omega) (by decide), fun I6 e6 => ?_⟩
    rw [z_c12, nI_clamp (by omega), nI_clamp (by omega), hX2.2.2.2.2.2.2.1 i hi] at e6
    rw [nI_1]
    refine go I6 (e6.trans ?_)
    unfold zSn
    rw [e, if_pos z_neg2]
  · rw [hup, zup1_up (by omega) e]
    refine z_n z_10 (s_M_nextOn hX2 hi hh e ?_)
    have hz := (znx_spec (f := znl t s) hi).1.1
    refine ⟨by rw [z_c12]; exact vp_in_nI (by omega) (by decide), vp_in_nI (by omega) (by decide), fun I6 e6 => ?_⟩
    rw [z_c12, nI_clamp (by omega), nI_clamp (by omega), hX2.2.2.2.2.2.2.1 _ hz] at e6
    rw [nI_1]
    refine go I6 (e6.trans ?_)
    unfold zSn
    rw [e, if_neg (nI_pos (by omega))]
theorem s_M_ng60 {I : zI} {J : zJ} {t : zX} {live i : Nat} {s : zT} {sd st up x : Int32} (h51 : I 361 51 = sd) (h52 : I 361 52 = st) (hX : mX I t live s) (hi : i < xP t) (hf : zFill I t s sd st i) (h5 : I 395 i = zCk t s 0 i) (hx : x = zCk t s 1 i) (hup : up = zup1 (sO s i)) {Q : zI → zJ → Prop} {K : Int32 → zI → zJ → Prop} (hq : ∀ I' : zI, frG I I' → zFill I' t s sd st (i + 1) → K (nI (i + 1)) I' J) : v_M_nightGoes_60 5000 (nI i) up x (nI i) I J Q K := by
  have hP := hX.1.2.1
  have hH := hX.1.1
  subst hx
  refine ⟨vp_in_nI (by omega) (by decide), fun I2 e2 => ?_⟩
  rw [nI_clamp (by omega)] at e2
  have o2 : ∀ b j, ¬ (b = 396 ∧ j = i) → I2 b j = I b j := fun b j q => by rw [e2, qu_off (by omega)]
  have hX2 : mX I2 t live s := hX.kept (fun b j q => o2 b j (by omega))
  have hf2 : zFill I2 t s sd st i := fun p hp => by
    obtain ⟨g1, g2, g3, g4⟩ := hf p hp
    exact ⟨by rw [o2 _ _ (by omega)]; exact g1, by rw [o2 _ _ (by omega)]; exact g2, by rw [o2 _ _ (by omega)]; exact g3, by rw [o2 _ _ (by omega)]; exact g4⟩
  have h52' : I2 361 52 = st := by rw [o2 _ _ (by omega)]; exact h52
  have h51' : I2 361 51 = sd := by rw [o2 _ _ (by omega)]; exact h51
  have go : ∀ (I3 : zI) (y : Int32), frM I2 I3 → y = zPk t s sd st i → v_M_nightGoes_109 5000 (nI i) up y (nI i) I3 J Q K := fun I3 y o3 ey => by
    refine s_M_ng109 (hX2.frM o3) hi (fun p hp => ?_) ?_ ?_ ey hup (fun I' o' f' => hq I' (fun b j q1 q2 q3 q4 => by rw [o' b j q1 q2 q3 q4, o3 b j q1 q2 q4, o2 b j (by omega)]) f')
    · rw [o3 395 p (by decide) (by decide) (by omega), o3 396 p (by decide) (by decide) (by omega), o3 397 p (by decide) (by decide) (by omega), o3 398 p (by decide) (by decide) (by omega)]
      exact hf2 p hp
    · rw [o3 395 i (by decide) (by decide) (by omega), o2 _ _ (by omega)]; exact h5
    · rw [o3 396 i (by decide) (by decide) (by omega), e2, qu_same]
  rcases z_on hX.2.2.1 hi with e | ⟨h, hh, e⟩
  · have ez : (0 : Int32) = zPk t s sd st i := by unfold zPk; rw [e, if_pos z_neg2]
    exact z_y (by rw [hup, zup1_fl e]) (go I2 0 (fun _ _ _ _ _ => rfl) ez)
  · have hnn : ¬ sO s i < 0 := by rw [e]; exact nI_pos (by omega)
    refine z_n (by rw [hup, zup1_up (by omega) e]; decide) ⟨fun q => ?_, fun q => ?_⟩
    · rw [h52'] at q
      refine go I2 0 (fun _ _ _ _ _ => rfl) ?_
      unfold zPk
      rw [if_neg hnn, if_neg q]
    · rw [h52'] at q
      rw [z_l31, hX2.2.2.2.1]
      refine ⟨z_v.2.2.2.2.2.2.2.2.2.1, s_M_lotOf (n := 100) (by decide) (by decide) h51' (s_M_toldOf (k := 2) hX2 hi (by decide) hh e (fun I9 o9 => ⟨fun q' => ?_, fun q' => ?_⟩))⟩
      · refine go I9 0 o9 ?_
        unfold zPk
        rw [if_neg hnn, if_pos q]
        exact (if_pos q').symm
      · refine go I9 1 o9 ?_
        unfold zPk
        rw [if_neg hnn, if_pos q]
        exact (if_neg q').symm
theorem s_M_ng40 {I : zI} {J : zJ} {t : zX} {live i : Nat} {s : zT} {sd st up x : Int32} (h51 : I 361 51 = sd) (h52 : I 361 52 = st) (hX : mX I t live s) (hi : i < xP t) (hf : zFill I t s sd st i) (hx : x = zCk t s 0 i) (hup : up = zup1 (sO s i)) {Q : zI → zJ → Prop} {K : Int32 → zI → zJ → Prop} (hq : ∀ I' : zI, frG I I' → zFill I' t s sd st (i + 1) → K (nI (i + 1)) I' J) : v_M_nightGoes_40 5000 (nI i) up x (nI i) I J Q K := by
  have hP := hX.1.2.1
  have hH := hX.1.1
  subst hx
  refine ⟨vp_in_nI (by omega) (by decide), fun I2 e2 => ?_⟩
  rw [nI_clamp (by omega)] at e2
  have o2 : ∀ b j, ¬ (b = 395 ∧ j = i) → I2 b j = I b j := fun b j q => by rw [e2, qu_off (by omega)]
  have hX2 : mX I2 t live s := hX.kept (fun b j q => o2 b j (by omega))
  have hf2 : zFill I2 t s sd st i := fun p hp => by
    obtain ⟨g1, g2, g3, g4⟩ := hf p hp
    exact ⟨by rw [o2 _ _ (by omega)]; exact g1, by rw [o2 _ _ (by omega)]; exact g2, by rw [o2 _ _ (by omega)]; exact g3, by rw [o2 _ _ (by omega)]; exact g4⟩
  have go : ∀ (I3 : zI) (y : Int32), frM I2 I3 → y = zCk t s 1 i → v_M_nightGoes_60 5000 (nI i) up y (nI i) I3 J Q K := fun I3 y o3 ey => by
    refine s_M_ng60 ?_ ?_ (hX2.frM o3) hi (fun p hp => ?_) ?_ ey hup (fun I' o' f' => hq I' (fun b j q1 q2 q3 q4 => by rw [o' b j q1 q2 q3 q4, o3 b j q1 q2 q4, o2 b j (by omega)]) f')
    · rw [o3 361 51 (by decide) (by decide) (by omega), o2 _ _ (by omega)]; exact h51
    · rw [o3 361 52 (by decide) (by decide) (by omega), o2 _ _ (by omega)]; exact h52
    · rw [o3 395 p (by decide) (by decide) (by omega), o3 396 p (by decide) (by decide) (by omega), o3 397 p (by decide) (by decide) (by omega), o3 398 p (by decide) (by decide) (by omega)]
      exact hf2 p hp
    · rw [o3 395 i (by decide) (by decide) (by omega), e2, qu_same]
  rcases z_on hX.2.2.1 hi with e | ⟨h, hh, e⟩
  · have ez : (0 : Int32) = zCk t s 1 i := by unfold zCk; rw [e, if_pos z_neg2]
    exact z_y (by rw [hup, zup1_fl e]) (go I2 0 (fun _ _ _ _ _ => rfl) ez)
  · have hnn : ¬ sO s i < 0 := by rw [e]; exact nI_pos (by omega)
    have ez : ztell t s 1 i = zCk t s 1 i := by unfold zCk; rw [if_neg hnn]
    exact z_n (by rw [hup, zup1_up (by omega) e]; decide) (s_M_toldOf (k := 1) hX2 hi (by decide) hh e (fun I9 o9 => go I9 _ o9 ez))
theorem s_M_ng2 {J : zJ} {t : zX} {live : Nat} {s : zT} {sd st : Int32} {Q K : zI → zJ → Prop} : ∀ r i k (I : zI), I 361 51 = sd → I 361 52 = st → mX I t live s → zFill I t s sd st i → i + r = xP t → r < k → (∀ I' : zI, frG I I' → zFill I' t s sd st (xP t) → K I' J) → v_M_nightGoes_2 5000 k (nI i) I J Q K
  | _, _, 0, _, _, _, _, _, _, hk, _ => absurd hk (Nat.not_lt_zero _)
  | 0, i, k + 1, I, h51, h52, hX, hf, hi, hk, hq => by
    have hP := hX.1.2.1
    have hl := hX.2.1.1
    rw [v_M_nightGoes_2]; dsimp only; rw [hX.2.1.2.1, nI_clamp (by omega), hX.2.1.2.2.2.1]
    rw [show i = xP t by omega] at hf
    exact ⟨vp_in_nI hl (by decide), z_y (nI_le (by omega) (by omega)) (hq I (fun _ _ _ _ _ _ => rfl) hf)⟩
  | r + 1, i, k + 1, I, h51, h52, hX, hf, hi, hk, hq => by
    have hP := hX.1.2.1
    have hH := hX.1.1
    have hl := hX.2.1.1
    rw [v_M_nightGoes_2]; dsimp only; rw [hX.2.1.2.1, nI_clamp (by omega), hX.2.1.2.2.2.1]
    have hin : i < xP t := by omega
    have go : ∀ I1 : zI, frG I I1 → zFill I1 t s sd st (i + 1) → v_M_nightGoes_2 5000 k (nI (i + 1)) I1 J Q K := fun I1 o1 f1 => s_M_ng2 r (i + 1) k I1 (by rw [o1 _ _ (by decide) (by decide) (by decide) (by decide)]; exact h51) (by rw [o1 _ _ (by decide) (by decide) (by decide) (by decide)]; exact h52) (hX.frG o1) f1 (by omega) (by omega) (fun I' o' f' => hq I' (fun b j q1 q2 q3 q4 => by rw [o' b j q1 q2 q3 q4, o1 b j q1 q2 q3 q4]) f')
    refine ⟨vp_in_nI hl (by decide), z_n (nI_ge (by omega) (by omega)) (s_M_isUp hX hin (fun e => z_y z_00 ?_) (fun h hh e => z_n z_10 (s_M_toldOf (k := 0) hX hin (by decide) hh e (fun I7 o7 => ?_))))⟩
    · exact s_M_ng40 h51 h52 hX hin hf (by unfold zCk; rw [e, if_pos z_neg2]) (zup1_fl e).symm go
    · refine s_M_ng40 (by rw [o7 _ _ (by decide) (by decide) (by decide)]; exact h51) (by rw [o7 _ _ (by decide) (by decide) (by decide)]; exact h52) (hX.frM o7) hin (fun p hp => ?_) (by unfold zCk; rw [e, if_neg (nI_pos (by omega))]) (zup1_up (by omega) e).symm (fun I1 o1 f1 => go I1 (fun b j q1 q2 q3 q4 => by rw [o1 b j q1 q2 q3 q4, o7 b j q1 q2 q4]) f1)
      rw [o7 395 p (by decide) (by decide) (by omega), o7 396 p (by decide) (by decide) (by omega), o7 397 p (by decide) (by decide) (by omega), o7 398 p (by decide) (by decide) (by omega)]
      exact hf p hp
/-- the row while people wake one after the other -/
def zms (t : zX) (s : zT) (sl : Nat → Int32) (i : Nat) : zT := (sW s, (fun q => if q < i then (if sl q = 0 then sO s q else -2) else sO s q), (fun q => if q < i then zSn t s q else sS s q), (fun q => if q < i then zCn t s q else sC s q), zBi t s i, sN s)
theorem z_uptoE {f g : Nat → Int32} {i p : Nat} (h : p ≠ i) : (if p < i + 1 then f p else g p) = if p < i then f p else g p := by
  by_cases h' : p < i
  · rw [if_pos h', if_pos (by omega)]
  · rw [if_neg h', if_neg (by omega)]
theorem z_uptoI {f g : Nat → Int32} {i : Nat} : (if i < i + 1 then f i else g i) = f i := if_pos (Nat.lt_succ_self _)
theorem s_M_wk100 {I : zI} {J : zJ} {t : zX} {s : zT} {sl : Nat → Int32} {i : Nat} (hP : xP t ≤ 6) (hH : xH t ≤ 7) (hi : i < xP t) (h7 : I 397 i = sl i) (h8 : I 398 i = zSn t s i) (hm0 : I 394 31 = sN s) (hm1 : ∀ p, p < xP t → I 394 p = sW s p) (hm2 : ∀ p, p < xP t → I 394 (6 + p) = sO (zms t s sl i) p) (hm3 : ∀ p, p < xP t → I 394 (12 + p) = sS (zms t s sl i) p) (hm4 : ∀ p, p < xP t → I 394 (18 + p) = sC (zms t s sl (i + 1)) p) (hm5 : ∀ p, p < xH t → I 394 (24 + p) = sB (zms t s sl (i + 1)) p) (hm6 : ∀ p, xP t ≤ p → p < 6 → I 394 (18 + p) = 0) (hm7 : ∀ p, xH t ≤ p → p < 7 → I 394 (24 + p) = 0) {Q : zI → zJ → Prop} (hq : ∀ I' : zI, mR I' (xH t) (xP t) 394 (zms t s sl (i + 1)) → (∀ b j, b ≠ 394 → I' b j = I b j) → Q I' J) : v_M_wakes_100 5000 (nI i) I J Q := by
  have hS : ∀ p, p ≠ i → sS (zms t s sl (i + 1)) p = sS (zms t s sl i) p := fun p h => z_uptoE (f := zSn t s) (g := sS s) h
  have hO : ∀ p, p ≠ i → sO (zms t s sl (i + 1)) p = sO (zms t s sl i) p := fun p h => z_uptoE (f := fun q => if sl q = 0 then sO s q else -2) (g := sO s) h
  have hSi : sS (zms t s sl (i + 1)) i = zSn t s i := z_uptoI (f := zSn t s) (g := sS s)
  have hOi : sO (zms t s sl (i + 1)) i = if sl i = 0 then sO s i else -2 := z_uptoI (f := fun q => if sl q = 0 then sO s q else -2) (g := sO s)
  have hOi' : sO (zms t s sl i) i = sO s i := if_neg (Nat.lt_irrefl i)
  refine ⟨vp_in_nI (by omega) (by decide), by rw [z_c12]; exact vp_in_nI (by omega) (by decide), fun I3 e3 => ⟨vp_in_nI (by omega) (by decide), ?_⟩⟩
  rw [z_c12, nI_clamp (by omega), nI_clamp (by omega), h8] at e3
  have o3 : ∀ b j, ¬ (b = 394 ∧ j = 12 + i) → I3 b j = I b j := fun b j q => by rw [e3, qu_off (by omega)]
  have c3 : ∀ p, p < xP t → I3 394 (12 + p) = sS (zms t s sl (i + 1)) p := fun p hp => by
    by_cases h : p = i
    · subst h; rw [e3, qu_same, hSi]
    · rw [o3 _ _ (by omega), hm3 p hp, hS p h]
  rw [nI_clamp (by omega), o3 _ _ (by omega), h7]
  refine ⟨fun q => ?_, fun q => ⟨by rw [z_c6]; exact vp_in_nI (by omega) (by decide), fun I7 e7 => ?_⟩⟩
  · refine hq I3 ⟨by rw [o3 _ _ (by omega)]; exact hm0, fun p hp => by rw [o3 _ _ (by omega)]; exact hm1 p hp, fun p hp => ?_, c3, fun p hp => by rw [o3 _ _ (by omega)]; exact hm4 p hp, fun p hp => by rw [o3 _ _ (by omega)]; exact hm5 p hp, fun p hp hp' => by rw [o3 _ _ (by omega)]; exact hm6 p hp hp', fun p hp hp' => by rw [o3 _ _ (by omega)]; exact hm7 p hp hp'⟩ (fun b j h => o3 b j (by omega))
    rw [o3 _ _ (by omega), hm2 p hp]
    by_cases h : p = i
    · subst h; rw [hOi, hOi', if_pos q]
    · exact (hO p h).symm
  · rw [z_c6, nI_clamp (by omega)] at e7
    have o7 : ∀ b j, ¬ (b = 394 ∧ j = 6 + i) → I7 b j = I3 b j := fun b j q => by rw [e7, qu_off (by omega)]
    refine hq I7 ⟨by rw [o7 _ _ (by omega), o3 _ _ (by omega)]; exact hm0, fun p hp => by rw [o7 _ _ (by omega), o3 _ _ (by omega)]; exact hm1 p hp, fun p hp => ?_, fun p hp => by rw [o7 _ _ (by omega)]; exact c3 p hp, fun p hp => by rw [o7 _ _ (by omega), o3 _ _ (by omega)]; exact hm4 p hp, fun p hp => by rw [o7 _ _ (by omega), o3 _ _ (by omega)]; exact hm5 p hp, fun p hp hp' => by rw [o7 _ _ (by omega), o3 _ _ (by omega)]; exact hm6 p hp hp', fun p hp hp' => by rw [o7 _ _ (by omega), o3 _ _ (by omega)]; exact hm7 p hp hp'⟩ (fun b j h => by rw [o7 b j (by omega), o3 b j (by omega)])
    by_cases h : p = i
    · subst h; rw [e7, qu_same, hOi, if_neg q]
    · rw [o7 _ _ (by omega), o3 _ _ (by omega), hm2 p hp, hO p h]
theorem s_M_wakes {I : zI} {J : zJ} {t : zX} {s : zT} {sl : Nat → Int32} {i : Nat} (hx : zX_ok t) (hw : zW (xH t) (xP t) s) (hi : i < xP t) (h5 : I 395 i = zCk t s 0 i) (h6 : I 396 i = zCk t s 1 i) (h7 : I 397 i = sl i) (h8 : I 398 i = zSn t s i) (hm : mR I (xH t) (xP t) 394 (zms t s sl i)) {Q : zI → zJ → Prop} (hq : ∀ I' : zI, mR I' (xH t) (xP t) 394 (zms t s sl (i + 1)) → (∀ b j, b ≠ 394 → I' b j = I b j) → Q I' J) : v_M_wakes 5000 (nI i) I J Q := by
  have hP := hx.2.1
  have hH := hx.1
  obtain ⟨m0, m1, m2, m3, m4, m5, m6, m7⟩ := id hm
  have hOi' : sO (zms t s sl i) i = sO s i := if_neg (Nat.lt_irrefl i)
  have hCi' : sC (zms t s sl i) i = sC s i := if_neg (Nat.lt_irrefl i)
  have hC : ∀ p, p ≠ i → sC (zms t s sl (i + 1)) p = sC (zms t s sl i) p := fun p h => z_uptoE (f := zCn t s) (g := sC s) h
  have hCi : sC (zms t s sl (i + 1)) i = zCn t s i := z_uptoI (f := zCn t s) (g := sC s)
  have v18 : vp_in ((18 : Int32) + nI i) 32 := by rw [z_c18]; exact vp_in_nI (by omega) (by decide)
  unfold v_M_wakes v_M_isUp
  rw [z_c6, nI_clamp (by omega), m2 i hi, hOi']
  refine ⟨vp_in_nI (by omega) (by decide), ?_⟩
  rcases z_on hw hi with e | ⟨h, hh, e⟩
  · refine ⟨fun _ => z_y z_00 ⟨v18, fun I5 e5 => ?_⟩, fun q => absurd (by rw [e]; decide) q⟩
    rw [z_c18, nI_clamp (by omega)] at e5
    have o5 : ∀ b j, ¬ (b = 394 ∧ j = 18 + i) → I5 b j = I b j := fun b j q => by rw [e5, qu_off (by omega)]
    refine s_M_wk100 hP hH hi (by rw [o5 _ _ (by omega)]; exact h7) (by rw [o5 _ _ (by omega)]; exact h8) (by rw [o5 _ _ (by omega)]; exact m0) (fun p hp => by rw [o5 _ _ (by omega)]; exact m1 p hp) (fun p hp => by rw [o5 _ _ (by omega)]; exact m2 p hp) (fun p hp => by rw [o5 _ _ (by omega)]; exact m3 p hp) (fun p hp => ?_) (fun p hp => ?_) (fun p hp hp' => by rw [o5 _ _ (by omega)]; exact m6 p hp hp') (fun p hp hp' => by rw [o5 _ _ (by omega)]; exact m7 p hp hp') (fun I' hm' o' => hq I' hm' (fun b j q => by rw [o' b j q, o5 b j (by omega)]))
    · by_cases h : p = i
      · subst h; rw [e5, qu_same, hCi]; unfold zCn; rw [e, if_pos z_neg2]
      · rw [o5 _ _ (by omega), m4 p hp, hC p h]
    · rw [o5 _ _ (by omega), m5 p hp]
      show zBi t s i p = if sO s i = nI p then _ else zBi t s i p
      rw [if_neg (fun z => z_ne2 (n := p) (by omega) (z.symm.trans e))]
  · refine ⟨fun q => absurd q (by rw [e]; exact nI_pos (by omega)), fun _ => z_n z_10 ⟨v18, vp_in_nI (by omega) (by decide), s_within ⟨v18, fun I11 e11 => ⟨vp_in_nI (by omega) (by decide), ?_⟩⟩⟩⟩
    have hnn : ¬ sO s i < 0 := by rw [e]; exact nI_pos (by omega)
    have hfree : ∀ q, q < i → ¬ sO s q = nI h := fun q hq z => by
      have := hw.2.2.1 q i (by omega) hi (z.trans e.symm) (by rw [z]; exact z_ne2 (by omega))
      omega
    have k0 : zCk t s 0 i = ztell t s 0 i := if_neg hnn
    have k1 : zCk t s 1 i = ztell t s 1 i := if_neg hnn
    rw [z_c18, nI_clamp (by omega), nI_clamp (by omega), m4 i hi, hCi', h5, k0] at e11
    have o11 : ∀ b j, ¬ (b = 394 ∧ j = 18 + i) → I11 b j = I b j := fun b j q => by rw [e11, qu_off (by omega)]
    rw [o11 394 (6 + i) (by omega), m2 i hi, hOi', e, z_c24, nI_clamp (by omega), nI_clamp (by omega), o11 394 (24 + h) (by omega), o11 396 i (by omega), h6, k1, m5 h hh, show sB (zms t s sl i) h = sB s h from zBi_at i hfree]
    refine ⟨vp_in_nI (by omega) (by decide), vp_in_nI (by omega) (by decide), s_within ⟨vp_in_nI (by omega) (by decide), fun I18 e18 => ?_⟩⟩
    have o18 : ∀ b j, ¬ (b = 394 ∧ j = 18 + i) → ¬ (b = 394 ∧ j = 24 + h) → I18 b j = I b j := fun b j q1 q2 => by rw [e18, qu_off (by omega), o11 b j q1]
    refine s_M_wk100 hP hH hi (by rw [o18 _ _ (by omega) (by omega)]; exact h7) (by rw [o18 _ _ (by omega) (by omega)]; exact h8) (by rw [o18 _ _ (by omega) (by omega)]; exact m0) (fun p hp => by rw [o18 _ _ (by omega) (by omega)]; exact m1 p hp) (fun p hp => by rw [o18 _ _ (by omega) (by omega)]; exact m2 p hp) (fun p hp => by rw [o18 _ _ (by omega) (by omega)]; exact m3 p hp) (fun p hp => ?_) (fun p hp => ?_) (fun p hp hp' => by rw [o18 _ _ (by omega) (by omega)]; exact m6 p hp hp') (fun p hp hp' => by rw [o18 _ _ (by omega) (by omega)]; exact m7 p hp hp') (fun I' hm' o' => hq I' hm' (fun b j q => by rw [o' b j q, o18 b j (by omega) (by omega)]))
    · by_cases h' : p = i
      · subst h'; rw [e18, qu_off (by omega), e11, qu_same, hCi]; unfold zCn; rw [if_neg hnn]
      · rw [o18 _ _ (by omega) (by omega), m4 p hp, hC p h']
    · show I18 394 (24 + p) = if sO s i = nI p then zcl 99 (sB s p + ztell t s 1 i) else zBi t s i p
      by_cases hp' : p = h
      · subst hp'
        rw [e18, qu_same, if_pos e]
      · rw [o18 _ _ (by omega) (by omega), m5 p hp, if_neg (fun z => hp' ((nI_eq (by omega) (by omega)).mp (z.symm.trans e)))]
        rfl
theorem s_M_ng145 {J : zJ} {t : zX} {live : Nat} {s : zT} {sd st : Int32} (hx : zX_ok t) (hw : zW (xH t) (xP t) s) {Q K : zI → zJ → Prop} : ∀ r i k (I : zI), mT I t live → zFill I t s sd st (xP t) → mR I (xH t) (xP t) 394 (zms t s (zPk t s sd st) i) → i + r = xP t → r < k → (∀ I' : zI, mR I' (xH t) (xP t) 394 (zms t s (zPk t s sd st) (xP t)) → (∀ b j, b ≠ 394 → I' b j = I b j) → K I' J) → v_M_nightGoes_145 5000 k (nI i) I J Q K
  | _, _, 0, _, _, _, _, _, hk, _ => absurd hk (Nat.not_lt_zero _)
  | 0, i, k + 1, I, hT, hf, hm, hi, hk, hq => by
    have hP := hx.2.1
    have hl := hT.1
    rw [v_M_nightGoes_145]; dsimp only; rw [hT.2.1, nI_clamp (by omega), hT.2.2.2.1]
    rw [show i = xP t by omega] at hm
    exact ⟨vp_in_nI hl (by decide), z_y (nI_le (by omega) (by omega)) (hq I hm (fun _ _ _ => rfl))⟩
  | r + 1, i, k + 1, I, hT, hf, hm, hi, hk, hq => by
    have hP := hx.2.1
    have hl := hT.1
    rw [v_M_nightGoes_145]; dsimp only; rw [hT.2.1, nI_clamp (by omega), hT.2.2.2.1]
    obtain ⟨f1, f2, f3, f4⟩ := hf i (by omega)
    refine ⟨vp_in_nI hl (by decide), z_n (nI_ge (by omega) (by omega)) (s_M_wakes (sl := zPk t s sd st) hx hw (by omega) f1 f2 f3 f4 hm (fun I1 hm1 o1 => ?_))⟩
    rw [nI_1]
    refine s_M_ng145 hx hw r (i + 1) k I1 (hT.kept (fun b j q1 q2 => o1 b j (by omega)) (o1 _ _ (by decide))) (fun p hp => ?_) hm1 (by omega) (by omega) (fun I' hm' o' => hq I' hm' (fun b j q => by rw [o' b j q, o1 b j q]))
    rw [o1 395 p (by decide), o1 396 p (by decide), o1 397 p (by decide), o1 398 p (by decide)]
    exact hf p hp
/-- a night of the reference: by its mark of stillness -/
def zNt (t : zX) (s : zT) (sd st : Int32) : zT := if st = 0 then zNight t s sd else zStill t s
theorem zNt_wf {t : zX} {s : zT} (hx : zX_ok t) (hw : zW (xH t) (xP t) s) (sd st : Int32) : zW (xH t) (xP t) (zNt t s sd st) := by
  unfold zNt
  by_cases h : st = 0
  · rw [if_pos h]; exact zNight_wf hx hw sd
  · rw [if_neg h]; exact zStill_wf hx hw
theorem mR_cg {I : zI} {nH nP r : Nat} {s s' : zT} (h : mR I nH nP r s) (e0 : sN s' = sN s) (e1 : ∀ p, p < nP → sW s' p = sW s p) (e2 : ∀ p, p < nP → sO s' p = sO s p) (e3 : ∀ p, p < nP → sS s' p = sS s p) (e4 : ∀ p, p < nP → sC s' p = sC s p) (e5 : ∀ p, p < nH → sB s' p = sB s p) : mR I nH nP r s' := by
  obtain ⟨c0, c1, c2, c3, c4, c5, c6, c7⟩ := h
  exact ⟨by rw [e0]; exact c0, fun p hp => by rw [e1 p hp]; exact c1 p hp, fun p hp => by rw [e2 p hp]; exact c2 p hp, fun p hp => by rw [e3 p hp]; exact c3 p hp, fun p hp => by rw [e4 p hp]; exact c4 p hp, fun p hp => by rw [e5 p hp]; exact c5 p hp, c6, c7⟩
theorem zPk_still {t : zX} {s : zT} {sd st : Int32} (h : ¬ st = 0) (p : Nat) : zPk t s sd st p = 0 := by
  unfold zPk
  by_cases h' : sO s p < 0
  · rw [if_pos h']
  · rw [if_neg h', if_neg h]
theorem zPk_on {t : zX} {s : zT} {sd : Int32} (p : Nat) : (if zPk t s sd 0 p = 0 then sO s p else -2) = zOn t s sd p := by
  unfold zPk zOn zSl
  by_cases h' : sO s p < 0
  · obtain ⟨m, hm, e⟩ := zlot_in (n := 100) (by decide) (by decide) sd (16 * sN s + nI p)
    rw [if_pos h', if_pos h', if_pos rfl]
    have e' : zlot 100 sd (16 * sN s + nI p) = nI m := e
    rw [e', if_pos (nI_pos' (by omega))]
  · rw [if_neg h', if_neg h', if_pos rfl]
    by_cases h : ztell t s 2 p ≤ zlot 100 sd (16 * sN s + nI p)
    · rw [if_pos h, if_pos h, if_pos rfl]
    · rw [if_neg h, if_neg h, if_neg z_10]
abbrev frH (I I' : zI) : Prop := ∀ b j, b ≠ 391 → b ≠ 392 → ¬ (394 ≤ b ∧ b ≤ 398) → ¬ (b = 361 ∧ j = 48) → I' b j = I b j
theorem frH.tr {I I' I'' : zI} (h : frH I I') (g : frH I' I'') : frH I I'' := fun b j q1 q2 q3 q4 => (g b j q1 q2 q3 q4).trans (h b j q1 q2 q3 q4)
theorem mR.night {I : zI} {nH nP r : Nat} {s : zT} {v : Int32} (hP : nP ≤ 6) (hH : nH ≤ 7) (h : mR I nH nP r s) : mR (qu I r 31 v) nH nP r (sW s, sO s, sS s, sC s, sB s, v) := by
  obtain ⟨c0, c1, c2, c3, c4, c5, c6, c7⟩ := h
  refine ⟨qu_same, fun p hp => ?_, fun p hp => ?_, fun p hp => ?_, fun p hp => ?_, fun p hp => ?_, fun p hp hp' => ?_, fun p hp hp' => ?_⟩ <;> rw [qu_off (by omega)]
  · exact c1 p hp
  · exact c2 p hp
  · exact c3 p hp
  · exact c4 p hp
  · exact c5 p hp
  · exact c6 p hp hp'
  · exact c7 p hp hp'
theorem mR.wide {I : zI} {nH nP r m : Nat} {s : zT} {v : Int32} (hP : nP ≤ 6) (hm : m < nP) (h : mR I nH nP r s) : mR (qu I r m v) nH nP r ((fun q => if q = m then v else sW s q), sO s, sS s, sC s, sB s, sN s) := by
  obtain ⟨c0, c1, c2, c3, c4, c5, c6, c7⟩ := h
  refine ⟨?_, fun p hp => ?_, fun p hp => ?_, fun p hp => ?_, fun p hp => ?_, fun p hp => ?_, fun p hp hp' => ?_, fun p hp hp' => ?_⟩
  · rw [qu_off (by omega)]; exact c0
  · show qu I r m v r p = if p = m then v else sW s p
    by_cases h : p = m
    · subst h; rw [qu_same, if_pos rfl]
    · rw [qu_off (by omega), if_neg h]; exact c1 p hp
  · rw [qu_off (by omega)]; exact c2 p hp
  · rw [qu_off (by omega)]; exact c3 p hp
  · rw [qu_off (by omega)]; exact c4 p hp
  · rw [qu_off (by omega)]; exact c5 p hp
  · rw [qu_off (by omega)]; exact c6 p hp hp'
  · rw [qu_off (by omega)]; exact c7 p hp hp'
theorem zmx_lt {k : Nat} (hk : k < 2 ^ 31) (h : ¬ nI k ≤ 0) : zmx (nI k) = nI k - 1 := by
  rw [zmx_n hk]
  obtain ⟨m, rfl⟩ : ∃ m, k = m + 1 := ⟨k - 1, by
    have : k ≠ 0 := fun z => h (by rw [z]; decide)
    omega⟩
  rw [nI_pred, Nat.add_sub_cancel]
theorem zms_0 (t : zX) (s : zT) (sl : Nat → Int32) : sN (zms t s sl 0) = sN s ∧ sW (zms t s sl 0) = sW s ∧ (∀ p, sO (zms t s sl 0) p = sO s p) ∧ (∀ p, sS (zms t s sl 0) p = sS s p) ∧ (∀ p, sC (zms t s sl 0) p = sC s p) ∧ sB (zms t s sl 0) = sB s := ⟨rfl, rfl, fun p => show (if p < 0 then (if sl p = 0 then sO s p else -2) else sO s p) = sO s p from if_neg (Nat.not_lt_zero p), fun p => show (if p < 0 then zSn t s p else sS s p) = sS s p from if_neg (Nat.not_lt_zero p), fun p => show (if p < 0 then zCn t s p else sC s p) = sC s p from if_neg (Nat.not_lt_zero p), rfl⟩
theorem zms_n (t : zX) (s : zT) (sl : Nat → Int32) (n : Nat) : sN (zms t s sl n) = sN s ∧ sW (zms t s sl n) = sW s ∧ (∀ p, p < n → sO (zms t s sl n) p = if sl p = 0 then sO s p else -2) ∧ (∀ p, p < n → sS (zms t s sl n) p = zSn t s p) ∧ (∀ p, p < n → sC (zms t s sl n) p = zCn t s p) ∧ sB (zms t s sl n) = zBi t s n := ⟨rfl, rfl, fun p h => if_pos h, fun p h => if_pos h, fun p h => if_pos h, rfl⟩
theorem zNt_0 (t : zX) (s : zT) (sd : Int32) : zNt t s sd 0 = zNight t s sd := by unfold zNt; rw [if_pos rfl]
theorem zNt_1 {t : zX} {s : zT} {sd st : Int32} (h : ¬ st = 0) : zNt t s sd st = zStill t s := by unfold zNt; rw [if_neg h]
/-- the on and wide of the morning -/
def zNO (t : zX) (s : zT) (sd st : Int32) : Nat → Int32 := sO (zNt t s sd st)
theorem zNt_e (t : zX) (s : zT) (sd st : Int32) : sS (zNt t s sd st) = zSn t s ∧ sC (zNt t s sd st) = zCn t s ∧ sB (zNt t s sd st) = zBi t s (xP t) ∧ sN (zNt t s sd st) = sN s + 1 := by
  by_cases h : st = 0
  · subst h
    rw [zNt_0]
    exact ⟨night_S t s sd, night_C t s sd, night_B t s sd, night_N t s sd⟩
  · rw [zNt_1 h]
    exact ⟨still_S t s, still_C t s, still_B t s, still_N t s⟩
theorem zNt_on (t : zX) (s : zT) (sd st : Int32) (p : Nat) : sO (zNt t s sd st) p = if zPk t s sd st p = 0 then sO s p else -2 := by
  by_cases h : st = 0
  · subst h
    rw [zNt_0, zPk_on p, night_O]
  · rw [zNt_1 h, zPk_still h p, if_pos rfl, still_O]
theorem mR.fin {I I' : zI} {nH nP : Nat} {W O S C B : Nat → Int32} {N : Int32} {s' : zT} (hP : nP ≤ 6) (hH : nH ≤ 7) (h : mR I nH nP 394 (W, O, S, C, B, N)) (e : I' = qu I 394 31 (N + 1)) (e0 : sN s' = N + 1) (e1 : ∀ p, p < nP → sW s' p = W p) (e2 : ∀ p, p < nP → sO s' p = O p) (e3 : ∀ p, p < nP → sS s' p = S p) (e4 : ∀ p, p < nP → sC s' p = C p) (e5 : ∀ p, p < nH → sB s' p = B p) : mR I' nH nP 394 s' := by
  rw [e]
  exact mR_cg (h.night (v := N + 1) hP hH) e0 e1 e2 e3 e4 e5
theorem s_M_ngEnd {I I2 : zI} {J : zJ} {t : zX} {live : Nat} {s s' : zT} {O S C B : Nat → Int32} {sd : Int32} (hX : zX_ok t) (hw : zW (xH t) (xP t) s') (hT2 : mT I2 t live) (h51 : I2 361 51 = sd) (st : Int32) (h52 : I2 361 52 = st) (hm2 : mR I2 (xH t) (xP t) 394 (sW s, O, S, C, B, sN s)) (hws : zW (xH t) (xP t) (sW s, O, S, C, B, sN s)) (o : frH I I2) (e0 : sN s' = sN s + 1) (e1 : ¬ st = 0 → sW s' = sW s) (e1' : st = 0 → sW s' = zWn t (sW s) (sN s) sd) (e2 : ∀ p, p < xP t → sO s' p = O p) (e3 : ∀ p, p < xP t → sS s' p = S p) (e4 : ∀ p, p < xP t → sC s' p = C p) (e5 : ∀ p, p < xH t → sB s' p = B p) {Q : zI → zJ → Prop} (hq : ∀ I' : zI, mX I' t live s' → frH I I' → Q I' J) : (¬ (I2 361 52) = 0 → (vp_in (31 : Int32) 32 ∧ (∀ I5 : zI, I5 = qu I2 394 ((31 : Int32)).toNatClampNeg ((I2 394 ((31 : Int32)).toNatClampNeg) + (1 : Int32)) → Q I5 J))) ∧ ((I2 361 52) = 0 → (vp_in (I2 361 18) 2 ∧ (((I2 374 ((I2 361 18)).toNatClampNeg) ≤ 0 → (vp_in (31 : Int32) 32 ∧ (∀ I9 : zI, I9 = qu I2 394 ((31 : Int32)).toNatClampNeg ((I2 394 ((31 : Int32)).toNatClampNeg) + (1 : Int32)) → Q I9 J))) ∧ (¬ (I2 374 ((I2 361 18)).toNatClampNeg) ≤ 0 → (v_M_isMoth 5000 I2 J (fun r10 I11 J11 => ((r10 = 0 → (vp_in (31 : Int32) 32 ∧ (∀ I14 : zI, I14 = qu I11 394 ((31 : Int32)).toNatClampNeg ((I11 394 ((31 : Int32)).toNatClampNeg) + (1 : Int32)) → Q I14 J11))) ∧ (¬ r10 = 0 → (vp_in (31 : Int32) 32 ∧ (vp_in (I11 361 18) 2 ∧ (v_M_lotOf 5000 (((16 : Int32) * (I11 394 ((31 : Int32)).toNatClampNeg)) + (9 : Int32)) (I11 374 ((I11 361 18)).toNatClampNeg) I11 J11 (fun r17 I18 J18 => (vp_in r17 32 ∧ (((I18 394 (r17).toNatClampNeg) ≤ 0 → (vp_in (31 : Int32) 32 ∧ (∀ I22 : zI, I22 = qu I18 394 ((31 : Int32)).toNatClampNeg ((I18 394 ((31 : Int32)).toNatClampNeg) + (1 : Int32)) → Q I22 J18))) ∧ (¬ (I18 394 (r17).toNatClampNeg) ≤ 0 → (∀ I23 : zI, I23 = qu I18 394 (r17).toNatClampNeg ((I18 394 (r17).toNatClampNeg) - (1 : Int32)) → (vp_in (31 : Int32) 32 ∧ (∀ I25 : zI, I25 = qu I23 394 ((31 : Int32)).toNatClampNeg ((I23 394 ((31 : Int32)).toNatClampNeg) + (1 : Int32)) → Q I25 J18)))))))))))))))))) := by
  have hP := hX.2.1
  have hH := hX.1
  have hl := hT2.1
  obtain ⟨m0, m1, m2, m3, m4, m5, m6, m7⟩ := mR_un hm2
  have v31 := z_v.2.2.2.2.2.2.2.2.2.1
  have fin : ∀ (I3 : zI) (W : Nat → Int32), (∀ b j, b ≠ 394 → I3 b j = I2 b j) → mR I3 (xH t) (xP t) 394 (W, O, S, C, B, sN s) → (∀ p, p < xP t → sW s' p = W p) → ∀ I5 : zI, I5 = qu I3 394 31 (sN s + 1) → Q I5 J := fun I3 W o3 hm3 hW I5 e5' => by
    have o5 : ∀ b j, b ≠ 394 → I5 b j = I2 b j := fun b j q => by rw [e5', qu_off (Or.inl q), o3 b j q]
    exact hq I5 ⟨hX, hT2.kept (fun b j q1 q2 => o5 b j (by omega)) (o5 _ _ (by decide)), hw, hm3.fin hP hH e5' e0 hW e2 e3 e4 e5⟩ (fun b j q1 q2 q3 q4 => by rw [o5 b j (by omega), o b j q1 q2 q3 q4])
  rw [z_l31, h52, m0, hT2.2.1, nI_clamp (by omega), hT2.2.2.2.1]
  refine ⟨fun q => ⟨v31, fun I5 e5 => fin I2 (sW s) (fun _ _ _ => rfl) hm2 (fun p _ => by rw [e1 q]) I5 e5⟩, fun q => ⟨vp_in_nI hl (by decide), fun q' => ⟨v31, fun I5 e5 => fin I2 (sW s) (fun _ _ _ => rfl) hm2 (fun p hp => absurd q' (nI_nle (by omega) (by omega))) I5 e5⟩, fun q' => ?_⟩⟩
  have e1 := e1' q
  have hp0 : 0 < xP t := by
    rcases Nat.eq_zero_or_pos (xP t) with e | e
    · rw [e] at q'; exact absurd (by decide) q'
    · exact e
  refine s_M_isMoth ⟨hX, hT2, hws, hm2⟩ h51 (fun h => z_y z_00 ⟨v31, fun I14 e14 => ?_⟩) (fun h => z_n z_10 ⟨v31, ?_⟩)
  · unfold zmoth at h
    rw [sN_mk] at h
    rw [m0] at e14
    refine fin I2 (sW s) (fun _ _ _ => rfl) hm2 (fun p _ => ?_) I14 e14
    rw [e1]
    unfold zWn
    rw [if_pos (Decidable.of_not_not h)]
  · unfold zmoth at h
    rw [sN_mk] at h
    rw [m0, hT2.2.1, nI_clamp (by omega), hT2.2.2.2.1]
    obtain ⟨m, hm, e⟩ := zlot_in hp0 (by omega) sd (16 * sN s + 9)
    refine ⟨vp_in_nI hl (by decide), s_M_lotOf hp0 (by omega) h51 ?_⟩
    have hW : ∀ p, zWn t (sW s) (sN s) sd p = if p = m then zmx (sW s p) else sW s p := fun p => by unfold zWn; rw [if_neg h, e, nI_clamp (by omega)]
    obtain ⟨w, hw', ew⟩ := hws.1 m hm
    rw [sW_mk] at ew
    rw [e, nI_clamp (by omega), m1 m hm]
    refine ⟨vp_in_nI (by omega) (by decide), fun q2 => ⟨v31, fun I22 e22 => ?_⟩, fun q2 I23 e23 => ⟨v31, fun I25 e25 => ?_⟩⟩
    · rw [m0] at e22
      refine fin I2 (sW s) (fun _ _ _ => rfl) hm2 (fun p _ => ?_) I22 e22
      rw [e1, hW p]
      by_cases h' : p = m
      · subst h'
        rw [if_pos rfl, ew, zmx_n (by omega)]
        rw [ew] at q2
        have : w = 0 := by
          rcases Nat.eq_zero_or_pos w with z | z
          · exact z
          · exact absurd q2 (nI_nle z (by omega))
        rw [this]
      · rw [if_neg h']
    · have o23 : ∀ b j, b ≠ 394 → I23 b j = I2 b j := fun b j q => by rw [e23, qu_off (Or.inl q)]
      have e31' : I23 394 31 = sN s := by rw [e23, qu_off (by omega)]; exact m0
      rw [e31'] at e25
      refine fin I23 (fun q => if q = m then sW s m - 1 else sW s q) o23 (by rw [e23]; exact hm2.wide (v := sW s m - 1) hP hm) (fun p _ => ?_) I25 e25
      rw [e1, hW p]
      by_cases h' : p = m
      · subst h'
        rw [if_pos rfl, if_pos rfl, ew]
        rw [ew] at q2
        exact zmx_lt (by omega) q2
      · rw [if_neg h', if_neg h']
theorem s_M_nightGoes {I : zI} {J : zJ} {t : zX} {live : Nat} {s : zT} {sd st : Int32} (h51 : I 361 51 = sd) (h52 : I 361 52 = st) (hX : mX I t live s) {Q : zI → zJ → Prop} (hq : ∀ I' : zI, mX I' t live (zNt t s sd st) → frH I I' → Q I' J) : v_M_nightGoes 5000 I J Q := by
  have hP := hX.1.2.1
  have hH := hX.1.1
  have hl := hX.2.1.1
  have hw := hX.2.2.1
  refine s_M_ng2 (sd := sd) (st := st) (xP t) 0 5000 I h51 h52 hX (fun p hp => absurd hp (Nat.not_lt_zero _)) (by omega) (by omega) (fun I1 o1 f1 => ?_)
  have hX1 := hX.frG o1
  obtain ⟨z0, z1, z2, z3, z4, z5⟩ := zms_0 t s (zPk t s sd st)
  refine s_M_ng145 hX.1 hw (xP t) 0 5000 I1 hX1.2.1 f1 (mR_cg hX1.2.2.2 z0 (fun p _ => congrFun z1 p) (fun p _ => z2 p) (fun p _ => z3 p) (fun p _ => z4 p) (fun p _ => congrFun z5 p)) (by omega) (by omega) (fun I2 hm2 o2 => ?_)
  have hT2 : mT I2 t live := hX1.2.1.kept (fun b j q1 q2 => o2 b j (by omega)) (o2 _ _ (by decide))
  have h52' : I2 361 52 = st := by rw [o2 _ _ (by decide), o1 _ _ (by decide) (by decide) (by decide) (by decide)]; exact h52
  have h51' : I2 361 51 = sd := by rw [o2 _ _ (by decide), o1 _ _ (by decide) (by decide) (by decide) (by decide)]; exact h51
  obtain ⟨y0, y1, y2, y3, y4, y5⟩ := zms_n t s (zPk t s sd st) (xP t)
  obtain ⟨m0, m1, m2, m3, m4, m5, m6, m7⟩ := hm2
  rw [y0] at m0
  rw [y1] at m1
  rw [y5] at m5
  obtain ⟨x1, x2, x3, x4⟩ := zNt_e t s sd st
  obtain ⟨w1, w2, w3, w4, w5, w6, w7⟩ := zNt_wf hX.1 hw sd st
  refine s_M_ngEnd (s := s) (s' := zNt t s sd st) (O := sO (zNt t s sd st)) (S := zSn t s) (C := zCn t s) (B := zBi t s (xP t)) hX.1 (zNt_wf hX.1 hw sd st) hT2 h51' st h52' (mR_mk m0 m1 (fun p hp => ?_) (fun p hp => (m3 p hp).trans (y3 p hp)) (fun p hp => (m4 p hp).trans (y4 p hp)) m5 m6 m7) (zW_mk hw.1 w2 w3 (zSn_wf hX.1 hw).1 (zSn_wf hX.1 hw).2 (fun p _ => zCn_in t s p) (fun h hh => zBi_in (hw.2.2.2.2.2.2 h hh) _)) (fun b j q1 q2 q3 q4 => by rw [o2 b j (by omega), o1 b j q1 q2 (by omega) q4]) x4 (fun q => ?_) (fun q => ?_) (fun _ _ => rfl) (fun p _ => by rw [x1]) (fun p _ => by rw [x2]) (fun p _ => by rw [x3]) hq
  · rw [m2 p hp, y2 p hp, zNt_on]
  · rw [zNt_1 q, still_W]
  · subst q
    rw [zNt_0, night_W]
def zNtf (t : zX) (sd st : Int32) (s : zT) : zT := zNt t s sd st
def zNts (t : zX) (sd st : Int32) (n : Nat) (s : zT) : zT := zIt (zNtf t sd st) n s
theorem zNts_0 (t : zX) (sd : Int32) (n : Nat) (s : zT) : zNts t sd 0 n s = zNs t sd n s := by
  have e : zNtf t sd 0 = zNf t sd := by
    funext s
    unfold zNtf zNf
    exact zNt_0 t s sd
  unfold zNts zNs
  rw [e]
theorem zNts_1 (t : zX) (sd : Int32) (n : Nat) (s : zT) : zNts t sd 1 n s = zQs t n s := by
  have e : zNtf t sd 1 = zStill t := by
    funext s
    unfold zNtf
    exact zNt_1 z_10
  unfold zNts zQs
  rw [e]
theorem s_M_goes_2 {J : zJ} {t : zX} {live n : Nat} {sd st : Int32} (hn : n ≤ 60) {g : zT → zT} (hg : ∀ (I : zI) (s : zT), I 361 51 = sd → I 361 52 = st → mX I t live s → ∀ Q : zI → zJ → Prop, (∀ I' : zI, mX I' t live (g s) → frH I I' → Q I' J) → v_M_nightGoes 5000 I J Q) {Q : zI → zJ → Prop} : ∀ r i k (I : zI) (s : zT), I 361 51 = sd → I 361 52 = st → mX I t live s → i + r = n → r < k → (∀ I' : zI, mX I' t live (zIt g r s) → frH I I' → Q I' J) → v_M_goes_2 5000 k (nI n) (nI i) I J Q
  | _, _, 0, _, _, _, _, _, _, hk, _ => absurd hk (Nat.not_lt_zero _)
  | 0, i, k + 1, I, s, h51, h52, hX, hi, hk, hq => z_y (nI_le (by omega) (by omega)) (hq I hX (fun _ _ _ _ _ _ => rfl))
  | r + 1, i, k + 1, I, s, h51, h52, hX, hi, hk, hq => by
    refine z_n (nI_ge (by omega) (by omega)) (hg I s h51 h52 hX _ (fun I1 hX1 o1 => ?_))
    rw [nI_1]
    exact s_M_goes_2 hn hg r (i + 1) k I1 (g s) (by rw [o1 _ _ (by decide) (by decide) (by decide) (by decide)]; exact h51) (by rw [o1 _ _ (by decide) (by decide) (by decide) (by decide)]; exact h52) hX1 (by omega) (by omega) (fun I' hX' o' => hq I' hX' (frH.tr o1 o'))
theorem s_M_goes {I : zI} {J : zJ} {t : zX} {live n : Nat} {s : zT} {sd st : Int32} (hn : n ≤ 60) (h51 : I 361 51 = sd) (h52 : I 361 52 = st) (hX : mX I t live s) {Q : zI → zJ → Prop} (hq : ∀ I' : zI, mX I' t live (zNts t sd st n s) → frH I I' → Q I' J) : v_M_goes 5000 (nI n) I J Q := s_M_goes_2 (g := zNtf t sd st) hn (fun I s h1 h2 hX Q hq => s_M_nightGoes h1 h2 hX hq) n 0 5000 I s h51 h52 hX (by omega) (by omega) hq
theorem s_M_stillGoes {I : zI} {J : zJ} {t : zX} {live : Nat} {s : zT} (h52 : I 361 52 = 1) (hX : mX I t live s) {Q : zI → zJ → Prop} (hq : ∀ I' : zI, mX I' t live (zStill t s) → frH I I' → Q I' J) : v_M_nightGoes 5000 I J Q := s_M_nightGoes rfl h52 hX (fun I' hX' o' => hq I' (by rw [zNt_1 z_10] at hX'; exact hX') o')
theorem zK.fH {I I' : zI} {J : zJ} (e : frH I I') : zK I I' J J := zK.of (fun b j q => by
  have := zE_out q
  exact e b j (by omega) (by omega) (by omega) (by omega))
