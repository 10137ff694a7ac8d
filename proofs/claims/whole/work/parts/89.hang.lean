/-! hanging, apart -/
section
variable {t : zX} {s : zT} {live : Nat} {x : Int32}
theorem s_first3 {I : zI} {J : zJ} {p T : Nat} (hI : zPl I (xH t) (xP t) (zbt0 t x) (zcs t s)) (hp : p < xP t) (hT : T < 128) (hz : zpc T ≤ p) (hr : ∀ q, q ≤ xP t → zRw I (zBE t s x (-2)) (xP t) q) {Q : Int32 → zI → zJ → Prop} : ∀ r h k, h + r = xH t → r < k → Q (zol (zfb (zal (-2) (zbt0 t x) T) (fun h => ((zBE t s x (-2) (xP t - (p + 1)) (T ||| zbt0 t x h)).1 + 1, (zBE t s x (-2) (xP t - (p + 1)) (T ||| zbt0 t x h)).2 + zcs t s p h)) (zBE t s x (-2) (xP t - p) T) r h)) I J → v_Plan_firstBest_3 5000 k (nI p) (nI T) (-2) (nI h) I J Q
  | _, _, 0, _, hk, _ => absurd hk (Nat.not_lt_zero _)
  | 0, h, k + 1, hi, hk, hq => by
    have hH := hI.2.2.1
    rw [v_Plan_firstBest_3]; dsimp only; rw [hI.1]
    exact z_y (nI_le (by omega) (by omega)) hq
  | r + 1, h, k + 1, hi, hk, hq => by
    have hH := hI.2.2.1
    have hP := hI.2.2.2.1
    obtain ⟨b1, b2, b3⟩ := hI.bt hT (show h < xH t by omega)
    rw [v_Plan_firstBest_3]; dsimp only; rw [hI.1, nI_clamp (by omega), hI.2.2.2.2.1 h (by omega), nI_and]
    rw [zfb, zal_2 _ _ (by omega)] at hq
    refine z_n (nI_ge (by omega) (by omega)) (z_n (z_ne2 (by omega)) ⟨vp_in_nI (by omega) (by decide), fun q => z_y z_00 ?_, fun q => z_n z_10 ?_⟩)
    · rw [if_neg (by rw [decide_eq_true_eq]; exact fun z => q (by rw [z]; rfl))] at hq
      rw [nI_1]
      exact s_first3 hI hp hT hz hr r (h + 1) k (by omega) (by omega) hq
    · rw [if_pos (decide_eq_true ((z_and0 (by omega)).mp q))] at hq
      have hb1 := zBE_bd (t := t) (s := s) (x := x) (xP t - (p + 1)) (T ||| zbt0 t x h)
      have hb2 := zBE_bd (t := t) (s := s) (x := x) (xP t - p) T
      have hcs := zcs_le t s p h
      have hcb : zbd 6 ((zBE t s x (-2) (xP t - (p + 1)) (T ||| zbt0 t x h)).1 + 1, (zBE t s x (-2) (xP t - (p + 1)) (T ||| zbt0 t x h)).2 + zcs t s p h) := ⟨by have := hb1.1; show _ + 1 ≤ 6; omega, by have := hb1.2; show _ + _ ≤ 99 * 6; omega⟩
      have hwb : zbd 6 (zBE t s x (-2) (xP t - p) T) := ⟨by have := hb2.1; omega, by have := hb2.2; omega⟩
      refine s_worthOf hI hp hT (by omega) (hr (p + 1) (by omega) _ b1 (by omega)) ?_
      rw [nI_clamp (n := p) (by omega), nI_clamp (n := T) (by omega), hr p (by omega) T hT hz, nI_1]
      refine ⟨vp_in_nI (by omega) (by decide), vp_in_nI (by omega) (by decide), fun q2 => ?_, fun q2 => ?_⟩
      · rw [if_neg (fun z => q2 ((zvC_eq hcb hwb).mpr z))] at hq
        exact s_first3 hI hp hT hz hr r (h + 1) k (by omega) (by omega) hq
      · rw [if_pos ((zvC_eq hcb hwb).mp q2)] at hq
        exact hq
theorem s_firstBest {I : zI} {J : zJ} {p T : Nat} (hI : zPl I (xH t) (xP t) (zbt0 t x) (zcs t s)) (hp : p < xP t) (hT : T < 128) (hz : zpc T ≤ p) (hr : ∀ q, q ≤ xP t → zRw I (zBE t s x (-2)) (xP t) q) {Q : Int32 → zI → zJ → Prop} (hq : Q (zol (zlow t s x p T)) I J) : v_Plan_firstBest 5000 (nI p) (nI T) (-2) I J Q := s_first3 hI hp hT hz hr (xH t) 0 5000 (by omega) (by have := hI.2.2.1; omega) hq
theorem s_hangerFor9 {I : zI} {J : zJ} {P : Nat} (hx : zX_ok t) (hI : zPl I (xH t) (xP t) (zbt0 t x) (zcs t s)) (hP' : P < xP t) (hr : ∀ q, q ≤ xP t → zRw I (zBE t s x (-2)) (xP t) q) {Q : Int32 → zI → zJ → Prop} (hq : Q (zol (zlow t s x P (zTk t s x P))) I J) : ∀ r p k y, p + r = P + 1 → r < k → (r = 0 → y = zol (zlow t s x P (zTk t s x P))) → v_Plan_hangerFor_9 5000 k (nI P) (-2) (nI (zTk t s x p)) y (nI p) I J Q
  | _, _, 0, _, _, hk, _ => absurd hk (Nat.not_lt_zero _)
  | 0, p, k + 1, y, hi, hk, hy => by
    have hP := hI.2.2.2.1
    rw [hy rfl]
    exact z_y (nI_lt (by omega) (by omega)) hq
  | r + 1, p, k + 1, y, hi, hk, hy => by
    have hP := hI.2.2.2.1
    have hH := hI.2.2.1
    have hgo := fun y hy => s_hangerFor9 hx hI hP' hr hq r (p + 1) k y (by omega) (by omega) hy
    rw [zTk] at hgo
    rw [v_Plan_hangerFor_9]; dsimp only; rw [hI.2.1]
    refine z_n (nI_nlt (by omega) (by omega)) (z_n (nI_ge (by omega) (by omega)) (s_firstBest hI (by omega) (zTk_ok hx p).1 (zTk_ok hx p).2 hr ?_))
    have hlast : r = 0 → zol (zlow t s x p (zTk t s x p)) = zol (zlow t s x P (zTk t s x P)) := fun e => by rw [show p = P by omega]
    rw [nI_1]
    cases e : zlow t s x p (zTk t s x p) with
    | none =>
      rw [e] at hgo hlast
      refine z_y z_neg2 (fun y6 e6 => ?_)
      rw [e6, Int32.or_zero]
      exact hgo _ hlast
    | some h =>
      rw [e] at hgo hlast
      have := zfb_lt _ _ _ e
      refine z_n (nI_pos (n := h) (by omega)) ⟨vp_in_nI (n := h) (by omega) (by decide), fun y8 e8 => ?_⟩
      rw [show zol (some h) = nI h from rfl, nI_clamp (by omega), hI.2.2.2.2.1 h (by omega), nI_or] at e8
      rw [e8]
      exact hgo _ hlast
end
def zfm (x0 x1 : Int32) : Int32 := if 0 ≤ (x0 ^^^ x1) then x0 - x0 / x1 * x1 else if x0 - x0 / x1 * x1 = 0 then x0 - x0 / x1 * x1 else x0 - x0 / x1 * x1 + x1
set_option maxRecDepth 100000 in
theorem zfm_ok : ∀ k, k < 7 → ∀ c, c < 595 → zfm (nI c - nI (1000 * k)) 1000 = nI c := by decide +kernel
theorem s_costOf {w : Nat × Nat} (hw : zbd 6 w) {I : zI} {J : zJ} {Q : Int32 → zI → zJ → Prop} (hq : Q (nI w.2) I J) : v_Plan_costOf 5000 (zvC w) I J Q := by
  have e : zfm (zvC w) 1000 = nI w.2 := zfm_ok w.1 (by have := hw.1; omega) w.2 (by have := hw.2; omega)
  rw [← e] at hq
  unfold zfm at hq
  refine ⟨by decide, fun y ey => ?_⟩
  rw [ey]
  refine ⟨fun q => ?_, fun q => ⟨fun q2 => ?_, fun q2 => ?_⟩⟩
  · rw [if_pos q] at hq; exact hq
  · rw [if_neg q, if_pos q2] at hq; exact hq
  · rw [if_neg q, if_neg q2] at hq; exact hq
theorem s_M_costOf2 {c : Nat} (hc : c ≤ 594) {I : zI} {J : zJ} {Q : Int32 → zI → zJ → Prop} (hq : Q (nI c) I J) : ∀ m k, m ≤ 6 → m < k → v_M_costOf_2 5000 k (zvM (m, c)) I J Q
  | _, 0, _, hk => absurd hk (Nat.not_lt_zero _)
  | 0, k + 1, hm, hk => by
    have e : zvM (0, c) = nI c := by
      show nI c - nI 0 = nI c
      rw [nI_0, Int32.sub_zero]
    rw [e]
    exact z_y (nI_pos' (by omega)) hq
  | m + 1, k + 1, hm, hk => by
    have e : zvM (m + 1, c) + 10000 = zvM (m, c) := by
      show (nI c - nI (10000 * (m + 1))) + 10000 = nI c - nI (10000 * m)
      rw [Nat.mul_succ, ← nI_add (10000 * m) 10000]
      show (nI c - (nI (10000 * m) + 10000)) + 10000 = nI c - nI (10000 * m)
      simp only [Int32.sub_eq_add_neg, Int32.neg_add]
      rw [Int32.add_assoc, Int32.add_assoc, Int32.add_left_neg, Int32.add_zero]
    refine z_n (fun z => ?_) ?_
    · have z := Int32.le_iff_toInt_le.mp z
      rw [zvM_i (x := (m + 1, c)) ⟨hm, hc⟩] at z
      have : (0 : Int32).toInt = 0 := rfl
      rw [this] at z
      simp only at z
      omega
    · rw [e]
      exact s_M_costOf2 hc hq m k (by omega) (by omega)
theorem s_M_costOf {w : Nat × Nat} (hw : zbd 6 w) {I : zI} {J : zJ} {Q : Int32 → zI → zJ → Prop} (hq : Q (nI w.2) I J) : v_M_costOf 5000 (zvM w) I J Q := s_M_costOf2 (by have := hw.2; omega) hq w.1 5000 hw.1 (by have := hw.1; omega)
theorem z_planned {x : Int32} (hx01 : qzb x) {I : zI} {J : zJ} {t : zX} {live : Nat} {s : zT} (hQ : zQ I t live s) (a0 : Int32) : ∃ r, (∀ Q : Int32 → zI → zJ → Prop, (∀ I1, zK I I1 J J → Q r I1 J) → v_X_planned 5000 a0 x I J Q) ∧ (∀ (I1 : zI) (Q : Int32 → zI → zJ → Prop), zK I I1 J J → zQ I1 t live s → (∀ I2, zK I1 I2 J J → Q r I2 J) → v_M_hangs 5000 a0 x I1 J Q) := by
  have hP := hQ.1.1.2.1
  have hb6 : zbd 6 (zBE t s x (-2) (xP t) 0) := by
    have := zBE_bd (t := t) (s := s) (x := x) (xP t) 0
    exact ⟨by have := this.1; omega, by have := this.2; omega⟩
  have class15 : ∀ (Q : Int32 → zI → zJ → Prop), (∀ I3, zK I I3 J J → zPl I3 (xH t) (xP t) (zbt0 t x) (zcs t s) → (∀ q, q ≤ xP t → zRw I3 (zBE t s x (-2)) (xP t) q) → ((¬ a0 = (-1 : Int32) → (v_Plan_hangerFor 5000 a0 (-2 : Int32) I3 J (fun r5 I6 J6 => Q r5 I6 J6))) ∧ (a0 = (-1 : Int32) → (v_Plan_costOf 5000 (zvC (zBE t s x (-2) (xP t) 0)) I3 J (fun r7 I8 J8 => Q r7 I8 J8))))) → v_X_planned_15 5000 a0 x I J Q := fun Q h => s_lookC hQ (fun I1 o1 f1 => s_findBest (hQ.kept (J := J) (J' := J) (zK.fPl o1)) f1 (fun I3 o3 g3 r3 => h I3 ((zK.fPl o1).trans (zK.fPl (fun b j q1 q2 q3 => o3 b j (by omega)))) g3 r3))
  have ref15 : ∀ (I1 : zI) (Q : Int32 → zI → zJ → Prop), zQ I1 t live s → (∀ I3, zK I1 I3 J J → zPq I3 t s live x → (∀ q, q ≤ xP t → zMw I3 (zBE t s x (-2)) (xP t) q) → ((¬ a0 = (-1 : Int32) → (v_M_hangs_40 5000 5000 a0 (0 : Int32) (0 : Int32) I3 J Q)) ∧ (a0 = (-1 : Int32) → (vp_in (0 : Int32) 896 ∧ (v_M_costOf 5000 (I3 400 ((0 : Int32)).toNatClampNeg) I3 J (fun r4 I5 J5 => Q r4 I5 J5)))))) → v_M_hangs_15 5000 a0 x I1 J Q := fun I1 Q hQ1 h => s_M_fillsLeast hx01 hQ1.m (fun I3 o3 g3 r3 => h I3 (zK.fQ o3) g3 r3)
  by_cases h1 : a0 = -1
  · refine ⟨nI (zBE t s x (-2) (xP t) 0).2, fun Q hq => z_y h1 (class15 Q (fun I3 k3 _ _ => z_yr h1 (s_costOf hb6 (hq I3 k3)))), fun I1 Q k1 hQ1 hq => z_y h1 (ref15 I1 Q hQ1 (fun I3 k3 _ r3 => z_yr h1 ⟨vp_in_nI (n := 0) (by decide) (by decide), ?_⟩))⟩
    have := r3 0 (Nat.zero_le _) 0 (by decide)
    rw [Nat.sub_zero] at this
    rw [z_l0, show I3 400 0 = _ from this]
    exact s_M_costOf hb6 (hq I3 k3)
  · by_cases hz : zin a0 (xP t)
    · obtain ⟨P, hPn, rfl⟩ := hz
      refine ⟨zol (zlow t s x P (zTk t s x P)), fun Q hq => z_n h1 (hQ.xP1 hPn (z_nr z_10 (class15 Q (fun I3 k3 g3 r3 => z_nr h1 ?_)))), fun I1 Q k1 hQ1 hq => z_n h1 (hQ1.mP1 hPn (z_nr z_10 (ref15 I1 Q hQ1 (fun I3 k3 g3 r3 => z_nr h1 ?_))))⟩
      · exact s_hangerFor9 hQ.1.1 g3 hPn r3 (hq I3 k3) (P + 1) 0 5000 _ (by omega) (by omega) (fun e => absurd e (by omega))
      · exact s_M_hangs40 g3 hPn r3 (hq I3 k3) P 0 5000 (by omega) (by omega)
    · exact ⟨-1, fun Q hq => z_n h1 (hQ.xP0 hz (z_yr z_00 (hq I zK.rfl))), fun I1 Q k1 hQ1 hq => z_n h1 (hQ1.mP0 hz (z_yr z_00 (hq I1 zK.rfl)))⟩
theorem zok_hanging : zOK_hanging Rel := fun a0 => zok_q (vX := v_X_hanging 5000 a0) (vM := v_M_hanging 5000 a0) (fun I J hR t live s hQ => z_planned (x := 0) (Or.inl rfl) hQ a0)
theorem zok_apart : zOK_apart Rel := fun a0 => zok_q (vX := v_X_apart 5000 a0) (vM := v_M_apart 5000 a0) (fun I J hR t live s hQ => z_planned (x := 1) (Or.inr rfl) hQ a0)
