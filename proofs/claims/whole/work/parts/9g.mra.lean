/-! reading: the reference's hangs, laws, all tells -/
section
variable {B : Nat → Nat} {n s : Nat}
theorem own_code {b l : Nat} (h1 : b = 388 ∨ b = 389) (h2 : 420 * s ≤ l) (h3 : l < 420 * s + 420) : zOwn s b l := Or.inr (Or.inr (Or.inr (Or.inr (Or.inr (Or.inr (Or.inr (Or.inr ⟨h1, h2, h3⟩)))))))
theorem own_br {b l : Nat} (h1 : 383 ≤ b) (h1' : b ≤ 387) (h2 : 130 * s ≤ l) (h3 : l < 130 * s + 130) : zOwn s b l := Or.inr (Or.inr (Or.inr (Or.inr (Or.inr (Or.inr (Or.inr (Or.inl ⟨h1, h1', h2, h3⟩)))))))
theorem own_law {b l : Nat} (h1 : b = 381 ∨ b = 382) (h2 : 4 * s ≤ l) (h3 : l < 4 * s + 4) : zOwn s b l := Or.inr (Or.inr (Or.inr (Or.inr (Or.inr (Or.inr (Or.inl ⟨h1, h2, h3⟩))))))
theorem own_on {b l : Nat} (h1 : b = 375 ∨ b = 376 ∨ b = 377) (h2 : 6 * s ≤ l) (h3 : l < 6 * s + 6) : zOwn s b l := Or.inr (Or.inr (Or.inr (Or.inr (Or.inr (Or.inl ⟨h1, h2, h3⟩)))))
theorem own_one {b l : Nat} (h1 : b = 371 ∨ b = 374 ∨ b = 378 ∨ b = 379 ∨ b = 380) (h2 : l = s) : zOwn s b l := Or.inr (Or.inr (Or.inr (Or.inl ⟨h1, h2⟩)))
theorem ztkn_no {f : Nat → Int32} {h : Nat} (hh : h < 100) : ∀ r i, (∀ p, i ≤ p → f p = -2) → ztkn f h r i = false
  | 0, _, _ => rfl
  | r + 1, i, hf => by
    rw [ztkn, if_neg (fun z => z_ne2 (n := h) (by omega) (z.symm.trans (hf i (Nat.le_refl _))))]
    exact ztkn_no hh r (i + 1) (fun p hp => hf p (by omega))
theorem ztkn_6 {f : Nat → Int32} {h : Nat} (hh : h < 100) : ∀ r i m, m ≤ r → (∀ p, i + m ≤ p → f p = -2) → ztkn f h r i = ztkn f h m i
  | r, i, 0, _, hf => by rw [ztkn_no hh r i (fun p hp => hf p (by omega))]; rfl
  | 0, i, m + 1, hm, _ => absurd hm (by omega)
  | r + 1, i, m + 1, hm, hf => by
    rw [ztkn, ztkn, ztkn_6 hh r (i + 1) m (by omega) (fun p hp => hf p (by omega))]
/-- has a hanger been told, for the second name of a hangs -/
theorem m_60 {J : zJ} {i i2 : Nat} {x2 : Int32} {h : Nat} {f : Nat → Int32} {W : Nat × Nat} (hn : n ≤ 2000) (hi2 : i2 ≤ 400) (hh : h < 100) (hp : W.1 ≠ 0 → W.2 < zpsn B n i2) {Q : zI → zJ → Prop} {K : Int32 → Int32 → zI → zJ → Prop} : ∀ r p fu (fl : Bool) (I : zI), zM I J B n s i → (∀ p, p < 6 → I 377 (6 * s + p) = f p) → I 365 i2 = nI (zpsn B n i2) → zWr2 I (if fl = true then zkeep 3 (zpsn B n i2) W else W) → p + r = 6 → r < fu → (∀ I' : zI, frKp I I' → zWr2 I' (if (fl || ztkn f h r p) = true then zkeep 3 (zpsn B n i2) W else W) → K x2 (nI h) I' J) → v_M_tellHangs_60 5000 fu (nI i2) x2 (nI h) (nI p) I J Q K
  | _, _, 0, _, _, _, _, _, _, _, hf, _ => absurd hf (Nat.not_lt_zero _)
  | 0, p, fu + 1, fl, I, hM, hf, h365, hW, hr, hfu, hq => by
    rw [show p = 6 by omega]
    rw [v_M_tellHangs_60]
    refine z_y (by decide) (hq I (fun _ _ _ => rfl) ?_)
    rw [ztkn, Bool.or_false]
    exact hW
  | r + 1, p, fu + 1, fl, I, hM, hf, h365, hW, hr, hfu, hq => by
    have hs := hM.2.2.2.1
    rw [v_M_tellHangs_60]; dsimp only; rw [hM.2.2.1, z_m6, nI_clamp (by omega), hf p (by omega), nI_1]
    rw [ztkn] at hq
    refine z_n (nI_ge (b := 6) (by omega) (by decide)) (z_yr hM.2.1 (z_n (nI_pos (by omega)) ⟨vp_in_nI (by omega) (by decide), fun q => ?_, fun q => ?_⟩))
    · rw [if_neg q] at hq
      exact m_60 hn hi2 hh hp r (p + 1) fu fl I hM hf h365 hW (by omega) (by omega) hq
    · rw [if_pos q, Bool.or_true] at hq
      have hpp : (if fl = true then zkeep 3 (zpsn B n i2) W else W).1 ≠ 0 → (if fl = true then zkeep 3 (zpsn B n i2) W else W).2 < zpsn B n i2 ∨ ((if fl = true then zkeep 3 (zpsn B n i2) W else W).2 = zpsn B n i2 ∧ (if fl = true then zkeep 3 (zpsn B n i2) W else W).1 = 3) := by
        cases fl with
        | true => exact zkeep_p hp
        | false => exact fun z => Or.inl (hp z)
      refine m_wrong (k := 3) hn hM hi2 h365 hW (by decide) (by decide) hpp (fun I1 o1 w1 => ?_)
      have ew : zkeep 3 (zpsn B n i2) (if fl = true then zkeep 3 (zpsn B n i2) W else W) = zkeep 3 (zpsn B n i2) W := by
        cases fl with
        | true => exact zkeep2 3 _ W (by decide)
        | false => rfl
      rw [ew] at w1
      refine m_60 (f := f) hn hi2 hh hp r (p + 1) fu true I1 (hM.kept (fun b l q => o1 b l (by omega)) (fun _ => rfl)) (fun p hp => by rw [o1 _ _ (by omega)]; exact hf p hp) (by rw [o1 _ _ (by omega)]; exact h365) w1 (by omega) (by omega) (fun I' o' w' => hq I' (fun b l q => by rw [o' b l q, o1 b l q]) ?_)
      rw [Bool.true_or] at w'
      exact w'
theorem m_tHangs {I : zI} {J : zJ} {i o b : Nat} {g : zG} {af : Nat → Nat} (hn : n ≤ 2000) (hM : zM I J B n s i) (hG : zGm I J B n s i g o b af) (hk : tK B n i = 258) {Q : zI → zJ → Prop} (hok : ∀ a, ztl (tK B n) (tV B n) (zpsn B n) g i = .inr a → ∀ (I' : zI) (J' : zJ) (o' b' : Nat) (af' : Nat → Nat), frMo s I I' → frMJ J J' → zM I' J' B n s a.1 → zGm I' J' B n s a.1 a.2 o' b' af' → i < a.1 → Q I' J') (hbad : ∀ k j, ztl (tK B n) (tV B n) (zpsn B n) g i = .inl (k, j) → ∀ I' : zI, frMo s I I' → zDe I' B n k j → Q I' J) : (v_M_roomFor 5000 (I 378 ((I 361 19)).toNatClampNeg) (6 : Int32) I J (fun I47 J47 => ((¬ (I47 361 13) = 0 → Q I47 J47) ∧ ((I47 361 13) = 0 → (v_M_tellHangs 5000  I47 J47 (fun I49 J49 => Q I49 J49)))))) := by
  obtain ⟨hH, hP, hN, hHg, hML, hMo, ⟨hW, hWb⟩, h12, ⟨h41, ho1, ho2⟩, ⟨h35, hb1, hb2⟩, hon⟩ := id hG
  have hs := hM.2.2.2.1
  have lH := hH.2.1
  have lP := hP.2.1
  have pp : ∀ {t : Nat}, tK B n t ≠ 1 → zpsn B n t < zpsn B n (t + 1) := fun h => zpsn_lt h
  rw [hM.2.2.1, nI_clamp (by omega), hHg.1]
  unfold ztl at hok hbad
  rw [if_neg (by omega), if_neg (by omega), if_pos hk] at hok hbad
  refine m_room hM (by omega) hHg.2.1 (by decide) (fun hlt i1 e1 I1 o1 m1 => z_yr m1.2.1 ?_) (fun hlt k j ej I1 o1 d1 => z_nr (fun z => d1.ne z) (hbad k j (by rw [if_pos hlt]; unfold zhng; rw [ej]; rfl) I1 o1.mo d1)) (fun hlt I1 o1 d1 => z_nr (fun z => d1.ne z) (hbad 2 i (if_neg hlt) I1 o1.mo d1))
  rw [if_pos hlt] at hok hbad
  unfold zhng at hok hbad
  rw [e1, zbi_r] at hok hbad
  have q1 := (zgo_r e1).2
  have p1 := pp (t := i) (by omega)
  rw [← q1] at p1
  have wb1 : zWb (gW g) (zpsn B n i1) := hWb.up (Nat.le_of_lt p1)
  have N1 : zNm I1 J g af := hN.kept (o1 _ _ (by omega)) (fun j => o1 _ _ (by omega)) rfl
  have eP : ∀ w, zlk (J 369) af w 10 ((gH g).1 + (gP g).1) 0 = zidx (gP g).2.1 w (gP g).1 0 := hN.2.2.2.1
  have eH : ∀ w, zlk (J 369) af w 0 ((gH g).1 + (gP g).1) 0 = zidx (gH g).2.1 w (gH g).1 0 := hN.2.2.1
  -- a fault: what is left of it
  have dEnd : ∀ (k j : Nat) (I3 : zI) (x2 x3 : Int32), (∀ I' : zI, frMo s I I' → zDe I' B n k j → Q I' J) → frMo s I I3 → zDe I3 B n k j → v_M_tellHangs_109 5000 x2 x3 I3 J (fun I49 J49 => Q I49 J49) := fun k j I3 x2 x3 hb f3 d3 => m_must_d d3 (z_n d3.nle (hb I3 f3 d3))
  have d60 : ∀ (k j : Nat) (I3 : zI) (x1 x2 x3 : Int32), (∀ I' : zI, frMo s I I' → zDe I' B n k j → Q I' J) → frMo s I I3 → zDe I3 B n k j → v_M_tellHangs_60 5000 5000 x1 x2 x3 0 I3 J (fun I49 J49 => Q I49 J49) (fun w4 w5 I6 J6 => v_M_tellHangs_109 5000 w4 w5 I6 J6 (fun I49 J49 => Q I49 J49)) := fun k j I3 x1 x2 x3 hb f3 d3 => by
    rw [v_M_tellHangs_60]
    exact z_n (by decide) (z_nr (fun z => d3.ne z) (dEnd k j I3 x2 x3 hb f3 d3))
  intro y1 ey1
  rw [m1.1] at ey1
  rw [ey1]
  refine m_known (t := 10) (g := g) (af := af) hn m1 N1 (by omega) (by decide) (hW.kept (fun l q => o1 _ _ (by omega))) wb1 (fun i2 e2 I3 o3 m3 w3 => z_yr m3.2.1 ?_) (fun k j ej I3 o3 d3 => z_nr (fun z => d3.ne z) (fun y ey => m_known_d d3 (d60 k j I3 _ _ _ (hbad k j (by rw [ej]; rfl)) (o1.mo.tr o3.mo) d3)))
  rw [e2, zbi_r] at hok hbad
  have q2 := (zpass_r e2).2.2
  have k2 := (zpass_r e2).1
  have p2 := pp (t := i1) (by omega)
  rw [← q2] at p2
  rw [eP] at w3 ⊢
  have x3 : ∀ a l, ¬ (a = 361 ∧ (l = 11 ∨ l = 13 ∨ l = 14 ∨ l = 15 ∨ l = 16)) → I3 a l = I a l := fun a l q => by rw [o3 a l q, o1 a l (by omega)]
  have e365 : I1 365 i1 = nI (zpsn B n i1) := m1.tk.2.1
  have hi1 := m1.2.2.2.2.2.1
  have hi2 := m3.2.2.2.2.2.1
  -- the second name
  have second : ∀ I4 : zI, (∀ a l, ¬ (a = 361 ∧ (l = 11 ∨ l = 13 ∨ l = 14 ∨ l = 15 ∨ l = 16)) → I4 a l = I a l) → zM I4 J B n s i2 → zWr2 I4 (zwhoW (tV B n) (zpsn B n) g i1 (gW g)) → v_M_tellHangs_46 5000 (zo1 (zwhp (tV B n) g i1)) I4 J (fun I49 J49 => Q I49 J49) := fun I4 x4 m4 w4 => by
    have wbp : zWb (zwhoW (tV B n) (zpsn B n) g i1 (gW g)) (zpsn B n i2) := by
      unfold zwhoW
      cases zwhp (tV B n) g i1 with
      | none => exact wb1.keep p2
      | some p =>
        show zWb (if (gG g).2 p < 0 then gW g else zkeep 3 (zpsn B n i1) (gW g)) _
        split
        · exact wb1.up (Nat.le_of_lt p2)
        · exact wb1.keep p2
    have N4 : zNm I4 J g af := hN.kept (x4 _ _ (by omega)) (fun j => x4 _ _ (by omega)) rfl
    intro y ey
    rw [m4.1] at ey
    rw [ey]
    refine m_known (t := 0) (g := g) (af := af) hn m4 N4 (by omega) (by decide) w4 wbp (fun i3 e3 I5 o5 m5 w5 => ?_) (fun k j ej I5 o5 d5 => d60 k j I5 _ _ _ (hbad k j (by rw [ej]; rfl)) ((fr5.mo x4).tr o5.mo) d5)
    rw [e3, zbi_r] at hok hbad
    have q3 := (zpass_r e3).2.2
    have k3 := (zpass_r e3).1
    have p3 := pp (t := i2) (by omega)
    rw [← q3] at p3
    rw [eH] at w5 ⊢
    have x5 : ∀ a l, ¬ (a = 361 ∧ (l = 11 ∨ l = 13 ∨ l = 14 ∨ l = 15 ∨ l = 16)) → I5 a l = I a l := fun a l q => by rw [o5 a l q, x4 a l q]
    have fin : ∀ I6 : zI, frKp I5 I6 → zWr2 I6 (zwhcW (tV B n) (zpsn B n) g i2 (zwhoW (tV B n) (zpsn B n) g i1 (gW g))) → v_M_tellHangs_109 5000 (zo1 (zwhp (tV B n) g i1)) (zo1 (zwhc (tV B n) g i2)) I6 J (fun I49 J49 => Q I49 J49) := fun I6 o6 w6 => by
      have m6 : zM I6 J B n s i3 := m5.kept (fun b l q => o6 b l (by omega)) (fun _ => rfl)
      have x6 : ∀ a l, ¬ (a = 361 ∧ (l = 11 ∨ l = 13 ∨ l = 14 ∨ l = 15 ∨ l = 16)) → I6 a l = I a l := fun a l q => by rw [o6 a l (by omega), x5 a l q]
      have wbc : zWb (zwhcW (tV B n) (zpsn B n) g i2 (zwhoW (tV B n) (zpsn B n) g i1 (gW g))) (zpsn B n i3) := by
        unfold zwhcW
        cases zwhc (tV B n) g i2 with
        | none => exact wbp.keep p3
        | some h => exact wbp.ite p3
      refine m_must m6 (c := 59) rfl (by unfold zkv; omega) (by decide) (fun i4 e4 I7 o7 m7 => z_y m7.le ?_) (fun k j ej I7 o7 d7 => z_n d7.nle (hbad k j (by rw [ej]; rfl) I7 ((fr5.mo x6).tr o7.mo) d7))
      rw [e4, zbi_r] at hok hbad
      have q4 := (zpass_r e4).2.2
      have k4 := (zpass_r e4).1
      have p4 := pp (t := i3) (by omega)
      rw [← q4] at p4
      have x7 : ∀ a l, ¬ (a = 361 ∧ (l = 11 ∨ l = 13 ∨ l = 14 ∨ l = 15 ∨ l = 16)) → I7 a l = I a l := fun a l q => by rw [o7 a l (by omega), x6 a l q]
      rw [m7.2.2.1, nI_clamp (by omega), x7 378 s (by omega), hHg.1, nI_1]
      refine ⟨vp_in_nI hs (by decide), fun I8 e8 => ?_⟩
      have o8 : ∀ a l, ¬ (a = 378 ∧ l = s) → I8 a l = I7 a l := fun a l q => by rw [e8, qu_off (by omega)]
      have m8 : zM I8 J B n s i4 := m7.kept (fun b l q => o8 b l (by omega)) (fun _ => rfl)
      have done : ∀ (I9 : zI) (on : Nat → Int32), (∀ a l, ¬ (a = 377 ∧ 6 * s ≤ l ∧ l < 6 * s + 6) → I9 a l = I8 a l) → (∀ p, p < 6 → I9 377 (6 * s + p) = on p) → on = (zwhp (tV B n) g i1).elim (gG g).2 (fun p => (zwhc (tV B n) g i2).elim (gG g).2 fun h => zud (gG g).2 p (nI h)) → (∀ p, (gP g).1 ≤ p → on p = -2) → Q I9 J := fun I9 on o9 h9 eon hon9 => by
        have x9 : ∀ a l, ¬ (a = 361 ∧ (l = 11 ∨ l = 13 ∨ l = 14 ∨ l = 15 ∨ l = 16)) → ¬ (a = 378 ∧ l = s) → a ≠ 377 → I9 a l = I a l := fun a l q1 q2 q3 => by rw [o9 a l (by omega), o8 a l q2, x7 a l q1]
        have f9 : frMo s I I9 := ((fr5.mo x7).tr (frMo.cell (own_one (by omega) rfl) o8)).tr (fun b l q => o9 b l (fun z => q (own_on (by omega) z.2.1 z.2.2)))
        refine hok _ rfl I9 J o b af f9 (fun _ _ _ => rfl) (m8.kept (fun b l q => o9 b l (by omega)) (fun _ => rfl)) ⟨hH.kept (x9 _ _ (by omega) (by omega) (by omega)) (fun j => x9 _ _ (by omega) (by omega) (by omega)) (fun j => x9 _ _ (by omega) (by omega) (by omega)), hP.kept (x9 _ _ (by omega) (by omega) (by omega)) (fun j => x9 _ _ (by omega) (by omega) (by omega)) (fun j => x9 _ _ (by omega) (by omega) (by omega)), hN.kept (x9 _ _ (by omega) (by omega) (by omega)) (fun j => x9 _ _ (by omega) (by omega) (by omega)) rfl, ⟨by rw [o9 _ _ (by omega), e8, qu_same]; rfl, hlt, fun p hp => by rw [h9 p hp, eon]; rfl⟩, hML.kept (fun a j q1 q2 => x9 _ _ (by omega) (by omega) (by omega)), ⟨by rw [x9 _ _ (by omega) (by omega) (by omega)]; exact hMo.1, by rw [x9 _ _ (by omega) (by omega) (by omega)]; exact hMo.2⟩, ⟨w6.kept (fun l q => by rw [o9 _ _ (by omega), o8 _ _ (by omega), o7 _ _ (by omega)]), wbc.up (Nat.le_of_lt p4)⟩, by rw [x9 _ _ (by omega) (by omega) (by omega)]; exact h12, ⟨by rw [x9 _ _ (by omega) (by omega) (by omega)]; exact h41, ho1, by show _ ≤ 420 * s + i4; omega⟩, ⟨by rw [x9 _ _ (by omega) (by omega) (by omega)]; exact h35, hb1, by show _ ≤ 520 * s + i4; omega⟩, fun p hp => by
          have := hon9 p hp
          rw [eon] at this
          exact this⟩ (by show i < i4; omega)
      have h8 : ∀ p, p < 6 → I8 377 (6 * s + p) = (gG g).2 p := fun p hp => by rw [o8 _ _ (by omega), x7 _ _ (by omega)]; exact hHg.2.2 p hp
      cases ep : zwhp (tV B n) g i1 with
      | none => exact z_y (by decide) (done I8 _ (fun _ _ _ => rfl) h8 (by rw [ep]; rfl) hon)
      | some p =>
        have hp := (zidx_lt _ _ _ ep).2
        refine z_n (nI_pos (n := p) (by omega)) ?_
        cases eh : zwhc (tV B n) g i2 with
        | none => exact z_y (by decide) (done I8 _ (fun _ _ _ => rfl) h8 (by rw [ep, eh]; rfl) hon)
        | some h =>
          have hh := (zidx_lt _ _ _ eh).2
          refine z_n (nI_pos (n := h) (by omega)) ?_
          rw [m8.2.2.1, show zo1 (some p) = nI p from rfl, z_m6, nI_clamp (by omega)]
          refine ⟨vp_in_nI (by omega) (by decide), fun I9 e9 => done I9 (zud (gG g).2 p (nI h)) (fun a l q => by rw [e9, qu_off (by omega)]) (fun p' hp' => ?_) (by rw [ep, eh]; rfl) (fun p' hp' => ?_)⟩
          · by_cases e : p' = p
            · subst e; rw [e9, qu_same, zud_s]; rfl
            · rw [e9, qu_off (by omega), zud_n e]; exact h8 p' hp'
          · rw [zud_n (by omega)]; exact hon p' hp'
    unfold zwhcW at fin
    cases eh : zwhc (tV B n) g i2 with
    | none =>
      have eh' : zidx (gH g).2.1 (tV B n i2) (gH g).1 0 = none := eh
      rw [eh'] at w5 ⊢
      rw [eh] at fin
      rw [v_M_tellHangs_60]
      exact z_n (by decide) (z_yr m5.2.1 (z_y (by decide) (fin I5 (fun _ _ _ => rfl) w5)))
    | some h =>
      have eh' : zidx (gH g).2.1 (tV B n i2) (gH g).1 0 = some h := eh
      have hh := (zidx_lt _ _ _ eh').2
      rw [eh'] at w5 ⊢
      rw [eh] at fin
      simp only [Option.elim] at fin w5
      refine m_60 (h := h) (f := (gG g).2) (W := zwhoW (tV B n) (zpsn B n) g i1 (gW g)) hn hi2 (by omega) wbp 6 0 5000 false I5 m5 (fun p hp => by rw [x5 _ _ (by omega)]; exact hHg.2.2 p hp) (by rw [o5 _ _ (by omega)]; exact m4.tk.2.1) w5 (by decide) (by decide) (fun I6 o6 w6 => fin I6 o6 ?_)
      rw [Bool.false_or, ztkn_6 (by omega) 6 0 (gP g).1 lP (fun p hp => hon p (by omega))] at w6
      exact w6
  have ew : zwhp (tV B n) g i1 = zidx (gP g).2.1 (tV B n i1) (gP g).1 0 := rfl
  rw [← ew] at w3 ⊢
  unfold zwhoW at second
  cases ep : zwhp (tV B n) g i1 with
  | none =>
    rw [ep] at w3 second
    exact z_y (by decide) (second I3 x3 m3 w3)
  | some p =>
    have hp := (zidx_lt _ _ _ ep).2
    rw [ep] at w3 second
    simp only [Option.elim] at second w3
    refine z_n (nI_pos (n := p) (by omega)) ?_
    rw [m3.2.2.1, show zo1 (some p) = nI p from rfl, z_m6, nI_clamp (by omega), x3 377 _ (by omega), hHg.2.2 p (by omega)]
    refine ⟨vp_in_nI (by omega) (by decide), fun q => ?_, fun q => ?_⟩
    · rw [if_pos q] at second
      exact second I3 x3 m3 w3
    · rw [if_neg q] at second
      exact m_wrong (k := 3) hn m3 hi1 (by rw [o3 _ _ (by omega)]; exact e365) w3 (by decide) (by decide) (fun z => Or.inl (wb1 z)) (fun I4 o4 w4 => second I4 (fun a l q => by rw [o4 a l (by omega), x3 a l q]) (m3.kept (fun b l q => o4 b l (by omega)) (fun _ => rfl)) w4)
theorem m_tLaw {I : zI} {J : zJ} {i o b : Nat} {g : zG} {af : Nat → Nat} (hM : zM I J B n s i) (hG : zGm I J B n s i g o b af) (hk : 259 ≤ tK B n i ∧ tK B n i ≤ 262) {Q : zI → zJ → Prop} (hok : ∀ a, ztl (tK B n) (tV B n) (zpsn B n) g i = .inr a → ∀ (I' : zI) (J' : zJ) (o' b' : Nat) (af' : Nat → Nat), frMo s I I' → frMJ J J' → zM I' J' B n s a.1 → zGm I' J' B n s a.1 a.2 o' b' af' → i < a.1 → Q I' J') (hbad : ∀ k j, ztl (tK B n) (tV B n) (zpsn B n) g i = .inl (k, j) → ∀ I' : zI, frMo s I I' → zDe I' B n k j → Q I' J) : v_M_goesOn 5000 I J (fun I55 J55 => v_M_tellLaw 5000 (nI (tK B n i - 259)) I55 J55 (fun I56 J56 => Q I56 J56)) := by
  obtain ⟨hH, hP, hN, hHg, hML, hMo, ⟨hW, hWb⟩, h12, ⟨h41, ho1, ho2⟩, ⟨h35, hb1, hb2⟩, hon⟩ := id hG
  have hs := hM.2.2.2.1
  have h400 := hM.2.2.2.2.2.1
  unfold ztl at hok hbad
  rw [if_neg (by omega), if_neg (by omega), if_neg (by omega), if_neg (by omega), if_neg (by omega), if_pos hk, zlaw_1] at hok hbad
  have fw : ∀ {I1 I2 : zI}, frW s o b I1 I2 → frMo s I1 I2 := fun h a l q => h a l (fun z => q (Or.inl ⟨z.1, by have := z.2; omega⟩)) (fun z => q (Or.inr (Or.inr (Or.inl z)))) (fun z => q (own_code z.1 (by have := z.2; omega) z.2.2)) (fun z => q (own_br z.1 z.2.1 (by have := z.2; omega) z.2.2.2))
  refine m_goesOn hM (by omega) (fun i1 e1 I1 o1 m1 => ?_) (fun k j ej I1 o1 d1 => ?_)
  · rw [e1, zbi_r] at hok hbad
    have q1 := (zgo_r e1).2
    refine m_tellLaw (k := tK B n i - 259) (o := o) (b := b) (by omega) m1 (by rw [o1 _ _ (by omega)]; exact h12) (by rw [o1 _ _ (by omega)]; exact h41) ho1 (by omega) (by rw [o1 _ _ (by omega)]; exact h35) hb1 (by omega) (fun a ea I2 o' f2 m2 z2 g2 l1 l2 v35 b2 v381 v382 B2 C2 hlt => ?_) (fun k j ej I2 f2 d2 => hbad k j (by rw [ej]; rfl) I2 (o1.mo.tr (fw f2)) d2)
    rw [ea, zbi_r] at hok
    have x2 : ∀ a' l, ¬ (a' = 361 ∧ (l = 11 ∨ l = 12 ∨ l = 13 ∨ l = 14 ∨ l = 35 ∨ l = 41 ∨ l = 45)) → ¬ (381 ≤ a' ∧ a' ≤ 390) → I2 a' l = I a' l := fun a' l q1 q2 => by rw [f2 a' l q1 (by omega) (by omega) (by omega) (by omega), o1 a' l (by omega)]
    have f2' : frMo s I1 I2 := fun a' l q => f2 a' l (fun z => q (Or.inl ⟨z.1, by have := z.2; omega⟩)) (fun z => q (Or.inr (Or.inr (Or.inl z)))) (fun z => q (own_code z.1 (by have := z.2; omega) z.2.2)) (fun z => q (own_br z.1 z.2.1 (by have := z.2; omega) z.2.2.2)) (fun z => q (own_law z.1 (by have := z.2; omega) (by have := z.2; omega)))
    have hst : ∀ t, i ≤ t → t < a.1 → tK B n t ≠ 1 := fun t h1 h2 => (m2.2.2.2.2.2.2 t h2).1
    have hmono : ∀ d, i + d ≤ a.1 → zpsn B n i ≤ zpsn B n (i + d) := fun d => by
      induction d with
      | zero => exact fun _ => Nat.le_refl _
      | succ d ih =>
        intro hd
        have h1 := ih (by omega)
        have h2 : zpsn B n (i + d) < zpsn B n (i + d + 1) := zpsn_lt (hst (i + d) (by omega) (by omega))
        show zpsn B n i ≤ zpsn B n (i + d + 1)
        omega
    have hle := hmono (a.1 - i) (by omega)
    rw [show i + (a.1 - i) = a.1 by omega] at hle
    refine hok _ rfl I2 J o' (b + a.2.1.length + 1) af (o1.mo.tr f2') (fun _ _ _ => rfl) m2 ⟨hH.kept (x2 _ _ (by omega) (by omega)) (fun j => x2 _ _ (by omega) (by omega)) (fun j => x2 _ _ (by omega) (by omega)), hP.kept (x2 _ _ (by omega) (by omega)) (fun j => x2 _ _ (by omega) (by omega)) (fun j => x2 _ _ (by omega) (by omega)), hN.kept (x2 _ _ (by omega) (by omega)) (fun j => x2 _ _ (by omega) (by omega)) rfl, hHg.kept (x2 _ _ (by omega) (by omega)) (fun j => x2 _ _ (by omega) (by omega)), fun k hk4 => ?_, ⟨by rw [x2 _ _ (by omega) (by omega)]; exact hMo.1, by rw [x2 _ _ (by omega) (by omega)]; exact hMo.2⟩, ⟨hW.kept (fun l q => x2 _ _ (by omega) (by omega)), hWb.up hle⟩, z2, ⟨g2, by omega, l2⟩, ⟨v35, by omega, b2⟩, hon⟩ (by show i < a.1; omega)
    show zML1 I2 s k (b + a.2.1.length + 1) o' (zud (gL g) (tK B n i - 259) (some a.2) k)
    by_cases e : k = tK B n i - 259
    · rw [e, zud_s]
      exact ⟨b, hb1, by omega, v381, v382, B2, C2⟩
    · rw [zud_n e]
      refine (hML k hk4).kept ?_ ?_ (fun a' j q1 q2 q3 => ?_) (fun a' j q1 q2 => ?_) (by omega) l1
      · rw [f2 _ _ (by omega) (by omega) (by omega) (by omega) (by omega), o1 _ _ (by omega)]
      · rw [f2 _ _ (by omega) (by omega) (by omega) (by omega) (by omega), o1 _ _ (by omega)]
      · rw [f2 _ _ (by omega) (by omega) (by omega) (by omega) (by omega), o1 _ _ (by omega)]
      · rw [f2 _ _ (by omega) (by omega) (by omega) (by omega) (by omega), o1 _ _ (by omega)]
  · exact m_tellLaw_d (s := s) (o := o) (b := b) d1 hs (by rw [o1 _ _ (by omega)]; exact h35) hb1 (by omega) (fun I2 f2 d2 => hbad k j (by rw [ej]; rfl) I2 (o1.mo.tr (fw f2)) d2)
end
