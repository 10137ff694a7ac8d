/-! calls over nights: nights, then, bentIn, year, bill, upright, themselves, day, round -/
theorem z_few1 {I : zI} {J : zJ} {n : Nat} (hn : n < 61) {Q : Int32 → zI → zJ → Prop} (hq : Q 1 I J) : v_X_isFewNights 5000 (nI n) I J Q := z_n (nI_pos (by omega)) (z_n (nI_nlt (a := 60) (by omega) (by decide)) hq)
theorem z_few0 {I : zI} {J : zJ} {x : Int32} (hx : ¬ zin x 61) {Q : Int32 → zI → zJ → Prop} (hq : Q 0 I J) : v_X_isFewNights 5000 x I J Q := by
  rcases rng_no (n := 60) (by decide) hx with q | ⟨q1, q2, q3, q4⟩
  · exact z_y q hq
  · exact z_n q1 (z_y q3 hq)
theorem z_long1 {I : zI} {J : zJ} {n : Nat} (hn : n < 61) {Q : Int32 → zI → zJ → Prop} (hq : Q 1 I J) : v_M_isLong 5000 (nI n) I J Q := z_in1 (n := 61) (by decide) (by decide) hn ⟨Or.inr rfl, hq⟩
theorem z_long0 {I : zI} {J : zJ} {x : Int32} (hx : ¬ zin x 61) {Q : Int32 → zI → zJ → Prop} (hq : Q 0 I J) : v_M_isLong 5000 x I J Q := z_in0 (n := 61) (by decide) (by decide) hx ⟨Or.inl rfl, hq⟩
theorem zok_nights : zOK_nights Rel := fun a0 => zok_m (vX := v_X_nights 5000 a0) (vM := v_M_nights 5000 a0) (fun I J hR t live s u x hQ hu hx hu' hu40 hx40 => by
  have hX := hQ.1
  have hP := hX.1.2.1
  by_cases hz : zin a0 61
  · obtain ⟨n, hn, rfl⟩ := hz
    by_cases h0 : n = 0
    · subst h0
      refine Or.inl ⟨sN s, fun Q hq => z_few1 hn (z_nr z_10 (z_y (by decide) ?_)), fun I1 Q k1 hQ1 hq => z_long1 hn (z_nr z_10 (z_yr rfl ⟨z_v.2.2.2.2.2.2.2.2.2.1, ?_⟩))⟩
      · rw [hX.2.2.2.1.1]; exact hq I zK.rfl
      · rw [z_l31, hQ1.2.2.1]; exact hq I1 zK.rfl
    · refine Or.inr ⟨sN (zNs t (xD t) n s), zNs t (xD t) n s, fun Q hq => z_few1 hn (z_nr z_10 (z_n (nI_nle (by omega) (by omega)) (s_keep hX hu hx hu40 hx40 (fun I1 g1 g2 g3 g4 => ?_)))), fun I1 Q hQ1 h57 hq => z_long1 hn (z_nr z_10 (z_nr (nI_ne0 (by omega) (by omega)) (hQ1.copies (fun I2 o2 hX2 h51 h52 => s_M_goes (by omega) h51 h52 hX2 (fun I3 hX3 o3 => ?_)))))⟩
      · have hX1 : cX I1 t 49 s := hX.kept (fun b j q => g4 b j (by omega) (by omega))
        rw [hX1.2.1.2.2.2.2.2.2.1]
        refine s_goByWithAll (by omega) hX1 (fun I2 hX2 o2 => ?_)
        rw [hX2.2.2.2.1.1]
        exact hq I2 (xDid.mk hx40 g1 g2 g3 g4 (fun b j q1 q2 q3 q4 => o2 b j q2 q3 q4 (by omega)) hX2.2.2.2.1 hX2.2.2.1)
      · rw [zNts_0] at hX3
        refine s_M_records hX.1 hu40 (by rw [o3 _ _ (by decide) (by decide) (by decide) (by decide), o2 _ _ (by decide) (by decide)]; exact h57) hX3.2.2.2 (fun I4 d4 => ⟨z_v.2.2.2.2.2.2.2.2.2.1, ?_⟩)
        rw [z_l31, d4.1.1]
        refine hq I4 (mDid.pre (fun b j q => ?_) d4)
        have := zE_out q
        rw [o3 b j (by omega) (by omega) (by omega) (by omega), o2 b j (by omega) (by omega)]
  · exact Or.inl ⟨-1, fun Q hq => z_few0 hz (z_yr z_00 (hq I zK.rfl)), fun I1 Q k1 hQ1 hq => z_long0 hz (z_yr z_00 (hq I1 zK.rfl))⟩)
theorem zok_then : zOK_then Rel := fun a0 a1 a2 => zok_q (vX := v_X_then 5000 a0 a1 a2) (vM := v_M_then 5000 a0 a1 a2) (fun I J hR t live s hQ => by
  have hX := hQ.1
  have hP := hX.1.2.1
  by_cases hz : zin a0 (xP t)
  · obtain ⟨p, hp, rfl⟩ := hz
    by_cases hn : zin a1 61
    · obtain ⟨n, hn, rfl⟩ := hn
      by_cases hk : zin a2 3
      · obtain ⟨k, hk, rfl⟩ := hk
        have v6 : vp_in (nI p) 6 := vp_in_nI (by omega) (by decide)
        refine ⟨if nI k = 0 then sS (zNs t (xD t) n s) p else if nI k = 1 then sC (zNs t (xD t) n s) p else sO (zNs t (xD t) n s) p, fun Q hq => hQ.xP1 hp (z_n z_10 (z_few1 hn (z_n z_10 (z_n (nI_pos (by omega)) (z_y (nI_le (b := 2) (by omega) (by decide)) (s_dream hX (fun I9 hX9 o9 => ?_))))))), fun I1 Q k1 hQ1 hq => hQ1.mP1 hp (z_n z_10 (z_long1 hn (z_n z_10 (z_in1 (n := 3) (by decide) (by decide) hk (z_nr z_10 (hQ1.copies (fun I2 o2 hX2 h51 h52 => s_M_goes (by omega) h51 h52 hX2 (fun I3 hX3 o3 => ?_))))))))⟩
        · rw [hX9.2.1.2.2.2.2.2.2.1]
          refine s_goByWithAll (by omega) hX9 (fun I10 hX10 o10 => ?_)
          have hk10 : zK I I10 J J := (zK.dream o9).trans (zK.fN o10)
          obtain ⟨c0, c1, c2, c3, c4, c5⟩ := id hX10.2.2.2.1
          have c3' : I10 58 p = _ := c3 p hp
          have c4' : I10 59 p = _ := c4 p hp
          have c2' : I10 57 p = _ := c2 p hp
          rw [nI_clamp (by omega), c3', c4', c2']
          refine ⟨fun q => ⟨v6, ?_⟩, fun q => ⟨fun q' => ⟨v6, ?_⟩, fun q' => ⟨v6, ?_⟩⟩⟩
          · rw [if_pos q] at hq; exact hq I10 hk10
          · rw [if_neg q, if_pos q'] at hq; exact hq I10 hk10
          · rw [if_neg q, if_neg q'] at hq; exact hq I10 hk10
        · rw [zNts_0] at hX3
          have hk3 : zK I1 I3 J J := (zK.fS o2).trans (zK.fH o3)
          obtain ⟨m0, m1, m2, m3, m4, m5, m6, m7⟩ := id hX3.2.2.2
          rw [z_c6, z_c12, z_c18, nI_clamp (n := 6 + p) (by omega), nI_clamp (n := 12 + p) (by omega), nI_clamp (n := 18 + p) (by omega), m2 p hp, m3 p hp, m4 p hp]
          refine ⟨fun q => ⟨fun q' => ⟨vp_in_nI (by omega) (by decide), ?_⟩, fun q' => ⟨vp_in_nI (by omega) (by decide), ?_⟩⟩, fun q => ⟨vp_in_nI (by omega) (by decide), ?_⟩⟩
          · rw [if_neg q, if_neg q'] at hq; exact hq I3 hk3
          · rw [if_neg q, if_pos q'] at hq; exact hq I3 hk3
          · rw [if_pos q] at hq; exact hq I3 hk3
      · refine ⟨-1, fun Q hq => hQ.xP1 hp (z_n z_10 (z_few1 hn (z_n z_10 ?_))), fun I1 Q k1 hQ1 hq => hQ1.mP1 hp (z_n z_10 (z_long1 hn (z_n z_10 (z_in0 (n := 3) (by decide) (by decide) hk (z_yr z_00 (hq I1 zK.rfl))))))⟩
        rcases rng_no (n := 2) (by decide) hk with q | ⟨q1, q2, q3, q4⟩
        · exact z_y q (hq I zK.rfl)
        · exact z_n q1 (z_n q2 (hq I zK.rfl))
    · exact ⟨-1, fun Q hq => hQ.xP1 hp (z_n z_10 (z_few0 hn (z_y z_00 (hq I zK.rfl)))), fun I1 Q k1 hQ1 hq => hQ1.mP1 hp (z_n z_10 (z_long0 hn (z_y z_00 (hq I1 zK.rfl))))⟩
  · exact ⟨-1, fun Q hq => hQ.xP0 hz (z_y z_00 (hq I zK.rfl)), fun I1 Q k1 hQ1 hq => hQ1.mP0 hz (z_y z_00 (hq I1 zK.rfl))⟩)
theorem zok_bentIn : zOK_bentIn Rel := fun a0 a1 => zok_q (vX := v_X_bentIn 5000 a0 a1) (vM := v_M_bentIn 5000 a0 a1) (fun I J hR t live s hQ => by
  have hX := hQ.1
  have hH := hX.1.1
  by_cases hz : zin a0 (xH t)
  · obtain ⟨p, hp, rfl⟩ := hz
    by_cases hn : zin a1 61
    · obtain ⟨n, hn, rfl⟩ := hn
      have v6 : vp_in (nI p) 7 := vp_in_nI (by omega) (by decide)
      refine ⟨sB (zNs t (xD t) n s) p, fun Q hq => hQ.xH1 hp (z_n z_10 (z_few1 hn (z_nr z_10 (s_dream hX (fun I9 hX9 o9 => ?_))))), fun I1 Q k1 hQ1 hq => hQ1.mH1 hp (z_n z_10 (z_long1 hn (z_nr z_10 (hQ1.copies (fun I2 o2 hX2 h51 h52 => s_M_goes (by omega) h51 h52 hX2 (fun I3 hX3 o3 => ?_))))))⟩
      · rw [hX9.2.1.2.2.2.2.2.2.1]
        refine s_goByWithAll (by omega) hX9 (fun I10 hX10 o10 => ⟨v6, ?_⟩)
        have c5' : I10 60 p = _ := hX10.2.2.2.1.2.2.2.2.2 p hp
        rw [nI_clamp (by omega), c5']
        exact hq I10 ((zK.dream o9).trans (zK.fN o10))
      · rw [zNts_0] at hX3
        obtain ⟨m0, m1, m2, m3, m4, m5, m6, m7⟩ := id hX3.2.2.2
        rw [z_c24, nI_clamp (by omega), m5 p hp]
        exact ⟨vp_in_nI (by omega) (by decide), hq I3 ((zK.fS o2).trans (zK.fH o3))⟩
    · exact ⟨-1, fun Q hq => hQ.xH1 hp (z_n z_10 (z_few0 hn (z_yr z_00 (hq I zK.rfl)))), fun I1 Q k1 hQ1 hq => hQ1.mH1 hp (z_n z_10 (z_long0 hn (z_yr z_00 (hq I1 zK.rfl))))⟩
  · exact ⟨-1, fun Q hq => hQ.xH0 hz (z_y z_00 (hq I zK.rfl)), fun I1 Q k1 hQ1 hq => hQ1.mH0 hz (z_y z_00 (hq I1 zK.rfl))⟩)
theorem zIt_s (g : zT → zT) (n : Nat) (s : zT) : zIt g (n + 1) s = zIt g n (g s) := rfl
/-- how many of the seeds leave p hung -/
def zyf (t : zX) (s : zT) (n p i : Nat) : Int32 := zup1 (sO (zNs t (xD t + nI i) n s) p)
theorem zup1_or (x : Int32) : zup1 x = 0 ∨ zup1 x = 1 := by
  unfold zup1
  by_cases h : x < 0
  · exact Or.inl (if_pos h)
  · exact Or.inr (if_neg h)
theorem s_year_34 {J : zJ} {t : zX} {live n m p : Nat} {s : zT} (hn : n < 61) (hm : m ≤ 20) (hp : p < xP t) {Q : Int32 → zI → zJ → Prop} : ∀ r i k c (I : zI), zQ I t live s → i + r = m → r < k → (∀ I' : zI, zK I I' J J → Q (zsum (zyf t s n p) r i c) I' J) → v_X_year_34 5000 k (nI p) (nI n) (nI m) c (nI i) I J Q
  | _, _, 0, _, _, _, _, hk, _ => absurd hk (Nat.not_lt_zero _)
  | 0, i, k + 1, c, I, hQ, hi, hk, hq => z_y (nI_le (by omega) (by omega)) (hq I zK.rfl)
  | r + 1, i, k + 1, c, I, hQ, hi, hk, hq => by
    refine z_n (nI_ge (by omega) (by omega)) (s_dream hQ.1 (fun I2 hX2 o2 => ?_))
    rw [hX2.2.1.2.2.2.2.2.2.1]
    rw [zsum] at hq
    refine s_staysHung (by omega) hp hX2 (fun I4 o4 => ?_)
    have ez : zyf t s n p i = zup1 (sO (zNs t (xD t + nI i) n s) p) := rfl
    have hk4 : zK I I4 J J := (zK.dream o2).trans (zK.fN o4)
    rw [nI_1]
    refine ⟨fun q y ey => ?_, fun q y ey => ?_⟩
    · rw [ez, q] at hq
      rw [ey]
      exact s_year_34 hn hm hp r (i + 1) k _ I4 (hQ.kept hk4) (by omega) (by omega) (fun I' k' => hq I' (hk4.trans k'))
    · rw [ez, (zup1_or _).resolve_left q] at hq
      rw [ey]
      exact s_year_34 hn hm hp r (i + 1) k _ I4 (hQ.kept hk4) (by omega) (by omega) (fun I' k' => hq I' (hk4.trans k'))
theorem s_M_year_33 {J : zJ} {t : zX} {live n m p : Nat} {s : zT} (hn : n < 61) (hm : m ≤ 20) (hp : p < xP t) {Q : Int32 → zI → zJ → Prop} : ∀ r i k c (I : zI), zQ I t live s → i + r = m → r < k → (∀ I' : zI, zK I I' J J → Q (zsum (zyf t s n p) r i c) I' J) → v_M_year_33 5000 k (nI p) (nI n) (nI m) c (nI i) I J Q
  | _, _, 0, _, _, _, _, hk, _ => absurd hk (Nat.not_lt_zero _)
  | 0, i, k + 1, c, I, hQ, hi, hk, hq => z_y (nI_le (by omega) (by omega)) (hq I zK.rfl)
  | r + 1, i, k + 1, c, I, hQ, hi, hk, hq => by
    have hH := hQ.1.1.1
    refine z_n (nI_ge (by omega) (by omega)) (hQ.copies (fun I2 o2 hX2 h51 h52 I3 e3 => ?_))
    rw [h51] at e3
    have o3 : ∀ b j, ¬ (b = 361 ∧ j = 51) → I3 b j = I2 b j := fun b j q => by rw [e3, qu_off (by omega)]
    have hX3 : mX I3 t live s := hX2.kept (fun b j q => o3 b j (by omega))
    rw [zsum] at hq
    have ez : zyf t s n p i = zup1 (sO (zNs t (xD t + nI i) n s) p) := rfl
    refine s_M_goes (sd := xD t + nI i) (st := 0) (by omega) (by rw [e3, qu_same]) (by rw [o3 _ _ (by decide)]; exact h52) hX3 (fun I4 hX4 o4 => ?_)
    rw [zNts_0] at hX4
    have hk4 : zK I I4 J J := (zK.fS (fun b j q1 q2 => by rw [o3 b j (by omega), o2 b j q1 (by omega)])).trans (zK.fH o4)
    rw [nI_1]
    refine s_M_isUp hX4 hp (fun e => z_y z_00 ?_) (fun h hh e => z_n z_10 ?_)
    · rw [ez, zup1_fl e, Int32.add_zero] at hq
      exact s_M_year_33 hn hm hp r (i + 1) k _ I4 (hQ.kept hk4) (by omega) (by omega) (fun I' k' => hq I' (hk4.trans k'))
    · rw [ez, zup1_up (by omega) e] at hq
      exact s_M_year_33 hn hm hp r (i + 1) k _ I4 (hQ.kept hk4) (by omega) (by omega) (fun I' k' => hq I' (hk4.trans k'))
theorem zok_year : zOK_year Rel := fun a0 a1 a2 => zok_q (vX := v_X_year 5000 a0 a1 a2) (vM := v_M_year 5000 a0 a1 a2) (fun I J hR t live s hQ => by
  have hX := hQ.1
  have hP := hX.1.2.1
  by_cases hz : zin a0 (xP t)
  · obtain ⟨p, hp, rfl⟩ := hz
    by_cases hn : zin a1 61
    · obtain ⟨n, hn, rfl⟩ := hn
      by_cases h1 : a2 < 1
      · exact ⟨-1, fun Q hq => hQ.xP1 hp (z_n z_10 (z_few1 hn (z_n z_10 (z_y h1 (hq I zK.rfl))))), fun I1 Q k1 hQ1 hq => hQ1.mP1 hp (z_n z_10 (z_long1 hn (z_n z_10 (z_y h1 (z_yr z_00 (hq I1 zK.rfl))))))⟩
      · by_cases h2 : 20 < a2
        · exact ⟨-1, fun Q hq => hQ.xP1 hp (z_n z_10 (z_few1 hn (z_n z_10 (z_n h1 (z_n (Int32.not_le.mpr h2) (hq I zK.rfl)))))), fun I1 Q k1 hQ1 hq => hQ1.mP1 hp (z_n z_10 (z_long1 hn (z_n z_10 (z_n h1 (z_y h2 (z_yr z_00 (hq I1 zK.rfl)))))))⟩
        · have h2' := Int32.not_lt.mp h2
          obtain ⟨m, hm, rfl⟩ := nI_of2 (x := a2) (M := 20) (n := 20) rfl (fun z => h1 (Int32.lt_trans z (by decide))) h2'
          exact ⟨zsum (zyf t s n p) m 0 0, fun Q hq => hQ.xP1 hp (z_n z_10 (z_few1 hn (z_n z_10 (z_n h1 (z_y h2' (s_year_34 hn hm hp m 0 5000 0 I hQ (by omega) (by omega) hq)))))), fun I1 Q k1 hQ1 hq => hQ1.mP1 hp (z_n z_10 (z_long1 hn (z_n z_10 (z_n h1 (z_n h2 (z_nr z_10 (s_M_year_33 hn hm hp m 0 5000 0 I1 hQ1 (by omega) (by omega) hq)))))))⟩
    · exact ⟨-1, fun Q hq => hQ.xP1 hp (z_n z_10 (z_few0 hn (z_y z_00 (hq I zK.rfl)))), fun I1 Q k1 hQ1 hq => hQ1.mP1 hp (z_n z_10 (z_long0 hn (z_y z_00 (hq I1 zK.rfl))))⟩
  · exact ⟨-1, fun Q hq => hQ.xP0 hz (z_y z_00 (hq I zK.rfl)), fun I1 Q k1 hQ1 hq => hQ1.mP0 hz (z_y z_00 (hq I1 zK.rfl))⟩)
/-- what it all costs over nights -/
def zbl (g : zT → zT) (h : zT → Int32) : Nat → zT → Int32 → Int32
  | 0, _, c => c
  | n + 1, s, c => zbl g h n (g s) (c + h s)
def zca (t : zX) (s : zT) : Int32 := zcosts t s (xP t) 0 0
theorem zbl_s (g : zT → zT) (h : zT → Int32) (n : Nat) (s : zT) (c : Int32) : zbl g h (n + 1) s c = zbl g h n (g s) (c + h s) := rfl
theorem s_bill_24 {J : zJ} {t : zX} {n : Nat} (hn : n < 61) {Q : Int32 → zI → zJ → Prop} : ∀ r i k c (I : zI) (s : zT), cX I t 55 s → i + r = n → r < k → (∀ I' : zI, zK I I' J J → Q (zbl (zStill t) (zca t) r s c) I' J) → v_X_bill_24 5000 k (nI n) c (nI i) I J Q
  | _, _, 0, _, _, _, _, _, hk, _ => absurd hk (Nat.not_lt_zero _)
  | 0, i, k + 1, c, I, s, hX, hi, hk, hq => z_y (nI_le (by omega) (by omega)) (hq I zK.rfl)
  | r + 1, i, k + 1, c, I, s, hX, hi, hk, hq => by
    rw [zbl_s] at hq
    refine z_n (nI_ge (by omega) (by omega)) (s_costOfAll hX (fun I3 o3 y ey => s_goByQuietly (hX.frC o3) (fun I5 hX5 o5 => ?_)))
    rw [nI_1, ey]
    exact s_bill_24 hn r (i + 1) k _ I5 _ hX5 (by omega) (by omega) (fun I' k' => hq I' ((zK.fC o3).trans ((zK.fN o5).trans k')))
theorem s_M_bill_17 {J : zJ} {t : zX} {live n : Nat} (hn : n < 61) {sd : Int32} {Q : Int32 → zI → zJ → Prop} : ∀ r i k c (I : zI) (s : zT), I 361 51 = sd → I 361 52 = 1 → mX I t live s → i + r = n → r < k → (∀ I' : zI, zK I I' J J → Q (zbl (zStill t) (zca t) r s c) I' J) → v_M_bill_17 5000 k (nI n) c (nI i) I J Q
  | _, _, 0, _, _, _, _, _, _, _, hk, _ => absurd hk (Nat.not_lt_zero _)
  | 0, i, k + 1, c, I, s, h51, h52, hX, hi, hk, hq => z_y (nI_le (by omega) (by omega)) (hq I zK.rfl)
  | r + 1, i, k + 1, c, I, s, h51, h52, hX, hi, hk, hq => by
    rw [zbl_s] at hq
    refine z_n (nI_ge (by omega) (by omega)) (s_M_costsAll hX (fun I3 o3 y ey => s_M_stillGoes (by rw [o3 _ _ (by decide) (by decide) (by decide)]; exact h52) (hX.frM o3) (fun I5 hX5 o5 => ?_)))
    rw [nI_1, ey]
    exact s_M_bill_17 (sd := sd) hn r (i + 1) k _ I5 _ (by rw [o5 _ _ (by decide) (by decide) (by decide) (by decide), o3 _ _ (by decide) (by decide) (by decide)]; exact h51) (by rw [o5 _ _ (by decide) (by decide) (by decide) (by decide), o3 _ _ (by decide) (by decide) (by decide)]; exact h52) hX5 (by omega) (by omega) (fun I' k' => hq I' ((zK.fM o3).trans ((zK.fH o5).trans k')))
theorem zok_bill : zOK_bill Rel := fun a0 => zok_q (vX := v_X_bill 5000 a0) (vM := v_M_bill 5000 a0) (fun I J hR t live s hQ => by
  by_cases hn : zin a0 61
  · obtain ⟨n, hn, rfl⟩ := hn
    exact ⟨zbl (zStill t) (zca t) n s 0, fun Q hq => z_few1 hn (z_nr z_10 (s_dream hQ.1 (fun I2 hX2 o2 => s_bill_24 hn n 0 5000 0 I2 s hX2 (by omega) (by omega) (fun I' k' => hq I' ((zK.dream o2).trans k'))))), fun I1 Q k1 hQ1 hq => z_long1 hn (z_nr z_10 (hQ1.still (fun I2 o2 hX2 h51 h52 => s_M_bill_17 hn n 0 5000 0 I2 s h51 h52 hX2 (by omega) (by omega) (fun I' k' => hq I' ((zK.fS o2).trans k')))))⟩
  · exact ⟨-1, fun Q hq => z_few0 hn (z_yr z_00 (hq I zK.rfl)), fun I1 Q k1 hQ1 hq => z_long0 hn (z_yr z_00 (hq I1 zK.rfl))⟩)
theorem s_upright_34 {J : zJ} {t : zX} {n : Nat} (hn : n < 61) {x2 : Int32} {Q : Int32 → zI → zJ → Prop} {K : Int32 → zI → zJ → Prop} : ∀ r i k (I : zI) (s : zT), cX I t 55 s → i + r = n → r < k → (∀ I' : zI, cX I' t 55 (zIt (zStill t) r s) → zK I I' J J → K x2 I' J) → v_X_upright_34 5000 k (nI n) x2 (nI i) I J Q K
  | _, _, 0, _, _, _, _, hk, _ => absurd hk (Nat.not_lt_zero _)
  | 0, i, k + 1, I, s, hX, hi, hk, hq => z_y (nI_le (by omega) (by omega)) (hq I hX zK.rfl)
  | r + 1, i, k + 1, I, s, hX, hi, hk, hq => by
    rw [zIt_s] at hq
    refine z_n (nI_ge (by omega) (by omega)) (s_goByQuietly hX (fun I5 hX5 o5 => ?_))
    rw [nI_1]
    exact s_upright_34 hn r (i + 1) k I5 _ hX5 (by omega) (by omega) (fun I' hX' k' => hq I' hX' ((zK.fN o5).trans k'))
theorem s_upright_61 {I : zI} {J : zJ} {t : zX} {s : zT} (hX : cX I t 55 s) {x : Int32} {Q : Int32 → zI → zJ → Prop} : ∀ r i k c, i + r = xP t → r < k → Q (zbit (fun p => decide (¬ x ≤ sC s p)) r i c) I J → v_X_upright_61 5000 k x c (nI i) I J Q
  | _, _, 0, _, _, hk, _ => absurd hk (Nat.not_lt_zero _)
  | 0, i, k + 1, c, hi, hk, hq => by
    have hP := hX.1.2.1
    rw [v_X_upright_61]; dsimp only; rw [hX.2.1.2.1]
    exact z_y (nI_le (by omega) (by omega)) hq
  | r + 1, i, k + 1, c, hi, hk, hq => by
    have hP := hX.1.2.1
    have e : I 59 i = sC s i := hX.2.2.2.1.2.2.2.2.1 i (by omega)
    rw [v_X_upright_61]; dsimp only; rw [hX.2.1.2.1, nI_clamp (by omega), e, nI_1]
    rw [zbit] at hq
    refine z_n (nI_ge (by omega) (by omega)) ⟨vp_in_nI (by omega) (by decide), fun q y ey => ?_, fun q y ey => ?_⟩
    · rw [if_neg (by rw [decide_eq_true_eq]; exact fun z => z q)] at hq
      rw [ey, Int32.or_zero]
      exact s_upright_61 hX r (i + 1) k _ (by omega) (by omega) hq
    · rw [if_pos (by rw [decide_eq_true_eq]; exact q)] at hq
      rw [ey]
      exact s_upright_61 hX r (i + 1) k _ (by omega) (by omega) hq
theorem s_M_upright_34 {I : zI} {J : zJ} {t : zX} {live : Nat} {s : zT} (hX : mX I t live s) {x : Int32} {Q : Int32 → zI → zJ → Prop} : ∀ r i k c, i + r = xP t → r < k → Q (zbit (fun p => decide (¬ x ≤ sC s p)) r i c) I J → v_M_upright_34 5000 k x c (nI i) I J Q
  | _, _, 0, _, _, hk, _ => absurd hk (Nat.not_lt_zero _)
  | 0, i, k + 1, c, hi, hk, hq => by
    have hP := hX.1.2.1
    have hl := hX.2.1.1
    rw [v_M_upright_34]; dsimp only; rw [hX.2.1.2.1, nI_clamp (by omega), hX.2.1.2.2.2.1]
    exact ⟨vp_in_nI hl (by decide), z_y (nI_le (by omega) (by omega)) hq⟩
  | r + 1, i, k + 1, c, hi, hk, hq => by
    have hP := hX.1.2.1
    have hl := hX.2.1.1
    have e : I 394 (18 + i) = sC s i := hX.2.2.2.2.2.2.2.1 i (by omega)
    rw [v_M_upright_34]; dsimp only; rw [hX.2.1.2.1, nI_clamp (n := live) (by omega), hX.2.1.2.2.2.1, z_c18, nI_clamp (n := 18 + i) (by omega), e, nI_1]
    rw [zbit] at hq
    refine ⟨vp_in_nI hl (by decide), z_n (nI_ge (by omega) (by omega)) ⟨vp_in_nI (by omega) (by decide), fun q => ?_, fun q y ey => ?_⟩⟩
    · rw [if_neg (by rw [decide_eq_true_eq]; exact fun z => z q)] at hq
      exact s_M_upright_34 hX r (i + 1) k _ (by omega) (by omega) hq
    · rw [if_pos (by rw [decide_eq_true_eq]; exact q)] at hq
      rw [ey]
      exact s_M_upright_34 hX r (i + 1) k _ (by omega) (by omega) hq
theorem zok_upright : zOK_upright Rel := fun a0 a1 => zok_q (vX := v_X_upright 5000 a0 a1) (vM := v_M_upright 5000 a0 a1) (fun I J hR t live s hQ => by
  have hP := hQ.1.1.2.1
  by_cases hn : zin a0 61
  · obtain ⟨n, hn, rfl⟩ := hn
    by_cases h1 : a1 < 1
    · exact ⟨-1, fun Q hq => z_few1 hn (z_n z_10 (z_y h1 (hq I zK.rfl))), fun I1 Q k1 hQ1 hq => z_long1 hn (z_n z_10 (z_y h1 (z_yr z_00 (hq I1 zK.rfl))))⟩
    · by_cases h2 : 999 < a1
      · exact ⟨-1, fun Q hq => z_few1 hn (z_n z_10 (z_n h1 (z_n (Int32.not_le.mpr h2) (hq I zK.rfl)))), fun I1 Q k1 hQ1 hq => z_long1 hn (z_n z_10 (z_n h1 (z_y h2 (z_yr z_00 (hq I1 zK.rfl)))))⟩
      · refine ⟨zbit (fun p => decide (¬ a1 ≤ sC (zQs t n s) p)) (xP t) 0 0, fun Q hq => z_few1 hn (z_n z_10 (z_n h1 (z_y (Int32.not_lt.mp h2) (s_dream hQ.1 (fun I6 hX6 o6 => s_upright_34 hn n 0 5000 I6 s hX6 (by omega) (by omega) (fun I8 hX8 k8 => s_upright_61 hX8 (xP t) 0 5000 0 (by omega) (by omega) (hq I8 ((zK.dream o6).trans k8)))))))), fun I1 Q k1 hQ1 hq => z_long1 hn (z_n z_10 (z_n h1 (z_n h2 (z_nr z_10 (hQ1.still (fun I2 o2 hX2 h51 h52 => s_M_goes (by omega) h51 h52 hX2 (fun I3 hX3 o3 => ?_)))))))⟩
        rw [zNts_1] at hX3
        exact s_M_upright_34 hX3 (xP t) 0 5000 0 (by omega) (by omega) (hq I3 ((zK.fS o2).trans (zK.fH o3)))
  · exact ⟨-1, fun Q hq => z_few0 hn (z_y z_00 (hq I zK.rfl)), fun I1 Q k1 hQ1 hq => z_long0 hn (z_y z_00 (hq I1 zK.rfl))⟩)
/-! nights in which nothing but waking counts -/
theorem zK.wk {I I' : zI} {J : zJ} (e : ∀ b j, b ≠ 55 + 3 → I' b j = I b j) : zK I I' J J := zK.of (fun b j q => by
  have := zE_out q
  exact e b j (by omega))
theorem zSn_cg {t : zX} {s s' : zT} (hO : sO s' = sO s) (hS : sS s' = sS s) : zSn t s' = zSn t s := by
  unfold zSn znl
  rw [hO, hS]
theorem z_240 {i : Nat} (h : i ≤ 240) : ¬ (240 : Int32) < nI i := nI_nlt (a := 240) h (by decide)
def zth (t : zX) (y : Int32) : Nat → Nat → zT → Int32
  | 0, _, _ => -2
  | r + 1, i, s => if zbit (zown s) (xP t) 0 0 = y then nI i else zth t y r (i + 1) (zWake t s)
theorem s_themselves_25 {J : zJ} {t : zX} {y : Int32} {Q : Int32 → zI → zJ → Prop} : ∀ r i k (I : zI) (s : zT), cX I t 55 s → i + r = 241 → r < k → (∀ I' : zI, zK I I' J J → Q (zth t y r i s) I' J) → v_X_themselves_25 5000 k y (nI i) I J Q
  | _, _, 0, _, _, _, _, hk, _ => absurd hk (Nat.not_lt_zero _)
  | 0, i, k + 1, I, s, hX, hi, hk, hq => z_y (nI_lt (a := 240) (by omega) (by omega)) (hq I zK.rfl)
  | r + 1, i, k + 1, I, s, hX, hi, hk, hq => by
    rw [zth] at hq
    refine z_n (z_240 (by omega)) (s_bitsOfOwnSelves hX ⟨fun q => s_wakeAll hX (fun I5 hX5 o5 => ?_), fun q => ?_⟩)
    · rw [if_neg q] at hq
      rw [nI_1]
      exact s_themselves_25 r (i + 1) k I5 _ hX5 (by omega) (by omega) (fun I' k' => hq I' ((zK.wk o5).trans k'))
    · rw [if_pos q] at hq
      exact hq I zK.rfl
theorem s_M_themselves_6 {J : zJ} {t : zX} {live : Nat} {sd : Int32} {Q : Int32 → zI → zJ → Prop} : ∀ r i k (I : zI) (s s' : zT), I 361 51 = sd → I 361 52 = 1 → mX I t live s' → sO s' = sO s → sS s' = sS s → i + r = 241 → r < k → (∀ I' : zI, zK I I' J J → Q (zth t (((1 : Int32) <<< (nI (xP t) &&& 31)) - (1 : Int32)) r i s) I' J) → v_M_themselves_6 5000 k (nI i) I J Q
  | _, _, 0, _, _, _, _, _, _, _, _, _, hk, _ => absurd hk (Nat.not_lt_zero _)
  | 0, i, k + 1, I, s, s', h51, h52, hX, hO, hS, hi, hk, hq => z_y (nI_lt (a := 240) (by omega) (by omega)) (hq I zK.rfl)
  | r + 1, i, k + 1, I, s, s', h51, h52, hX, hO, hS, hi, hk, hq => by
    have hl := hX.2.1.1
    rw [zth] at hq
    have ho : zown s' = zown s := by unfold zown; rw [hS]
    refine z_n (z_240 (by omega)) (s_M_ownBits hX ?_)
    rw [hX.2.1.2.1, nI_clamp (by omega), hX.2.1.2.2.2.1, ho]
    refine ⟨vp_in_nI hl (by decide), fun q => s_M_stillGoes h52 hX (fun I5 hX5 o5 => ?_), fun q => ?_⟩
    · rw [if_neg q] at hq
      rw [nI_1]
      exact s_M_themselves_6 (sd := sd) r (i + 1) k I5 (zWake t s) (zStill t s') (by rw [o5 _ _ (by decide) (by decide) (by decide) (by decide)]; exact h51) (by rw [o5 _ _ (by decide) (by decide) (by decide) (by decide)]; exact h52) hX5 (by rw [still_O, wake_O]; exact hO) (by rw [still_S, wake_S]; exact zSn_cg hO hS) (by omega) (by omega) (fun I' k' => hq I' ((zK.fH o5).trans k'))
    · rw [if_pos q] at hq
      exact hq I zK.rfl
theorem zok_themselves : zOK_themselves Rel := zok_q (vX := v_X_themselves 5000) (vM := v_M_themselves 5000) (fun I J hR t live s hQ =>
  ⟨zth t (((1 : Int32) <<< (nI (xP t) &&& 31)) - (1 : Int32)) 241 0 s, fun Q hq y ey => s_dream hQ.1 (fun I2 hX2 o2 => by
    rw [hQ.1.2.1.2.1] at ey
    rw [ey]
    exact s_themselves_25 241 0 5000 I2 s hX2 (by omega) (by omega) (fun I' k' => hq I' ((zK.dream o2).trans k'))), fun I1 Q k1 hQ1 hq => hQ1.still (fun I2 o2 hX2 h51 h52 => s_M_themselves_6 241 0 5000 I2 s s h51 h52 hX2 rfl rfl (by omega) (by omega) (fun I' k' => hq I' ((zK.fS o2).trans k')))⟩)
def zdy (t : zX) (p : Nat) : Nat → Nat → zT → Int32
  | 0, _, _ => -2
  | r + 1, i, s => if sS s p = nI p then nI i else zdy t p r (i + 1) (zWake t s)
theorem s_day_23 {J : zJ} {t : zX} {p : Nat} (hp : p < xP t) {Q : Int32 → zI → zJ → Prop} : ∀ r i k (I : zI) (s : zT), cX I t 55 s → i + r = 241 → r < k → (∀ I' : zI, zK I I' J J → Q (zdy t p r i s) I' J) → v_X_day_23 5000 k (nI p) (nI i) I J Q
  | _, _, 0, _, _, _, _, hk, _ => absurd hk (Nat.not_lt_zero _)
  | 0, i, k + 1, I, s, hX, hi, hk, hq => z_y (nI_lt (a := 240) (by omega) (by omega)) (hq I zK.rfl)
  | r + 1, i, k + 1, I, s, hX, hi, hk, hq => by
    have hP := hX.1.2.1
    rw [zdy] at hq
    have e : I 58 p = sS s p := hX.2.2.2.1.2.2.2.1 p hp
    rw [v_X_day_23]; dsimp only; rw [nI_clamp (by omega), e]
    refine z_n (z_240 (by omega)) ⟨vp_in_nI (by omega) (by decide), fun q => s_wakeAll hX (fun I5 hX5 o5 => ?_), fun q => ?_⟩
    · rw [if_neg q] at hq
      rw [nI_1]
      exact s_day_23 hp r (i + 1) k I5 _ hX5 (by omega) (by omega) (fun I' k' => hq I' ((zK.wk o5).trans k'))
    · rw [if_pos q] at hq
      exact hq I zK.rfl
theorem s_M_day_16 {J : zJ} {t : zX} {live p : Nat} (hp : p < xP t) {sd : Int32} {Q : Int32 → zI → zJ → Prop} : ∀ r i k (I : zI) (s s' : zT), I 361 51 = sd → I 361 52 = 1 → mX I t live s' → sO s' = sO s → sS s' = sS s → i + r = 241 → r < k → (∀ I' : zI, zK I I' J J → Q (zdy t p r i s) I' J) → v_M_day_16 5000 k (nI p) (nI i) I J Q
  | _, _, 0, _, _, _, _, _, _, _, _, _, hk, _ => absurd hk (Nat.not_lt_zero _)
  | 0, i, k + 1, I, s, s', h51, h52, hX, hO, hS, hi, hk, hq => z_y (nI_lt (a := 240) (by omega) (by omega)) (hq I zK.rfl)
  | r + 1, i, k + 1, I, s, s', h51, h52, hX, hO, hS, hi, hk, hq => by
    have hP := hX.1.2.1
    rw [zdy] at hq
    have e : I 394 (12 + p) = sS s p := (hX.2.2.2.2.2.2.1 p hp).trans (congrFun hS p)
    rw [v_M_day_16]; dsimp only; rw [z_c12, nI_clamp (by omega), e]
    refine z_n (z_240 (by omega)) ⟨vp_in_nI (by omega) (by decide), fun q => s_M_stillGoes h52 hX (fun I5 hX5 o5 => ?_), fun q => ?_⟩
    · rw [if_neg q] at hq
      rw [nI_1]
      exact s_M_day_16 (sd := sd) hp r (i + 1) k I5 (zWake t s) (zStill t s') (by rw [o5 _ _ (by decide) (by decide) (by decide) (by decide)]; exact h51) (by rw [o5 _ _ (by decide) (by decide) (by decide) (by decide)]; exact h52) hX5 (by rw [still_O, wake_O]; exact hO) (by rw [still_S, wake_S]; exact zSn_cg hO hS) (by omega) (by omega) (fun I' k' => hq I' ((zK.fH o5).trans k'))
    · rw [if_pos q] at hq
      exact hq I zK.rfl
theorem zok_day : zOK_day Rel := fun a0 => zok_q (vX := v_X_day 5000 a0) (vM := v_M_day 5000 a0) (fun I J hR t live s hQ => by
  by_cases hz : zin a0 (xP t)
  · obtain ⟨p, hp, rfl⟩ := hz
    exact ⟨zdy t p 241 0 s, fun Q hq => hQ.xP1 hp (z_nr z_10 (s_dream hQ.1 (fun I2 hX2 o2 => s_day_23 hp 241 0 5000 I2 s hX2 (by omega) (by omega) (fun I' k' => hq I' ((zK.dream o2).trans k'))))), fun I1 Q k1 hQ1 hq => hQ1.mP1 hp (z_nr z_10 (hQ1.still (fun I2 o2 hX2 h51 h52 => s_M_day_16 hp 241 0 5000 I2 s s h51 h52 hX2 rfl rfl (by omega) (by omega) (fun I' k' => hq I' ((zK.fS o2).trans k')))))⟩
  · exact ⟨-1, fun Q hq => hQ.xP0 hz (z_yr z_00 (hq I zK.rfl)), fun I1 Q k1 hQ1 hq => hQ1.mP0 hz (z_yr z_00 (hq I1 zK.rfl))⟩)
def zeqs (f g : Nat → Int32) : Nat → Nat → Int32
  | 0, _ => 1
  | r + 1, i => if f i = g i then zeqs f g r (i + 1) else 0
theorem s_hasSelvesOf_2 {I : zI} {J : zJ} {t : zX} {a a' : Nat} {s s' : zT} (hX : cX I t a s) (hX' : cX I t a' s') {Q : Int32 → zI → zJ → Prop} : ∀ r i k, i + r = xP t → r < k → Q (zeqs (sS s) (sS s') r i) I J → v_State_hasSelvesOf_2 5000 k a a' (nI i) I J Q
  | _, _, 0, _, hk, _ => absurd hk (Nat.not_lt_zero _)
  | 0, i, k + 1, hi, hk, hq => by
    have hP := hX.1.2.1
    rw [v_State_hasSelvesOf_2]; dsimp only; rw [hX.2.1.2.1]
    exact z_y (nI_le (by omega) (by omega)) hq
  | r + 1, i, k + 1, hi, hk, hq => by
    have hP := hX.1.2.1
    rw [zeqs] at hq
    rw [v_State_hasSelvesOf_2]; dsimp only; rw [hX.2.1.2.1, nI_clamp (by omega), hX.2.2.2.1.2.2.2.1 i (by omega), hX'.2.2.2.1.2.2.2.1 i (by omega), nI_1]
    refine z_n (nI_ge (by omega) (by omega)) ⟨vp_in_nI (by omega) (by decide), vp_in_nI (by omega) (by decide), fun q => ?_, fun q => ?_⟩
    · rw [if_pos q] at hq
      exact s_hasSelvesOf_2 hX hX' r (i + 1) k (by omega) (by omega) hq
    · rw [if_neg q] at hq
      exact hq
theorem s_M_areAsNow_2 {I : zI} {J : zJ} {t : zX} {live : Nat} {s s' : zT} (hX : mX I t live s) (hR : mR I (xH t) (xP t) 393 s') {Q : Int32 → zI → zJ → Prop} : ∀ r i k, i + r = xP t → r < k → Q (zeqs (sS s) (sS s') r i) I J → v_M_areAsNow_2 5000 k (nI i) I J Q
  | _, _, 0, _, hk, _ => absurd hk (Nat.not_lt_zero _)
  | 0, i, k + 1, hi, hk, hq => by
    have hP := hX.1.2.1
    have hl := hX.2.1.1
    rw [v_M_areAsNow_2]; dsimp only; rw [hX.2.1.2.1, nI_clamp (by omega), hX.2.1.2.2.2.1]
    exact ⟨vp_in_nI hl (by decide), z_y (nI_le (by omega) (by omega)) hq⟩
  | r + 1, i, k + 1, hi, hk, hq => by
    have hP := hX.1.2.1
    have hl := hX.2.1.1
    rw [zeqs] at hq
    rw [v_M_areAsNow_2]; dsimp only; rw [hX.2.1.2.1, nI_clamp (n := live) (by omega), hX.2.1.2.2.2.1, z_c12, nI_clamp (n := 12 + i) (by omega), hX.2.2.2.2.2.2.1 i (by omega), hR.2.2.2.1 i (by omega), nI_1]
    refine ⟨vp_in_nI hl (by decide), z_n (nI_ge (by omega) (by omega)) ⟨vp_in_nI (by omega) (by decide), vp_in_nI (by omega) (by decide), fun q => ?_, fun q => ?_⟩⟩
    · rw [if_pos q] at hq
      exact s_M_areAsNow_2 hX hR r (i + 1) k (by omega) (by omega) hq
    · rw [if_neg q] at hq
      exact hq
def zrd (t : zX) (s0 : zT) : Nat → Nat → zT → Int32
  | 0, _, _ => -2
  | r + 1, i, s => if zeqs (zSn t s) (sS s0) (xP t) 0 = 0 then zrd t s0 r (i + 1) (zWake t s) else nI i
theorem s_round_13 {J : zJ} {t : zX} {s0 : zT} {Q : Int32 → zI → zJ → Prop} : ∀ r i k (I : zI) (s : zT), cX I t 49 s0 → cX I t 55 s → i + r = 241 → r < k → (∀ I' : zI, zK I I' J J → Q (zrd t s0 r i s) I' J) → v_X_round_13 5000 k (nI i) I J Q
  | _, _, 0, _, _, _, _, _, hk, _ => absurd hk (Nat.not_lt_zero _)
  | 0, i, k + 1, I, s, h0, hX, hi, hk, hq => z_y (nI_lt (a := 240) (by omega) (by omega)) (hq I zK.rfl)
  | r + 1, i, k + 1, I, s, h0, hX, hi, hk, hq => by
    have hP := hX.1.2.1
    rw [zrd] at hq
    refine z_n (z_240 (by omega)) (s_wakeAll hX (fun I5 hX5 o5 => ?_))
    have h5 : cX I5 t 49 s0 := h0.kept (fun b j q => o5 b j (by omega))
    refine s_hasSelvesOf_2 hX5 h5 (xP t) 0 5000 (by omega) (by omega) ?_
    rw [wake_S]
    refine ⟨fun q => ?_, fun q => ?_⟩
    · rw [if_pos q] at hq
      rw [nI_1]
      exact s_round_13 r (i + 1) k I5 _ h5 hX5 (by omega) (by omega) (fun I' k' => hq I' ((zK.wk o5).trans k'))
    · rw [if_neg q] at hq
      exact hq I5 (zK.wk o5)
theorem s_M_round_6 {J : zJ} {t : zX} {live : Nat} {s0 : zT} {sd : Int32} {Q : Int32 → zI → zJ → Prop} : ∀ r i k (I : zI) (s s' : zT), I 361 51 = sd → I 361 52 = 1 → mR I (xH t) (xP t) 393 s0 → mX I t live s' → sO s' = sO s → sS s' = sS s → i + r = 241 → r < k → (∀ I' : zI, zK I I' J J → Q (zrd t s0 r i s) I' J) → v_M_round_6 5000 k (nI i) I J Q
  | _, _, 0, _, _, _, _, _, _, _, _, _, _, hk, _ => absurd hk (Nat.not_lt_zero _)
  | 0, i, k + 1, I, s, s', h51, h52, h0, hX, hO, hS, hi, hk, hq => z_y (nI_lt (a := 240) (by omega) (by omega)) (hq I zK.rfl)
  | r + 1, i, k + 1, I, s, s', h51, h52, h0, hX, hO, hS, hi, hk, hq => by
    have hP := hX.1.2.1
    rw [zrd] at hq
    refine z_n (z_240 (by omega)) (s_M_stillGoes h52 hX (fun I5 hX5 o5 => ?_))
    have h5 : mR I5 (xH t) (xP t) 393 s0 := h0.kept (fun k => o5 _ _ (by decide) (by decide) (by decide) (by omega))
    have hz : sS (zStill t s') = zSn t s := by rw [still_S]; exact zSn_cg hO hS
    refine s_M_areAsNow_2 hX5 h5 (xP t) 0 5000 (by omega) (by omega) ?_
    rw [hz]
    refine ⟨fun q => ?_, fun q => ?_⟩
    · rw [if_pos q] at hq
      rw [nI_1]
      exact s_M_round_6 (sd := sd) r (i + 1) k I5 (zWake t s) (zStill t s') (by rw [o5 _ _ (by decide) (by decide) (by decide) (by decide)]; exact h51) (by rw [o5 _ _ (by decide) (by decide) (by decide) (by decide)]; exact h52) h5 hX5 (by rw [still_O, wake_O]; exact hO) (by rw [wake_S]; exact hz) (by omega) (by omega) (fun I' k' => hq I' ((zK.fH o5).trans k'))
    · rw [if_neg q] at hq
      exact hq I5 (zK.fH o5)
theorem zok_round : zOK_round Rel := zok_q (vX := v_X_round 5000) (vM := v_M_round 5000) (fun I J hR t live s hQ =>
  ⟨zrd t s 240 1 s, fun Q hq => s_dream hQ.1 (fun I2 hX2 o2 => s_round_13 240 1 5000 I2 s (hQ.1.kept (fun b j q => o2 b j (by omega))) hX2 (by omega) (by omega) (fun I' k' => hq I' ((zK.dream o2).trans k'))), fun I1 Q k1 hQ1 hq => hQ1.still (fun I2 o2 hX2 h51 h52 => s_M_round_6 240 1 5000 I2 s s h51 h52 (hQ1.2.2.kept (fun k => o2 _ _ (by decide) (by omega))) hX2 rfl rfl (by omega) (by omega) (fun I' k' => hq I' ((zK.fS o2).trans k')))⟩)
