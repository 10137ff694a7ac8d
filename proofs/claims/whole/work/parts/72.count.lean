/-! lots, bits, count -/
theorem nI_or (a b : Nat) : nI a ||| nI b = nI (a ||| b) := by
  apply Int32.toBitVec_inj.1
  simp [nI, Int32.toBitVec_ofNat']
theorem nI_and (a b : Nat) : nI a &&& nI b = nI (a &&& b) := by
  apply Int32.toBitVec_inj.1
  simp [nI, Int32.toBitVec_ofNat']
theorem nI_div {a b : Nat} (ha : a < 2 ^ 31) (hb : b < 2 ^ 31) : nI a / nI b = nI (a / b) := by
  apply Int32.toInt_inj.1
  have h : a / b ≤ a := Nat.div_le_self a b
  rw [Int32.toInt_div, nI_toInt ha, nI_toInt hb, nI_toInt (by omega)]
  rw [show ((a : Int).tdiv (b : Int)) = ((a / b : Nat) : Int) from rfl]
  generalize a / b = q at h ⊢
  exact Int.bmod_eq_of_le (by omega) (by omega)
theorem nI_sub {a b : Nat} (h : b ≤ a) : nI a - nI b = nI (a - b) := by
  have e : nI a = nI (a - b) + nI b := by rw [nI_add]; congr 1; omega
  rw [e, Int32.add_sub_cancel]
theorem nI_mod {a b : Nat} (ha : a < 2 ^ 31) (hb : b < 2 ^ 31) : nI a - nI a / nI b * nI b = nI (a % b) := by
  rw [nI_div ha hb, nI_mul, nI_sub (Nat.div_mul_le_self a b)]
  congr 1
  have h1 := Nat.div_add_mod a b
  rw [Nat.mul_comm] at h1
  omega
def zmix (a b : Int32) : Int32 := ((((a ^^^ b) * (1103515245 : Int32)) + (12345 : Int32)) ^^^ (((((a ^^^ b) * (1103515245 : Int32)) + (12345 : Int32))).toUInt32 >>> (((15 : Int32)).toUInt32 &&& Int32.toUInt32 31)).toInt32)
def zhalf (r : Int32) : Int32 := ((r).toUInt32 >>> (((1 : Int32)).toUInt32 &&& Int32.toUInt32 31)).toInt32
def zlot (n sd w : Int32) : Int32 := zhalf (zmix (zmix sd 159) w) - zhalf (zmix (zmix sd 159) w) / n * n
theorem zhalf_n (r : Int32) : ∃ k, k < 2 ^ 31 ∧ zhalf r = nI k := by
  refine ⟨(r.toUInt32 >>> (((1 : Int32)).toUInt32 &&& Int32.toUInt32 31)).toNat, ?_, ?_⟩
  · have e : (((1 : Int32)).toUInt32 &&& Int32.toUInt32 31) = 1 := by decide
    rw [e, UInt32.toNat_shiftRight]
    have h := r.toUInt32.toNat_lt
    have e1 : (1 : UInt32).toNat % 32 = 1 := by decide
    rw [e1, Nat.shiftRight_eq_div_pow]
    omega
  · unfold zhalf
    apply Int32.toBitVec_inj.1
    simp [nI, Int32.toBitVec_ofNat', -UInt32.toNat_shiftRight]
theorem zlot_in {n : Nat} (hn : 0 < n) (h31 : n < 2 ^ 31) (sd w : Int32) : zin (zlot (nI n) sd w) n := by
  obtain ⟨k, hk, e⟩ := zhalf_n (zmix (zmix sd 159) w)
  unfold zlot
  rw [e, nI_mod hk h31]
  exact ⟨k % n, Nat.mod_lt _ hn, rfl⟩
theorem s_lot {n : Nat} (hn : 0 < n) (h31 : n < 2 ^ 31) {sd w : Int32} {I : zI} {J : zJ} {Q : Int32 → zI → zJ → Prop} (hq : Q (zlot (nI n) sd w) I J) : v_Night_lot 5000 (nI n) sd w I J Q := by
  intro y ey y2 ey2
  rw [ey2, ey]
  exact z_n (nI_nle hn h31) ⟨nI_ne0 hn h31, hq⟩
theorem s_M_lotOf {n : Nat} (hn : 0 < n) (h31 : n < 2 ^ 31) {sd w : Int32} {I : zI} {J : zJ} {Q : Int32 → zI → zJ → Prop} (h51 : I 361 51 = sd) (hq : Q (zlot (nI n) sd w) I J) : v_M_lotOf 5000 w (nI n) I J Q := by
  unfold v_M_lotOf
  rw [h51]
  intro y ey y2 ey2
  rw [ey2, ey]
  exact ⟨nI_ne0 hn h31, hq⟩
/-- there is a moth -/
def zmoth (t : zX) (s : zT) (sd : Int32) : Prop := ¬ xM t ≤ zlot 100 sd (16 * sN s + 8)
theorem s_hasMoth {I : zI} {J : zJ} {t : zX} {a : Nat} {s : zT} (hX : cX I t a s) {sd : Int32} {Q : Int32 → zI → zJ → Prop} (h0 : ¬ zmoth t s sd → Q 0 I J) (h1 : zmoth t s sd → Q 1 I J) : v_Night_hasMoth 5000 sd (sN s) I J Q := by
  refine s_lot (n := 100) (by decide) (by decide) ?_
  rw [hX.2.1.2.2.2.2.2.1]
  exact ⟨fun q => h0 (fun z => z q), fun q => h1 q⟩
theorem s_M_isMoth {I : zI} {J : zJ} {t : zX} {live : Nat} {s : zT} (hX : mX I t live s) {sd : Int32} (h51 : I 361 51 = sd) {Q : Int32 → zI → zJ → Prop} (h0 : ¬ zmoth t s sd → Q 0 I J) (h1 : zmoth t s sd → Q 1 I J) : v_M_isMoth 5000 I J Q := by
  have hl := hX.2.1.1
  unfold v_M_isMoth
  rw [z_l31, hX.2.2.2.1]
  refine ⟨z_v.2.2.2.2.2.2.2.2.2.1, s_M_lotOf (n := 100) (by decide) (by decide) h51 ?_⟩
  rw [hX.2.1.2.1, nI_clamp (by omega), hX.2.1.2.2.2.2.2.2.2.1]
  exact ⟨vp_in_nI hl (by decide), fun q => h0 (fun z => z q), fun q => h1 q⟩
def zbit (P : Nat → Bool) : Nat → Nat → Int32 → Int32
  | 0, _, c => c
  | r + 1, i, c => zbit P r (i + 1) (if P i = true then c ||| ((1 : Int32) <<< (nI i &&& 31)) else c)

theorem s_bitsOfHung_4 {I : zI} {J : zJ} {t : zX} {a : Nat} {s : zT} (hX : cX I t a s) {Q : Int32 → zI → zJ → Prop} : ∀ r i k c, i + r = xP t → r < k → Q (zbit (fun p => decide (¬ sO s p < 0)) r i c) I J → v_State_bitsOfHung_4 5000 k a c (nI i) I J Q
  | _, _, 0, _, _, hk, _ => absurd hk (Nat.not_lt_zero _)
  | 0, i, k + 1, c, hi, hk, hq => by
    have hP := hX.1.2.1
    rw [v_State_bitsOfHung_4]; dsimp only; rw [hX.2.1.2.1]
    exact z_y (nI_le (by omega) (by omega)) hq
  | r + 1, i, k + 1, c, hi, hk, hq => by
    have hP := hX.1.2.1
    have hH := hX.1.1
    rw [v_State_bitsOfHung_4]; dsimp only; rw [hX.2.1.2.1]
    rw [zbit] at hq
    refine z_n (nI_ge (by omega) (by omega)) (s_isHung hX (by omega) (fun e => z_y z_00 (fun y ey => ?_)) (fun h hh e => z_n z_10 (fun y ey => ?_)))
    · rw [if_neg (by rw [e]; decide)] at hq
      rw [ey, nI_1, Int32.or_zero]
      exact s_bitsOfHung_4 hX r (i + 1) k c (by omega) (by omega) hq
    · rw [if_pos (by rw [e]; exact decide_eq_true (nI_pos (by omega)))] at hq
      rw [ey, nI_1]
      exact s_bitsOfHung_4 hX r (i + 1) k _ (by omega) (by omega) hq
theorem s_M_count_110 {I : zI} {J : zJ} {t : zX} {live : Nat} {s : zT} (hX : mX I t live s) {Q : Int32 → zI → zJ → Prop} : ∀ r i k c, i + r = xP t → r < k → Q (zbit (fun p => decide (¬ sO s p < 0)) r i c) I J → v_M_count_110 5000 k c (nI i) I J Q
  | _, _, 0, _, _, hk, _ => absurd hk (Nat.not_lt_zero _)
  | 0, i, k + 1, c, hi, hk, hq => by
    have hP := hX.1.2.1
    have hl := hX.2.1.1
    rw [v_M_count_110]; dsimp only; rw [hX.2.1.2.1, nI_clamp (by omega), hX.2.1.2.2.2.1]
    exact ⟨vp_in_nI hl (by decide), z_y (nI_le (by omega) (by omega)) hq⟩
  | r + 1, i, k + 1, c, hi, hk, hq => by
    have hP := hX.1.2.1
    have hH := hX.1.1
    have hl := hX.2.1.1
    rw [v_M_count_110]; dsimp only; rw [hX.2.1.2.1, nI_clamp (by omega), hX.2.1.2.2.2.1]
    rw [zbit] at hq
    refine ⟨vp_in_nI hl (by decide), z_n (nI_ge (by omega) (by omega)) (s_M_isUp hX (by omega) (fun e => z_y z_00 ?_) (fun h hh e => z_n z_10 (fun y ey => ?_)))⟩
    · rw [if_neg (by rw [e]; decide)] at hq
      rw [nI_1]
      exact s_M_count_110 hX r (i + 1) k c (by omega) (by omega) hq
    · rw [if_pos (by rw [e]; exact decide_eq_true (nI_pos (by omega)))] at hq
      rw [ey, nI_1]
      exact s_M_count_110 hX r (i + 1) k _ (by omega) (by omega) hq
abbrev zown (s : zT) : Nat → Bool := fun p => decide (sS s p = nI p)
theorem s_bitsOfOwnSelves_4 {I : zI} {J : zJ} {t : zX} {a : Nat} {s : zT} (hX : cX I t a s) {Q : Int32 → zI → zJ → Prop} : ∀ r i k c, i + r = xP t → r < k → Q (zbit (zown s) r i c) I J → v_State_bitsOfOwnSelves_4 5000 k a c (nI i) I J Q
  | _, _, 0, _, _, hk, _ => absurd hk (Nat.not_lt_zero _)
  | 0, i, k + 1, c, hi, hk, hq => by
    have hP := hX.1.2.1
    rw [v_State_bitsOfOwnSelves_4]; dsimp only; rw [hX.2.1.2.1]
    exact z_y (nI_le (by omega) (by omega)) hq
  | r + 1, i, k + 1, c, hi, hk, hq => by
    have hP := hX.1.2.1
    rw [v_State_bitsOfOwnSelves_4]; dsimp only; rw [hX.2.1.2.1, nI_clamp (by omega), hX.2.2.2.1.2.2.2.1 i (by omega)]
    rw [zbit] at hq
    refine z_n (nI_ge (by omega) (by omega)) ⟨vp_in_nI (by omega) (by decide), fun q y ey => ?_, fun q y ey => ?_⟩
    · rw [if_neg (by simpa using q)] at hq
      rw [ey, nI_1, Int32.or_zero]
      exact s_bitsOfOwnSelves_4 hX r (i + 1) k c (by omega) (by omega) hq
    · rw [if_pos (decide_eq_true q)] at hq
      rw [ey, nI_1]
      exact s_bitsOfOwnSelves_4 hX r (i + 1) k _ (by omega) (by omega) hq
theorem s_bitsOfOwnSelves {I : zI} {J : zJ} {t : zX} {a : Nat} {s : zT} (hX : cX I t a s) {Q : Int32 → zI → zJ → Prop} (hq : Q (zbit (zown s) (xP t) 0 0) I J) : v_State_bitsOfOwnSelves 5000 a I J Q := s_bitsOfOwnSelves_4 hX (xP t) 0 5000 0 (by omega) (by have := hX.1.2.1; omega) hq
theorem s_M_ownBits_4 {I : zI} {J : zJ} {t : zX} {live : Nat} {s : zT} (hX : mX I t live s) {Q : Int32 → zI → zJ → Prop} : ∀ r i k c, i + r = xP t → r < k → Q (zbit (zown s) r i c) I J → v_M_ownBits_4 5000 k c (nI i) I J Q
  | _, _, 0, _, _, hk, _ => absurd hk (Nat.not_lt_zero _)
  | 0, i, k + 1, c, hi, hk, hq => by
    have hP := hX.1.2.1
    have hl := hX.2.1.1
    rw [v_M_ownBits_4]; dsimp only; rw [hX.2.1.2.1, nI_clamp (by omega), hX.2.1.2.2.2.1]
    exact ⟨vp_in_nI hl (by decide), z_y (nI_le (by omega) (by omega)) hq⟩
  | r + 1, i, k + 1, c, hi, hk, hq => by
    have hP := hX.1.2.1
    have hl := hX.2.1.1
    rw [v_M_ownBits_4]; dsimp only; rw [hX.2.1.2.1, nI_clamp (n := live) (by omega), hX.2.1.2.2.2.1, z_c12, nI_clamp (by omega), hX.2.2.2.2.2.2.1 i (by omega)]
    rw [zbit] at hq
    refine ⟨vp_in_nI hl (by decide), z_n (nI_ge (by omega) (by omega)) ⟨vp_in_nI (by omega) (by decide), fun q => ?_, fun q y ey => ?_⟩⟩
    · rw [if_neg (by simpa using q)] at hq
      rw [nI_1]
      exact s_M_ownBits_4 hX r (i + 1) k c (by omega) (by omega) hq
    · rw [if_pos (decide_eq_true q)] at hq
      rw [ey, nI_1]
      exact s_M_ownBits_4 hX r (i + 1) k _ (by omega) (by omega) hq
theorem s_M_ownBits {I : zI} {J : zJ} {t : zX} {live : Nat} {s : zT} (hX : mX I t live s) {Q : Int32 → zI → zJ → Prop} (hq : Q (zbit (zown s) (xP t) 0 0) I J) : v_M_ownBits 5000 I J Q := s_M_ownBits_4 hX (xP t) 0 5000 0 (by omega) (by have := hX.1.2.1; omega) hq
abbrev zshr (t : zX) (s : zT) : Nat → Bool := fun n => decide (¬ zmn t s n ≤ 1)
theorem s_bitsOfSharedNails_4 {I : zI} {J : zJ} {t : zX} {a : Nat} {s : zT} (hX : cX I t a s) {Q : Int32 → zI → zJ → Prop} : ∀ r i k c, i + r = 5 → r < k → Q (zbit (zshr t s) r i c) I J → v_State_bitsOfSharedNails_4 5000 k a c (nI i) I J Q
  | _, _, 0, _, _, hk, _ => absurd hk (Nat.not_lt_zero _)
  | 0, i, k + 1, c, hi, hk, hq => by
    rw [v_State_bitsOfSharedNails_4]
    exact z_y (nI_le (a := 5) (by omega) (by omega)) hq
  | r + 1, i, k + 1, c, hi, hk, hq => by
    have hP := hX.1.2.1
    rw [v_State_bitsOfSharedNails_4]
    rw [zbit] at hq
    obtain ⟨d, hd, ed⟩ := zmn_n t s i
    have e12 : zmn t s i < 2 ↔ zmn t s i ≤ 1 := by
      rw [ed]
      exact Iff.trans (nI_ltI (a := d) (b := 2) (by omega) (by decide)) (Iff.trans (by omega) (nI_leI (a := d) (b := 1) (by omega) (by decide)).symm)
    refine z_n (nI_ge (b := 5) (by omega) (by decide)) (s_peopleOnNail hX ⟨fun q y ey => ?_, fun q y ey => ?_⟩)
    · have q : zmn t s i < 2 := q
      rw [if_neg (by simpa using e12.mp q)] at hq
      rw [ey, nI_1, Int32.or_zero]
      exact s_bitsOfSharedNails_4 hX r (i + 1) k c (by omega) (by omega) hq
    · have q : ¬ zmn t s i < 2 := q
      rw [if_pos (show zshr t s i = true from decide_eq_true (fun z => q (e12.mpr z)))] at hq
      rw [ey, nI_1]
      exact s_bitsOfSharedNails_4 hX r (i + 1) k _ (by omega) (by omega) hq
theorem s_M_count_285 {I : zI} {J : zJ} {t : zX} {live : Nat} {s : zT} (hX : mX I t live s) {Q : Int32 → zI → zJ → Prop} : ∀ r i k c, i + r = 5 → r < k → Q (zbit (zshr t s) r i c) I J → v_M_count_285 5000 k c (nI i) I J Q
  | _, _, 0, _, _, hk, _ => absurd hk (Nat.not_lt_zero _)
  | 0, i, k + 1, c, hi, hk, hq => by
    rw [v_M_count_285]
    exact z_y (nI_le (a := 5) (by omega) (by omega)) hq
  | r + 1, i, k + 1, c, hi, hk, hq => by
    rw [v_M_count_285]
    rw [zbit] at hq
    refine z_n (nI_ge (b := 5) (by omega) (by decide)) (s_M_manyOn hX (z_ne2 (by omega)) ⟨fun q => ?_, fun q y ey => ?_⟩)
    · rw [if_neg (by simpa using q)] at hq
      rw [nI_1]
      exact s_M_count_285 hX r (i + 1) k c (by omega) (by omega) hq
    · rw [if_pos (decide_eq_true q)] at hq
      rw [ey, nI_1]
      exact s_M_count_285 hX r (i + 1) k _ (by omega) (by omega) hq
/-- the hangers taken: by people, by hangers -/
def zbt (s : zT) : Nat → Nat → Int32 → Int32
  | 0, _, c => c
  | r + 1, i, c => zbt s r (i + 1) (if sO s i < 0 then c else c ||| ((1 : Int32) <<< (sO s i &&& 31)))
theorem s_bitsOfTaken_4 {I : zI} {J : zJ} {t : zX} {a : Nat} {s : zT} (hX : cX I t a s) {Q : Int32 → zI → zJ → Prop} : ∀ r i k c, i + r = xP t → r < k → Q (zbt s r i c) I J → v_State_bitsOfTaken_4 5000 k a c (nI i) I J Q
  | _, _, 0, _, _, hk, _ => absurd hk (Nat.not_lt_zero _)
  | 0, i, k + 1, c, hi, hk, hq => by
    have hP := hX.1.2.1
    rw [v_State_bitsOfTaken_4]; dsimp only; rw [hX.2.1.2.1]
    exact z_y (nI_le (by omega) (by omega)) hq
  | r + 1, i, k + 1, c, hi, hk, hq => by
    have hP := hX.1.2.1
    have hH := hX.1.1
    rw [v_State_bitsOfTaken_4]; dsimp only; rw [hX.2.1.2.1]
    rw [zbt] at hq
    refine z_n (nI_ge (by omega) (by omega)) (s_isHung hX (by omega) (fun e => z_y z_00 (fun y ey => ?_)) (fun h hh e => z_n z_10 ⟨vp_in_nI (by omega) (by decide), fun y ey => ?_⟩))
    · rw [if_pos (by rw [e]; decide)] at hq
      rw [ey, nI_1, Int32.or_zero]
      exact s_bitsOfTaken_4 hX r (i + 1) k c (by omega) (by omega) hq
    · rw [if_neg (by rw [e]; exact nI_pos (by omega))] at hq
      rw [ey, nI_1, nI_clamp (by omega), hX.2.2.2.1.2.2.1 i (by omega)]
      exact s_bitsOfTaken_4 hX r (i + 1) k _ (by omega) (by omega) hq
abbrev ztk (t : zX) (s : zT) : Nat → Bool := fun h => decide (¬ zwho (sO s) (nI h) (xP t) 0 < 0)
theorem s_M_count_147 {I : zI} {J : zJ} {t : zX} {live : Nat} {s : zT} (hX : mX I t live s) {Q : Int32 → zI → zJ → Prop} : ∀ r i k c, i + r = xH t → r < k → Q (zbit (ztk t s) r i c) I J → v_M_count_147 5000 k c (nI i) I J Q
  | _, _, 0, _, _, hk, _ => absurd hk (Nat.not_lt_zero _)
  | 0, i, k + 1, c, hi, hk, hq => by
    have hH := hX.1.1
    have hl := hX.2.1.1
    rw [v_M_count_147]; dsimp only; rw [hX.2.1.2.1, nI_clamp (by omega), hX.2.1.2.2.1]
    exact ⟨vp_in_nI hl (by decide), z_y (nI_le (by omega) (by omega)) hq⟩
  | r + 1, i, k + 1, c, hi, hk, hq => by
    have hH := hX.1.1
    have hl := hX.2.1.1
    rw [v_M_count_147]; dsimp only; rw [hX.2.1.2.1, nI_clamp (by omega), hX.2.1.2.2.1]
    rw [zbit] at hq
    refine ⟨vp_in_nI hl (by decide), z_n (nI_ge (by omega) (by omega)) (s_M_whoIsOn hX ⟨fun q => ?_, fun q y ey => ?_⟩)⟩
    · rw [if_neg (by simpa using q)] at hq
      rw [nI_1]
      exact s_M_count_147 hX r (i + 1) k c (by omega) (by omega) hq
    · rw [if_pos (decide_eq_true q)] at hq
      rw [ey, nI_1]
      exact s_M_count_147 hX r (i + 1) k _ (by omega) (by omega) hq
theorem z_sh : ∀ i, i < 8 → (1 : Int32) <<< (nI i &&& 31) = nI (2 ^ i) := by decide
theorem zbit_n (P : Nat → Bool) : ∀ r i c, i + r ≤ 8 → ∃ d, zbit P r i (nI c) = nI d ∧ ∀ k, d.testBit k = (c.testBit k || (decide (i ≤ k ∧ k < i + r) && P k))
  | 0, i, c, _ => ⟨c, rfl, fun k => by simp; omega⟩
  | r + 1, i, c, h => by
    rw [zbit]
    by_cases hp : P i = true
    · rw [if_pos hp, z_sh i (by omega), nI_or]
      obtain ⟨d, e, hd⟩ := zbit_n P r (i + 1) (c ||| 2 ^ i) (by omega)
      refine ⟨d, e, fun k => ?_⟩
      rw [hd, Nat.testBit_or, Nat.testBit_two_pow]
      by_cases hk : k = i
      · subst hk
        simp [hp]
      · have : decide (i ≤ k ∧ k < i + (r + 1)) = decide (i + 1 ≤ k ∧ k < i + 1 + r) := by
          apply decide_eq_decide.mpr
          omega
        rw [this, show decide (i = k) = false from decide_eq_false (fun z => hk z.symm), Bool.or_false]
    · rw [if_neg hp]
      obtain ⟨d, e, hd⟩ := zbit_n P r (i + 1) c (by omega)
      refine ⟨d, e, fun k => ?_⟩
      rw [hd]
      by_cases hk : k = i
      · subst hk
        have hp : P k = false := by simpa using hp
        simp [hp]
      · have : decide (i ≤ k ∧ k < i + (r + 1)) = decide (i + 1 ≤ k ∧ k < i + 1 + r) := by
          apply decide_eq_decide.mpr
          omega
        rw [this]
theorem zbt_n {nH nP : Nat} (hH : nH ≤ 7) {s : zT} (hw : zW nH nP s) : ∀ r i c, i + r = nP → ∃ d, zbt s r i (nI c) = nI d ∧ ∀ k, d.testBit k = true ↔ (c.testBit k = true ∨ ∃ p, i ≤ p ∧ p < nP ∧ sO s p = nI k ∧ k < nH)
  | 0, i, c, hi => ⟨c, rfl, fun k => ⟨fun h => Or.inl h, fun h => h.elim id (fun ⟨p, h1, h2, _⟩ => absurd h1 (by omega))⟩⟩
  | r + 1, i, c, hi => by
    rw [zbt]
    rcases z_on hw (show i < nP by omega) with e | ⟨h, hh, e⟩
    · rw [if_pos (by rw [e]; decide)]
      obtain ⟨d, ed, hd⟩ := zbt_n hH hw r (i + 1) c (by omega)
      refine ⟨d, ed, fun k => Iff.trans (hd k) ⟨fun z => z.elim Or.inl (fun ⟨p, h1, h2⟩ => Or.inr ⟨p, by omega, h2⟩), fun z => z.elim Or.inl (fun ⟨p, h1, h2, h3, h4⟩ => Or.inr ⟨p, ?_, h2, h3, h4⟩)⟩⟩
      by_cases hp : p = i
      · subst hp
        exact absurd (h3.symm.trans e) (z_ne2 (by omega))
      · omega
    · rw [if_neg (by rw [e]; exact nI_pos (by omega)), e, z_sh h (by omega), nI_or]
      obtain ⟨d, ed, hd⟩ := zbt_n hH hw r (i + 1) (c ||| 2 ^ h) (by omega)
      refine ⟨d, ed, fun k => Iff.trans (hd k) ?_⟩
      rw [Nat.testBit_or, Nat.testBit_two_pow, Bool.or_eq_true, decide_eq_true_eq]
      constructor
      · rintro ((z | z) | ⟨p, h1, h2⟩)
        · exact Or.inl z
        · subst z
          exact Or.inr ⟨i, Nat.le_refl _, by omega, e, hh⟩
        · exact Or.inr ⟨p, by omega, h2⟩
      · rintro (z | ⟨p, h1, h2, h3, h4⟩)
        · exact Or.inl (Or.inl z)
        · by_cases hp : p = i
          · subst hp
            exact Or.inl (Or.inr ((nI_eq (by omega) (by omega)).mp (e.symm.trans h3)))
          · exact Or.inr ⟨p, by omega, h2, h3, h4⟩
theorem zbt_eq {t : zX} (hx : zX_ok t) {s : zT} (hw : zW (xH t) (xP t) s) : zbt s (xP t) 0 0 = zbit (ztk t s) (xH t) 0 0 := by
  have hH := hx.1
  have hP := hx.2.1
  obtain ⟨d, ed, hd⟩ := zbt_n hH hw (xP t) 0 0 (Nat.zero_add _)
  obtain ⟨e, ee, he⟩ := zbit_n (ztk t s) (xH t) 0 0 (by omega)
  have : d = e := by
    apply Nat.eq_of_testBit_eq
    intro k
    rw [Bool.eq_iff_iff, hd k, he k]
    simp only [Nat.zero_testBit, Bool.false_or, Bool.and_eq_true, decide_eq_true_eq, Nat.zero_add, Nat.zero_le, true_and]
    rcases zwho_neg (o := sO s) (x := nI k) hP with ⟨h1, h2⟩ | ⟨h1, p, h2, h3⟩
    · constructor
      · rintro (z | ⟨p, z1, z2, z3⟩)
        · cases z
        · exact absurd z2 (h2 p z1)
      · rintro ⟨_, z⟩
        exact absurd h1 z
    · constructor
      · rintro (z | ⟨p, z1, z2, z3⟩)
        · cases z
        · exact ⟨z3, h1⟩
      · rintro ⟨z, _⟩
        exact Or.inr ⟨p, h2, h3, z⟩
  rw [show zbt s (xP t) 0 0 = nI d from ed, show zbit (ztk t s) (xH t) 0 0 = nI e from ee, this]
/-- sums -/
def zsum (f : Nat → Int32) : Nat → Nat → Int32 → Int32
  | 0, _, c => c
  | r + 1, i, c => zsum f r (i + 1) (c + f i)
theorem zsum_z {f : Nat → Int32} : ∀ r i c, (∀ j, i ≤ j → j < i + r → f j = 0) → zsum f r i c = c
  | 0, _, _, _ => rfl
  | r + 1, i, c, h => by
    rw [zsum, h i (Nat.le_refl _) (by omega), Int32.add_zero]
    exact zsum_z r (i + 1) c (fun j h1 h2 => h j (by omega) (by omega))
theorem zsum_app {f : Nat → Int32} : ∀ r q i c, zsum f (r + q) i c = zsum f q (i + r) (zsum f r i c)
  | 0, q, i, c => by rw [Nat.zero_add]; rfl
  | r + 1, q, i, c => by
    rw [show r + 1 + q = (r + q) + 1 by omega, zsum, zsum, zsum_app r q (i + 1) (c + f i)]
    congr 1
    omega
theorem zsum_cg {f g : Nat → Int32} : ∀ r i c, (∀ j, i ≤ j → j < i + r → f j = g j) → zsum f r i c = zsum g r i c
  | 0, _, _, _ => rfl
  | r + 1, i, c, h => by
    rw [zsum, zsum, h i (Nat.le_refl _) (by omega)]
    exact zsum_cg r (i + 1) _ (fun j h1 h2 => h j (by omega) (by omega))
theorem s_sumOfFirst_4 {I : zI} {J : zJ} {a n m : Nat} (hm : zlen a = m) (hnm : n ≤ m) (hm2 : m < 100) {Q : Int32 → zI → zJ → Prop} : ∀ r i k c, i + r = n → r < k → Q (zsum (I a) r i c) I J → v_X_sumOfFirst_4 5000 k a (nI n) c (nI i) I J Q
  | _, _, 0, _, _, hk, _ => absurd hk (Nat.not_lt_zero _)
  | 0, i, k + 1, c, hi, hk, hq => by
    rw [v_X_sumOfFirst_4]
    exact z_y (nI_le (by omega) (by omega)) hq
  | r + 1, i, k + 1, c, hi, hk, hq => by
    rw [v_X_sumOfFirst_4]; dsimp only; rw [hm, nI_clamp (by omega)]
    rw [zsum] at hq
    refine z_n (nI_ge (by omega) (by omega)) (z_n (nI_ge (by omega) (by omega)) ⟨vp_in_nI (by omega) (by omega), fun y ey => ?_⟩)
    rw [ey, nI_1]
    exact s_sumOfFirst_4 hm hnm hm2 r (i + 1) k _ (by omega) (by omega) hq
theorem s_M_sumNow_5 {I : zI} {J : zJ} {a n : Nat} (hn : a + n ≤ 32) {Q : Int32 → zI → zJ → Prop} : ∀ r i k c, i + r = n → r < k → Q (zsum (fun j => I 393 (a + j)) r i c) I J → v_M_sumNow_5 5000 k (nI a) (nI n) c (nI (a + i)) I J Q
  | _, _, 0, _, _, hk, _ => absurd hk (Nat.not_lt_zero _)
  | 0, i, k + 1, c, hi, hk, hq => by
    rw [v_M_sumNow_5]; dsimp only; rw [nI_add]
    exact z_y (nI_le (by omega) (by omega)) hq
  | r + 1, i, k + 1, c, hi, hk, hq => by
    rw [v_M_sumNow_5]; dsimp only; rw [nI_add, nI_clamp (by omega)]
    rw [zsum] at hq
    refine z_n (nI_ge (by omega) (by omega)) ⟨vp_in_nI (by omega) (by omega), fun y ey => ?_⟩
    rw [ey, nI_1]
    exact s_M_sumNow_5 hn r (i + 1) k _ (by omega) (by omega) hq
theorem z_bits3 : ∀ m, m < 8 → ∀ (I : zI) (J : zJ) (Q : Int32 → zI → zJ → Prop), Q (nI ((m.testBit 0).toNat + (m.testBit 1).toNat + (m.testBit 2).toNat)) I J → v_Integer_bitCount 5000 (nI m) I J Q := by
  intro m hm I J Q hq y1 e1 y2 e2 y3 e3 y4 e4 y5 e5
  rw [e5, e4, e3, e2, e1]
  have key : ∀ m, m < 8 → (nI ((m.testBit 0).toNat + (m.testBit 1).toNat + (m.testBit 2).toNat)) = (fun (x0 : Int32) => (fun (y1 : Int32) => (fun (y2 : Int32) => (fun (y3 : Int32) => (fun (y4 : Int32) => (fun (y5 : Int32) => (y5 &&& (63 : Int32))) (y4 + ((y4).toUInt32 >>> (((16 : Int32)).toUInt32 &&& Int32.toUInt32 31)).toInt32)) (y3 + ((y3).toUInt32 >>> (((8 : Int32)).toUInt32 &&& Int32.toUInt32 31)).toInt32)) ((y2 + ((y2).toUInt32 >>> (((4 : Int32)).toUInt32 &&& Int32.toUInt32 31)).toInt32) &&& (252645135 : Int32))) ((y1 &&& (858993459 : Int32)) + (((y1).toUInt32 >>> (((2 : Int32)).toUInt32 &&& Int32.toUInt32 31)).toInt32 &&& (858993459 : Int32)))) (x0 - (((x0).toUInt32 >>> (((1 : Int32)).toUInt32 &&& Int32.toUInt32 31)).toInt32 &&& (1431655765 : Int32)))) (nI m) := by decide
  have := key m hm
  dsimp only at this
  rw [← this]
  exact hq
theorem zok_count : zOK_count Rel := fun a0 => zok_q (vX := v_X_count 5000 a0) (vM := v_M_count 5000 a0) (fun I J hR t live s hQ => by
  classical
  have hX := hQ.1
  have hP := hX.1.2.1
  have hH := hX.1.1
  have hl := hQ.2.1.1
  obtain ⟨n, nH, nP, live', u, x, td, m, h1, h2, h3, h4, h5, h6, h7, h8⟩ := id hR
  by_cases c0 : a0 = 0
  · exact ⟨nI (xH t), fun Q hq => z_y c0 (by rw [hX.2.1.1]; exact hq I zK.rfl), fun I1 Q k1 hQ1 hq => hQ1.copies (fun I2 o2 hX2 h51 _ => z_y c0 (by rw [hX2.2.1.2.1, nI_clamp (by omega), hX2.2.1.2.2.1]; exact ⟨vp_in_nI hX2.2.1.1 (by decide), hq I2 (zK.fS o2)⟩))⟩
  by_cases c1 : a0 = 1
  · exact ⟨nI (xP t), fun Q hq => z_n c0 (z_y c1 (by rw [hX.2.1.2.1]; exact hq I zK.rfl)), fun I1 Q k1 hQ1 hq => hQ1.copies (fun I2 o2 hX2 h51 _ => z_n c0 (z_y c1 (by rw [hX2.2.1.2.1, nI_clamp (by omega), hX2.2.1.2.2.2.1]; exact ⟨vp_in_nI hX2.2.1.1 (by decide), hq I2 (zK.fS o2)⟩)))⟩
  by_cases c2 : a0 = 2
  · exact ⟨sN s, fun Q hq => z_n c0 (z_n c1 (z_y c2 (by rw [show I 49 1 = sN s from hX.2.2.2.1.1]; exact hq I zK.rfl))), fun I1 Q k1 hQ1 hq => hQ1.copies (fun I2 o2 hX2 h51 _ => z_n c0 (z_n c1 (z_y c2 (by rw [z_l31, hX2.2.2.2.1]; exact ⟨z_v.2.2.2.2.2.2.2.2.2.1, hq I2 (zK.fS o2)⟩))))⟩
  by_cases c3 : a0 = 3
  · exact ⟨_, fun Q hq => z_n c0 (z_n c1 (z_n c2 (z_y c3 (s_bitsOfHung_4 hX (xP t) 0 5000 0 (by omega) (by omega) (hq I zK.rfl))))), fun I1 Q k1 hQ1 hq => hQ1.copies (fun I2 o2 hX2 h51 _ => z_n c0 (z_n c1 (z_n c2 (z_y c3 (s_M_count_110 hX2 (xP t) 0 5000 0 (by omega) (by omega) (hq I2 (zK.fS o2)))))))⟩
  by_cases c4 : a0 = 4
  · exact ⟨_, fun Q hq => z_n c0 (z_n c1 (z_n c2 (z_n c3 (z_y c4 (s_bitsOfTaken_4 hX (xP t) 0 5000 0 (by omega) (by omega) (hq I zK.rfl)))))), fun I1 Q k1 hQ1 hq => hQ1.copies (fun I2 o2 hX2 h51 _ => z_n c0 (z_n c1 (z_n c2 (z_n c3 (z_y c4 (s_M_count_147 hX2 (xH t) 0 5000 0 (by omega) (by omega) (zbt_eq hX.1 hX.2.2.1 ▸ hq I2 (zK.fS o2))))))))⟩
  by_cases c5 : a0 = 5
  · exact ⟨_, fun Q hq => z_n c0 (z_n c1 (z_n c2 (z_n c3 (z_n c4 (z_y c5 (s_bitsOfOwnSelves hX (hq I zK.rfl))))))), fun I1 Q k1 hQ1 hq => hQ1.copies (fun I2 o2 hX2 h51 _ => z_n c0 (z_n c1 (z_n c2 (z_n c3 (z_n c4 (z_y c5 (s_M_ownBits hX2 (hq I2 (zK.fS o2)))))))))⟩
  by_cases c6 : a0 = 6
  · have sum6 : ∀ I1 : zI, zQ I1 t live s → ∀ I2 : zI, frS I1 I2 → zsum (sC s) (xP t) 0 0 = zsum (fun j => I2 393 (18 + j)) 6 0 0 := fun I1 hQ1 I2 o2 => by
      obtain ⟨m0, m1, m2, m3, m4, m5, m6, m7⟩ := hQ1.2.2
      rw [show 6 = xP t + (6 - xP t) by omega, zsum_app, zsum_z (6 - xP t) _ _ (fun j q1 q2 => by rw [o2 _ _ (by decide) (by omega)]; exact m6 j (by omega) (by omega))]
      exact zsum_cg _ _ _ (fun j q1 q2 => by rw [o2 _ _ (by decide) (by omega)]; exact (m4 j (by omega)).symm)
    exact ⟨zsum (sC s) (xP t) 0 0, fun Q hq => z_n c0 (z_n c1 (z_n c2 (z_n c3 (z_n c4 (z_n c5 (z_y c6 (by rw [hX.2.1.2.1]; exact s_sumOfFirst_4 (n := xP t) (m := 6) rfl (by omega) (by decide) (xP t) 0 5000 0 (by omega) (by omega) (by rw [zsum_cg (g := sC s) _ _ _ (fun j _ h => hX.2.2.2.1.2.2.2.2.1 j (by omega))]; exact hq I zK.rfl)))))))), fun I1 Q k1 hQ1 hq => hQ1.copies (fun I2 o2 hX2 h51 _ => z_n c0 (z_n c1 (z_n c2 (z_n c3 (z_n c4 (z_n c5 (z_y c6 (s_M_sumNow_5 (a := 18) (n := 6) (by decide) 6 0 5000 0 (by decide) (by decide) (sum6 I1 hQ1 I2 o2 ▸ hq I2 (zK.fS o2))))))))))⟩
  by_cases c7 : a0 = 7
  · have sum7 : ∀ I1 : zI, zQ I1 t live s → ∀ I2 : zI, frS I1 I2 → zsum (sB s) (xH t) 0 0 = zsum (fun j => I2 393 (24 + j)) 7 0 0 := fun I1 hQ1 I2 o2 => by
      obtain ⟨m0, m1, m2, m3, m4, m5, m6, m7⟩ := hQ1.2.2
      rw [show 7 = xH t + (7 - xH t) by omega, zsum_app, zsum_z (7 - xH t) _ _ (fun j q1 q2 => by rw [o2 _ _ (by decide) (by omega)]; exact m7 j (by omega) (by omega))]
      exact zsum_cg _ _ _ (fun j q1 q2 => by rw [o2 _ _ (by decide) (by omega)]; exact (m5 j (by omega)).symm)
    exact ⟨zsum (sB s) (xH t) 0 0, fun Q hq => z_n c0 (z_n c1 (z_n c2 (z_n c3 (z_n c4 (z_n c5 (z_n c6 (z_y c7 (by rw [hX.2.1.1]; exact s_sumOfFirst_4 (n := xH t) (m := 7) rfl (by omega) (by decide) (xH t) 0 5000 0 (by omega) (by omega) (by rw [zsum_cg (g := sB s) _ _ _ (fun j _ h => hX.2.2.2.1.2.2.2.2.2 j (by omega))]; exact hq I zK.rfl))))))))), fun I1 Q k1 hQ1 hq => hQ1.copies (fun I2 o2 hX2 h51 _ => z_n c0 (z_n c1 (z_n c2 (z_n c3 (z_n c4 (z_n c5 (z_n c6 (z_y c7 (s_M_sumNow_5 (a := 24) (n := 7) (by decide) 7 0 5000 0 (by decide) (by decide) (sum7 I1 hQ1 I2 o2 ▸ hq I2 (zK.fS o2)))))))))))⟩
  by_cases c8 : a0 = 8
  · exact ⟨nI n, fun Q hq => z_n c0 (z_n c1 (z_n c2 (z_n c3 (z_n c4 (z_n c5 (z_n c6 (z_n c7 (z_y c8 (by rw [h1.2.1]; exact hq I zK.rfl))))))))), fun I1 Q k1 hQ1 hq => hQ1.copies (fun I2 o2 hX2 h51 _ => z_n c0 (z_n c1 (z_n c2 (z_n c3 (z_n c4 (z_n c5 (z_n c6 (z_n c7 (z_y c8 (by rw [o2 361 2 (by decide) (by decide), k1.1 361 2 (by decide), h1.2.2.1]; exact hq I2 (zK.fS o2)))))))))))⟩
  by_cases c9 : a0 = 9
  · exact ⟨nI u, fun Q hq => z_n c0 (z_n c1 (z_n c2 (z_n c3 (z_n c4 (z_n c5 (z_n c6 (z_n c7 (z_n c8 (z_y c9 (by rw [h5.2.2.1]; exact hq I zK.rfl)))))))))), fun I1 Q k1 hQ1 hq => hQ1.copies (fun I2 o2 hX2 h51 _ => z_n c0 (z_n c1 (z_n c2 (z_n c3 (z_n c4 (z_n c5 (z_n c6 (z_n c7 (z_n c8 (z_y c9 (by rw [o2 361 57 (by decide) (by decide), k1.1 361 57 (by decide), h5.2.2.2.2.1]; exact hq I2 (zK.fS o2))))))))))))⟩
  by_cases c10 : a0 = 10
  · exact ⟨nI td, fun Q hq => z_n c0 (z_n c1 (z_n c2 (z_n c3 (z_n c4 (z_n c5 (z_n c6 (z_n c7 (z_n c8 (z_n c9 (z_y c10 (by rw [h6.2.1]; exact hq I zK.rfl))))))))))), fun I1 Q k1 hQ1 hq => hQ1.copies (fun I2 o2 hX2 h51 _ => z_n c0 (z_n c1 (z_n c2 (z_n c3 (z_n c4 (z_n c5 (z_n c6 (z_n c7 (z_n c8 (z_n c9 (z_y c10 (by rw [o2 361 63 (by decide) (by decide), k1.1 361 63 (by decide), h6.2.2.1]; exact hq I2 (zK.fS o2)))))))))))))⟩
  by_cases c11 : a0 = 11
  · have held : ∀ I1 I2 : zI, zK I I1 J J → frS I1 I2 → ∀ Q : Int32 → zI → zJ → Prop, Q (nI ((m.testBit 0).toNat + (m.testBit 1).toNat + (m.testBit 2).toNat)) I2 J → (vp_in (0 : Int32) 3 ∧ (((I2 408 ((0 : Int32)).toNatClampNeg) = 0 → (v_M_count_234 5000 (0 : Int32) I2 J Q )) ∧ (¬ (I2 408 ((0 : Int32)).toNatClampNeg) = 0 → (v_M_count_234 5000 (1 : Int32) I2 J Q )))) := by
      intro I1 I2 k1 o2 Q hq
      have e : ∀ i, i < 3 → I2 408 i = nI (m.testBit i).toNat := fun i hi => by
        rw [o2 408 i (by decide) (by omega), k1.1 408 i (Or.inr (Or.inr (Or.inr (Or.inr (Or.inr (Or.inr (Or.inr (Or.inr (Or.inl rfl)))))))))]
        rcases h7.2.2 i hi with ⟨g1, g2, _⟩ | ⟨g1, g2⟩
        · rw [g1, g2]; rfl
        · rw [g1, g2]; rfl
      unfold v_M_count_234 v_M_count_248
      rw [z_l0, z_l1, z_l2, e 0 (by decide), e 1 (by decide), e 2 (by decide)]
      have v0 : vp_in (0 : Int32) 3 := vp_in_nI (n := 0) (by decide) (by decide)
      have v1 : vp_in (1 : Int32) 3 := vp_in_nI (n := 1) (by decide) (by decide)
      have v2 : vp_in (2 : Int32) 3 := vp_in_nI (n := 2) (by decide) (by decide)
      revert hq
      cases m.testBit 0 <;> cases m.testBit 1 <;> cases m.testBit 2 <;> intro hq <;> simp only [v0, v1, v2, true_and] <;> refine ⟨fun a => ⟨fun b => ⟨fun c => ?_, fun c => ?_⟩, fun b => ⟨fun c => ?_, fun c => ?_⟩⟩, fun a => ⟨fun b => ⟨fun c => ?_, fun c => ?_⟩, fun b => ⟨fun c => ?_, fun c => ?_⟩⟩⟩ <;> first | exact hq | exact absurd a (by decide) | exact absurd b (by decide) | exact absurd c (by decide) | exact absurd rfl a | exact absurd rfl b | exact absurd rfl c
    exact ⟨nI ((m.testBit 0).toNat + (m.testBit 1).toNat + (m.testBit 2).toNat), fun Q hq => z_n c0 (z_n c1 (z_n c2 (z_n c3 (z_n c4 (z_n c5 (z_n c6 (z_n c7 (z_n c8 (z_n c9 (z_n c10 (z_y c11 (by rw [h7.2.1]; exact z_bits3 m h7.1 I J _ (hq I zK.rfl))))))))))))), fun I1 Q k1 hQ1 hq => hQ1.copies (fun I2 o2 hX2 h51 _ => z_n c0 (z_n c1 (z_n c2 (z_n c3 (z_n c4 (z_n c5 (z_n c6 (z_n c7 (z_n c8 (z_n c9 (z_n c10 (z_y c11 (held I1 I2 k1 o2 Q (hq I2 (zK.fS o2)))))))))))))))⟩
  by_cases c12 : a0 = 12
  · exact ⟨if zmoth t s (xD t) then 1 else 0, fun Q hq => z_n c0 (z_n c1 (z_n c2 (z_n c3 (z_n c4 (z_n c5 (z_n c6 (z_n c7 (z_n c8 (z_n c9 (z_n c10 (z_n c11 (z_y c12 (by rw [hX.2.1.2.2.2.2.2.2.1, show I 49 1 = sN s from hX.2.2.2.1.1]; exact s_hasMoth hX (fun z => z_y z_00 (by rw [if_neg z] at hq; exact hq I zK.rfl)) (fun z => z_n z_10 (by rw [if_pos z] at hq; exact hq I zK.rfl))))))))))))))), fun I1 Q k1 hQ1 hq => hQ1.copies (fun I2 o2 hX2 h51 _ => z_n c0 (z_n c1 (z_n c2 (z_n c3 (z_n c4 (z_n c5 (z_n c6 (z_n c7 (z_n c8 (z_n c9 (z_n c10 (z_n c11 (z_y c12 (s_M_isMoth hX2 h51 (fun z => z_y z_00 (by rw [if_neg z] at hq; exact hq I2 (zK.fS o2))) (fun z => z_n z_10 (by rw [if_pos z] at hq; exact hq I2 (zK.fS o2)))))))))))))))))⟩
  by_cases c13 : a0 = 13
  · exact ⟨_, fun Q hq => z_n c0 (z_n c1 (z_n c2 (z_n c3 (z_n c4 (z_n c5 (z_n c6 (z_n c7 (z_n c8 (z_n c9 (z_n c10 (z_n c11 (z_n c12 (z_y c13 (s_costOfAll hX (fun I1 o1 => hq I1 (zK.fC o1)))))))))))))))), fun I1 Q k1 hQ1 hq => hQ1.copies (fun I2 o2 hX2 h51 _ => z_n c0 (z_n c1 (z_n c2 (z_n c3 (z_n c4 (z_n c5 (z_n c6 (z_n c7 (z_n c8 (z_n c9 (z_n c10 (z_n c11 (z_n c12 (z_y c13 (s_M_costsAll hX2 (fun I3 o3 => hq I3 ((zK.fS o2).trans (zK.fM o3))))))))))))))))))⟩
  by_cases c14 : a0 = 14
  · exact ⟨_, fun Q hq => z_n c0 (z_n c1 (z_n c2 (z_n c3 (z_n c4 (z_n c5 (z_n c6 (z_n c7 (z_n c8 (z_n c9 (z_n c10 (z_n c11 (z_n c12 (z_n c13 (z_y c14 (s_bitsOfSharedNails_4 hX 5 0 5000 0 (by decide) (by decide) (hq I zK.rfl)))))))))))))))), fun I1 Q k1 hQ1 hq => hQ1.copies (fun I2 o2 hX2 h51 _ => z_n c0 (z_n c1 (z_n c2 (z_n c3 (z_n c4 (z_n c5 (z_n c6 (z_n c7 (z_n c8 (z_n c9 (z_n c10 (z_n c11 (z_n c12 (z_n c13 (z_y c14 (s_M_count_285 hX2 5 0 5000 0 (by decide) (by decide) (hq I2 (zK.fS o2))))))))))))))))))⟩
  exact ⟨-1, fun Q hq => z_n c0 (z_n c1 (z_n c2 (z_n c3 (z_n c4 (z_n c5 (z_n c6 (z_n c7 (z_n c8 (z_n c9 (z_n c10 (z_n c11 (z_n c12 (z_n c13 (z_n c14 (hq I zK.rfl))))))))))))))), fun I1 Q k1 hQ1 hq => hQ1.copies (fun I2 o2 hX2 h51 _ => z_n c0 (z_n c1 (z_n c2 (z_n c3 (z_n c4 (z_n c5 (z_n c6 (z_n c7 (z_n c8 (z_n c9 (z_n c10 (z_n c11 (z_n c12 (z_n c13 (z_n c14 (hq I2 (zK.fS o2)))))))))))))))))⟩)
