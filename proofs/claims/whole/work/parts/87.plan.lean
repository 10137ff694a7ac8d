/-! the hangings: a table of pairs (how many hung, what it costs), and the class' way -/
def zbtr (x y : Nat × Nat) : Prop := y.1 < x.1 ∨ (x.1 = y.1 ∧ x.2 < y.2)
def zmin (x y : Nat × Nat) : Nat × Nat := if y.1 < x.1 ∨ (x.1 = y.1 ∧ x.2 < y.2) then x else y
def zfd (al : Nat → Bool) (cd : Nat → Nat × Nat) : Nat → Nat → Nat × Nat → Nat × Nat
  | 0, _, w => w
  | r + 1, h, w => zfd al cd r (h + 1) (if al h = true then zmin (cd h) w else w)
def zbe (nH n : Nat) (al : Nat → Nat → Bool) (bt : Nat → Nat) (cs : Nat → Nat → Nat) : Nat → Nat → Nat × Nat
  | 0, _ => (0, 0)
  | r + 1, T => zfd (al T) (fun h => ((zbe nH n al bt cs r (T ||| bt h)).1 + 1, (zbe nH n al bt cs r (T ||| bt h)).2 + cs (n - (r + 1)) h)) nH 0 (zbe nH n al bt cs r T)
def zbd (r : Nat) (x : Nat × Nat) : Prop := x.1 ≤ r ∧ x.2 ≤ 99 * r
theorem zfd_all {al : Nat → Bool} {cd : Nat → Nat × Nat} {P : Nat × Nat → Prop} (hc : ∀ h, P (cd h)) : ∀ r h w, P w → P (zfd al cd r h w)
  | 0, _, _, hw => hw
  | r + 1, h, w, hw => by
    rw [zfd]
    refine zfd_all hc r (h + 1) _ ?_
    by_cases ha : al h = true
    · rw [if_pos ha]
      unfold zmin
      split
      · exact hc h
      · exact hw
    · rw [if_neg ha]; exact hw
theorem zbe_bd {nH n : Nat} {al : Nat → Nat → Bool} {bt : Nat → Nat} {cs : Nat → Nat → Nat} (hcs : ∀ p h, cs p h ≤ 99) : ∀ r T, zbd r (zbe nH n al bt cs r T)
  | 0, _ => ⟨Nat.le_refl _, Nat.zero_le _⟩
  | r + 1, T => by
    rw [zbe]
    refine zfd_all (P := zbd (r + 1)) (fun h => ?_) nH 0 _ ?_
    · have := zbe_bd (nH := nH) (n := n) (al := al) (bt := bt) hcs r (T ||| bt h)
      have h2 := hcs (n - (r + 1)) h
      exact ⟨Nat.succ_le_succ this.1, by have := this.2; show _ + _ ≤ _; omega⟩
    · have := zbe_bd (nH := nH) (n := n) (al := al) (bt := bt) hcs r T
      exact ⟨by have := this.1; omega, by have := this.2; omega⟩
def zvC (x : Nat × Nat) : Int32 := nI x.2 - nI (1000 * x.1)
def zvM (x : Nat × Nat) : Int32 := nI x.2 - nI (10000 * x.1)
theorem zvC_i {x : Nat × Nat} (h : zbd 6 x) : (zvC x).toInt = (x.2 : Int) - (1000 * x.1 : Nat) := pk_sub_toInt (by have := h.2; omega) (by have := h.1; omega)
theorem zvM_i {x : Nat × Nat} (h : zbd 6 x) : (zvM x).toInt = (x.2 : Int) - (10000 * x.1 : Nat) := pk_sub_toInt (by have := h.2; omega) (by have := h.1; omega)
theorem zvC_lt {x y : Nat × Nat} (hx : zbd 6 x) (hy : zbd 6 y) : zvC x < zvC y ↔ (y.1 < x.1 ∨ (x.1 = y.1 ∧ x.2 < y.2)) := by
  rw [Int32.lt_iff_toInt_lt, zvC_i hx, zvC_i hy]
  have h1 := hx.2; have h2 := hy.2
  omega
theorem zvM_lt {x y : Nat × Nat} (hx : zbd 6 x) (hy : zbd 6 y) : zvM x < zvM y ↔ (y.1 < x.1 ∨ (x.1 = y.1 ∧ x.2 < y.2)) := by
  rw [Int32.lt_iff_toInt_lt, zvM_i hx, zvM_i hy]
  have h1 := hx.2; have h2 := hy.2
  omega
theorem zvC_eq {x y : Nat × Nat} (hx : zbd 6 x) (hy : zbd 6 y) : zvC x = zvC y ↔ x = y := by
  constructor
  · intro e
    have e := congrArg Int32.toInt e
    rw [zvC_i hx, zvC_i hy] at e
    have h1 := hx.2; have h2 := hy.2
    exact Prod.ext (by omega) (by omega)
  · intro e; rw [e]
theorem zvM_eq {x y : Nat × Nat} (hx : zbd 6 x) (hy : zbd 6 y) : zvM x = zvM y ↔ x = y := by
  constructor
  · intro e
    have e := congrArg Int32.toInt e
    rw [zvM_i hx, zvM_i hy] at e
    have h1 := hx.2; have h2 := hy.2
    exact Prod.ext (by omega) (by omega)
  · intro e; rw [e]
theorem zv_add (a b c d : Int32) : (a - d) + (b - c) = (b + a) - (c + d) := by
  simp only [Int32.sub_eq_add_neg, Int32.neg_add]
  ac_rfl
theorem zvC_c (x : Nat × Nat) (c : Nat) : (nI c - 1000) + zvC x = zvC (x.1 + 1, x.2 + c) := by
  unfold zvC
  rw [zv_add, nI_add]
  show _ = nI (x.2 + c) - nI (1000 * (x.1 + 1))
  rw [Nat.mul_succ, ← nI_add (1000 * x.1) 1000]
  rfl
theorem zvM_c (x : Nat × Nat) (c : Nat) : (nI c - 10000) + zvM x = zvM (x.1 + 1, x.2 + c) := by
  unfold zvM
  rw [zv_add, nI_add]
  show _ = nI (x.2 + c) - nI (10000 * (x.1 + 1))
  rw [Nat.mul_succ, ← nI_add (10000 * x.1) 10000]
  rfl
def zpc (m : Nat) : Nat := (m.testBit 0).toNat + (m.testBit 1).toNat + (m.testBit 2).toNat + (m.testBit 3).toNat + (m.testBit 4).toNat + (m.testBit 5).toNat + (m.testBit 6).toNat
theorem zpc_or : ∀ m, m < 128 → ∀ b, b < 7 → zpc (m ||| 2 ^ b) ≤ zpc m + 1 := by decide +kernel
def zbcn (x0 : Int32) : Int32 :=
  let y1 := (x0 - (((x0).toUInt32 >>> (((1 : Int32)).toUInt32 &&& Int32.toUInt32 31)).toInt32 &&& (1431655765 : Int32)))
  let y2 := ((y1 &&& (858993459 : Int32)) + (((y1).toUInt32 >>> (((2 : Int32)).toUInt32 &&& Int32.toUInt32 31)).toInt32 &&& (858993459 : Int32)))
  let y3 := ((y2 + ((y2).toUInt32 >>> (((4 : Int32)).toUInt32 &&& Int32.toUInt32 31)).toInt32) &&& (252645135 : Int32))
  let y4 := (y3 + ((y3).toUInt32 >>> (((8 : Int32)).toUInt32 &&& Int32.toUInt32 31)).toInt32)
  let y5 := (y4 + ((y4).toUInt32 >>> (((16 : Int32)).toUInt32 &&& Int32.toUInt32 31)).toInt32)
  (y5 &&& (63 : Int32))
theorem zbcn_n : ∀ m, m < 128 → zbcn (nI m) = nI (zpc m) := by decide +kernel
theorem s_bitCount {m : Nat} (hm : m < 128) {I : zI} {J : zJ} {Q : Int32 → zI → zJ → Prop} (hq : Q (nI (zpc m)) I J) : v_Integer_bitCount 5000 (nI m) I J Q := by
  rw [← zbcn_n m hm] at hq
  intro y1 e1 y2 e2 y3 e3 y4 e4 y5 e5
  subst e1 e2 e3 e4 e5
  exact hq
def zal (x3 : Int32) (bt : Nat → Nat) (T h : Nat) : Bool := if nI h = x3 then false else decide (T &&& bt h = 0)
/-- what a plan rests on -/
def zPl (I : zI) (nH nP : Nat) (bt : Nat → Nat) (cs : Nat → Nat → Nat) : Prop := I 8 0 = nI nH ∧ I 8 3 = nI nP ∧ nH ≤ 7 ∧ nP ≤ 6 ∧ (∀ h, h < nH → I 74 h = nI (bt h)) ∧ (∀ h, h < nH → ∃ b, b < 7 ∧ bt h = 2 ^ b) ∧ (∀ p h, p < nP → h < nH → I (68 + p) h = nI (cs p h)) ∧ ∀ p h, cs p h ≤ 99
theorem zPl.kept {I I' : zI} {nH nP : Nat} {bt : Nat → Nat} {cs : Nat → Nat → Nat} (h : zPl I nH nP bt cs) (e : ∀ b j, b < 76 → I' b j = I b j) : zPl I' nH nP bt cs := by
  obtain ⟨h1, h2, h3, h4, h5, h6, h7, h8⟩ := h
  exact ⟨by rw [e _ _ (by omega)]; exact h1, by rw [e _ _ (by omega)]; exact h2, h3, h4, fun h hh => by rw [e _ _ (by omega)]; exact h5 h hh, h6, fun p h hp hh => by rw [e _ _ (by omega)]; exact h7 p h hp hh, h8⟩
theorem zPl.bt {I : zI} {nH nP : Nat} {bt : Nat → Nat} {cs : Nat → Nat → Nat} (h : zPl I nH nP bt cs) {T x : Nat} (hT : T < 128) (hx : x < nH) : T ||| bt x < 128 ∧ T &&& bt x < 128 ∧ zpc (T ||| bt x) ≤ zpc T + 1 := by
  obtain ⟨b, hb, e⟩ := h.2.2.2.2.2.1 x hx
  rw [e]
  exact ⟨Nat.or_lt_two_pow (n := 7) hT (Nat.pow_lt_pow_right (by decide) hb), Nat.lt_of_le_of_lt Nat.and_le_left hT, zpc_or T hT b hb⟩
def zRw (I : zI) (be : Nat → Nat → Nat × Nat) (nP q : Nat) : Prop := ∀ T, T < 128 → zpc T ≤ q → I (76 + q) T = zvC (be (nP - q) T)
section
variable {nH nP : Nat} {bt : Nat → Nat} {cs : Nat → Nat → Nat}
theorem s_worthOf {I : zI} {J : zJ} {p T h : Nat} {y : Nat × Nat} (hI : zPl I nH nP bt cs) (hp : p < nP) (hT : T < 128) (hh : h < nH) (hy : I (76 + (p + 1)) (T ||| bt h) = zvC y) {Q : Int32 → zI → zJ → Prop} (hq : Q (zvC (y.1 + 1, y.2 + cs p h)) I J) : v_Plan_worthOf 5000 (nI p) (nI T) (nI h) I J Q := by
  have hH := hI.2.2.1
  have hP := hI.2.2.2.1
  obtain ⟨b1, b2, b3⟩ := hI.bt hT hh
  unfold v_Plan_worthOf
  rw [nI_1, nI_clamp (n := p) (by omega), nI_clamp (n := h) (by omega), hI.2.2.2.2.1 h hh, nI_or, nI_clamp (n := p + 1) (by omega), nI_clamp (n := T ||| bt h) (by omega), hI.2.2.2.2.2.2.1 p h hp hh, hy, zvC_c]
  exact ⟨vp_in_nI (by omega) (by decide), vp_in_nI (by omega) (by decide), vp_in_nI (by omega) (by decide), vp_in_nI (by omega) (by decide), vp_in_nI (by omega) (by decide), hq⟩
theorem z_and0 {m : Nat} (h : m < 2 ^ 31) : nI m = 0 ↔ m = 0 := nI_eq (b := 0) h (by decide)
theorem s_leastFrom_15 {I : zI} {J : zJ} {p T : Nat} {x3 : Int32} {be : Nat → Nat × Nat} (hI : zPl I nH nP bt cs) (hp : p < nP) (hT : T < 128) (hb : ∀ T, zbd 5 (be T)) (hr : ∀ h, h < nH → I (76 + (p + 1)) (T ||| bt h) = zvC (be (T ||| bt h))) {Q : Int32 → zI → zJ → Prop} : ∀ r h k (w : Nat × Nat), zbd 6 w → h + r = nH → r < k → Q (zvC (zfd (zal x3 bt T) (fun h => ((be (T ||| bt h)).1 + 1, (be (T ||| bt h)).2 + cs p h)) r h w)) I J → v_Plan_leastFrom_15 5000 k (nI p) (nI T) x3 (zvC w) (nI h) I J Q
  | _, _, 0, _, _, _, hk, _ => absurd hk (Nat.not_lt_zero _)
  | 0, h, k + 1, w, hw, hi, hk, hq => by
    have hH := hI.2.2.1
    rw [v_Plan_leastFrom_15]; dsimp only; rw [hI.1]
    exact z_y (nI_le (by omega) (by omega)) hq
  | r + 1, h, k + 1, w, hw, hi, hk, hq => by
    have hH := hI.2.2.1
    obtain ⟨b1, b2, b3⟩ := hI.bt hT (show h < nH by omega)
    rw [v_Plan_leastFrom_15]; dsimp only; rw [hI.1, nI_clamp (by omega), hI.2.2.2.2.1 h (by omega), nI_and, nI_1]
    rw [zfd] at hq
    refine z_n (nI_ge (by omega) (by omega)) ⟨fun q => ?_, fun q => ⟨vp_in_nI (by omega) (by decide), fun q2 => ?_, fun q2 => ?_⟩⟩
    · rw [show zal x3 bt T h = false from if_pos q, if_neg (by decide)] at hq
      exact s_leastFrom_15 hI hp hT hb hr r (h + 1) k w hw (by omega) (by omega) hq
    · have : zal x3 bt T h = false := (if_neg q).trans (decide_eq_false (fun z => q2 (by rw [z]; rfl)))
      rw [this, if_neg (by decide)] at hq
      exact s_leastFrom_15 hI hp hT hb hr r (h + 1) k w hw (by omega) (by omega) hq
    · have : zal x3 bt T h = true := (if_neg q).trans (decide_eq_true ((z_and0 (by omega)).mp q2))
      rw [this, if_pos rfl] at hq
      have hcb : zbd 6 ((be (T ||| bt h)).1 + 1, (be (T ||| bt h)).2 + cs p h) := ⟨by have := (hb (T ||| bt h)).1; show _ + 1 ≤ 6; omega, by
        have h1 := (hb (T ||| bt h)).2
        have h2 := hI.2.2.2.2.2.2.2 p h
        show _ + _ ≤ 99 * 6; omega⟩
      refine s_worthOf hI hp hT (by omega) (hr h (by omega)) (fun y ey => ?_)
      have ey' : y = zvC (zmin ((be (T ||| bt h)).1 + 1, (be (T ||| bt h)).2 + cs p h) w) := by
        rw [ey]
        unfold zmin
        by_cases hc : zvC ((be (T ||| bt h)).1 + 1, (be (T ||| bt h)).2 + cs p h) < zvC w
        · rw [if_pos hc, if_pos ((zvC_lt hcb hw).mp hc)]
        · rw [if_neg hc, if_neg (fun z => hc ((zvC_lt hcb hw).mpr z))]
      rw [ey']
      refine s_leastFrom_15 hI hp hT hb hr r (h + 1) k _ ?_ (by omega) (by omega) hq
      unfold zmin
      split
      · exact hcb
      · exact hw
theorem s_findBest_27 {J : zJ} {p : Nat} {x2 : Int32} (hp : p < nP) {Q : Int32 → zI → zJ → Prop} {K : Int32 → Int32 → zI → zJ → Prop} : ∀ r T k (I : zI), zPl I nH nP bt cs → zRw I (zbe nH nP (zal x2 bt) bt cs) nP (p + 1) → (∀ T', T' < T → zpc T' ≤ p → I (76 + p) T' = zvC (zbe nH nP (zal x2 bt) bt cs (nP - p) T')) → T + r = 128 → r < k → (∀ I' : zI, (∀ b j, b ≠ 76 + p → I' b j = I b j) → zRw I' (zbe nH nP (zal x2 bt) bt cs) nP p → K x2 (nI p) I' J) → v_Plan_findBest_27 5000 k x2 (nI p) (nI T) I J Q K
  | _, _, 0, _, _, _, _, _, hk, _ => absurd hk (Nat.not_lt_zero _)
  | 0, T, k + 1, I, hI, hr, hd, hi, hk, hq => by
    have hP := hI.2.2.2.1
    rw [show T = 128 by omega] at hd ⊢
    exact ⟨vp_in_nI (by omega) (by decide), z_y (by decide) (hq I (fun _ _ _ => rfl) hd)⟩
  | r + 1, T, k + 1, I, hI, hr, hd, hi, hk, hq => by
    have hP := hI.2.2.2.1
    have v7 : vp_in (nI p) 7 := vp_in_nI (by omega) (by decide)
    have h7 : zpc T ≤ 7 := by
      unfold zpc
      have : ∀ b : Bool, b.toNat ≤ 1 := by decide
      have h0 := this (T.testBit 0); have h1 := this (T.testBit 1); have h2 := this (T.testBit 2); have h3 := this (T.testBit 3)
      have h4 := this (T.testBit 4); have h5 := this (T.testBit 5); have h6 := this (T.testBit 6)
      omega
    rw [v_Plan_findBest_27]
    refine ⟨v7, z_n (nI_ge (by omega) (by decide)) (s_bitCount (by omega) ⟨fun q => ?_, fun q => ⟨v7, ?_⟩⟩)⟩
    · have := (nI_ltI (by omega) (by omega)).mp q
      rw [nI_1]
      refine s_findBest_27 hp r (T + 1) k I hI hr (fun T' hT' hz => ?_) (by omega) (by omega) hq
      by_cases e : T' = T
      · subst e; omega
      · exact hd T' (by omega) hz
    · have hz : zpc T ≤ p := Nat.not_lt.mp (fun z => q (nI_lt z (by omega)))
      have e1 : nP - p = nP - (p + 1) + 1 := by omega
      have e2 : nP - (nP - (p + 1) + 1) = p := by omega
      have hcs := hI.2.2.2.2.2.2.2
      unfold v_Plan_leastFrom
      rw [nI_1, nI_clamp (n := p + 1) (by omega), nI_clamp (n := T) (by omega), hr T (by omega) (by omega)]
      refine ⟨vp_in_nI (by omega) (by decide), vp_in_nI (by omega) (by decide), fun y ey => ?_⟩
      rw [ey]
      have hb5 : ∀ T, zbd 5 (zbe nH nP (zal x2 bt) bt cs (nP - (p + 1)) T) := fun T => by
        have := zbe_bd (nH := nH) (n := nP) (al := zal x2 bt) (bt := bt) hcs (nP - (p + 1)) T
        exact ⟨by have := this.1; omega, by have := this.2; omega⟩
      refine s_leastFrom_15 (be := zbe nH nP (zal x2 bt) bt cs (nP - (p + 1))) hI hp (by omega) hb5 (fun h hh => ?_) nH 0 5000 _ ⟨by have := (hb5 T).1; omega, by have := (hb5 T).2; omega⟩ (by omega) (by have := hI.2.2.1; omega) ⟨vp_in_nI (by omega) (by decide), fun I14 e14 => ?_⟩
      · obtain ⟨b1, b2, b3⟩ := hI.bt (show T < 128 by omega) hh
        exact hr _ b1 (by omega)
      · rw [nI_clamp (n := p) (by omega)] at e14
        have o14 : ∀ b j, b ≠ 76 + p → I14 b j = I b j := fun b j q => by rw [e14, qu_off (Or.inl q)]
        have ev : I14 (76 + p) T = zvC (zbe nH nP (zal x2 bt) bt cs (nP - p) T) := by
          rw [e14, qu_same, e1, zbe, e2]
        rw [nI_1]
        refine s_findBest_27 hp r (T + 1) k I14 (hI.kept (fun b j q => o14 b j (by omega))) (fun T' h1 h2 => by rw [o14 _ _ (by omega)]; exact hr T' h1 h2) (fun T' hT' hz' => ?_) (by omega) (by omega) (fun I' o' h' => hq I' (fun b j q => by rw [o' b j q, o14 b j q]) h')
        by_cases e : T' = T
        · subst e; exact ev
        · rw [e14, qu_off (Or.inr e)]; exact hd T' (by omega) hz'
theorem s_findBest_20 {J : zJ} {x2 : Int32} {Q : Int32 → zI → zJ → Prop} : ∀ m k (I : zI), zPl I nH nP bt cs → m ≤ nP → (∀ q, m ≤ q → q ≤ nP → zRw I (zbe nH nP (zal x2 bt) bt cs) nP q) → m < k → (∀ I' : zI, (∀ b j, b < 76 ∨ 82 < b → I' b j = I b j) → (∀ q, q ≤ nP → zRw I' (zbe nH nP (zal x2 bt) bt cs) nP q) → Q (zvC (zbe nH nP (zal x2 bt) bt cs nP 0)) I' J) → v_Plan_findBest_20 5000 k x2 (nI m - 1) I J Q
  | _, 0, _, _, _, _, hk, _ => absurd hk (Nat.not_lt_zero _)
  | 0, k + 1, I, hI, hm, hr, hk, hq => by
    have := hr 0 (Nat.le_refl _) (Nat.zero_le _) 0 (by decide) (by decide)
    rw [Nat.sub_zero] at this
    refine z_y (by decide) ⟨vp_in_nI (n := 0) (by decide) (by decide), vp_in_nI (n := 0) (by decide) (by decide), ?_⟩
    show Q (I 76 0) I J
    rw [show I 76 0 = _ from this]
    exact hq I (fun _ _ _ => rfl) (fun q hq => hr q (Nat.zero_le _) hq)
  | m + 1, k + 1, I, hI, hm, hr, hk, hq => by
    have hP := hI.2.2.2.1
    rw [nI_pred]
    refine z_n (nI_pos (by omega)) (s_findBest_27 (by omega) 128 0 5000 I hI (hr (m + 1) (Nat.le_refl _) hm) (fun T' h => absurd h (Nat.not_lt_zero _)) (by omega) (by omega) (fun I1 o1 h1 => ?_))
    rw [show nI m + (-1) = nI m - 1 from (Int32.sub_eq_add_neg _ _).symm]
    refine s_findBest_20 m k I1 (hI.kept (fun b j q => o1 b j (by omega))) (by omega) (fun q h2 h3 => ?_) (by omega) (fun I' o' h' => hq I' (fun b j q => by rw [o' b j q, o1 b j (by omega)]) h')
    by_cases e : q = m
    · rw [e]; exact h1
    · exact fun T h4 h5 => by rw [o1 _ _ (by omega)]; exact hr q (by omega) h3 T h4 h5
end
theorem s_clearLast_15 {J : zJ} {a : Nat} {x1 : Int32} {Q : zI → zJ → Prop} : ∀ r T k (I : zI), T + r = 128 → r < k → (∀ I' : zI, (∀ b j, b ≠ a → I' b j = I b j) → (∀ j, j < T → I' a j = I a j) → (∀ j, T ≤ j → j < 128 → I' a j = x1) → Q I' J) → v_Plan_clearLast_15 5000 k x1 a (nI T) I J Q
  | _, _, 0, _, _, hk, _ => absurd hk (Nat.not_lt_zero _)
  | 0, T, k + 1, I, hi, hk, hq => z_y (nI_le (by omega) (by omega)) (hq I (fun _ _ _ => rfl) (fun _ _ => rfl) (fun j h1 h2 => absurd h1 (by omega)))
  | r + 1, T, k + 1, I, hi, hk, hq => by
    rw [v_Plan_clearLast_15]; dsimp only; rw [nI_clamp (by omega), nI_1]
    refine z_n (nI_ge (by omega) (by decide)) ⟨vp_in_nI (by omega) (by decide), fun I5 e5 => ?_⟩
    refine s_clearLast_15 r (T + 1) k I5 (by omega) (by omega) (fun I' o' g' f' => hq I' (fun b j q => by rw [o' b j q, e5, qu_off (Or.inl q)]) (fun j h => by rw [g' j (by omega), e5, qu_off (Or.inr (by omega))]) (fun j h1 h2 => ?_))
    by_cases h : j = T
    · subst h; rw [g' j (by omega), e5, qu_same]
    · exact f' j (by omega) h2
/-- the bit of a hanger: its own (0), its nail's (1) -/
def zbt0 (t : zX) (x : Int32) (h : Nat) : Nat := 2 ^ (if x = 0 then h else (xN t h).toNatClampNeg)
theorem zbt0_ok {t : zX} (hx : zX_ok t) (x : Int32) {h : Nat} (hh : h < xH t) : ∃ b, b < 7 ∧ zbt0 t x h = 2 ^ b := by
  have hH := hx.1
  unfold zbt0
  by_cases e : x = 0
  · rw [if_pos e]; exact ⟨h, by omega, rfl⟩
  · rw [if_neg e]
    obtain ⟨j, hj, e'⟩ := hx.2.2.1 h hh
    rw [e', nI_clamp (by omega)]
    exact ⟨j, by omega, rfl⟩
theorem s_letTake_2 {J : zJ} {t : zX} {x1 : Int32} (hx : zX_ok t) {Q : zI → zJ → Prop} : ∀ r i k (I : zI), cT I t → (∀ h, h < i → I 74 h = nI (zbt0 t x1 h)) → i + r = xH t → r < k → (∀ I' : zI, (∀ b j, b ≠ 74 → I' b j = I b j) → (∀ h, h < xH t → I' 74 h = nI (zbt0 t x1 h)) → Q I' J) → v_Plan_letTake_2 5000 k x1 (nI i) I J Q
  | _, _, 0, _, _, _, _, hk, _ => absurd hk (Nat.not_lt_zero _)
  | 0, i, k + 1, I, hT, hd, hi, hk, hq => by
    have hH := hx.1
    rw [v_Plan_letTake_2]; dsimp only; rw [hT.1]
    exact z_y (nI_le (by omega) (by omega)) (hq I (fun _ _ _ => rfl) (fun h hh => hd h (by omega)))
  | r + 1, i, k + 1, I, hT, hd, hi, hk, hq => by
    have hH := hx.1
    have go : ∀ I4 : zI, I4 = qu I 74 i (nI (zbt0 t x1 i)) → v_Plan_letTake_2 5000 k x1 (nI (i + 1)) I4 J Q := fun I4 e4 => by
      have o4 : ∀ b j, b ≠ 74 → I4 b j = I b j := fun b j q => by rw [e4, qu_off (Or.inl q)]
      refine s_letTake_2 hx r (i + 1) k I4 (hT.kept (fun b j q1 q2 => o4 b j (by omega))) (fun h hh => ?_) (by omega) (by omega) (fun I' o' f' => hq I' (fun b j q => by rw [o' b j q, o4 b j q]) f')
      by_cases e : h = i
      · subst e; rw [e4, qu_same]
      · rw [e4, qu_off (Or.inr e)]; exact hd h (by omega)
    have v7 : vp_in (nI i) 7 := vp_in_nI (by omega) (by decide)
    obtain ⟨j, hj, ej⟩ := hx.2.2.1 i (by omega)
    rw [v_Plan_letTake_2]; dsimp only; rw [hT.1, nI_clamp (by omega), hT.2.2.1 i (by omega), nI_1, z_sh i (by omega), ej, z_sh j (by omega)]
    refine z_n (nI_ge (by omega) (by omega)) ⟨fun q => ⟨v7, fun I4 e4 => go I4 ?_⟩, fun q => ⟨v7, v7, fun I4 e4 => go I4 ?_⟩⟩
    · unfold zbt0; rw [if_pos q]; exact e4
    · unfold zbt0; rw [if_neg q, ej, nI_clamp (by omega)]; exact e4
/-- the costs of a person alone on a hanger, as a number -/
def zcs (t : zX) (s : zT) (p h : Nat) : Nat := min 99 (zlt2 t s 3 p h 0).toNatClampNeg
theorem zcs_n (t : zX) (s : zT) (p h : Nat) : zlt2 t s 3 p h 0 = nI (zcs t s p h) := by
  have : zin (zlt2 t s 3 p h 0) 100 := by
    unfold zlt2 zmost
    rw [if_neg (by decide)]
    exact zcl_in (m := 99) (by decide) _
  obtain ⟨j, hj, e⟩ := this
  unfold zcs
  rw [e, nI_clamp (by omega), Nat.min_eq_right (by omega)]
theorem zcs_le (t : zX) (s : zT) (p h : Nat) : zcs t s p h ≤ 99 := Nat.min_le_left _ _
abbrev frPl (I I' : zI) : Prop := ∀ b j, b ≠ 62 → b ≠ 63 → ¬ (68 ≤ b ∧ b ≤ 82) → I' b j = I b j
theorem zK.fPl {I I' : zI} {J : zJ} (e : frPl I I') : zK I I' J J := zK.of (fun b j q => by
  have := zE_out q
  exact e b j (by omega) (by omega) (by omega))
theorem s_lookC15 {J : zJ} {t : zX} {live p : Nat} {s : zT} (hp : p < xP t) {Q : zI → zJ → Prop} {K : Int32 → zI → zJ → Prop} : ∀ r i k (I : zI), zQ I t live s → (∀ h, h < i → I (68 + p) h = nI (zcs t s p h)) → i + r = xH t → r < k → (∀ I' : zI, (∀ b j, b ≠ 62 → b ≠ 63 → b ≠ 68 + p → I' b j = I b j) → (∀ h, h < xH t → I' (68 + p) h = nI (zcs t s p h)) → K (nI p) I' J) → v_Plan_lookAtCosts_15 5000 k 49 (nI p) (nI i) I J Q K
  | _, _, 0, _, _, _, _, hk, _ => absurd hk (Nat.not_lt_zero _)
  | 0, i, k + 1, I, hQ, hd, hi, hk, hq => by
    have hH := hQ.1.1.1
    rw [v_Plan_lookAtCosts_15]; dsimp only; rw [hQ.1.2.1.1]
    exact z_y (nI_le (by omega) (by omega)) (hq I (fun _ _ _ _ _ => rfl) (fun h hh => hd h (by omega)))
  | r + 1, i, k + 1, I, hQ, hd, hi, hk, hq => by
    have hH := hQ.1.1.1
    have hP := hQ.1.1.2.1
    rw [v_Plan_lookAtCosts_15]; dsimp only; rw [hQ.1.2.1.1]
    refine z_n (nI_ge (by omega) (by omega)) ⟨vp_in_nI (by omega) (by decide), s_costAlone hQ.1 hp (by omega) (fun I5 o5 => ⟨vp_in_nI (by omega) (by decide), fun I7 e7 => ?_⟩)⟩
    rw [nI_clamp (by omega), nI_clamp (by omega), zcs_n] at e7
    have o7 : ∀ b j, b ≠ 62 → b ≠ 63 → ¬ (b = 68 + p ∧ j = i) → I7 b j = I b j := fun b j q1 q2 q3 => by rw [e7, qu_off (by omega), o5 b j q1 q2]
    rw [nI_1]
    refine s_lookC15 hp r (i + 1) k I7 (hQ.kept (J := J) (J' := J) (zK.fPl (fun b j q1 q2 q3 => o7 b j q1 q2 (by omega)))) (fun h hh => ?_) (by omega) (by omega) (fun I' o' f' => hq I' (fun b j q1 q2 q3 => by rw [o' b j q1 q2 q3, o7 b j q1 q2 (by omega)]) f')
    by_cases e : h = i
    · subst e; rw [e7, qu_same]
    · rw [o7 _ _ (by omega) (by omega) (by omega)]; exact hd h (by omega)
theorem s_lookC2 {J : zJ} {t : zX} {live : Nat} {s : zT} {Q : zI → zJ → Prop} : ∀ r i k (I : zI), zQ I t live s → (∀ p h, p < i → h < xH t → I (68 + p) h = nI (zcs t s p h)) → i + r = xP t → r < k → (∀ I' : zI, frPl I I' → (∀ p h, p < xP t → h < xH t → I' (68 + p) h = nI (zcs t s p h)) → Q I' J) → v_Plan_lookAtCosts_2 5000 k 49 (nI i) I J Q
  | _, _, 0, _, _, _, _, hk, _ => absurd hk (Nat.not_lt_zero _)
  | 0, i, k + 1, I, hQ, hd, hi, hk, hq => by
    have hP := hQ.1.1.2.1
    rw [v_Plan_lookAtCosts_2]; dsimp only; rw [hQ.1.2.1.2.1]
    exact z_y (nI_le (by omega) (by omega)) (hq I (fun _ _ _ _ _ => rfl) (fun p h hp hh => hd p h (by omega) hh))
  | r + 1, i, k + 1, I, hQ, hd, hi, hk, hq => by
    have hP := hQ.1.1.2.1
    have hH := hQ.1.1.1
    rw [v_Plan_lookAtCosts_2]; dsimp only; rw [hQ.1.2.1.2.1]
    refine z_n (nI_ge (by omega) (by omega)) (s_lookC15 (live := live) (s := s) (by omega) (xH t) 0 5000 I hQ (fun h hh => absurd hh (Nat.not_lt_zero _)) (by omega) (by omega) (fun I1 o1 f1 => ?_))
    rw [nI_1]
    refine s_lookC2 r (i + 1) k I1 (hQ.kept (J := J) (J' := J) (zK.fPl (fun b j q1 q2 q3 => o1 b j q1 q2 (by omega)))) (fun p h hp hh => ?_) (by omega) (by omega) (fun I' o' f' => hq I' (fun b j q1 q2 q3 => by rw [o' b j q1 q2 q3, o1 b j q1 q2 (by omega)]) f')
    by_cases e : p = i
    · subst e; exact f1 h hh
    · rw [o1 _ _ (by omega) (by omega) (by omega)]; exact hd p h (by omega) hh
theorem s_lookC {I : zI} {J : zJ} {t : zX} {live : Nat} {s : zT} (hQ : zQ I t live s) {Q : zI → zJ → Prop} (hq : ∀ I' : zI, frPl I I' → (∀ p h, p < xP t → h < xH t → I' (68 + p) h = nI (zcs t s p h)) → Q I' J) : v_Plan_lookAtCosts 5000 49 I J Q := s_lookC2 (xP t) 0 5000 I hQ (fun p h hp => absurd hp (Nat.not_lt_zero _)) (by omega) (by have := hQ.1.1.2.1; omega) hq
/-- the class' table is filled -/
abbrev zBE (t : zX) (s : zT) (x x2 : Int32) : Nat → Nat → Nat × Nat := zbe (xH t) (xP t) (zal x2 (zbt0 t x)) (zbt0 t x) (zcs t s)
theorem s_findBest {I : zI} {J : zJ} {t : zX} {live : Nat} {s : zT} {x1 x2 : Int32} (hQ : zQ I t live s) (hc : ∀ p h, p < xP t → h < xH t → I (68 + p) h = nI (zcs t s p h)) {Q : Int32 → zI → zJ → Prop} (hq : ∀ I' : zI, (∀ b j, ¬ (74 ≤ b ∧ b ≤ 82) → I' b j = I b j) → zPl I' (xH t) (xP t) (zbt0 t x1) (zcs t s) → (∀ q, q ≤ xP t → zRw I' (zBE t s x1 x2) (xP t) q) → Q (zvC (zBE t s x1 x2 (xP t) 0)) I' J) : v_Plan_findBest 5000 x1 x2 I J Q := by
  have hH := hQ.1.1.1
  have hP := hQ.1.1.2.1
  unfold v_Plan_findBest v_Plan_letTake
  refine s_letTake_2 hQ.1.1 (xH t) 0 5000 I hQ.1.2.1 (fun h hh => absurd hh (Nat.not_lt_zero _)) (by omega) (by omega) (fun I1 o1 f1 => ?_)
  have h83 : I1 8 3 = nI (xP t) := by rw [o1 _ _ (by decide)]; exact hQ.1.2.1.2.1
  unfold v_Plan_clearLast
  rw [h83, nI_clamp (by omega)]
  refine ⟨vp_in_nI (by omega) (by decide), s_clearLast_15 128 0 5000 I1 (by omega) (by omega) (fun I2 o2 _ f2 y ey => ?_)⟩
  rw [o2 _ _ (by omega), h83] at ey
  rw [ey]
  have hI2 : zPl I2 (xH t) (xP t) (zbt0 t x1) (zcs t s) := ⟨by rw [o2 _ _ (by omega), o1 _ _ (by decide)]; exact hQ.1.2.1.1, by rw [o2 _ _ (by omega)]; exact h83, hH, hP, fun h hh => by rw [o2 _ _ (by omega)]; exact f1 h hh, fun h hh => zbt0_ok hQ.1.1 x1 hh, fun p h hp hh => by rw [o2 _ _ (by omega), o1 _ _ (by omega)]; exact hc p h hp hh, zcs_le t s⟩
  refine s_findBest_20 (xP t) 5000 I2 hI2 (Nat.le_refl _) (fun q h1 h2 T h3 h4 => ?_) (by omega) (fun I3 o3 h3 => hq I3 (fun b j q => by rw [o3 b j (by omega), o2 b j (by omega), o1 b j (by omega)]) (hI2.kept (fun b j q => o3 b j (Or.inl q))) h3)
  rw [show q = xP t by omega, f2 T (Nat.zero_le _) h3, Nat.sub_self, zbe]
  rfl
