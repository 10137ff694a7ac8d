/-! reading: the reference's names and numbers -/
section
variable {B : Nat → Nat} {n s : Nat}
def zWr2 (I : zI) (W : Nat × Nat) : Prop := I 361 15 = nI W.1 ∧ (W.1 ≠ 0 → I 361 16 = nI W.2) ∧ W.1 < 10 ∧ W.2 ≤ 2000
theorem zWr2.kept {I I' : zI} {W : Nat × Nat} (h : zWr2 I W) (e : ∀ l, l = 15 ∨ l = 16 → I' 361 l = I 361 l) : zWr2 I' W := ⟨by rw [e _ (by omega)]; exact h.1, fun z => by rw [e _ (by omega)]; exact h.2.1 z, h.2.2⟩
abbrev frKp (I I' : zI) : Prop := ∀ b l, ¬ (b = 361 ∧ (l = 15 ∨ l = 16)) → I' b l = I b l
theorem m_wrong {I : zI} {J : zJ} {i j k : Nat} {W : Nat × Nat} (hn : n ≤ 2000) (hM : zM I J B n s i) (hj : j ≤ 400) (hpl : I 365 j = nI (zpsn B n j)) (hW : zWr2 I W) (hk : k < 10) (hk0 : 0 < k) (hp : W.1 ≠ 0 → W.2 < zpsn B n j ∨ (W.2 = zpsn B n j ∧ W.1 = k)) {Q : zI → zJ → Prop} (hq : ∀ I' : zI, frKp I I' → zWr2 I' (zkeep k (zpsn B n j) W) → Q I' J) : v_M_wrong 5000 (nI k) (nI j) I J Q := by
  have hle := zpsn_le B n j
  obtain ⟨w1, w2, w3, w4⟩ := id hW
  unfold v_M_wrong
  rw [nI_clamp (by omega), hpl]
  refine ⟨vp_in_nI (by omega) (by decide), fun y ey => ?_⟩
  rw [ey, hM.2.1, w1]
  refine z_n (Int32.lt_irrefl) ?_
  unfold zkeep at hq
  refine ⟨fun q I5 e5 I6 e6 => ?_, fun q => ?_⟩
  · rw [if_pos ((nI_eq (b := 0) (by omega) (by decide)).mp q)] at hq
    exact hq I6 (fun b l q => by rw [e6, qu_off (by omega), e5, qu_off (by omega)]) ⟨by rw [e6, qu_off (by decide), e5, qu_same], fun _ => by rw [e6, qu_same], hk, by show zpsn B n j ≤ 2000; omega⟩
  · have q : ¬ W.1 = 0 := fun z => q (by rw [z]; rfl)
    rw [if_neg q] at hq
    have := hq I (fun _ _ _ => rfl) hW
    rw [w2 q]
    rcases hp q with z | ⟨z1, z2⟩
    · exact z_y (nI_lt z (by omega)) this
    · rw [z1]
      refine z_n (Int32.lt_irrefl) (z_yr rfl (z_n ?_ this))
      rw [z2]; exact Int32.lt_irrefl
theorem m_bounded {I : zI} {J : zJ} {i m : Nat} {W : Nat × Nat} (hn : n ≤ 2000) (hM : zM I J B n s i) (hW : zWr2 I W) (hm : m < 100000) (hp : W.1 ≠ 0 → W.2 < zpsn B n i) {Q : Int32 → zI → zJ → Prop} (hok : ∀ j, zpass (tK B n) 4 i = .inr j → ∀ I' : zI, (∀ b l, ¬ (b = 361 ∧ (l = 11 ∨ l = 13 ∨ l = 14 ∨ l = 15 ∨ l = 16)) → I' b l = I b l) → zM I' J B n s j → zWr2 I' (znum (tV B n) (zpsn B n) m i W) → Q (tV B n i).toInt32 I' J) (hbad : ∀ k j, zpass (tK B n) 4 i = .inl (k, j) → ∀ (I' : zI) (r : Int32), (∀ b l, ¬ (b = 361 ∧ (l = 11 ∨ l = 13 ∨ l = 14 ∨ l = 15 ∨ l = 16)) → I' b l = I b l) → zDe I' B n k j → Q r I' J) : v_M_bounded 5000 0 (nI m) I J Q := by
  have h400 := hM.2.2.2.2.2.1
  unfold v_M_bounded
  refine z_n (by rw [hM.2.1]; exact Int32.lt_irrefl) (m_is hM (c := 4) rfl (by unfold zkv; omega) (fun q => z_nr z_10 ?_) (fun q => z_yr z_00 ?_))
  · obtain ⟨v, hv, ev⟩ := tK_int q
    have ez : zpass (tK B n) 4 i = zgo i := by unfold zpass; rw [if_pos q]
    rw [ez] at hok hbad
    rw [hM.1, nI_clamp (by omega), hM.tk.2.2.1 q, ev, lN_i]
    rw [ev, lN_i] at hok
    unfold znum at hok
    rw [ev] at hok
    have nx : ∀ (I1 : zI) (W1 : Nat × Nat), frKp I I1 → zWr2 I1 W1 → W1 = (if lN m < lN v then zkeep 5 (zpsn B n i) W else W) → v_M_goesOn 5000 I1 J (fun I10 J10 => Q (nI v) I10 J10) := fun I1 W1 o1 w1 e1 => by
      refine m_goesOn (hM.kept (fun b l q => o1 b l (by omega)) (fun _ => rfl)) (by omega) (fun j ej I2 o2 m2 => hok j ej I2 (fun b l q => by rw [o2 b l (by omega), o1 b l (by omega)]) m2 ?_) (fun k j ej I2 o2 d2 => hbad k j ej I2 _ (fun b l q => by rw [o2 b l (by omega), o1 b l (by omega)]) d2)
      rw [← e1]
      exact w1.kept (fun l q => o2 _ _ (by omega))
    refine ⟨vp_in_nI (by omega) (by decide), fun y ey => ?_⟩
    rw [ey]
    refine z_n (nI_pos (by omega)) ⟨fun q2 => ?_, fun q2 => ?_⟩
    · have q2 := (nI_leI (by omega) (by omega)).mp q2
      exact nx I W (fun _ _ _ => rfl) hW (by rw [if_neg (fun z => by have := (lN_lt (by omega) (by omega)).mp z; omega)])
    · have q2 : ¬ v ≤ m := fun z => q2 (nI_le z (by omega))
      exact m_wrong (k := 5) hn hM h400 hM.tk.2.1 hW (by decide) (by decide) (fun z => Or.inl (hp z)) (fun I1 o1 w1 => nx I1 _ o1 w1 (by rw [if_pos ((lN_lt (by omega) (by omega)).mpr (by omega))]))
  · have ez : zpass (tK B n) 4 i = .inl (1, i) := by unfold zpass; rw [if_neg q]
    exact m_fail (k := 1) hM (fun I' o' d' => hbad 1 i ez I' 0 (fun b l q => o' b l (by omega)) d')
theorem m_bounded_d {I : zI} {J : zJ} {k j : Nat} {x : Int32} (hD : zDe I B n k j) {Q : Int32 → zI → zJ → Prop} (hq : Q 0 I J) : v_M_bounded 5000 0 x I J Q := by
  refine z_y ?_ (m_fail_d hD hq)
  rw [hD.1]
  exact nI_lt (a := 0) (by have := hD.2.1; omega) (by have := hD.2.1; omega)
/-! names -/
def zlk (nf : Nat → Int64) (af : Nat → Nat) (w : Int64) (t : Nat) : Nat → Nat → Option Nat
  | 0, _ => none
  | r + 1, i => if nf i = w ∧ t ≤ af i ∧ af i < t + 10 then some (af i - t) else zlk nf af w t r (i + 1)
def zany (nf : Nat → Int64) (w : Int64) : Nat → Nat → Bool
  | 0, _ => false
  | r + 1, i => if nf i = w then true else zany nf w r (i + 1)
theorem zlk_app {nf : Nat → Int64} {af : Nat → Nat} {w : Int64} {t : Nat} : ∀ r i, zlk nf af w t (r + 1) i = (zlk nf af w t r i).or (if nf (i + r) = w ∧ t ≤ af (i + r) ∧ af (i + r) < t + 10 then some (af (i + r) - t) else none)
  | 0, i => by
    show (if _ then some (af i - t) else none) = Option.or none _
    rw [Option.none_or]; rfl
  | r + 1, i => by
    rw [zlk, zlk_app r (i + 1), zlk]
    have e : i + 1 + r = i + (r + 1) := by omega
    rw [e]
    split
    · rw [Option.some_or]
    · rfl
theorem zidx_app {f : Nat → Int64} {w : Int64} : ∀ r i, zidx f w (r + 1) i = (zidx f w r i).or (if f (i + r) = w then some (i + r) else none)
  | 0, i => by
    show (if _ then some i else none) = Option.or none _
    rw [Option.none_or]; rfl
  | r + 1, i => by
    rw [zidx, zidx_app r (i + 1), zidx]
    have e : i + 1 + r = i + (r + 1) := by omega
    rw [e]
    split
    · rw [Option.some_or]
    · rfl
theorem zany_app {nf : Nat → Int64} {w : Int64} : ∀ r i, zany nf w (r + 1) i = (zany nf w r i || decide (nf (i + r) = w))
  | 0, i => by
    show (if nf i = w then true else false) = (false || decide (nf (i + 0) = w))
    rw [Bool.false_or]
    by_cases h : nf i = w
    · rw [if_pos h]; exact (decide_eq_true h).symm
    · rw [if_neg h]; exact (decide_eq_false h).symm
  | r + 1, i => by
    rw [zany, zany_app r (i + 1), zany]
    have e : i + 1 + r = i + (r + 1) := by omega
    rw [e]
    split
    · rfl
    · rfl
theorem zlk_cg {nf nf' : Nat → Int64} {af af' : Nat → Nat} {w : Int64} {t : Nat} : ∀ r i, (∀ j, i ≤ j → j < i + r → nf j = nf' j ∧ af j = af' j) → zlk nf af w t r i = zlk nf' af' w t r i
  | 0, _, _ => rfl
  | r + 1, i, h => by
    obtain ⟨e1, e2⟩ := h i (Nat.le_refl _) (by omega)
    rw [zlk, zlk, e1, e2, zlk_cg r (i + 1) (fun j h1 h2 => h j (by omega) (by omega))]
theorem zany_cg {nf nf' : Nat → Int64} {w : Int64} : ∀ r i, (∀ j, i ≤ j → j < i + r → nf j = nf' j) → zany nf w r i = zany nf' w r i
  | 0, _, _ => rfl
  | r + 1, i, h => by
    rw [zany, zany, h i (Nat.le_refl _) (by omega), zany_cg r (i + 1) (fun j h1 h2 => h j (by omega) (by omega))]
def zNm (I : zI) (J : zJ) (g : zG) (af : Nat → Nat) : Prop := I 361 20 = nI ((gH g).1 + (gP g).1) ∧ (∀ k, k < (gH g).1 + (gP g).1 → I 370 k = nI (af k) ∧ af k < 20) ∧ (∀ w, zlk (J 369) af w 0 ((gH g).1 + (gP g).1) 0 = zidx (gH g).2.1 w (gH g).1 0) ∧ (∀ w, zlk (J 369) af w 10 ((gH g).1 + (gP g).1) 0 = zidx (gP g).2.1 w (gP g).1 0) ∧ ∀ w, zany (J 369) w ((gH g).1 + (gP g).1) 0 = ztold g w
theorem zNm.kept {I I' : zI} {J J' : zJ} {g : zG} {af : Nat → Nat} (h : zNm I J g af) (e : I' 361 20 = I 361 20) (e2 : ∀ j, I' 370 j = I 370 j) (f : J' 369 = J 369) : zNm I' J' g af := ⟨by rw [e]; exact h.1, fun k hk => by rw [e2]; exact h.2.1 k hk, by rw [f]; exact h.2.2.1, by rw [f]; exact h.2.2.2.1, by rw [f]; exact h.2.2.2.2⟩
theorem zkeep2 (k p : Nat) (W : Nat × Nat) (hk : k ≠ 0) : zkeep k p (zkeep k p W) = zkeep k p W := by
  by_cases h : W.1 = 0
  · have e : zkeep k p W = (k, p) := if_pos h
    rw [e]
    exact if_neg hk
  · have e : zkeep k p W = W := if_neg h
    rw [e, e]
theorem zkeep_p {k p : Nat} {W : Nat × Nat} (hW : W.1 ≠ 0 → W.2 < p) : (zkeep k p W).1 ≠ 0 → (zkeep k p W).2 < p ∨ ((zkeep k p W).2 = p ∧ (zkeep k p W).1 = k) := by
  unfold zkeep
  by_cases h : W.1 = 0
  · rw [if_pos h]; exact fun _ => Or.inr ⟨rfl, rfl⟩
  · rw [if_neg h]; exact fun _ => Or.inl (hW h)
theorem m_named12 {J : zJ} {i0 i N : Nat} {W : Nat × Nat} (hn : n ≤ 2000) (hN : N ≤ 13) (hi0 : i0 ≤ 400) (hnm : J 367 i0 = tV B n i0) (hp : W.1 ≠ 0 → W.2 < zpsn B n i0) {Q : Int32 → zI → zJ → Prop} : ∀ r k f (fl : Bool) (I : zI), zM I J B n s i → I 361 20 = nI N → I 365 i0 = nI (zpsn B n i0) → zWr2 I (if fl = true then zkeep 3 (zpsn B n i0) W else W) → k + r = N → r < f → (∀ I' : zI, frKp I I' → zWr2 I' (if (fl || zany (J 369) (tV B n i0) r k) = true then zkeep 3 (zpsn B n i0) W else W) → Q (nI i0) I' J) → v_M_named_12 5000 f (nI i0) (nI k) I J Q
  | _, _, 0, _, _, _, _, _, _, _, hf, _ => absurd hf (Nat.not_lt_zero _)
  | 0, k, f + 1, fl, I, hM, h20, h365, hW, hk, hf, hq => by
    rw [v_M_named_12]; dsimp only; rw [h20]
    refine z_y (nI_le (by omega) (by omega)) (hq I (fun _ _ _ => rfl) ?_)
    rw [zany, Bool.or_false]
    exact hW
  | r + 1, k, f + 1, fl, I, hM, h20, h365, hW, hk, hf, hq => by
    rw [v_M_named_12]; dsimp only; rw [h20, nI_clamp (by omega), nI_clamp (by omega), hnm, z_cmp0, nI_1]
    rw [zany] at hq
    refine z_n (nI_ge (by omega) (by omega)) (z_yr hM.2.1 ⟨vp_in_nI (by omega) (by decide), vp_in_nI (by omega) (by decide), fun q => ?_, fun q => ?_⟩)
    · rw [if_neg q] at hq
      exact m_named12 hn hN hi0 hnm hp r (k + 1) f fl I hM h20 h365 hW (by omega) (by omega) hq
    · rw [if_pos q, Bool.or_true] at hq
      have hpp : (if fl = true then zkeep 3 (zpsn B n i0) W else W).1 ≠ 0 → (if fl = true then zkeep 3 (zpsn B n i0) W else W).2 < zpsn B n i0 ∨ ((if fl = true then zkeep 3 (zpsn B n i0) W else W).2 = zpsn B n i0 ∧ (if fl = true then zkeep 3 (zpsn B n i0) W else W).1 = 3) := by
        cases fl with
        | true => exact zkeep_p hp
        | false => exact fun z => Or.inl (hp z)
      refine m_wrong (k := 3) hn hM hi0 h365 hW (by decide) (by decide) hpp (fun I1 o1 w1 => ?_)
      have ew : zkeep 3 (zpsn B n i0) (if fl = true then zkeep 3 (zpsn B n i0) W else W) = zkeep 3 (zpsn B n i0) W := by
        cases fl with
        | true => exact zkeep2 3 _ W (by decide)
        | false => rfl
      rw [ew] at w1
      refine m_named12 hn hN hi0 hnm hp r (k + 1) f true I1 (hM.kept (fun b l q => o1 b l (by omega)) (fun _ => rfl)) (by rw [o1 _ _ (by omega)]; exact h20) (by rw [o1 _ _ (by omega)]; exact h365) w1 (by omega) (by omega) (fun I' o' w' => hq I' (fun b l q => by rw [o' b l q, o1 b l q]) ?_)
      rw [Bool.true_or] at w'
      exact w'
theorem m_named {I : zI} {J : zJ} {i : Nat} {g : zG} {af : Nat → Nat} (hn : n ≤ 2000) (hM : zM I J B n s i) (hN : zNm I J g af) (hl : (gH g).1 + (gP g).1 ≤ 13) (hW : zWr2 I (gW g)) (hp : (gW g).1 ≠ 0 → (gW g).2 < zpsn B n i) {Q : Int32 → zI → zJ → Prop} (hok : ∀ j, zpass (tK B n) 3 i = .inr j → ∀ I' : zI, (∀ b l, ¬ (b = 361 ∧ (l = 11 ∨ l = 13 ∨ l = 14 ∨ l = 15 ∨ l = 16)) → I' b l = I b l) → zM I' J B n s j → zWr2 I' (if ztold g (tV B n i) = true then zkeep 3 (zpsn B n i) (gW g) else gW g) → Q (nI i) I' J) (hbad : ∀ k j, zpass (tK B n) 3 i = .inl (k, j) → ∀ I' : zI, frP I I' → zDe I' B n k j → Q (nI i) I' J) : v_M_named 5000 I J Q := by
  have h400 := hM.2.2.2.2.2.1
  intro y ey
  rw [ey, hM.1]
  refine m_must hM (c := 3) rfl (by unfold zkv; omega) (by decide) (fun j ej I1 o1 m1 => ?_) (fun k j ej I1 o1 d1 => ?_)
  · have hk3 := (zpass_r ej).1
    refine m_named12 (W := gW g) hn hl h400 (hM.tk.2.2.2 hk3) hp ((gH g).1 + (gP g).1) 0 5000 false I1 m1 (by rw [o1 _ _ (by omega)]; exact hN.1) (by rw [o1 _ _ (by omega)]; exact hM.tk.2.1) (hW.kept (fun l q => o1 _ _ (by omega))) (by omega) (by omega) (fun I2 o2 w2 => hok j ej I2 (fun b l q => by rw [o2 b l (by omega), o1 b l (by omega)]) (m1.kept (fun b l q => o2 b l (by omega)) (fun _ => rfl)) ?_)
    rw [Bool.false_or, hN.2.2.2.2] at w2
    exact w2
  · rw [v_M_named_12]
    exact ⟨fun _ => hbad k j ej I1 o1 d1, fun _ => z_nr (fun z => d1.ne z) (hbad k j ej I1 o1 d1)⟩
theorem m_known21 {I : zI} {J : zJ} {i0 i N t : Nat} {af : Nat → Nat} {W : Nat × Nat} (hn : n ≤ 2000) (hN : N ≤ 13) (ht : t ≤ 10) (hi0 : i0 ≤ 400) (hnm : J 367 i0 = tV B n i0) (hp : W.1 ≠ 0 → W.2 < zpsn B n i0) (hM : zM I J B n s i) (h20 : I 361 20 = nI N) (h365 : I 365 i0 = nI (zpsn B n i0)) (hW : zWr2 I W) (ha : ∀ k, k < N → I 370 k = nI (af k) ∧ af k < 20) {Q : Int32 → zI → zJ → Prop} : ∀ r k f, k + r = N → r < f → (∀ I' : zI, frKp I I' → zWr2 I' ((zlk (J 369) af (tV B n i0) t r k).elim (zkeep 4 (zpsn B n i0) W) (fun _ => W)) → Q (zo1 (zlk (J 369) af (tV B n i0) t r k)) I' J) → v_M_known_21 5000 f (nI t) (nI i0) (nI k) I J Q
  | _, _, 0, _, hf, _ => absurd hf (Nat.not_lt_zero _)
  | 0, k, f + 1, hk, hf, hq => by
    rw [v_M_known_21]; dsimp only; rw [h20]
    exact z_y (nI_le (by omega) (by omega)) (m_wrong (k := 4) hn hM hi0 h365 hW (by decide) (by decide) (fun z => Or.inl (hp z)) (fun I1 o1 w1 => hq I1 o1 w1))
  | r + 1, k, f + 1, hk, hf, hq => by
    obtain ⟨a1, a2⟩ := ha k (by omega)
    rw [v_M_known_21]; dsimp only; rw [h20, nI_clamp (by omega), nI_clamp (by omega), hnm, z_cmp0, nI_1, a1, show nI t + 10 = nI (t + 10) from nI_add t 10]
    rw [zlk] at hq
    have hgo := m_known21 hn hN ht hi0 hnm hp hM h20 h365 hW ha (Q := Q) r (k + 1) f (by omega) (by omega)
    refine z_n (nI_ge (by omega) (by omega)) ⟨vp_in_nI (by omega) (by decide), vp_in_nI (by omega) (by decide), fun q => ?_, fun q => ⟨vp_in_nI (by omega) (by decide), fun q2 => ?_, fun q2 => ⟨fun q3 => ?_, fun q3 => ?_⟩⟩⟩
    · rw [if_neg (fun z => q z.1)] at hq
      exact hgo hq
    · have := (nI_ltI (by omega) (by omega)).mp q2
      rw [if_neg (by omega)] at hq
      exact hgo hq
    · have := (nI_leI (by omega) (by omega)).mp q3
      rw [if_neg (by omega)] at hq
      exact hgo hq
    · have h1 : ¬ af k < t := fun z => q2 (nI_lt z (by omega))
      have h2 : ¬ t + 10 ≤ af k := fun z => q3 (nI_le z (by omega))
      rw [if_pos ⟨q, by omega, by omega⟩] at hq
      rw [nI_sub (by omega)]
      exact hq I (fun _ _ _ => rfl) hW
theorem m_known {I : zI} {J : zJ} {i t : Nat} {g : zG} {af : Nat → Nat} {W : Nat × Nat} (hn : n ≤ 2000) (hM : zM I J B n s i) (hN : zNm I J g af) (hl : (gH g).1 + (gP g).1 ≤ 13) (ht : t ≤ 10) (hW : zWr2 I W) (hp : W.1 ≠ 0 → W.2 < zpsn B n i) {Q : Int32 → zI → zJ → Prop} (hok : ∀ j, zpass (tK B n) 3 i = .inr j → ∀ I' : zI, (∀ b l, ¬ (b = 361 ∧ (l = 11 ∨ l = 13 ∨ l = 14 ∨ l = 15 ∨ l = 16)) → I' b l = I b l) → zM I' J B n s j → zWr2 I' ((zlk (J 369) af (tV B n i) t ((gH g).1 + (gP g).1) 0).elim (zkeep 4 (zpsn B n i) W) (fun _ => W)) → Q (zo1 (zlk (J 369) af (tV B n i) t ((gH g).1 + (gP g).1) 0)) I' J) (hbad : ∀ k j, zpass (tK B n) 3 i = .inl (k, j) → ∀ I' : zI, frP I I' → zDe I' B n k j → Q (-1) I' J) : v_M_known 5000 (nI t) I J Q := by
  have h400 := hM.2.2.2.2.2.1
  intro y ey
  rw [ey, hM.1]
  refine m_must hM (c := 3) rfl (by unfold zkv; omega) (by decide) (fun j ej I1 o1 m1 => z_y m1.le ?_) (fun k j ej I1 o1 d1 => z_n d1.nle (hbad k j ej I1 o1 d1))
  have hk3 := (zpass_r ej).1
  exact m_known21 hn hl ht h400 (hM.tk.2.2.2 hk3) hp m1 (by rw [o1 _ _ (by omega)]; exact hN.1) (by rw [o1 _ _ (by omega)]; exact hM.tk.2.1) (hW.kept (fun l q => o1 _ _ (by omega))) (fun k hk => by rw [o1 _ _ (by omega)]; exact hN.2.1 k hk) ((gH g).1 + (gP g).1) 0 5000 (by omega) (by omega) (fun I2 o2 w2 => hok j ej I2 (fun b l q => by rw [o2 b l (by omega), o1 b l (by omega)]) (m1.kept (fun b l q => o2 b l (by omega)) (fun _ => rfl)) w2)
theorem m_known_d {I : zI} {J : zJ} {k j : Nat} {x : Int32} (hD : zDe I B n k j) {Q : Int32 → zI → zJ → Prop} (hq : Q (-1) I J) : v_M_known 5000 x I J Q := fun _ _ => m_must_d hD (z_n hD.nle hq)
end
