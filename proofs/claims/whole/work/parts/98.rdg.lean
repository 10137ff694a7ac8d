/-! reading: the class' names, numbers, tells -/
section
variable {B : Nat → Nat} {n : Nat}
def zo1 (o : Option Nat) : Int32 := o.elim (-1) nI
theorem zidx_cg {f f' : Nat → Int64} {w : Int64} : ∀ r i, (∀ j, i ≤ j → j < i + r → f j = f' j) → zidx f w r i = zidx f' w r i
  | 0, _, _ => rfl
  | r + 1, i, h => by
    rw [zidx, zidx, h i (Nat.le_refl _) (by omega), zidx_cg r (i + 1) (fun j h1 h2 => h j (by omega) (by omega))]
theorem zidx_lt {f : Nat → Int64} {w : Int64} : ∀ r i j, zidx f w r i = some j → i ≤ j ∧ j < i + r
  | 0, _, _, h => by cases h
  | r + 1, i, j, h => by
    rw [zidx] at h
    split at h
    · cases h; omega
    · have := zidx_lt r (i + 1) j h; omega
theorem s_indexOf2 {I : zI} {J : zJ} {x m : Nat} {w : Int64} (hw : J 26 3 = w) (hx : m ≤ zlen x) (hx2 : zlen x < 100) {Q : Int32 → zI → zJ → Prop} : ∀ r i k, i + r = m → r < k → Q (zo1 (zidx (J x) w r i)) I J → v_Reader_indexOf_2 5000 k x (nI m) (nI i) I J Q
  | _, _, 0, _, hk, _ => absurd hk (Nat.not_lt_zero _)
  | 0, i, k + 1, hi, hk, hq => z_y (nI_le (by omega) (by omega)) hq
  | r + 1, i, k + 1, hi, hk, hq => by
    rw [v_Reader_indexOf_2]; dsimp only; rw [nI_clamp (by omega), hw, nI_1, z_cmp0]
    rw [zidx] at hq
    refine z_n (nI_ge (by omega) (by omega)) (z_n (nI_ge (by omega) (by omega)) ⟨vp_in_nI (by omega) (by omega), fun q => ?_, fun q => ?_⟩)
    · rw [if_neg q] at hq
      exact s_indexOf2 hw hx hx2 r (i + 1) k (by omega) (by omega) hq
    · rw [if_pos q] at hq
      exact hq
/-! what the draft holds -/
def zGb (I : zI) (J : zJ) (s x a b lim : Nat) (bk : zBk) : Prop := I 27 s = nI bk.1 ∧ bk.1 ≤ lim ∧ ∀ j, j < bk.1 → J x j = bk.2.1 j ∧ I a j = bk.2.2.1 j ∧ I b j = bk.2.2.2 j
def zGG (I : zI) (g : Nat × (Nat → Int32)) : Prop := I 26 8 = nI g.1 ∧ g.1 ≤ 6 ∧ ∀ p, p < 6 → I 32 p = g.2 p
def zGL (I : zI) (L : Nat → Option zLw) : Prop := ∀ k, k < 4 → rCLaw I (33 + 3 * k) ((L k).getD (zplain k))
def zGM (I : zI) (M : Int32 × Int32) : Prop := I 27 11 = M.1 ∧ I 27 12 = M.2
def zWk (I : zI) (W : Nat × Nat) : Prop := I 26 10 = nI W.1 ∧ (W.1 ≠ 0 → I 26 11 = nI W.2) ∧ W.1 < 10
def zGc (I : zI) (J : zJ) (g : zG) : Prop := zGb I J 0 45 28 29 7 (gH g) ∧ zGb I J 3 46 30 31 6 (gP g) ∧ zGG I (gG g) ∧ zGL I (gL g) ∧ zGM I (gM g) ∧ zWk I (gW g) ∧ I 26 12 = 0 ∧ I 26 13 = -1
theorem zGb.kept {I I' : zI} {J J' : zJ} {s x a b lim : Nat} {bk : zBk} (h : zGb I J s x a b lim bk) (e : I' 27 s = I 27 s) (ea : ∀ j, I' a j = I a j) (eb : ∀ j, I' b j = I b j) (f : ∀ j, J' x j = J x j) : zGb I' J' s x a b lim bk := ⟨by rw [e]; exact h.1, h.2.1, fun j hj => by rw [f, ea, eb]; exact h.2.2 j hj⟩
theorem zGG.kept {I I' : zI} {g : Nat × (Nat → Int32)} (h : zGG I g) (e : I' 26 8 = I 26 8) (e2 : ∀ j, I' 32 j = I 32 j) : zGG I' g := ⟨by rw [e]; exact h.1, h.2.1, fun p hp => by rw [e2]; exact h.2.2 p hp⟩
theorem rCLaw.kept {I I' : zI} {a : Nat} {w : zLw} (h : rCLaw I a w) (e : ∀ b j, a ≤ b → b ≤ a + 2 → I' b j = I b j) : rCLaw I' a w := ⟨h.1, by rw [e _ _ (by omega) (by omega)]; exact h.2.1, fun i q hq => by rw [e _ _ (by omega) (by omega), e _ _ (by omega) (by omega)]; exact h.2.2 i q hq⟩
theorem zGL.kept {I I' : zI} {L : Nat → Option zLw} (h : zGL I L) (e : ∀ b j, 33 ≤ b → b ≤ 44 → I' b j = I b j) : zGL I' L := fun k hk => (h k hk).kept (fun b j q1 q2 => e b j (by omega) (by omega))
theorem zGM.kept {I I' : zI} {M : Int32 × Int32} (h : zGM I M) (e : I' 27 11 = I 27 11) (e2 : I' 27 12 = I 27 12) : zGM I' M := ⟨by rw [e]; exact h.1, by rw [e2]; exact h.2⟩
theorem zWk.kept {I I' : zI} {W : Nat × Nat} (h : zWk I W) (e : ∀ j, j = 10 ∨ j = 11 → I' 26 j = I 26 j) : zWk I' W := ⟨by rw [e _ (by omega)]; exact h.1, fun z => by rw [e _ (by omega)]; exact h.2.1 z, h.2.2⟩
theorem s_keepF {I : zI} {J : zJ} {i k : Nat} {W : Nat × Nat} (hC : zC I J B n i) (hW : zWk I W) (hk : k < 10) {Q : zI → zJ → Prop} (hq : ∀ I' : zI, (∀ b j, ¬ (b = 26 ∧ (j = 10 ∨ j = 11)) → I' b j = I b j) → zWk I' (zkeep k (zpsn B n i) W) → Q I' J) : v_Reader_keepFault 5000 (nI k) I J Q := by
  obtain ⟨h1, h2, h3, h4, h5, h6⟩ := hC
  unfold v_Reader_keepFault
  rw [hW.1]
  unfold zkeep at hq
  refine ⟨fun q => ?_, fun q => ?_⟩
  · rw [if_neg (fun z => q (by rw [z]; rfl))] at hq
    exact hq I (fun _ _ _ => rfl) hW
  · have := hW.2.2
    rw [if_pos ((nI_eq (b := 0) (by omega) (by decide)).mp q)] at hq
    intro I2 e2
    have o2 : ∀ b l, ¬ (b = 26 ∧ l = 10) → I2 b l = I b l := fun b l q => by rw [e2, qu_off (by omega)]
    rw [o2 _ _ (by omega), h1, nI_clamp (by omega), o2 6 _ (by omega), (h4 i h5 h6).2.1]
    refine ⟨vp_in_nI (by omega) (by decide), fun I4 e4 => hq I4 (fun b l q => by rw [e4, qu_off (by omega), o2 b l (by omega)]) ⟨by rw [e4, qu_off (by decide), e2, qu_same], fun _ => by rw [e4, qu_same], hk⟩⟩
theorem z_cmple (x y : Int64) : lg_cmp x y ≤ 0 ↔ ¬ y < x := by
  unfold lg_cmp
  by_cases h : x > y
  · rw [if_pos h]
    exact ⟨fun q => absurd q (by decide), fun q => absurd h q⟩
  · rw [if_neg h]
    by_cases h2 : x = y
    · rw [if_pos h2]; exact ⟨fun _ => h, fun _ => by decide⟩
    · rw [if_neg h2]; exact ⟨fun _ => h, fun _ => by decide⟩
theorem s_number {I : zI} {J : zJ} {i m : Nat} {W : Nat × Nat} (hC : zC I J B n i) (hW : zWk I W) (hm : m < 100000) {Q : Int32 → zI → zJ → Prop} (hok : ∀ j, zpass (tK B n) 4 i = .inr j → ∀ (I' : zI) (J' : zJ), (∀ b l, ¬ (b = 26 ∧ (l = 1 ∨ l = 2 ∨ l = 4 ∨ l = 10 ∨ l = 11)) → I' b l = I b l) → frGJ J J' → zC I' J' B n j → I' 26 4 = (tV B n i).toInt32 → zWk I' (znum (tV B n) (zpsn B n) m i W) → Q 1 I' J') (hbad : ∀ k j, zpass (tK B n) 4 i = .inl (k, j) → ∀ (I' : zI) (J' : zJ), zBd I J B n k j I' J' → Q 0 I' J') : v_Reader_readNumber 5000 (nI m) I J Q := by
  have fin : ∀ (I1 : zI) (W1 : Nat × Nat), (∀ b l, ¬ (b = 26 ∧ (l = 10 ∨ l = 11)) → I1 b l = I b l) → zWk I1 W1 → (tK B n i = 4 → W1 = znum (tV B n) (zpsn B n) m i W) → ∀ I2 : zI, I2 = qu I1 26 4 ((J 26 3).toInt32) → v_Reader_pass 5000 4 I2 J (fun r3 I4 J4 => qzb r3 ∧ Q r3 I4 J4) := fun I1 W1 o1 w1 hw I2 e2 => by
    have o2 : ∀ b l, ¬ (b = 26 ∧ (l = 4 ∨ l = 10 ∨ l = 11)) → I2 b l = I b l := fun b l q => by rw [e2, qu_off (by omega), o1 b l (by omega)]
    refine s_pass (c := 4) (hC.kept (fun b l q => o2 b l (by omega)) (fun _ _ _ => rfl)) (by decide) (by decide) (fun j ej I3 J3 o3 p3 c3 => ⟨Or.inr rfl, hok j ej I3 J3 (fun b l q => by rw [o3 b l (by omega), o2 b l (by omega)]) p3 c3 ?_ ?_⟩) (fun k j ej I3 b3 => ⟨Or.inl rfl, hbad k j ej I3 J (b3.from (fun b l q => o2 b l (by omega)) (fun _ _ _ _ _ => rfl))⟩)
    · rw [o3 _ _ (by omega), e2, qu_same, hC.2.2.1]
    · rw [← hw (zpass_r ej).1]
      exact w1.kept (fun j q => by rw [o3 _ _ (by omega), e2, qu_off (by omega)])
  unfold v_Reader_readNumber
  rw [hC.2.1]
  refine ⟨fun q => fin I W (fun _ _ _ => rfl) hW (fun z => absurd ((tK_is (c := 4) (by decide)).mpr z) q), fun q => ?_⟩
  rw [nI_l (by omega), z_cmple, hC.2.2.1]
  refine ⟨fun q2 => ?_, fun q2 => ?_⟩
  · rw [← hC.2.2.1]
    exact fin I W (fun _ _ _ => rfl) hW (fun _ => by unfold znum; rw [if_neg q2])
  · have q2 := Classical.not_not.mp q2
    exact s_keepF (k := 5) hC hW (by decide) (fun I1 o1 w1 => fin I1 _ o1 w1 (fun _ => by unfold znum; rw [if_pos q2]))
theorem ztold_c {I : zI} {J : zJ} {g : zG} (hH : zGb I J 0 45 28 29 7 (gH g)) (hP : zGb I J 3 46 30 31 6 (gP g)) {i : Nat} (hC : zC I J B n i) {Q : Int32 → zI → zJ → Prop} (h1 : ztold g (tV B n i) = true → Q 1 I J) (h0 : ¬ ztold g (tV B n i) = true → Q 0 I J) : v_Reader_isNameTold 5000 I J Q := by
  have l1 := hH.2.1
  have l2 := hP.2.1
  unfold ztold at h1 h0
  rw [← zidx_cg (f := J 45) (f' := (gH g).2.1) (gH g).1 0 (fun j _ hj => (hH.2.2 j (by omega)).1), ← zidx_cg (f := J 46) (f' := (gP g).2.1) (gP g).1 0 (fun j _ hj => (hP.2.2 j (by omega)).1)] at h1 h0
  unfold v_Reader_isNameTold
  rw [hH.1]
  refine s_indexOf2 (x := 45) hC.2.2.1 l1 (by decide) (gH g).1 0 5000 (by omega) (by omega) ?_
  cases e1 : zidx (J 45) (tV B n i) (gH g).1 0 with
  | some h =>
    rw [e1] at h1
    have := (zidx_lt _ _ _ e1).2
    exact z_y (nI_pos' (by omega)) (h1 rfl)
  | none =>
    rw [e1] at h1 h0
    refine z_n (by decide) ?_
    rw [hP.1]
    refine s_indexOf2 (x := 46) hC.2.2.1 l2 (by decide) (gP g).1 0 5000 (by omega) (by omega) ?_
    cases e2 : zidx (J 46) (tV B n i) (gP g).1 0 with
    | some h =>
      rw [e2] at h1
      have := (zidx_lt _ _ _ e2).2
      exact z_n (nI_pos (n := h) (by omega)) (h1 rfl)
    | none =>
      rw [e2] at h0
      exact z_y (by decide) (h0 (by decide))
theorem s_newName {I : zI} {J : zJ} {i x m : Nat} {g : zG} (hH : zGb I J 0 45 28 29 7 (gH g)) (hP : zGb I J 3 46 30 31 6 (gP g)) (hC : zC I J B n i) (hW : zWk I (gW g)) (hx : m < zlen x) (hx2 : zlen x < 100) (hx3 : x = 45 ∨ x = 46) {Q : Int32 → zI → zJ → Prop} (hok : ∀ j, zpass (tK B n) 3 i = .inr j → ∀ (I' : zI) (J' : zJ), (∀ b l, ¬ (b = 26 ∧ (l = 1 ∨ l = 2 ∨ l = 10 ∨ l = 11)) → I' b l = I b l) → (∀ b l, ¬ (b = 26 ∧ l = 3) → ¬ (b = x ∧ l = m) → J' b l = J b l) → J' x m = tV B n i → zC I' J' B n j → zWk I' (if ztold g (tV B n i) = true then zkeep 3 (zpsn B n i) (gW g) else gW g) → Q 1 I' J') (hbad : ∀ k j, zpass (tK B n) 3 i = .inl (k, j) → ∀ (I' : zI) (J' : zJ), zBd I J B n k j I' J' → Q 0 I' J') : v_Reader_readNewName 5000 x (nI m) I J Q := by
  have fin : ∀ (I1 : zI) (W1 : Nat × Nat), (∀ b l, ¬ (b = 26 ∧ (l = 10 ∨ l = 11)) → I1 b l = I b l) → zWk I1 W1 → (tK B n i = 3 → W1 = if ztold g (tV B n i) = true then zkeep 3 (zpsn B n i) (gW g) else gW g) → v_Reader_readNewName_20 5000 x (nI m) I1 J Q := fun I1 W1 o1 w1 hw => by
    unfold v_Reader_readNewName_20
    rw [nI_clamp (by omega), hC.2.2.1]
    refine z_n (nI_pos (by omega)) (z_n (nI_ge hx (by omega)) ⟨vp_in_nI hx (by omega), fun J2 e2 => ?_⟩)
    have p2 : ∀ b l, ¬ (b = x ∧ l = m) → J2 b l = J b l := fun b l q => by rw [e2, qu_off (by omega)]
    refine s_pass (c := 3) (hC.kept (fun b l q => o1 b l (by omega)) (fun b l q => p2 b l (by omega))) (by decide) (by decide) (fun j ej I3 J3 o3 p3 c3 => ⟨Or.inr rfl, hok j ej I3 J3 (fun b l q => by rw [o3 b l (by omega), o1 b l (by omega)]) (fun b l q1 q2 => by rw [p3 b l q1, p2 b l q2]) ?_ c3 ?_⟩) (fun k j ej I3 b3 => ⟨Or.inl rfl, hbad k j ej I3 J2 (b3.from (fun b l q => o1 b l (by omega)) (fun b l q1 q2 q3 => p2 b l (by omega)))⟩)
    · rw [p3 _ _ (by omega), e2, qu_same]
    · rw [← hw (zpass_r ej).1]
      exact w1.kept (fun j q => o3 _ _ (by omega))
  unfold v_Reader_readNewName
  rw [hC.2.1]
  refine ⟨fun q => fin I _ (fun _ _ _ => rfl) hW (fun z => absurd ((tK_is (c := 3) (by decide)).mpr z) q), fun q => ztold_c hH hP hC (fun ht => z_n z_10 ?_) (fun ht => z_y z_00 ?_)⟩
  · exact s_keepF (k := 3) hC hW (by decide) (fun I1 o1 w1 => fin I1 _ o1 w1 (fun _ => by rw [if_pos ht]))
  · exact fin I _ (fun _ _ _ => rfl) hW (fun _ => by rw [if_neg ht])
theorem s_readHanger {I : zI} {J : zJ} {i : Nat} {g : zG} (hG : zGc I J g) (hC : zC I J B n i) (hk : tK B n i = 256) {Q : Int32 → zI → zJ → Prop} (hok : ∀ a, ztl (tK B n) (tV B n) (zpsn B n) g i = .inr a → ∀ (I' : zI) (J' : zJ), frO I I' → frOJ J J' → zC I' J' B n a.1 → zGc I' J' a.2 → i < a.1 → Q 1 I' J') (hbad : ∀ k j, ztl (tK B n) (tV B n) (zpsn B n) g i = .inl (k, j) → ∀ (I' : zI) (J' : zJ), zBd I J B n k j I' J' → Q 0 I' J') : v_Reader_readHanger 5000 I J Q := by
  obtain ⟨hH, hP, hGG, hGL, hGM, hW, h12, h13⟩ := id hG
  have hl := (hH).2.1
  unfold ztl at hok hbad
  rw [if_pos hk] at hok hbad
  intro y ey
  rw [(hH).1] at ey
  rw [ey, nI_clamp (by omega)]
  refine ⟨fun q => ?_, fun q => ?_⟩
  · have hlt := (nI_ltI (b := 7) (by omega) (by decide)).mp q
    rw [if_pos hlt] at hok hbad
    unfold zent at hok hbad
    refine s_goOn hC (by omega) (fun i1 e1 I1 J1 o1 p1 c1 => z_n z_10 ?_) (fun k j ej I1 b1 => z_y z_00 (hbad k j (by rw [ej]; rfl) I1 J b1))
    rw [e1, zbi_r] at hok hbad
    refine s_newName (x := 45) (hH.kept (o1 _ _ (by omega)) (fun j => o1 _ _ (by omega)) (fun j => o1 _ _ (by omega)) (fun j => p1 _ _ (by omega))) (hP.kept (o1 _ _ (by omega)) (fun j => o1 _ _ (by omega)) (fun j => o1 _ _ (by omega)) (fun j => p1 _ _ (by omega))) c1 (hW.kept (fun j q => o1 _ _ (by omega))) (show _ < 7 from hlt) (by decide) (by decide) (fun i2 e2 I2 J2 o2 p2 n2 c2 w2 => z_n z_10 ?_) (fun k j ej I2 J2 b2 => z_y z_00 (hbad k j (by rw [ej]; rfl) I2 J2 (b2.from o1.o p1.o)))
    rw [e2, zbi_r] at hok hbad
    have f2 : ∀ b l, ¬ (b = 26 ∧ (l = 1 ∨ l = 2 ∨ l = 4 ∨ l = 10 ∨ l = 11)) → I2 b l = I b l := fun b l q => by rw [o2 b l (by omega), o1 b l (by omega)]
    have j2 : ∀ b l, ¬ (b = 26 ∧ l = 3) → ¬ (b = 45 ∧ l = (gH g).1) → J2 b l = J b l := fun b l q1 q2 => by rw [p2 b l q1 q2, p1 b l q1]
    have fo2 : frO I I2 := fun b l q => f2 b l (by omega)
    have jo2 : frOJ J J2 := fun b l q1 q2 q3 => j2 b l (by omega) (by omega)
    refine s_number (m := 4) c2 w2 (by decide) (fun i3 e3 I3 J3 o3 p3 c3 n3 w3 => z_nr z_10 ⟨vp_in_nI (by omega) (by decide), fun I4 e4 => ?_⟩) (fun k j ej I3 J3 b3 => z_yr z_00 (hbad k j (by rw [ej]; rfl) I3 J3 (b3.from fo2 jo2)))
    rw [e3, zbi_r] at hok hbad
    rw [n3] at e4
    have o4 : ∀ b l, ¬ (b = 28 ∧ l = (gH g).1) → I4 b l = I3 b l := fun b l q => by rw [e4, qu_off (by omega)]
    have fo4 : frO I I4 := fun b l q => by rw [o4 b l (by omega), o3 b l (by omega), fo2 b l q]
    refine s_number (m := 99) (c3.kept (fun b l q => o4 b l (by omega)) (fun _ _ _ => rfl)) (w3.kept (fun j q => o4 _ _ (by omega))) (by decide) (fun i5 e5 I5 J5 o5 p5 c5 n5 w5 => z_nr z_10 ⟨vp_in_nI (by omega) (by decide), fun I6 e6 I7 e7 => ?_⟩) (fun k j ej I5 J5 b5 => z_yr z_00 (hbad k j (by rw [ej]; rfl) I5 J5 (b5.from fo4 (fun b l q1 q2 q3 => by rw [p3 b l (by omega), jo2 b l q1 q2 q3]))))
    rw [e5, zbi_r] at hok hbad
    rw [n5] at e6
    have o6 : ∀ b l, ¬ (b = 29 ∧ l = (gH g).1) → I6 b l = I5 b l := fun b l q => by rw [e6, qu_off (by omega)]
    have o6' : ∀ b l, ¬ (b = 26 ∧ (l = 1 ∨ l = 2 ∨ l = 4 ∨ l = 10 ∨ l = 11)) → ¬ (b = 28 ∧ l = (gH g).1) → ¬ (b = 29 ∧ l = (gH g).1) → I6 b l = I b l := fun b l q1 q2 q3 => by rw [o6 b l q3, o5 b l (by omega), o4 b l q2, o3 b l (by omega), f2 b l q1]
    rw [o6' 27 0 (by omega) (by omega) (by omega), (hH).1, nI_1] at e7
    have o7 : ∀ b l, ¬ (b = 27 ∧ l = 0) → I7 b l = I6 b l := fun b l q => by rw [e7, qu_off (by omega)]
    have fo7 : frO I I7 := fun b l q => by rw [o7 b l (by omega), o6' b l (by omega) (by omega) (by omega)]
    have j5 : ∀ b l, ¬ (b = 26 ∧ l = 3) → ¬ (b = 45 ∧ l = (gH g).1) → J5 b l = J b l := fun b l q1 q2 => by rw [p5 b l q1, p3 b l q1, j2 b l q1 q2]
    have jo5 : frOJ J J5 := fun b l q1 q2 q3 => j5 b l (by omega) (by omega)
    refine s_pass (c := 59) (c5.kept (fun b l q => by rw [o7 b l (by omega), o6 b l (by omega)]) (fun _ _ _ => rfl)) (by decide) (by decide) (fun i8 e8 I8 J8 o8 p8 c8 => ⟨Or.inr rfl, ?_⟩) (fun k j ej I8 b8 => ⟨Or.inl rfl, hbad k j (by rw [ej]; rfl) I8 J5 (b8.from fo7 jo5)⟩)
    rw [e8, zbi_r] at hok hbad
    have o8' : ∀ b l, ¬ (b = 26 ∧ (l = 1 ∨ l = 2 ∨ l = 4 ∨ l = 10 ∨ l = 11)) → ¬ (b = 28 ∧ l = (gH g).1) → ¬ (b = 29 ∧ l = (gH g).1) → ¬ (b = 27 ∧ l = 0) → I8 b l = I b l := fun b l q1 q2 q3 q4 => by rw [o8 b l (by omega), o7 b l q4, o6' b l q1 q2 q3]
    have j8 : ∀ b l, ¬ (b = 26 ∧ l = 3) → ¬ (b = 45 ∧ l = (gH g).1) → J8 b l = J b l := fun b l q1 q2 => by rw [p8 b l q1, j5 b l q1 q2]
    have q1 := (zgo_r e1).2
    have q2 := (zpass_r e2).2.2
    have q3 := (zpass_r e3).2.2
    have q5 := (zpass_r e5).2.2
    have q8 := (zpass_r e8).2.2
    have hB8 : zGb I8 J8 0 45 28 29 7 ((gH g).1 + 1, zud (gH g).2.1 (gH g).1 (tV B n i1), zud (gH g).2.2.1 (gH g).1 (tV B n i2).toInt32, zud (gH g).2.2.2 (gH g).1 (tV B n i3).toInt32) := by
      refine ⟨by rw [o8 _ _ (by omega), e7, qu_same], hlt, fun j hj => ?_⟩
      have hj' : j < (gH g).1 + 1 := hj
      by_cases e : j = (gH g).1
      · subst e
        refine ⟨?_, ?_, ?_⟩
        · show _ = zud _ _ _ _
          rw [zud_s, p8 _ _ (by omega), p5 _ _ (by omega), p3 _ _ (by omega), n2]
        · show _ = zud _ _ _ _
          rw [zud_s, o8 _ _ (by omega), o7 _ _ (by omega), o6 _ _ (by omega), o5 _ _ (by omega), e4, qu_same]
        · show _ = zud _ _ _ _
          rw [zud_s, o8 _ _ (by omega), o7 _ _ (by omega), e6, qu_same]
      · obtain ⟨g1, g2, g3⟩ := (hH).2.2 j (by omega)
        refine ⟨?_, ?_, ?_⟩
        · show _ = zud _ _ _ _
          rw [zud_n e, j8 _ _ (by omega) (by omega)]; exact g1
        · show _ = zud _ _ _ _
          rw [zud_n e, o8' _ _ (by omega) (by omega) (by omega) (by omega)]; exact g2
        · show _ = zud _ _ _ _
          rw [zud_n e, o8' _ _ (by omega) (by omega) (by omega) (by omega)]; exact g3
    refine hok _ rfl I8 J8 (fun b l q => o8' b l (by omega) (by omega) (by omega) (by omega)) (fun b l q1 q2 q3 => j8 b l (by omega) (by omega)) c8 ⟨hB8, hP.kept (o8' _ _ (by omega) (by omega) (by omega) (by omega)) (fun j => o8' _ _ (by omega) (by omega) (by omega) (by omega)) (fun j => o8' _ _ (by omega) (by omega) (by omega) (by omega)) (fun j => j8 _ _ (by omega) (by omega)), hGG.kept (o8' _ _ (by omega) (by omega) (by omega) (by omega)) (fun j => o8' _ _ (by omega) (by omega) (by omega) (by omega)), hGL.kept (fun b j q1 q2 => o8' b j (by omega) (by omega) (by omega) (by omega)), hGM.kept (o8' _ _ (by omega) (by omega) (by omega) (by omega)) (o8' _ _ (by omega) (by omega) (by omega) (by omega)), w5.kept (fun j q => by rw [o8 _ _ (by omega), o7 _ _ (by omega), o6 _ _ (by omega)]), ?_, ?_⟩ (show i < i8 by omega)
    · rw [o8' _ _ (by omega) (by omega) (by omega) (by omega)]; exact h12
    · rw [o8' _ _ (by omega) (by omega) (by omega) (by omega)]; exact h13
  · rw [if_neg (fun z => q (nI_lt z (by decide)))] at hbad
    exact s_fails (k := 2) hC (fun I' b' => ⟨Or.inl rfl, hbad 2 i rfl I' J b'⟩)
theorem s_readPerson {I : zI} {J : zJ} {i : Nat} {g : zG} (hG : zGc I J g) (hC : zC I J B n i) (hk : tK B n i = 257) {Q : Int32 → zI → zJ → Prop} (hok : ∀ a, ztl (tK B n) (tV B n) (zpsn B n) g i = .inr a → ∀ (I' : zI) (J' : zJ), frO I I' → frOJ J J' → zC I' J' B n a.1 → zGc I' J' a.2 → i < a.1 → Q 1 I' J') (hbad : ∀ k j, ztl (tK B n) (tV B n) (zpsn B n) g i = .inl (k, j) → ∀ (I' : zI) (J' : zJ), zBd I J B n k j I' J' → Q 0 I' J') : v_Reader_readPerson 5000 I J Q := by
  obtain ⟨hH, hP, hGG, hGL, hGM, hW, h12, h13⟩ := id hG
  have hl := (hP).2.1
  unfold ztl at hok hbad
  rw [if_neg (by omega), if_pos hk] at hok hbad
  intro y ey
  rw [(hP).1] at ey
  rw [ey, nI_clamp (by omega)]
  refine ⟨fun q => ?_, fun q => ?_⟩
  · have hlt := (nI_ltI (b := 6) (by omega) (by decide)).mp q
    rw [if_pos hlt] at hok hbad
    unfold zent at hok hbad
    refine s_goOn hC (by omega) (fun i1 e1 I1 J1 o1 p1 c1 => z_n z_10 ?_) (fun k j ej I1 b1 => z_y z_00 (hbad k j (by rw [ej]; rfl) I1 J b1))
    rw [e1, zbi_r] at hok hbad
    refine s_newName (x := 46) (hH.kept (o1 _ _ (by omega)) (fun j => o1 _ _ (by omega)) (fun j => o1 _ _ (by omega)) (fun j => p1 _ _ (by omega))) (hP.kept (o1 _ _ (by omega)) (fun j => o1 _ _ (by omega)) (fun j => o1 _ _ (by omega)) (fun j => p1 _ _ (by omega))) c1 (hW.kept (fun j q => o1 _ _ (by omega))) (show _ < 6 from hlt) (by decide) (by decide) (fun i2 e2 I2 J2 o2 p2 n2 c2 w2 => z_n z_10 ?_) (fun k j ej I2 J2 b2 => z_y z_00 (hbad k j (by rw [ej]; rfl) I2 J2 (b2.from o1.o p1.o)))
    rw [e2, zbi_r] at hok hbad
    have f2 : ∀ b l, ¬ (b = 26 ∧ (l = 1 ∨ l = 2 ∨ l = 4 ∨ l = 10 ∨ l = 11)) → I2 b l = I b l := fun b l q => by rw [o2 b l (by omega), o1 b l (by omega)]
    have j2 : ∀ b l, ¬ (b = 26 ∧ l = 3) → ¬ (b = 46 ∧ l = (gP g).1) → J2 b l = J b l := fun b l q1 q2 => by rw [p2 b l q1 q2, p1 b l q1]
    have fo2 : frO I I2 := fun b l q => f2 b l (by omega)
    have jo2 : frOJ J J2 := fun b l q1 q2 q3 => j2 b l (by omega) (by omega)
    refine s_number (m := 99) c2 w2 (by decide) (fun i3 e3 I3 J3 o3 p3 c3 n3 w3 => z_nr z_10 ⟨vp_in_nI (by omega) (by decide), fun I4 e4 => ?_⟩) (fun k j ej I3 J3 b3 => z_yr z_00 (hbad k j (by rw [ej]; rfl) I3 J3 (b3.from fo2 jo2)))
    rw [e3, zbi_r] at hok hbad
    rw [n3] at e4
    have o4 : ∀ b l, ¬ (b = 30 ∧ l = (gP g).1) → I4 b l = I3 b l := fun b l q => by rw [e4, qu_off (by omega)]
    have fo4 : frO I I4 := fun b l q => by rw [o4 b l (by omega), o3 b l (by omega), fo2 b l q]
    refine s_number (m := 9) (c3.kept (fun b l q => o4 b l (by omega)) (fun _ _ _ => rfl)) (w3.kept (fun j q => o4 _ _ (by omega))) (by decide) (fun i5 e5 I5 J5 o5 p5 c5 n5 w5 => z_nr z_10 ⟨vp_in_nI (by omega) (by decide), fun I6 e6 I7 e7 => ?_⟩) (fun k j ej I5 J5 b5 => z_yr z_00 (hbad k j (by rw [ej]; rfl) I5 J5 (b5.from fo4 (fun b l q1 q2 q3 => by rw [p3 b l (by omega), jo2 b l q1 q2 q3]))))
    rw [e5, zbi_r] at hok hbad
    rw [n5] at e6
    have o6 : ∀ b l, ¬ (b = 31 ∧ l = (gP g).1) → I6 b l = I5 b l := fun b l q => by rw [e6, qu_off (by omega)]
    have o6' : ∀ b l, ¬ (b = 26 ∧ (l = 1 ∨ l = 2 ∨ l = 4 ∨ l = 10 ∨ l = 11)) → ¬ (b = 30 ∧ l = (gP g).1) → ¬ (b = 31 ∧ l = (gP g).1) → I6 b l = I b l := fun b l q1 q2 q3 => by rw [o6 b l q3, o5 b l (by omega), o4 b l q2, o3 b l (by omega), f2 b l q1]
    rw [o6' 27 3 (by omega) (by omega) (by omega), (hP).1, nI_1] at e7
    have o7 : ∀ b l, ¬ (b = 27 ∧ l = 3) → I7 b l = I6 b l := fun b l q => by rw [e7, qu_off (by omega)]
    have fo7 : frO I I7 := fun b l q => by rw [o7 b l (by omega), o6' b l (by omega) (by omega) (by omega)]
    have j5 : ∀ b l, ¬ (b = 26 ∧ l = 3) → ¬ (b = 46 ∧ l = (gP g).1) → J5 b l = J b l := fun b l q1 q2 => by rw [p5 b l q1, p3 b l q1, j2 b l q1 q2]
    have jo5 : frOJ J J5 := fun b l q1 q2 q3 => j5 b l (by omega) (by omega)
    refine s_pass (c := 59) (c5.kept (fun b l q => by rw [o7 b l (by omega), o6 b l (by omega)]) (fun _ _ _ => rfl)) (by decide) (by decide) (fun i8 e8 I8 J8 o8 p8 c8 => ⟨Or.inr rfl, ?_⟩) (fun k j ej I8 b8 => ⟨Or.inl rfl, hbad k j (by rw [ej]; rfl) I8 J5 (b8.from fo7 jo5)⟩)
    rw [e8, zbi_r] at hok hbad
    have o8' : ∀ b l, ¬ (b = 26 ∧ (l = 1 ∨ l = 2 ∨ l = 4 ∨ l = 10 ∨ l = 11)) → ¬ (b = 30 ∧ l = (gP g).1) → ¬ (b = 31 ∧ l = (gP g).1) → ¬ (b = 27 ∧ l = 3) → I8 b l = I b l := fun b l q1 q2 q3 q4 => by rw [o8 b l (by omega), o7 b l q4, o6' b l q1 q2 q3]
    have j8 : ∀ b l, ¬ (b = 26 ∧ l = 3) → ¬ (b = 46 ∧ l = (gP g).1) → J8 b l = J b l := fun b l q1 q2 => by rw [p8 b l q1, j5 b l q1 q2]
    have q1 := (zgo_r e1).2
    have q2 := (zpass_r e2).2.2
    have q3 := (zpass_r e3).2.2
    have q5 := (zpass_r e5).2.2
    have q8 := (zpass_r e8).2.2
    have hB8 : zGb I8 J8 3 46 30 31 6 ((gP g).1 + 1, zud (gP g).2.1 (gP g).1 (tV B n i1), zud (gP g).2.2.1 (gP g).1 (tV B n i2).toInt32, zud (gP g).2.2.2 (gP g).1 (tV B n i3).toInt32) := by
      refine ⟨by rw [o8 _ _ (by omega), e7, qu_same], hlt, fun j hj => ?_⟩
      have hj' : j < (gP g).1 + 1 := hj
      by_cases e : j = (gP g).1
      · subst e
        refine ⟨?_, ?_, ?_⟩
        · show _ = zud _ _ _ _
          rw [zud_s, p8 _ _ (by omega), p5 _ _ (by omega), p3 _ _ (by omega), n2]
        · show _ = zud _ _ _ _
          rw [zud_s, o8 _ _ (by omega), o7 _ _ (by omega), o6 _ _ (by omega), o5 _ _ (by omega), e4, qu_same]
        · show _ = zud _ _ _ _
          rw [zud_s, o8 _ _ (by omega), o7 _ _ (by omega), e6, qu_same]
      · obtain ⟨g1, g2, g3⟩ := (hP).2.2 j (by omega)
        refine ⟨?_, ?_, ?_⟩
        · show _ = zud _ _ _ _
          rw [zud_n e, j8 _ _ (by omega) (by omega)]; exact g1
        · show _ = zud _ _ _ _
          rw [zud_n e, o8' _ _ (by omega) (by omega) (by omega) (by omega)]; exact g2
        · show _ = zud _ _ _ _
          rw [zud_n e, o8' _ _ (by omega) (by omega) (by omega) (by omega)]; exact g3
    refine hok _ rfl I8 J8 (fun b l q => o8' b l (by omega) (by omega) (by omega) (by omega)) (fun b l q1 q2 q3 => j8 b l (by omega) (by omega)) c8 ⟨hH.kept (o8' _ _ (by omega) (by omega) (by omega) (by omega)) (fun j => o8' _ _ (by omega) (by omega) (by omega) (by omega)) (fun j => o8' _ _ (by omega) (by omega) (by omega) (by omega)) (fun j => j8 _ _ (by omega) (by omega)), hB8, hGG.kept (o8' _ _ (by omega) (by omega) (by omega) (by omega)) (fun j => o8' _ _ (by omega) (by omega) (by omega) (by omega)), hGL.kept (fun b j q1 q2 => o8' b j (by omega) (by omega) (by omega) (by omega)), hGM.kept (o8' _ _ (by omega) (by omega) (by omega) (by omega)) (o8' _ _ (by omega) (by omega) (by omega) (by omega)), w5.kept (fun j q => by rw [o8 _ _ (by omega), o7 _ _ (by omega), o6 _ _ (by omega)]), ?_, ?_⟩ (show i < i8 by omega)
    · rw [o8' _ _ (by omega) (by omega) (by omega) (by omega)]; exact h12
    · rw [o8' _ _ (by omega) (by omega) (by omega) (by omega)]; exact h13
  · rw [if_neg (fun z => q (nI_lt z (by decide)))] at hbad
    exact s_fails (k := 2) hC (fun I' b' => ⟨Or.inl rfl, hbad 2 i rfl I' J b'⟩)
theorem s_readMoth {I : zI} {J : zJ} {i : Nat} {g : zG} (hG : zGc I J g) (hC : zC I J B n i) (hk : tK B n i = 263) {Q : Int32 → zI → zJ → Prop} (hok : ∀ a, ztl (tK B n) (tV B n) (zpsn B n) g i = .inr a → ∀ (I' : zI) (J' : zJ), frO I I' → frOJ J J' → zC I' J' B n a.1 → zGc I' J' a.2 → i < a.1 → Q 1 I' J') (hbad : ∀ k j, ztl (tK B n) (tV B n) (zpsn B n) g i = .inl (k, j) → ∀ (I' : zI) (J' : zJ), zBd I J B n k j I' J' → Q 0 I' J') : v_Reader_readMoth 5000 I J Q := by
  obtain ⟨hH, hP, hGG, hGL, hGM, hW, h12, h13⟩ := id hG
  unfold ztl at hok hbad
  rw [if_neg (by omega), if_neg (by omega), if_neg (by omega), if_pos hk] at hok hbad
  unfold zone at hok hbad
  refine s_goOn hC (by omega) (fun i1 e1 I1 J1 o1 p1 c1 => z_n z_10 ?_) (fun k j ej I1 b1 => z_y z_00 (hbad k j (by rw [ej]; rfl) I1 J b1))
  rw [e1, zbi_r] at hok hbad
  refine s_number (m := 100) c1 (hW.kept (fun j q => o1 _ _ (by omega))) (by decide) (fun i2 e2 I2 J2 o2 p2 c2 n2 w2 => z_nr z_10 (fun I3 e3 => ?_)) (fun k j ej I2 J2 b2 => z_yr z_00 (hbad k j (by rw [ej]; rfl) I2 J2 (b2.from o1.o p1.o)))
  rw [e2, zbi_r] at hok hbad
  rw [n2] at e3
  have o3 : ∀ b l, ¬ (b = 27 ∧ l = 11) → I3 b l = I2 b l := fun b l q => by rw [e3, qu_off (by omega)]
  have fo3 : frO I I3 := fun b l q => by rw [o3 b l (by omega), o2 b l (by omega), o1 b l (by omega)]
  refine s_pass (c := 59) (c2.kept (fun b l q => o3 b l (by omega)) (fun _ _ _ => rfl)) (by decide) (by decide) (fun i4 e4 I4 J4 o4 p4 c4 => ⟨Or.inr rfl, ?_⟩) (fun k j ej I4 b4 => ⟨Or.inl rfl, hbad k j (by rw [ej]; rfl) I4 J2 (b4.from fo3 (p1.tr p2).o)⟩)
  rw [e4, zbi_r] at hok hbad
  have o4' : ∀ b l, ¬ (b = 26 ∧ (l = 1 ∨ l = 2 ∨ l = 4 ∨ l = 10 ∨ l = 11)) → ¬ (b = 27 ∧ l = 11) → I4 b l = I b l := fun b l q1 q2 => by rw [o4 b l (by omega), o3 b l q2, o2 b l q1, o1 b l (by omega)]
  have j4 : frGJ J J4 := (p1.tr p2).tr p4
  have q1 := (zgo_r e1).2
  have q2 := (zpass_r e2).2.2
  have q4 := (zpass_r e4).2.2
  refine hok _ rfl I4 J4 (fun b l q => o4' b l (by omega) (by omega)) j4.o c4 ⟨hH.kept (o4' _ _ (by omega) (by omega)) (fun j => o4' _ _ (by omega) (by omega)) (fun j => o4' _ _ (by omega) (by omega)) (fun j => j4 _ _ (by omega)), hP.kept (o4' _ _ (by omega) (by omega)) (fun j => o4' _ _ (by omega) (by omega)) (fun j => o4' _ _ (by omega) (by omega)) (fun j => j4 _ _ (by omega)), hGG.kept (o4' _ _ (by omega) (by omega)) (fun j => o4' _ _ (by omega) (by omega)), hGL.kept (fun b j q1 q2 => o4' b j (by omega) (by omega)), ⟨by rw [o4 _ _ (by omega), e3, qu_same]; rfl, by rw [o4' _ _ (by omega) (by omega)]; exact hGM.2⟩, w2.kept (fun j q => by rw [o4 _ _ (by omega), o3 _ _ (by omega)]), ?_, ?_⟩ (show i < i4 by omega)
  · rw [o4' _ _ (by omega) (by omega)]; exact h12
  · rw [o4' _ _ (by omega) (by omega)]; exact h13
theorem s_readSeed {I : zI} {J : zJ} {i : Nat} {g : zG} (hG : zGc I J g) (hC : zC I J B n i) (hk : tK B n i = 264) {Q : Int32 → zI → zJ → Prop} (hok : ∀ a, ztl (tK B n) (tV B n) (zpsn B n) g i = .inr a → ∀ (I' : zI) (J' : zJ), frO I I' → frOJ J J' → zC I' J' B n a.1 → zGc I' J' a.2 → i < a.1 → Q 1 I' J') (hbad : ∀ k j, ztl (tK B n) (tV B n) (zpsn B n) g i = .inl (k, j) → ∀ (I' : zI) (J' : zJ), zBd I J B n k j I' J' → Q 0 I' J') : v_Reader_readSeed 5000 I J Q := by
  obtain ⟨hH, hP, hGG, hGL, hGM, hW, h12, h13⟩ := id hG
  unfold ztl at hok hbad
  rw [if_neg (by omega), if_neg (by omega), if_neg (by omega), if_neg (by omega), if_pos hk] at hok hbad
  unfold zone at hok hbad
  refine s_goOn hC (by omega) (fun i1 e1 I1 J1 o1 p1 c1 => z_n z_10 ?_) (fun k j ej I1 b1 => z_y z_00 (hbad k j (by rw [ej]; rfl) I1 J b1))
  rw [e1, zbi_r] at hok hbad
  refine s_number (m := 9999) c1 (hW.kept (fun j q => o1 _ _ (by omega))) (by decide) (fun i2 e2 I2 J2 o2 p2 c2 n2 w2 => z_nr z_10 (fun I3 e3 => ?_)) (fun k j ej I2 J2 b2 => z_yr z_00 (hbad k j (by rw [ej]; rfl) I2 J2 (b2.from o1.o p1.o)))
  rw [e2, zbi_r] at hok hbad
  rw [n2] at e3
  have o3 : ∀ b l, ¬ (b = 27 ∧ l = 12) → I3 b l = I2 b l := fun b l q => by rw [e3, qu_off (by omega)]
  have fo3 : frO I I3 := fun b l q => by rw [o3 b l (by omega), o2 b l (by omega), o1 b l (by omega)]
  refine s_pass (c := 59) (c2.kept (fun b l q => o3 b l (by omega)) (fun _ _ _ => rfl)) (by decide) (by decide) (fun i4 e4 I4 J4 o4 p4 c4 => ⟨Or.inr rfl, ?_⟩) (fun k j ej I4 b4 => ⟨Or.inl rfl, hbad k j (by rw [ej]; rfl) I4 J2 (b4.from fo3 (p1.tr p2).o)⟩)
  rw [e4, zbi_r] at hok hbad
  have o4' : ∀ b l, ¬ (b = 26 ∧ (l = 1 ∨ l = 2 ∨ l = 4 ∨ l = 10 ∨ l = 11)) → ¬ (b = 27 ∧ l = 12) → I4 b l = I b l := fun b l q1 q2 => by rw [o4 b l (by omega), o3 b l q2, o2 b l q1, o1 b l (by omega)]
  have j4 : frGJ J J4 := (p1.tr p2).tr p4
  have q1 := (zgo_r e1).2
  have q2 := (zpass_r e2).2.2
  have q4 := (zpass_r e4).2.2
  refine hok _ rfl I4 J4 (fun b l q => o4' b l (by omega) (by omega)) j4.o c4 ⟨hH.kept (o4' _ _ (by omega) (by omega)) (fun j => o4' _ _ (by omega) (by omega)) (fun j => o4' _ _ (by omega) (by omega)) (fun j => j4 _ _ (by omega)), hP.kept (o4' _ _ (by omega) (by omega)) (fun j => o4' _ _ (by omega) (by omega)) (fun j => o4' _ _ (by omega) (by omega)) (fun j => j4 _ _ (by omega)), hGG.kept (o4' _ _ (by omega) (by omega)) (fun j => o4' _ _ (by omega) (by omega)), hGL.kept (fun b j q1 q2 => o4' b j (by omega) (by omega)), ⟨by rw [o4' _ _ (by omega) (by omega)]; exact hGM.1, by rw [o4 _ _ (by omega), e3, qu_same]; rfl⟩, w2.kept (fun j q => by rw [o4 _ _ (by omega), o3 _ _ (by omega)]), ?_, ?_⟩ (show i < i4 by omega)
  · rw [o4' _ _ (by omega) (by omega)]; exact h12
  · rw [o4' _ _ (by omega) (by omega)]; exact h13
end
