/-! reading: the class' laws, names, tells -/
section
variable {B : Nat → Nat} {n : Nat}
def zcIf1 (q : zPf × zPf × zPf) (o : Nat) : List (Int32 × Int32) := zcSteps q.1 ++ zcSteps q.2.1 ++ [((3 : Int32), nI (o + q.1.length + q.2.1.length + q.2.2.length + 2))] ++ zcSteps q.2.2 ++ [((4 : Int32), (0 : Int32))]
def zcIfs : List (zPf × zPf × zPf) → Nat → List (Int32 × Int32)
  | [], _ => []
  | q :: l, o => zcIf1 q o ++ zcIfs l (o + q.1.length + q.2.1.length + q.2.2.length + 2)
theorem zcIf1_len (q : zPf × zPf × zPf) (o : Nat) : (zcIf1 q o).length = q.1.length + q.2.1.length + q.2.2.length + 2 := by
  unfold zcIf1
  simp only [List.length_append, zcs_len, List.length_cons, List.length_nil]
  omega
theorem zcLaw_ifs : ∀ l t o, zcLaw l t o = zcIfs l o ++ zcSteps t ++ [((4 : Int32), (0 : Int32))]
  | [], t, o => rfl
  | (u, v, w) :: l, t, o => by
    rw [zcLaw, zcIfs, zcLaw_ifs l t]
    unfold zcIf1
    simp only [List.append_assoc]
theorem zcIfs_app : ∀ l q o, zcIfs (l ++ [q]) o = zcIfs l o ++ zcIf1 q (o + (zcIfs l o).length)
  | [], q, o => by
    show zcIf1 q o ++ [] = [] ++ zcIf1 q (o + 0)
    rw [List.append_nil, List.nil_append, Nat.add_zero]
  | a :: l, q, o => by
    rw [List.cons_append, zcIfs, zcIfs_app l q, zcIfs, List.append_assoc, List.length_append, zcIf1_len]
    congr 3
    omega
theorem s_aim {I : zI} {J : zJ} {x : Nat} {S S2 : List (Int32 × Int32)} {k v : Int32} (hS : zLs I x (S ++ [(k, v)] ++ S2)) (hl : (S ++ [(k, v)] ++ S2).length ≤ 400) {Q : zI → zJ → Prop} (hq : ∀ I' : zI, (∀ b l, ¬ (b = x + 2) → I' b l = I b l) → zLs I' x (S ++ [(k, nI (S ++ [(k, v)] ++ S2).length)] ++ S2) → Q I' J) : v_Law_aimAtEnd 5000 x (nI S.length) I J Q := by
  have hlt : S.length < (S ++ [(k, v)] ++ S2).length := by
    rw [List.length_append, List.length_append]; show S.length < S.length + 1 + S2.length; omega
  have hle : (S ++ [(k, nI (S ++ [(k, v)] ++ S2).length)] ++ S2).length = (S ++ [(k, v)] ++ S2).length := by
    simp only [List.length_append, List.length_cons, List.length_nil]
  unfold v_Law_aimAtEnd
  rw [hS.1, nI_clamp (by omega)]
  refine z_n (nI_pos (by omega)) (z_n (nI_ge hlt (by omega)) ⟨vp_in_nI (by omega) (by decide), fun I4 e4 => ?_⟩)
  have o4 : ∀ b l, ¬ (b = x + 2 ∧ l = S.length) → I4 b l = I b l := fun b l q => by rw [e4, qu_off (by omega)]
  refine hq I4 (fun b l q => o4 b l (by omega)) ⟨by rw [o4 _ _ (by omega), hle]; exact hS.1, fun i q h => ?_⟩
  rcases Nat.lt_trichotomy i S.length with z | z | z
  · rw [o4 _ _ (by omega), o4 _ _ (by omega)]
    refine hS.2 i q ?_
    rw [List.append_assoc, List.getElem?_append_left z] at h ⊢
    exact h
  · subst z
    rw [List.append_assoc, List.getElem?_append_right (Nat.le_refl _), Nat.sub_self] at h
    cases h
    refine ⟨?_, by rw [e4, qu_same]⟩
    rw [o4 _ _ (by omega)]
    exact (hS.2 S.length (k, v) (by rw [List.append_assoc, List.getElem?_append_right (Nat.le_refl _), Nat.sub_self]; rfl)).1
  · rw [o4 _ _ (by omega), o4 _ _ (by omega)]
    refine hS.2 i q ?_
    rw [List.getElem?_append_right (by rw [List.length_append]; show S.length + 1 ≤ i; omega), List.length_append] at h ⊢
    exact h
theorem zcls_le {kd : Nat → Nat} : ∀ l i c out a, zcls kd l i c out = .inr a → i ≤ a.1
  | [], i, c, out, a, h => by rw [zcls] at h; cases h; exact Nat.le_refl _
  | d :: l, i, c, out, a, h => by
    rw [zcls] at h
    split at h
    · obtain ⟨j, ej, h⟩ := zbi_inr h
      have := zcls_le l j _ _ a h
      have := (zgo_r ej).2
      omega
    · cases h; exact Nat.le_refl _
theorem zexp_lt {kd : Nat → Nat} {vl : Nat → Int64} : ∀ r i c l out a, zexp kd vl r i c l out = .inr a → i < a.1
  | 0, i, c, l, out, a, h => by rw [zexp] at h; cases h
  | r + 1, i, c, l, out, a, h => by
    rw [zexp] at h
    obtain ⟨a1, e1, h⟩ := zbi_inr h
    obtain ⟨b1, e2, h⟩ := zbi_inr h
    obtain ⟨d1, e3, h⟩ := zbi_inr h
    have h1 := zopn_le _ _ _ _ _ e1
    have h2 := zunit_le e2
    have h3 := zcls_le _ _ _ _ _ e3
    split at h
    · split at h
      · cases h; show i < d1.1; omega
      · cases h
    · obtain ⟨j, ej, h⟩ := zbi_inr h
      have := zexp_lt r j _ _ _ a h
      have := (zgo_r ej).2
      omega
theorem zif_lt {kd : Nat → Nat} {vl : Nat → Int64} {i : Nat} {a : Nat × zPf × zPf × zPf} (h : zif kd vl i = .inr a) : i < a.1 := by
  unfold zif at h
  obtain ⟨i1, e1, h⟩ := zbi_inr h
  obtain ⟨u, eu, h⟩ := zbi_inr h
  obtain ⟨i3, e3, h⟩ := zbi_inr h
  obtain ⟨v, ev, h⟩ := zbi_inr h
  obtain ⟨i5, e5, h⟩ := zbi_inr h
  obtain ⟨w, ew, h⟩ := zbi_inr h
  obtain ⟨i7, e7, h⟩ := zbi_inr h
  cases h
  have h1 := (zgo_r e1).2
  have h2 := zexp_lt _ _ _ _ _ _ eu
  have h3 := (zpass_r e3).2.2
  have h4 := zexp_lt _ _ _ _ _ _ ev
  have h5 := (zpass_r e5).2.2
  have h6 := zexp_lt _ _ _ _ _ _ ew
  have h7 := (zpass_r e7).2.2
  show i < i7
  omega
theorem zifs_le {kd : Nat → Nat} {vl : Nat → Int64} : ∀ r i l a, zifs kd vl r i l = .inr a → i ≤ a.1
  | 0, i, l, a, h => by
    rw [zifs] at h
    split at h
    · cases h
    · cases h; exact Nat.le_refl _
  | r + 1, i, l, a, h => by
    rw [zifs] at h
    split at h
    · obtain ⟨b, eb, h⟩ := zbi_inr h
      have := zif_lt eb
      have := zifs_le r _ _ a h
      omega
    · cases h; exact Nat.le_refl _
theorem s_readIf {I : zI} {J : zJ} {x i : Nat} {S : List (Int32 × Int32)} (hx : 27 ≤ x ∧ x + 2 < 47) (hC : zC I J B n i) (hk : tK B n i = 265) (hS : zLs I x S) (hm : S.length + 2 ≤ i) {Q : Int32 → zI → zJ → Prop} (hok : ∀ a, zif (tK B n) (tV B n) i = .inr a → ∀ (I' : zI) (J' : zJ), frE x I I' → frGJ J J' → zC I' J' B n a.1 → zLs I' x (S ++ zcIf1 a.2 S.length) → S.length + (zcIf1 a.2 S.length).length + 2 ≤ a.1 → Q 1 I' J') (hbad : ∀ k j, zif (tK B n) (tV B n) i = .inl (k, j) → ∀ (I' : zI) (J' : zJ), zBd I J B n k j I' J' → Q 0 I' J') : v_Reader_readIf 5000 x I J Q := by
  have gE : ∀ {I I' : zI}, frGo I I' → frE x I I' := fun h b l q1 _ _ _ => h b l q1
  unfold zif at hok hbad
  refine s_goOn hC (by omega) (fun i1 e1 I1 J1 o1 p1 c1 => z_n z_10 ?_) (fun k j ej I1 b1 => z_y z_00 (hbad k j (by rw [ej]; rfl) I1 J b1))
  rw [e1, zbi_r] at hok hbad
  have q1 := (zgo_r e1).2
  refine s_readSum hx c1 (hS.kept (fun b l q1 q2 => o1 b l (by omega))) (by omega) (fun u eu I2 J2 o2 p2 c2 g2 h2 => z_n z_10 ?_) (fun k j ej I2 J2 b2 => z_y z_00 (hbad k j (by rw [ej]; rfl) I2 J2 (b2.from o1.o p1.o)))
  rw [eu, zbi_r] at hok hbad
  have f2 : frE x I I2 := (gE o1).tr o2
  have j2 : frGJ J J2 := p1.tr p2
  refine s_pass c2 (c := 60) (by decide) (by decide) (fun i3 e3 I3 J3 o3 p3 c3 => z_nr z_10 ?_) (fun k j ej I3 b3 => z_yr z_00 (hbad k j (by rw [ej]; rfl) I3 J2 (b3.from (f2.o hx) j2.o)))
  rw [e3, zbi_r] at hok hbad
  have q3 := (zpass_r e3).2.2
  have f3 : frE x I I3 := f2.tr (gE o3)
  have j3 : frGJ J J3 := j2.tr p3
  refine s_readSum hx c3 (g2.kept (fun b l q1 q2 => o3 b l (by omega))) (by rw [zSle]; omega) (fun v ev I4 J4 o4 p4 c4 g4 h4 => z_n z_10 ?_) (fun k j ej I4 J4 b4 => z_y z_00 (hbad k j (by rw [ej]; rfl) I4 J4 (b4.from (f3.o hx) j3.o)))
  rw [zSle] at h4
  rw [ev, zbi_r] at hok hbad
  have f4 : frE x I I4 := f3.tr o4
  have j4 : frGJ J J4 := j3.tr p4
  refine s_pass c4 (c := 266) (by decide) (by decide) (fun i5 e5 I5 J5 o5 p5 c5 => z_nr z_10 ?_) (fun k j ej I5 b5 => z_yr z_00 (hbad k j (by rw [ej]; rfl) I5 J4 (b5.from (f4.o hx) j4.o)))
  rw [e5, zbi_r] at hok hbad
  have q5 := (zpass_r e5).2.2
  have h5 := c5.2.2.2.2.1
  have f5 : frE x I I5 := f4.tr (gE o5)
  have j5 : frGJ J J5 := j4.tr p5
  have g5 : zLs I5 x (S ++ zcSteps u.2 ++ zcSteps v.2) := g4.kept (fun b l q1 q2 => o5 b l (by omega))
  have l5 : (S ++ zcSteps u.2 ++ zcSteps v.2).length = S.length + u.2.length + v.2.length := by rw [zSle, zSle]
  intro y ey
  rw [g5.1] at ey
  refine s_add g5 (by rw [l5]; omega) (fun I6 o6 g6 => ?_)
  have f6 : frE x I I6 := fun b j q1 q2 q3 q4 => by rw [o6 b j q4, f5 b j q1 q2 q3 q4]
  have c6 : zC I6 J5 B n i5 := c5.kept (fun b l q => o6 b l (by omega)) (fun _ _ _ => rfl)
  have l6 : (S ++ zcSteps u.2 ++ zcSteps v.2 ++ [((3 : Int32), (0 : Int32))]).length = S.length + u.2.length + v.2.length + 1 := by rw [List.length_append, l5]; rfl
  refine s_readSum hx c6 g6 (by rw [l6]; omega) (fun w ew I7 J7 o7 p7 c7 g7 h7 => z_n z_10 ?_) (fun k j ej I7 J7 b7 => z_y z_00 (hbad k j (by rw [ej]; rfl) I7 J7 (b7.from (f6.o hx) j5.o)))
  rw [l6] at h7
  rw [ew, zbi_r] at hok hbad
  have f7 : frE x I I7 := f6.tr o7
  have j7 : frGJ J J7 := j5.tr p7
  refine s_pass c7 (c := 267) (by decide) (by decide) (fun i8 e8 I8 J8 o8 p8 c8 => z_nr z_10 ?_) (fun k j ej I8 b8 => z_yr z_00 (hbad k j (by rw [ej]; rfl) I8 J7 (b8.from (f7.o hx) j7.o)))
  rw [e8, zbi_r] at hok hbad
  have q8 := (zpass_r e8).2.2
  have h8 := c8.2.2.2.2.1
  have g8 : zLs I8 x (S ++ zcSteps u.2 ++ zcSteps v.2 ++ [((3 : Int32), (0 : Int32))] ++ zcSteps w.2) := g7.kept (fun b l q1 q2 => o8 b l (by omega))
  refine s_add g8 (by rw [zSle, l6]; omega) (fun I9 o9 g9 => ?_)
  rw [List.append_assoc (S ++ zcSteps u.2 ++ zcSteps v.2 ++ [((3 : Int32), (0 : Int32))])] at g9
  have l9 : (S ++ zcSteps u.2 ++ zcSteps v.2 ++ [((3 : Int32), (0 : Int32))] ++ (zcSteps w.2 ++ [((4 : Int32), (0 : Int32))])).length = S.length + u.2.length + v.2.length + w.2.length + 2 := by
    rw [List.length_append, l6, List.length_append, zcs_len]
    show _ + (_ + 1) = _
    omega
  rw [ey]
  refine s_aim g9 (by rw [l9]; omega) (fun I10 o10 g10 => ?_)
  rw [l9] at g10
  have eS : S ++ zcSteps u.2 ++ zcSteps v.2 ++ [((3 : Int32), nI (S.length + u.2.length + v.2.length + w.2.length + 2))] ++ (zcSteps w.2 ++ [((4 : Int32), (0 : Int32))]) = S ++ zcIf1 (u.2, v.2, w.2) S.length := by
    unfold zcIf1
    simp only [List.append_assoc]
  rw [eS] at g10
  refine hok (i8, u.2, v.2, w.2) rfl I10 J8 (fun b j q1 q2 q3 q4 => by rw [o10 b j (by omega), o9 b j q4, o8 b j q1, f7 b j q1 q2 q3 q4]) (j7.tr p8) (c8.kept (fun b l q => by rw [o10 b l (by omega), o9 b l (by omega)]) (fun _ _ _ => rfl)) g10 ?_
  rw [zcIf1_len]
  show S.length + (u.2.length + v.2.length + w.2.length + 2) + 2 ≤ i8
  omega
theorem s_law25 {x : Nat} (hx : 27 ≤ x ∧ x + 2 < 47) {Q : Int32 → zI → zJ → Prop} {K : zI → zJ → Prop} : ∀ r i k y l (I : zI) (J : zJ), zC I J B n i → zLs I x (zcIfs l 0) → (zcIfs l 0).length + 2 ≤ i → y + r = 4 → r + 1 < k → (∀ a, zifs (tK B n) (tV B n) r i l = .inr a → ∀ (I' : zI) (J' : zJ), frE x I I' → frGJ J J' → zC I' J' B n a.1 → zLs I' x (zcIfs a.2 0) → (zcIfs a.2 0).length + 2 ≤ a.1 → K I' J') → (∀ k j, zifs (tK B n) (tV B n) r i l = .inl (k, j) → ∀ (I' : zI) (J' : zJ), zBd I J B n k j I' J' → Q 0 I' J') → v_Reader_readLaw_25 5000 k x (nI y) I J Q K
  | r, i, 0, y, l, I, J, hC, hS, hm, hy, hk, hok, hbad => absurd hk (Nat.not_lt_zero _)
  | 0, i, k + 1, y, l, I, J, hC, hS, hm, hy, hk, hok, hbad => by
    rw [show y = 4 by omega]
    rw [zifs] at hok hbad
    rw [v_Reader_readLaw_25]; dsimp only; rw [hC.2.1]
    refine z_n (by decide) ⟨fun q => ?_, fun q => z_yr rfl ?_⟩
    · rw [if_neg (fun z => q ((tK_is (c := 265) (by decide)).mpr z))] at hok
      exact hok (i, l) rfl I J (fun _ _ _ _ _ _ => rfl) (fun _ _ _ => rfl) hC hS hm
    · have q := (tK_is (c := 265) (by decide)).mp q
      rw [if_pos q] at hbad
      exact s_fails (k := 2) hC (fun I' b' => ⟨Or.inl rfl, hbad 2 i rfl I' J b'⟩)
  | r + 1, i, k + 1, y, l, I, J, hC, hS, hm, hy, hk, hok, hbad => by
    rw [zifs] at hok hbad
    rw [v_Reader_readLaw_25]; dsimp only; rw [hC.2.1, nI_1]
    refine z_n (nI_nlt (a := 4) (by omega) (by decide)) ⟨fun q => ?_, fun q => z_nr (fun z => ?_) ?_⟩
    · rw [if_neg (fun z => q ((tK_is (c := 265) (by decide)).mpr z))] at hok
      exact hok (i, l) rfl I J (fun _ _ _ _ _ _ => rfl) (fun _ _ _ => rfl) hC hS hm
    · have := (nI_eq (b := 4) (by omega) (by decide)).mp z; omega
    · have q := (tK_is (c := 265) (by decide)).mp q
      rw [if_pos q] at hok hbad
      refine s_readIf hx hC q hS hm (fun a ea I1 J1 o1 p1 c1 g1 h1 => z_nr z_10 ?_) (fun k j ej I1 J1 b1 => z_yr z_00 (hbad k j (by rw [ej]; rfl) I1 J1 b1))
      rw [ea, zbi_r] at hok hbad
      have es : zcIfs (l ++ [a.2]) 0 = zcIfs l 0 ++ zcIf1 a.2 (zcIfs l 0).length := by rw [zcIfs_app, Nat.zero_add]
      exact s_law25 hx r a.1 k (y + 1) (l ++ [a.2]) I1 J1 c1 (by rw [es]; exact g1) (by rw [es, List.length_append]; omega) (by omega) (by omega) (fun b eb I' J' o' p' c' g' h' => hok b eb I' J' (o1.tr o') (p1.tr p') c' g' h') (fun k j ej I' J' b' => hbad k j ej I' J' (b'.from (o1.o hx) p1.o))
theorem s_readLaw {I : zI} {J : zJ} {x i : Nat} (hx : 27 ≤ x ∧ x + 2 < 47) (hC : zC I J B n i) (hk : tK B n i ≠ 1 ∧ tK B n i ≠ 2) {Q : Int32 → zI → zJ → Prop} (hok : ∀ a, zlaw (tK B n) (tV B n) i = .inr a → ∀ (I' : zI) (J' : zJ), frE x I I' → frGJ J J' → zC I' J' B n a.1 → rCLaw I' x a.2 → i < a.1 → Q 1 I' J') (hbad : ∀ k j, zlaw (tK B n) (tV B n) i = .inl (k, j) → ∀ (I' : zI) (J' : zJ), zBd I J B n k j I' J' → Q 0 I' J') : v_Reader_readLaw 5000 x I J Q := by
  have gE : ∀ {I I' : zI}, frGo I I' → frE x I I' := fun h b l q1 _ _ _ => h b l q1
  unfold zlaw at hok hbad
  intro I0 e0
  have o0 : ∀ b j, ¬ (b = x ∧ j = 2) → I0 b j = I b j := fun b j q => by rw [e0, qu_off (by omega)]
  have f0 : frE x I I0 := fun b j q1 q2 q3 q4 => o0 b j (by omega)
  have g0 : zLs I0 x (zcIfs [] 0) := ⟨by rw [e0, qu_same]; rfl, fun i q h => by cases h⟩
  have j0 : frGJ J J := fun _ _ _ => rfl
  refine s_goOn (hC.kept (fun b l q => o0 b l (by omega)) (fun _ _ _ => rfl)) hk (fun i1 e1 I1 J1 o1 p1 c1 => z_n z_10 ?_) (fun k j ej I1 b1 => z_y z_00 (hbad k j (by rw [ej]; rfl) I1 J (b1.from (f0.o hx) j0.o)))
  rw [e1, zbi_r] at hok hbad
  have q1 := (zgo_r e1).2
  have f1 : frE x I I1 := f0.tr (gE o1)
  refine s_pass c1 (c := 61) (by decide) (by decide) (fun i2 e2 I2 J2 o2 p2 c2 => z_nr z_10 ?_) (fun k j ej I2 b2 => z_yr z_00 (hbad k j (by rw [ej]; rfl) I2 J1 (b2.from (f1.o hx) p1.o)))
  rw [e2, zbi_r] at hok hbad
  have q2 := (zpass_r e2).2.2
  have f2 : frE x I I2 := f1.tr (gE o2)
  have j2 : frGJ J J2 := p1.tr p2
  refine s_law25 hx 4 i2 5000 0 [] I2 J2 c2 (g0.kept (fun b l q1 q2 => by rw [o2 b l (by omega), o1 b l (by omega)])) (by show 0 + 2 ≤ i2; omega) (by decide) (by decide) (fun a ea I3 J3 o3 p3 c3 g3 h3 => ?_) (fun k j ej I3 J3 b3 => hbad k j (by rw [ej]; rfl) I3 J3 (b3.from (f2.o hx) j2.o))
  rw [ea, zbi_r] at hok hbad
  have f3 : frE x I I3 := f2.tr o3
  have j3 : frGJ J J3 := j2.tr p3
  refine s_readSum hx c3 g3 h3 (fun b eb I4 J4 o4 p4 c4 g4 h4 => z_nr z_10 ?_) (fun k j ej I4 J4 b4 => z_yr z_00 (hbad k j (by rw [ej]; rfl) I4 J4 (b4.from (f3.o hx) j3.o)))
  rw [eb, zbi_r] at hok hbad
  have f4 : frE x I I4 := f3.tr o4
  have j4 : frGJ J J4 := j3.tr p4
  have h44 := c4.2.2.2.2.1
  refine s_add g4 (by rw [zSle]; omega) (fun I5 o5 g5 => ?_)
  have f5 : frE x I I5 := fun b j q1 q2 q3 q4 => by rw [o5 b j q4, f4 b j q1 q2 q3 q4]
  refine s_pass (c4.kept (fun b l q => o5 b l (by omega)) (fun _ _ _ => rfl)) (c := 59) (by decide) (by decide) (fun i6 e6 I6 J6 o6 p6 c6 => ⟨Or.inr rfl, ?_⟩) (fun k j ej I6 b6 => ⟨Or.inl rfl, hbad k j (by rw [ej]; rfl) I6 J4 (b6.from (f5.o hx) j4.o)⟩)
  rw [e6, zbi_r] at hok hbad
  have q6 := (zpass_r e6).2.2
  have hlt := zexp_lt _ _ _ _ _ _ eb
  have hle := zifs_le _ _ _ _ ea
  have eL : zcIfs a.2 0 ++ zcSteps b.2 ++ [((4 : Int32), (0 : Int32))] = zcLaw a.2 b.2 0 := (zcLaw_ifs a.2 b.2 0).symm
  have g6 := g5.kept (I' := I6) (fun b l q1 q2 => o6 b l (by omega))
  rw [eL] at g6
  refine hok (i6, a.2, b.2) rfl I6 J6 (f5.tr (gE o6)) (j4.tr p6) c6 ⟨?_, g6.1, g6.2⟩ ?_
  · show (zcLaw a.2 b.2 0).length ≤ 400
    rw [← eL, List.length_append, zSle]
    show _ + 1 ≤ 400
    omega
  · show i < i6
    omega
end
