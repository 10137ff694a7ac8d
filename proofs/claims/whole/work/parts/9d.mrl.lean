/-! reading: the reference's laws -/
section
variable {B : Nat → Nat} {n s : Nat}
def zB1 (I : zI) (q : zPf × zPf × zPf) (b oc : Nat) : Prop := I 383 b = 1 ∧ ∃ o, I 384 b = nI o ∧ I 385 b = nI (o + q.1.length) ∧ I 386 b = nI (o + q.1.length + q.2.1.length) ∧ I 387 b = nI (o + q.1.length + q.2.1.length + q.2.2.length) ∧ rMPf I b o q.1 ∧ rMPf I b (o + q.1.length) q.2.1 ∧ rMPf I b (o + q.1.length + q.2.1.length) q.2.2 ∧ o + q.1.length + q.2.1.length + q.2.2.length ≤ oc
def zB0 (I : zI) (t : zPf) (b oc : Nat) : Prop := I 383 b = 0 ∧ ∃ o, I 386 b = nI o ∧ I 387 b = nI (o + t.length) ∧ rMPf I b o t ∧ o + t.length ≤ oc
def zBs (I : zI) : List (zPf × zPf × zPf) → Nat → Nat → Prop
  | [], _, _ => True
  | q :: l, b, oc => zB1 I q b oc ∧ zBs I l (b + 1) oc
theorem rMPf.keptc {I I' : zI} {b o oc : Nat} {l : zPf} (h : rMPf I b o l) (ho : o + l.length ≤ oc) (f : ∀ a j, a = 388 ∨ a = 389 → j < oc → I' a j = I a j) : rMPf I' b o l := ⟨h.1, fun i q hq => by
  have hi : i < l.length := by
    rcases Nat.lt_or_ge i l.length with z | z
    · exact z
    · rw [List.getElem?_eq_none z] at hq; cases hq
  rw [f _ _ (by omega) (by omega), f _ _ (by omega) (by omega)]
  exact h.2 i q hq⟩
theorem zB1.kept {I I' : zI} {q : zPf × zPf × zPf} {b oc oc' : Nat} (h : zB1 I q b oc) (e : ∀ a, 383 ≤ a → a ≤ 387 → I' a b = I a b) (f : ∀ a j, a = 388 ∨ a = 389 → j < oc → I' a j = I a j) (ho : oc ≤ oc') : zB1 I' q b oc' := by
  obtain ⟨h0, o, h1, h2, h3, h4, h5, h6, h7, h8⟩ := h
  exact ⟨by rw [e _ (by omega) (by omega)]; exact h0, o, by rw [e _ (by omega) (by omega)]; exact h1, by rw [e _ (by omega) (by omega)]; exact h2, by rw [e _ (by omega) (by omega)]; exact h3, by rw [e _ (by omega) (by omega)]; exact h4, h5.keptc (oc := oc) (by omega) f, h6.keptc (oc := oc) (by omega) f, h7.keptc (oc := oc) (by omega) f, by omega⟩
theorem zB0.kept {I I' : zI} {t : zPf} {b oc oc' : Nat} (h : zB0 I t b oc) (e : ∀ a, 383 ≤ a → a ≤ 387 → I' a b = I a b) (f : ∀ a j, a = 388 ∨ a = 389 → j < oc → I' a j = I a j) (ho : oc ≤ oc') : zB0 I' t b oc' := by
  obtain ⟨h0, o, h1, h2, h3, h4⟩ := h
  exact ⟨by rw [e _ (by omega) (by omega)]; exact h0, o, by rw [e _ (by omega) (by omega)]; exact h1, by rw [e _ (by omega) (by omega)]; exact h2, h3.keptc (oc := oc) (by omega) f, by omega⟩
theorem zBs.kept {I I' : zI} {oc oc' : Nat} (f : ∀ a j, a = 388 ∨ a = 389 → j < oc → I' a j = I a j) (ho : oc ≤ oc') : ∀ l b, zBs I l b oc → (∀ a j, 383 ≤ a → a ≤ 387 → b ≤ j → j < b + l.length → I' a j = I a j) → zBs I' l b oc'
  | [], _, _, _ => trivial
  | q :: l, b, h, e => by
    have e : ∀ a j, 383 ≤ a → a ≤ 387 → b ≤ j → j < b + (l.length + 1) → I' a j = I a j := e
    exact ⟨h.1.kept (fun a q1 q2 => e a b q1 q2 (by omega) (by omega)) f ho, zBs.kept f ho l (b + 1) h.2 (fun a j q1 q2 q3 q4 => e a j q1 q2 (by omega) (by omega))⟩
theorem zBs_app {I : zI} {oc : Nat} : ∀ l q b, zBs I l b oc → zB1 I q (b + l.length) oc → zBs I (l ++ [q]) b oc
  | [], q, b, _, h => ⟨h, trivial⟩
  | a :: l, q, b, h, h2 => ⟨h.1, zBs_app l q (b + 1) h.2 (by rw [show b + 1 + l.length = b + (a :: l).length by show _ = b + (l.length + 1); omega]; exact h2)⟩
theorem zBs_br {I : zI} {oc : Nat} {t : zPf} : ∀ l b, zBs I l b oc → zB0 I t (b + l.length) oc → rMBr I l t b
  | [], b, _, h => by
    obtain ⟨h0, o, h1, h2, h3, h4⟩ := h
    exact ⟨h0, o, h1, h2, h3⟩
  | (u, v, w) :: l, b, h, h2 => by
    obtain ⟨⟨g0, o, g1, g2, g3, g4, g5, g6, g7, g8⟩, hs⟩ := h
    rw [rMBr]
    exact ⟨g0, ⟨o, g1, g2, g3, g4, g5, g6, g7⟩, zBs_br l (b + 1) hs (by rw [show b + 1 + l.length = b + ((u, v, w) :: l).length by show _ = b + (l.length + 1); omega]; exact h2)⟩
abbrev frW (s o b : Nat) (I I' : zI) : Prop := ∀ a l, ¬ (a = 361 ∧ (l = 11 ∨ l = 12 ∨ l = 13 ∨ l = 14 ∨ l = 35 ∨ l = 41 ∨ l = 45)) → a ≠ 390 → ¬ ((a = 388 ∨ a = 389) ∧ o ≤ l ∧ l < 420 * s + 420) → ¬ (383 ≤ a ∧ a ≤ 387 ∧ b ≤ l ∧ l < 130 * s + 130) → I' a l = I a l
theorem frX.w {o o' b : Nat} {I I' : zI} (h : frX s o' I I') (ho : o ≤ o') : frW s o b I I' := fun a l q1 q2 q3 _ => h a l (by omega) q2 (by omega)
theorem frP.w {o b : Nat} {I I' : zI} (h : frP I I') : frW s o b I I' := fun a l q1 _ _ _ => h a l (by omega)
theorem frW.tr {o b : Nat} {I I' I'' : zI} (h : frW s o b I I') (g : frW s o b I' I'') : frW s o b I I'' := fun a l q1 q2 q3 q4 => by rw [g a l q1 q2 q3 q4, h a l q1 q2 q3 q4]
theorem frW.up {o o' b b' : Nat} {I I' : zI} (h : frW s o' b' I I') (ho : o ≤ o') (hb : b ≤ b') : frW s o b I I' := fun a l q1 q2 q3 q4 => h a l q1 q2 (by omega) (by omega)
theorem zCo.pf {I : zI} {o b : Nat} {out : zPf} (h : zCo I o out) (h1 : 420 * s ≤ o) (h2 : o + out.length ≤ 420 * s + 420) (hs : s < 2) (hb : b / 130 = s) : rMPf I b o out := ⟨⟨by omega, by rw [hb]; exact h1, by rw [hb]; exact h2⟩, h.2⟩
theorem m_term {I : zI} {J : zJ} {i o b : Nat} (hM : zM I J B n s i) (h12 : I 361 12 = 0) (h41 : I 361 41 = nI o) (ho1 : 420 * s ≤ o) (ho2 : o ≤ 420 * s + i) (h35 : I 361 35 = nI b) (hb1 : 130 * s ≤ b) (hb2 : b < 130 * s + 130) {Q : zI → zJ → Prop} (hok : ∀ a, zE1 (tK B n) (tV B n) i = .inr a → ∀ I' : zI, frW s o b I I' → (∀ c, c = 383 ∨ c = 384 ∨ c = 385 → I' c b = I c b) → zM I' J B n s a.1 → I' 361 12 = 0 → zCo I' o a.2 → o + a.2.length ≤ 420 * s + a.1 → I' 361 35 = nI (b + 1) → I' 386 b = nI o → I' 387 b = nI (o + a.2.length) → Q I' J) (hbad : ∀ k j, zE1 (tK B n) (tV B n) i = .inl (k, j) → ∀ I' : zI, frW s o b I I' → zDe I' B n k j → I' 361 35 = nI (b + 1) → Q I' J) : v_M_term 5000 I J Q := by
  have hs := hM.2.2.2.1
  have v : vp_in (nI b) 260 := vp_in_nI (by omega) (by decide)
  unfold v_M_term
  rw [h35, nI_clamp (by omega), h41]
  refine ⟨v, fun I2 e2 => ?_⟩
  have o2 : ∀ a l, ¬ (a = 386 ∧ l = b) → I2 a l = I a l := fun a l q => by rw [e2, qu_off (by omega)]
  have f2 : frW s o b I I2 := fun a l q1 q2 q3 q4 => o2 a l (by omega)
  have hM2 : zM I2 J B n s i := hM.kept (fun b l q => o2 b l (by omega)) (fun _ => rfl)
  refine z_yr hM2.2.1 ?_
  refine m_expression hM2 (by rw [o2 _ _ (by omega)]; exact h12) (by rw [o2 _ _ (by omega)]; exact h41) ho1 ho2 (fun a ea I3 o3 m3 z3 g3 l3 => ?_) (fun k j ej I3 o3 d3 => ?_)
  · unfold v_M_term_24
    have e35 : I3 361 35 = nI b := by rw [o3 _ _ (by omega) (by omega) (by omega), o2 _ _ (by omega)]; exact h35
    rw [e35, nI_clamp (by omega), g3.1]
    refine ⟨v, fun I4 e4 I5 e5 => ?_⟩
    have o4 : ∀ a l, ¬ (a = 387 ∧ l = b) → I4 a l = I3 a l := fun a l q => by rw [e4, qu_off (by omega)]
    rw [o4 _ _ (by omega), e35, nI_1] at e5
    have o5 : ∀ a l, ¬ (a = 361 ∧ l = 35) → I5 a l = I4 a l := fun a l q => by rw [e5, qu_off (by omega)]
    refine hok a ea I5 (fun a l q1 q2 q3 q4 => ?_) (fun c hc => ?_) (m3.kept (fun b l q => by rw [o5 b l (by omega), o4 b l (by omega)]) (fun _ => rfl)) ?_ (g3.kept (fun b l q => by rw [o5 b l (by omega), o4 b l (by omega)])) l3 (by rw [e5, qu_same]) ?_ ?_
    · rw [o5 a l (by omega), o4 a l (by omega), o3 a l (by omega) q2 q3, o2 a l (by omega)]
    · rw [o5 _ _ (by omega), o4 _ _ (by omega), o3 _ _ (by omega) (by omega) (by omega), o2 _ _ (by omega)]
    · rw [o5 _ _ (by omega), o4 _ _ (by omega)]; exact z3
    · rw [o5 _ _ (by omega), o4 _ _ (by omega), o3 _ _ (by omega) (by omega) (by omega), e2, qu_same]
    · rw [o5 _ _ (by omega), e4, qu_same]
  · unfold v_M_term_24
    have e35 : I3 361 35 = nI b := by rw [o3 _ _ (by omega) (by omega) (by omega), o2 _ _ (by omega)]; exact h35
    rw [e35, nI_clamp (by omega)]
    refine ⟨v, fun I4 e4 I5 e5 => ?_⟩
    have o4 : ∀ a l, ¬ (a = 387 ∧ l = b) → I4 a l = I3 a l := fun a l q => by rw [e4, qu_off (by omega)]
    rw [o4 _ _ (by omega), e35, nI_1] at e5
    have o5 : ∀ a l, ¬ (a = 361 ∧ l = 35) → I5 a l = I4 a l := fun a l q => by rw [e5, qu_off (by omega)]
    refine hbad k j ej I5 (fun a l q1 q2 q3 q4 => ?_) (d3.kept (fun l q => by rw [o5 _ _ (by omega), o4 _ _ (by omega)])) (by rw [e5, qu_same])
    rw [o5 a l (by omega), o4 a l (by omega), o3 a l (by omega) q2 q3, o2 a l (by omega)]
theorem m_term_d {I : zI} {J : zJ} {k j b o : Nat} (hD : zDe I B n k j) (hs : s < 2) (h35 : I 361 35 = nI b) (hb1 : 130 * s ≤ b) (hb2 : b < 130 * s + 130) {Q : zI → zJ → Prop} (hbad : ∀ I' : zI, frW s o b I I' → zDe I' B n k j → I' 361 35 = nI (b + 1) → Q I' J) : v_M_term 5000 I J Q := by
  have v : vp_in (nI b) 260 := vp_in_nI (by omega) (by decide)
  unfold v_M_term
  rw [h35, nI_clamp (by omega)]
  refine ⟨v, fun I2 e2 => ?_⟩
  have o2 : ∀ a l, ¬ (a = 386 ∧ l = b) → I2 a l = I a l := fun a l q => by rw [e2, qu_off (by omega)]
  have d2 := hD.kept (I' := I2) (fun l q => o2 _ _ (by omega))
  refine z_nr (fun z => d2.ne z) ?_
  unfold v_M_term_24
  rw [o2 361 35 (by omega), h35, nI_clamp (by omega)]
  refine ⟨v, fun I4 e4 I5 e5 => ?_⟩
  have o4 : ∀ a l, ¬ (a = 387 ∧ l = b) → I4 a l = I2 a l := fun a l q => by rw [e4, qu_off (by omega)]
  rw [o4 _ _ (by omega), o2 _ _ (by omega), h35, nI_1] at e5
  have o5 : ∀ a l, ¬ (a = 361 ∧ l = 35) → I5 a l = I4 a l := fun a l q => by rw [e5, qu_off (by omega)]
  exact hbad I5 (fun a l q1 q2 q3 q4 => by rw [o5 a l (by omega), o4 a l (by omega), o2 a l (by omega)]) (d2.kept (fun l q => by rw [o5 _ _ (by omega), o4 _ _ (by omega)])) (by rw [e5, qu_same])
theorem zif_ge {kd : Nat → Nat} {vl : Nat → Int64} {i : Nat} {a : Nat × zPf × zPf × zPf} (h : zif kd vl i = .inr a) : i + 7 ≤ a.1 := by
  unfold zif at h
  obtain ⟨i1, e1, h⟩ := zbi_inr h
  obtain ⟨u, eu, h⟩ := zbi_inr h
  obtain ⟨i3, e3, h⟩ := zbi_inr h
  obtain ⟨v, ev, h⟩ := zbi_inr h
  obtain ⟨i5, e5, h⟩ := zbi_inr h
  obtain ⟨w, ew, h⟩ := zbi_inr h
  obtain ⟨i7, e7, h⟩ := zbi_inr h
  cases h
  have h1 := (zgo_r e1).2
  have h2 := zexp_lt _ _ _ _ _ _ eu
  have h3 := (zpass_r e3).2.2
  have h4 := zexp_lt _ _ _ _ _ _ ev
  have h5 := (zpass_r e5).2.2
  have h6 := zexp_lt _ _ _ _ _ _ ew
  have h7 := (zpass_r e7).2.2
  show i + 7 ≤ i7
  omega
/-- one if -/
theorem m_if {I : zI} {J : zJ} {i o b : Nat} {x1 x2 x3 : Int32} (hM : zM I J B n s i) (hk : tK B n i = 265) (h12 : I 361 12 = 0) (h41 : I 361 41 = nI o) (ho1 : 420 * s ≤ o) (ho2 : o ≤ 420 * s + i) (h35 : I 361 35 = nI b) (hb1 : 130 * s ≤ b) (hb2 : b < 130 * s + 120) {Q : zI → zJ → Prop} {K : Int32 → Int32 → Int32 → zI → zJ → Prop} (hok : ∀ a, zif (tK B n) (tV B n) i = .inr a → ∀ (I' : zI) (o' : Nat), frW s o b I I' → zM I' J B n s a.1 → I' 361 12 = 0 → I' 361 41 = nI o' → o ≤ o' → o' ≤ 420 * s + a.1 → I' 361 35 = nI (b + 1) → zB1 I' a.2 b o' → K x1 x2 (x3 + 1) I' J) (hbad : ∀ k j, zif (tK B n) (tV B n) i = .inl (k, j) → ∀ I' : zI, frW s o b I I' → zDe I' B n k j → I' 361 35 = nI (b + 1) → K x1 x2 (x3 + 1) I' J) : v_M_tellLaw_38 5000 x1 x2 x3 I J Q K := by
  have hs := hM.2.2.2.1
  have h400 := hM.2.2.2.2.2.1
  have v : vp_in (nI b) 260 := vp_in_nI (by omega) (by decide)
  have cl : (nI b).toNatClampNeg = b := nI_clamp (by omega)
  have hbd : b / 130 = s := by omega
  have f35 : ∀ {I1 I2 : zI}, frX s o I1 I2 → I2 361 35 = I1 361 35 := fun h => h _ _ (by omega) (by omega) (by omega)
  -- behind the first test, a fault
  have dA : ∀ (k j : Nat) (I8 : zI), zif (tK B n) (tV B n) i = .inl (k, j) → frW s o b I I8 → zDe I8 B n k j → I8 361 35 = nI b → (vp_in (I8 361 35) 260 ∧ ∀ I10 : zI, I10 = qu I8 385 ((I8 361 35)).toNatClampNeg (I8 361 41) → ((¬ (I10 361 13) = 0 → (v_M_must 5000 (30 : Int32) I10 J (fun I12 J12 => (v_M_term 5000  I12 J12 (fun I13 J13 => (v_M_must 5000 (31 : Int32) I13 J13 (fun I14 J14 => (K x1 x2 (x3 + (1 : Int32)) I14 J14)))))))) ∧ ((I10 361 13) = 0 → (v_M_expression 5000  I10 J (fun I15 J15 => (v_M_must 5000 (30 : Int32) I15 J15 (fun I16 J16 => (v_M_term 5000  I16 J16 (fun I17 J17 => (v_M_must 5000 (31 : Int32) I17 J17 (fun I18 J18 => (K x1 x2 (x3 + (1 : Int32)) I18 J18)))))))))))) := fun k j I7 ez f7 d7 e7 => by
    rw [e7, cl]
    refine ⟨v, fun I10 e10 => ?_⟩
    have o10 : ∀ a l, ¬ (a = 385 ∧ l = b) → I10 a l = I7 a l := fun a l q => by rw [e10, qu_off (by omega)]
    have d10 := d7.kept (I' := I10) (fun l q => o10 _ _ (by omega))
    exact z_nr (fun z => d10.ne z) (m_must_d d10 (m_term_d (s := s) (o := o) d10 hs (by rw [o10 _ _ (by omega)]; exact e7) hb1 (by omega) (fun I13 o13 d13 e13 => m_must_d d13 (hbad k j ez I13 (f7.tr ((show frW s o b I7 I10 from fun a l q1 q2 q3 q4 => o10 a l (by omega)).tr o13)) d13 e13))))
  -- behind the second test, a fault
  have dB : ∀ (k j : Nat) (I15 : zI), zif (tK B n) (tV B n) i = .inl (k, j) → frW s o b I I15 → zDe I15 B n k j → I15 361 35 = nI b → v_M_term 5000 I15 J (fun I17 J17 => (v_M_must 5000 (31 : Int32) I17 J17 (fun I18 J18 => (K x1 x2 (x3 + (1 : Int32)) I18 J18)))) := fun k j I15 ez f15 d15 e15 => m_term_d (s := s) (o := o) d15 hs e15 hb1 (by omega) (fun I13 o13 d13 e13 => m_must_d d13 (hbad k j ez I13 (f15.tr o13) d13 e13))
  unfold zif at hok hbad dA dB
  refine z_y hM.le (m_goesOn hM (by omega) (fun i1 e1 I2 o2 m2 => ?_) (fun k j ej I2 o2 d2 => ?_))
  · rw [e1, zbi_r] at hok hbad dA dB
    have q1 := (zgo_r e1).2
    rw [o2 _ _ (by omega), h35, cl]
    refine ⟨v, fun I4 e4 => ?_⟩
    rw [z_nar01 (Or.inr rfl)] at e4
    have o4 : ∀ a l, ¬ (a = 383 ∧ l = b) → I4 a l = I2 a l := fun a l q => by rw [e4, qu_off (by omega)]
    rw [o4 361 35 (by omega), o2 361 35 (by omega), h35, cl, o4 361 41 (by omega), o2 361 41 (by omega), h41]
    refine ⟨v, fun I6 e6 => ?_⟩
    have o6 : ∀ a l, ¬ (a = 384 ∧ l = b) → I6 a l = I4 a l := fun a l q => by rw [e6, qu_off (by omega)]
    have f6 : frW s o b I I6 := fun a l q1 q2 q3 q4 => by rw [o6 a l (by omega), o4 a l (by omega), o2 a l (by omega)]
    have s6 : ∀ l, ¬ (l = 11 ∨ l = 13 ∨ l = 14) → I6 361 l = I 361 l := fun l q => by rw [o6 _ l (by omega), o4 _ l (by omega), o2 _ l (by omega)]
    have m6 : zM I6 J B n s i1 := m2.kept (fun b l q => by rw [o6 b l (by omega), o4 b l (by omega)]) (fun _ => rfl)
    refine m_expression m6 (by rw [s6 _ (by omega)]; exact h12) (by rw [s6 _ (by omega)]; exact h41) ho1 (by omega) (fun u eu I7 o7 m7 z7 g7 l7 => ?_) (fun k j ej I7 o7 d7 => m_must_d d7 (dA k j I7 (by rw [ej]; rfl) (f6.tr (o7.w (Nat.le_refl _))) d7 (by rw [f35 o7, s6 _ (by omega)]; exact h35)))
    rw [eu, zbi_r] at hok hbad dA dB
    have f7 : frW s o b I I7 := f6.tr (o7.w (Nat.le_refl _))
    have h7 : I7 361 35 = nI b := by rw [f35 o7, s6 _ (by omega)]; exact h35
    have hu400 := m7.2.2.2.2.2.1
    refine m_must m7 (c := 60) rfl (by unfold zkv; omega) (by decide) (fun i3 e3 I8 o8 m8 => ?_) (fun k j ej I8 o8 d8 => dA k j I8 (by rw [ej]; rfl) (f7.tr o8.w) d8 (by rw [o8 _ _ (by omega)]; exact h7))
    rw [e3, zbi_r] at hok hbad dB
    have q3 := (zpass_r e3).2.2
    have h8 : I8 361 35 = nI b := by rw [o8 _ _ (by omega)]; exact h7
    rw [h8, cl, o8 361 41 (by omega), g7.1]
    refine ⟨v, fun I10 e10 => ?_⟩
    have o10 : ∀ a l, ¬ (a = 385 ∧ l = b) → I10 a l = I8 a l := fun a l q => by rw [e10, qu_off (by omega)]
    have m10 : zM I10 J B n s i3 := m8.kept (fun b l q => o10 b l (by omega)) (fun _ => rfl)
    have f10 : frW s o b I I10 := f7.tr (o8.w.tr (fun a l q1 q2 q3 q4 => o10 a l (by omega)))
    have h10 : I10 361 35 = nI b := by rw [o10 _ _ (by omega)]; exact h8
    refine z_yr m10.2.1 (m_expression m10 (by rw [o10 _ _ (by omega), o8 _ _ (by omega)]; exact z7) (by rw [o10 _ _ (by omega), o8 _ _ (by omega)]; exact g7.1) (by omega) (by omega) (fun w ew I15 o15 m15 z15 g15 l15 => ?_) (fun k j ej I15 o15 d15 => m_must_d d15 (dB k j I15 (by rw [ej]; rfl) (f10.tr (o15.w (by omega))) d15 (by rw [o15 _ _ (by omega) (by omega) (by omega)]; exact h10))))
    rw [ew, zbi_r] at hok hbad dB
    have f15 : frW s o b I I15 := f10.tr (o15.w (by omega))
    have h15 : I15 361 35 = nI b := by rw [o15 _ _ (by omega) (by omega) (by omega)]; exact h10
    refine m_must m15 (c := 266) rfl (by unfold zkv; omega) (by decide) (fun i5 e5 I16 o16 m16 => ?_) (fun k j ej I16 o16 d16 => dB k j I16 (by rw [ej]; rfl) (f15.tr o16.w) d16 (by rw [o16 _ _ (by omega)]; exact h15))
    rw [e5, zbi_r] at hok hbad
    have q5 := (zpass_r e5).2.2
    have f16 : frW s o b I I16 := f15.tr o16.w
    have h16 : I16 361 35 = nI b := by rw [o16 _ _ (by omega)]; exact h15
    refine m_term m16 (by rw [o16 _ _ (by omega)]; exact z15) (by rw [o16 _ _ (by omega)]; exact g15.1) (by omega) (by omega) h16 hb1 (by omega) (fun x ex I17 o17 b17 m17 z17 g17 l17 h17 v386 v387 => ?_) (fun k j ej I17 o17 d17 h17 => m_must_d d17 (hbad k j (by rw [ej]; rfl) I17 (f16.tr (o17.up (by omega) (Nat.le_refl _))) d17 h17))
    rw [ex, zbi_r] at hok hbad
    have f17 : frW s o b I I17 := f16.tr (o17.up (by omega) (Nat.le_refl _))
    have hx400 := m17.2.2.2.2.2.1
    refine m_must m17 (c := 267) rfl (by unfold zkv; omega) (by decide) (fun i7 e7 I18 o18 m18 => ?_) (fun k j ej I18 o18 d18 => hbad k j (by rw [ej]; rfl) I18 (f17.tr o18.w) d18 (by rw [o18 _ _ (by omega)]; exact h17))
    rw [e7, zbi_r] at hok hbad
    have q7 := (zpass_r e7).2.2
    refine hok (i7, u.2, w.2, x.2) rfl I18 (o + u.2.length + w.2.length + x.2.length) (f17.tr o18.w) m18 (by rw [o18 _ _ (by omega)]; exact z17) (by rw [o18 _ _ (by omega)]; exact g17.1) (by omega) (by show _ ≤ 420 * s + i7; omega) (by rw [o18 _ _ (by omega)]; exact h17) ⟨?_, o, ?_, ?_, ?_, ?_, ?_, ?_, ?_, Nat.le_refl _⟩
    · rw [o18 _ _ (by omega), b17 _ (by omega), o16 _ _ (by omega), o15 _ _ (by omega) (by omega) (by omega), o10 _ _ (by omega), o8 _ _ (by omega), o7 _ _ (by omega) (by omega) (by omega), o6 _ _ (by omega), e4, qu_same]
    · rw [o18 _ _ (by omega), b17 _ (by omega), o16 _ _ (by omega), o15 _ _ (by omega) (by omega) (by omega), o10 _ _ (by omega), o8 _ _ (by omega), o7 _ _ (by omega) (by omega) (by omega), e6, qu_same]
    · rw [o18 _ _ (by omega), b17 _ (by omega), o16 _ _ (by omega), o15 _ _ (by omega) (by omega) (by omega), e10, qu_same]
    · rw [o18 _ _ (by omega)]; exact v386
    · rw [o18 _ _ (by omega)]; exact v387
    · refine (g7.pf (b := b) ho1 (by omega) hs hbd).keptc (oc := o + u.2.length) (Nat.le_refl _) (fun a j q1 q2 => ?_)
      rw [o18 _ _ (by omega), o17 _ _ (by omega) (by omega) (by omega) (by omega), o16 _ _ (by omega), o15 _ _ (by omega) (by omega) (by omega), o10 _ _ (by omega), o8 _ _ (by omega)]
    · refine (g15.pf (b := b) (by omega) (by omega) hs hbd).keptc (oc := o + u.2.length + w.2.length) (Nat.le_refl _) (fun a j q1 q2 => ?_)
      rw [o18 _ _ (by omega), o17 _ _ (by omega) (by omega) (by omega) (by omega), o16 _ _ (by omega)]
    · refine (g17.pf (b := b) (by omega) (by omega) hs hbd).keptc (oc := o + u.2.length + w.2.length + x.2.length) (Nat.le_refl _) (fun a j q1 q2 => ?_)
      rw [o18 _ _ (by omega)]
  · have ez : zif (tK B n) (tV B n) i = .inl (k, j) := by unfold zif; rw [ej]; rfl
    rw [o2 _ _ (by omega), h35, cl]
    refine ⟨v, fun I4 e4 => ?_⟩
    have o4 : ∀ a l, ¬ (a = 383 ∧ l = b) → I4 a l = I2 a l := fun a l q => by rw [e4, qu_off (by omega)]
    rw [o4 361 35 (by omega), o2 361 35 (by omega), h35, cl]
    refine ⟨v, fun I6 e6 => ?_⟩
    have o6 : ∀ a l, ¬ (a = 384 ∧ l = b) → I6 a l = I4 a l := fun a l q => by rw [e6, qu_off (by omega)]
    have f6 : frW s o b I I6 := fun a l q1 q2 q3 q4 => by rw [o6 a l (by omega), o4 a l (by omega), o2 a l (by omega)]
    have d6 := d2.kept (I' := I6) (fun l q => by rw [o6 _ l (by omega), o4 _ l (by omega)])
    refine m_expression_d d6 (fun I7 o7 d7 => m_must_d d7 (dA k j I7 ez (f6.tr (fun a l q1 q2 q3 q4 => o7 a l (by omega))) d7 ?_))
    rw [o7 _ _ (by omega), o6 _ _ (by omega), o4 _ _ (by omega), o2 _ _ (by omega)]; exact h35
/-- behind the ifs, a fault -/
theorem m_129d {I : zI} {J : zJ} {k j b o : Nat} {x1 x2 : Int32} (hD : zDe I B n k j) (hs : s < 2) (h35 : I 361 35 = nI b) (hb1 : 130 * s ≤ b) (hb2 : b < 130 * s + 130) {Q : zI → zJ → Prop} (hbad : ∀ I' : zI, frW s o b I I' → zDe I' B n k j → Q I' J) : v_M_tellLaw_129 5000 x1 x2 I J Q := by
  unfold v_M_tellLaw_129
  rw [h35, nI_clamp (by omega)]
  refine ⟨vp_in_nI (by omega) (by decide), fun I2 e2 => ?_⟩
  have o2 : ∀ a l, ¬ (a = 383 ∧ l = b) → I2 a l = I a l := fun a l q => by rw [e2, qu_off (by omega)]
  have d2 := hD.kept (I' := I2) (fun l q => o2 _ _ (by omega))
  exact m_term_d (s := s) (o := o) d2 hs (by rw [o2 _ _ (by omega)]; exact h35) hb1 hb2 (fun I3 o3 d3 _ => m_must_d d3 (z_n d3.nle (hbad I3 (frW.tr (fun a l q1 q2 q3 q4 => o2 a l (by omega)) o3) d3)))
theorem m_law12 {o0 b0 : Nat} {J : zJ} {x1 x2 : Int32} {Q : zI → zJ → Prop} : ∀ r i k y l o (I : zI), zM I J B n s i → I 361 12 = 0 → I 361 41 = nI o → o0 ≤ o → 420 * s ≤ o0 → o ≤ 420 * s + i → I 361 35 = nI (b0 + l.length) → 130 * s ≤ b0 → 4 * (b0 + l.length) + 2 ≤ 520 * s + i → zBs I l b0 o → y + r = 4 → r + 1 < k → (∀ a, zifs (tK B n) (tV B n) r i l = .inr a → ∀ (I' : zI) (o' : Nat), frW s o0 b0 I I' → zM I' J B n s a.1 → I' 361 12 = 0 → I' 361 41 = nI o' → o0 ≤ o' → o' ≤ 420 * s + a.1 → I' 361 35 = nI (b0 + a.2.length) → 4 * (b0 + a.2.length) + 2 ≤ 520 * s + a.1 → zBs I' a.2 b0 o' → v_M_tellLaw_129 5000 x1 x2 I' J Q) → (∀ k j, zifs (tK B n) (tV B n) r i l = .inl (k, j) → ∀ I' : zI, frW s o0 b0 I I' → zDe I' B n k j → Q I' J) → v_M_tellLaw_12 5000 k x1 x2 (nI y) I J Q (fun w3 w4 I5 J5 => v_M_tellLaw_129 5000 w3 w4 I5 J5 Q)
  | r, i, 0, y, l, o, I, hM, h12, h41, ho0, ho1, ho2, h35, hb1, hb2, hB, hy, hk, hok, hbad => absurd hk (Nat.not_lt_zero _)
  | 0, i, k + 1, y, l, o, I, hM, h12, h41, ho0, ho1, ho2, h35, hb1, hb2, hB, hy, hk, hok, hbad => by
    rw [show y = 4 by omega]
    rw [zifs] at hok hbad
    rw [v_M_tellLaw_12]
    refine z_yr hM.2.1 (m_is hM (c := 265) rfl (by unfold zkv; omega) (fun q => z_n z_10 (z_yr rfl ?_)) (fun q => z_y z_00 ?_))
    · rw [if_pos q] at hbad
      exact m_fail (k := 2) hM (fun I' o' d' => z_n d'.nle (hbad 2 i rfl I' o'.w d'))
    · rw [if_neg q] at hok
      exact hok (i, l) rfl I o (fun _ _ _ _ _ _ => rfl) hM h12 h41 ho0 ho2 h35 hb2 hB
  | r + 1, i, k + 1, y, l, o, I, hM, h12, h41, ho0, ho1, ho2, h35, hb1, hb2, hB, hy, hk, hok, hbad => by
    have hs := hM.2.2.2.1
    have h400 := hM.2.2.2.2.2.1
    rw [zifs] at hok hbad
    obtain ⟨k', rfl⟩ : ∃ k', k = k' + 1 := ⟨k - 1, by omega⟩
    rw [v_M_tellLaw_12]
    refine z_yr hM.2.1 (m_is hM (c := 265) rfl (by unfold zkv; omega) (fun q => z_n z_10 (z_nr (fun z => ?_) ?_)) (fun q => z_y z_00 ?_))
    · have := (nI_eq (b := 4) (by omega) (by decide)).mp z; omega
    · rw [if_pos q] at hok hbad
      refine m_if hM q h12 h41 (by omega) ho2 h35 (by omega) (by omega) (fun a ea I' o' f' m' z' g' l1 l2 h' b' => ?_) (fun k2 j2 ej I' f' d' h' => ?_)
      · rw [ea, zbi_r] at hok hbad
        have hge := zif_ge ea
        have hlen : (l ++ [a.2]).length = l.length + 1 := by rw [List.length_append]; rfl
        have ff : frW s o0 b0 I I' := f'.up ho0 (by omega)
        rw [nI_1]
        refine m_law12 r a.1 (k' + 1) (y + 1) (l ++ [a.2]) o' I' m' z' g' (by omega) ho1 l2 (by rw [hlen]; exact h') hb1 (by rw [hlen]; omega) (zBs_app l a.2 b0 (hB.kept (fun a j q1 q2 => f' a j (by omega) (by omega) (by omega) (by omega)) l1 l b0 (fun a j q1 q2 q3 q4 => f' a j (by omega) (by omega) (by omega) (by omega))) b') (by omega) (by omega) (fun a2 ea2 I2 o2 f2 => hok a2 ea2 I2 o2 (ff.tr f2)) (fun k2 j2 e2 I2 f2 d2 => hbad k2 j2 e2 I2 (ff.tr f2) d2)
      · rw [ej, zbi_l] at hbad
        have ff : frW s o0 b0 I I' := f'.up ho0 (by omega)
        rw [v_M_tellLaw_12]
        exact z_nr (fun z => d'.ne z) (m_129d (s := s) (o := o0) d' hs h' (by omega) (by omega) (fun I2 f2 d2 => hbad k2 j2 rfl I2 (ff.tr (f2.up (Nat.le_refl _) (by omega))) d2))
    · rw [if_neg q] at hok
      exact hok (i, l) rfl I o (fun _ _ _ _ _ _ => rfl) hM h12 h41 ho0 ho2 h35 hb2 hB
def zlaw1 (kd : Nat → Nat) (vl : Nat → Int64) (i1 : Nat) : zF (Nat × zLw) := zbi (zpass kd 61 i1) fun i2 => zbi (zifs kd vl 4 i2 []) fun a => zbi (zE1 kd vl a.1) fun b => zbi (zpass kd 59 b.1) fun i5 => .inr (i5, a.2, b.2)
theorem zlaw_1 (kd : Nat → Nat) (vl : Nat → Int64) (i : Nat) : zlaw kd vl i = zbi (zgo i) (zlaw1 kd vl) := rfl
abbrev frV (s o b k : Nat) (I I' : zI) : Prop := ∀ a l, ¬ (a = 361 ∧ (l = 11 ∨ l = 12 ∨ l = 13 ∨ l = 14 ∨ l = 35 ∨ l = 41 ∨ l = 45)) → a ≠ 390 → ¬ ((a = 388 ∨ a = 389) ∧ o ≤ l ∧ l < 420 * s + 420) → ¬ (383 ≤ a ∧ a ≤ 387 ∧ b ≤ l ∧ l < 130 * s + 130) → ¬ ((a = 381 ∨ a = 382) ∧ l = 4 * s + k) → I' a l = I a l
theorem m_tellLaw {I : zI} {J : zJ} {i o b k : Nat} (hk4 : k < 4) (hM : zM I J B n s i) (h12 : I 361 12 = 0) (h41 : I 361 41 = nI o) (ho1 : 420 * s ≤ o) (ho2 : o ≤ 420 * s + i) (h35 : I 361 35 = nI b) (hb1 : 130 * s ≤ b) (hb2 : 4 * b + 1 ≤ 520 * s + i) {Q : zI → zJ → Prop} (hok : ∀ a, zlaw1 (tK B n) (tV B n) i = .inr a → ∀ (I' : zI) (o' : Nat), frV s o b k I I' → zM I' J B n s a.1 → I' 361 12 = 0 → I' 361 41 = nI o' → o ≤ o' → o' ≤ 420 * s + a.1 → I' 361 35 = nI (b + a.2.1.length + 1) → 4 * (b + a.2.1.length + 1) ≤ 520 * s + a.1 → I' 381 (4 * s + k) = nI b → I' 382 (4 * s + k) = nI (b + a.2.1.length + 1) → zBs I' a.2.1 b o' → zB0 I' a.2.2 (b + a.2.1.length) o' → i < a.1 → Q I' J) (hbad : ∀ k j, zlaw1 (tK B n) (tV B n) i = .inl (k, j) → ∀ I' : zI, frW s o b I I' → zDe I' B n k j → Q I' J) : v_M_tellLaw 5000 (nI k) I J Q := by
  have hs := hM.2.2.2.1
  have h400 := hM.2.2.2.2.2.1
  unfold zlaw1 at hok hbad
  refine m_must hM (c := 61) rfl (by unfold zkv; omega) (by decide) (fun i2 e2 I1 o1 m1 y ey => ?_) (fun k2 j2 ej I1 o1 d1 y ey => ?_)
  · rw [e2, zbi_r] at hok hbad
    have q2 := (zpass_r e2).2.2
    have e35 : I1 361 35 = nI b := by rw [o1 _ _ (by omega)]; exact h35
    rw [ey, e35]
    refine m_law12 (o0 := o) (b0 := b) 4 i2 5000 0 [] o I1 m1 (by rw [o1 _ _ (by omega)]; exact h12) (by rw [o1 _ _ (by omega)]; exact h41) (Nat.le_refl _) ho1 (by omega) e35 hb1 (by show 4 * (b + 0) + 2 ≤ _; omega) trivial (by decide) (by decide) (fun a ea I3 o3 f3 m3 z3 g3 l3 l4 h3 hb3 b3 => ?_) (fun k2 j2 ej I3 f3 d3 => hbad k2 j2 (by rw [ej]; rfl) I3 (frP.w o1 |>.tr f3) d3)
    rw [ea, zbi_r] at hok hbad
    have hle := zifs_le _ _ _ _ ea
    have ha400 := m3.2.2.2.2.2.1
    have ff3 : frW s o b I I3 := (frP.w o1).tr f3
    have hbd : (b + a.2.length) / 130 = s := by omega
    unfold v_M_tellLaw_129
    rw [h3, nI_clamp (by omega)]
    refine ⟨vp_in_nI (by omega) (by decide), fun I4 e4 => ?_⟩
    rw [z_nar01 (Or.inl rfl)] at e4
    have o4 : ∀ a' l, ¬ (a' = 383 ∧ l = b + a.2.length) → I4 a' l = I3 a' l := fun a' l q => by rw [e4, qu_off (by omega)]
    have ff4 : frW s o b I I4 := ff3.tr (fun a l q1 q2 q3 q4 => o4 a l (by omega))
    refine m_term (m3.kept (fun b l q => o4 b l (by omega)) (fun _ => rfl)) (by rw [o4 _ _ (by omega)]; exact z3) (by rw [o4 _ _ (by omega)]; exact g3) (by omega) l4 (by rw [o4 _ _ (by omega)]; exact h3) (by omega) (by omega) (fun t et I5 f5 b5 m5 z5 g5 l5 h5 v386 v387 => ?_) (fun k2 j2 ej I5 f5 d5 h5 => m_must_d d5 (z_n d5.nle (hbad k2 j2 (by rw [ej]; rfl) I5 (ff4.tr (f5.up l3 (by omega))) d5)))
    rw [et, zbi_r] at hok hbad
    have ff5 : frW s o b I I5 := ff4.tr (f5.up l3 (by omega))
    have ht400 := m5.2.2.2.2.2.1
    have hlt := zexp_lt _ _ _ _ _ _ et
    refine m_must m5 (c := 59) rfl (by unfold zkv; omega) (by decide) (fun i5 e5 I6 o6 m6 => z_y m6.le ?_) (fun k2 j2 ej I6 o6 d6 => z_n d6.nle (hbad k2 j2 (by rw [ej]; rfl) I6 (ff5.tr o6.w) d6))
    rw [e5, zbi_r] at hok hbad
    have q5 := (zpass_r e5).2.2
    have ff6 : frW s o b I I6 := ff5.tr o6.w
    rw [m6.2.2.1, z_m4, nI_clamp (by omega)]
    refine ⟨vp_in_nI (by omega) (by decide), fun I7 e7 => ?_⟩
    have o7 : ∀ a l, ¬ (a = 381 ∧ l = 4 * s + k) → I7 a l = I6 a l := fun a l q => by rw [e7, qu_off (by omega)]
    rw [o7 361 19 (by omega), m6.2.2.1, z_m4, nI_clamp (by omega), o7 361 35 (by omega), o6 361 35 (by omega), h5]
    refine ⟨vp_in_nI (by omega) (by decide), fun I9 e9 => ?_⟩
    have o9 : ∀ a l, ¬ (a = 382 ∧ l = 4 * s + k) → I9 a l = I7 a l := fun a l q => by rw [e9, qu_off (by omega)]
    have o96 : ∀ a l, ¬ ((a = 381 ∨ a = 382) ∧ l = 4 * s + k) → I9 a l = I6 a l := fun a l q => by rw [o9 a l (by omega), o7 a l (by omega)]
    refine hok (i5, a.2, t.2) rfl I9 (o3 + t.2.length) (fun a l q1 q2 q3 q4 q5 => by rw [o96 a l (by omega), ff6 a l q1 q2 q3 q4]) (m6.kept (fun b l q => o96 b l (by omega)) (fun _ => rfl)) (by rw [o96 _ _ (by omega), o6 _ _ (by omega)]; exact z5) (by rw [o96 _ _ (by omega), o6 _ _ (by omega)]; exact g5.1) (by omega) (by show _ ≤ 420 * s + i5; omega) (by rw [o96 _ _ (by omega), o6 _ _ (by omega)]; exact h5) (by show 4 * (b + a.2.length + 1) ≤ 520 * s + i5; omega) (by rw [o9 _ _ (by omega), e7, qu_same]) (by rw [e9, qu_same]) ?_ ⟨?_, o3, ?_, ?_, ?_, Nat.le_refl _⟩ (by show i < i5; omega)
    · refine b3.kept (fun a j q1 q2 => ?_) (by omega) a.2 b (fun a' j q1 q2 q3 q4 => ?_)
      · rw [o96 _ _ (by omega), o6 _ _ (by omega), f5 _ _ (by omega) (by omega) (by omega) (by omega), o4 _ _ (by omega)]
      · rw [o96 _ _ (by omega), o6 _ _ (by omega), f5 _ _ (by omega) (by omega) (by omega) (by omega), o4 _ _ (by omega)]
    · rw [o96 _ _ (by omega), o6 _ _ (by omega), b5 _ (by omega), e4, qu_same]
    · rw [o96 _ _ (by omega), o6 _ _ (by omega)]; exact v386
    · rw [o96 _ _ (by omega), o6 _ _ (by omega)]; exact v387
    · exact (g5.pf (b := b + a.2.length) (by omega) (by omega) hs hbd).keptc (oc := o3 + t.2.length) (Nat.le_refl _) (fun a j q1 q2 => by rw [o96 _ _ (by omega), o6 _ _ (by omega)])
  · rw [v_M_tellLaw_12]
    exact z_nr (fun z => d1.ne z) (m_129d (s := s) (o := o) (b := b) d1 hs (by rw [o1 _ _ (by omega)]; exact h35) hb1 (by omega) (fun I2 f2 d2 => hbad k2 j2 (by rw [ej]; rfl) I2 ((frP.w o1).tr f2) d2))
theorem m_tellLaw_d {I : zI} {J : zJ} {k j b o : Nat} {x : Int32} (hD : zDe I B n k j) (hs : s < 2) (h35 : I 361 35 = nI b) (hb1 : 130 * s ≤ b) (hb2 : b < 130 * s + 130) {Q : zI → zJ → Prop} (hbad : ∀ I' : zI, frW s o b I I' → zDe I' B n k j → Q I' J) : v_M_tellLaw 5000 x I J Q := by
  refine m_must_d hD (fun y ey => ?_)
  rw [v_M_tellLaw_12]
  exact z_nr (fun z => hD.ne z) (m_129d (s := s) (o := o) hD hs h35 hb1 hb2 hbad)
end
