/-! reading: the reference's parser, expressions -/
section
variable {B : Nat → Nat} {n s : Nat}
def zM (I : zI) (J : zJ) (B : Nat → Nat) (n s i : Nat) : Prop := I 361 11 = nI i ∧ I 361 13 = 0 ∧ I 361 19 = nI s ∧ s < 2 ∧ zTm I J B n ∧ i ≤ 400 ∧ ∀ j, j < i → tK B n j ≠ 1 ∧ tK B n j ≠ 2
theorem zM.kept {I I' : zI} {J J' : zJ} {i : Nat} (h : zM I J B n s i) (e : ∀ b l, 364 ≤ b ∧ b ≤ 366 ∨ (b = 361 ∧ (l = 11 ∨ l = 13 ∨ l = 19)) → I' b l = I b l) (f : ∀ l, J' 367 l = J 367 l) : zM I' J' B n s i := by
  obtain ⟨h1, h2, h3, h4, h5, h6, h7⟩ := h
  refine ⟨by rw [e _ _ (by omega)]; exact h1, by rw [e _ _ (by omega)]; exact h2, by rw [e _ _ (by omega)]; exact h3, h4, fun j hj hg => ?_, h6, h7⟩
  obtain ⟨g1, g2, g3, g4⟩ := h5 j hj hg
  exact ⟨by rw [e _ _ (by omega)]; exact g1, by rw [e _ _ (by omega)]; exact g2, fun z => by rw [e _ _ (by omega)]; exact g3 z, fun z => by rw [f]; exact g4 z⟩
theorem zM.tk {I : zI} {J : zJ} {i : Nat} (h : zM I J B n s i) : zT1 I J B n i := h.2.2.2.2.1 i h.2.2.2.2.2.1 (fun j hj => (h.2.2.2.2.2.2 j hj).1)
def zDe (I : zI) (B : Nat → Nat) (n k j : Nat) : Prop := I 361 13 = nI k ∧ (k = 1 ∨ k = 2) ∧ I 361 14 = nI (zpsn B n j) ∧ ∃ i, i ≤ 400 ∧ I 361 11 = nI i
theorem zDe.kept {I I' : zI} {k j : Nat} (h : zDe I B n k j) (e : ∀ l, l = 11 ∨ l = 13 ∨ l = 14 → I' 361 l = I 361 l) : zDe I' B n k j := ⟨by rw [e _ (by omega)]; exact h.1, h.2.1, by rw [e _ (by omega)]; exact h.2.2.1, by
  obtain ⟨i, h1, h2⟩ := h.2.2.2
  exact ⟨i, h1, by rw [e _ (by omega)]; exact h2⟩⟩
theorem zDe.ne {I : zI} {k j : Nat} (h : zDe I B n k j) : ¬ I 361 13 = 0 := by rw [h.1]; exact nI_ne0 (by have := h.2.1; omega) (by have := h.2.1; omega)
theorem zDe.nle {I : zI} {k j : Nat} (h : zDe I B n k j) : ¬ I 361 13 ≤ 0 := by rw [h.1]; exact nI_nle (by have := h.2.1; omega) (by have := h.2.1; omega)
theorem zM.le {I : zI} {J : zJ} {i : Nat} (h : zM I J B n s i) : I 361 13 ≤ 0 := by rw [h.2.1]; exact Int32.le_refl _
abbrev frP (I I' : zI) : Prop := ∀ b l, ¬ (b = 361 ∧ (l = 11 ∨ l = 13 ∨ l = 14)) → I' b l = I b l
theorem m_fail {I : zI} {J : zJ} {i k : Nat} (hM : zM I J B n s i) {Q : zI → zJ → Prop} (h0 : ∀ I' : zI, frP I I' → zDe I' B n k i → Q I' J) (hk : k = 1 ∨ k = 2 := by decide) : v_M_fail 5000 (nI k) I J Q := by
  have h6 := hM.2.2.2.2.2.1
  refine z_y hM.le (fun I2 e2 => ?_)
  have o2 : ∀ b l, ¬ (b = 361 ∧ l = 13) → I2 b l = I b l := fun b l q => by rw [e2, qu_off (by omega)]
  rw [o2 _ _ (by omega), hM.1, nI_clamp (by omega), o2 365 _ (by omega), hM.tk.2.1]
  refine ⟨vp_in_nI (by omega) (by decide), fun I4 e4 => h0 I4 (fun b l q => by rw [e4, qu_off (by omega), o2 b l (by omega)]) ⟨by rw [e4, qu_off (by decide), e2, qu_same], hk, by rw [e4, qu_same], i, h6, by rw [e4, qu_off (by decide), o2 _ _ (by omega)]; exact hM.1⟩⟩
theorem m_fail_d {I : zI} {J : zJ} {k j : Nat} {x : Int32} (hD : zDe I B n k j) {Q : zI → zJ → Prop} (h0 : Q I J) : v_M_fail 5000 x I J Q := z_n hD.nle h0
theorem m_goesOn {I : zI} {J : zJ} {i : Nat} (hM : zM I J B n s i) (hk : tK B n i ≠ 1 ∧ tK B n i ≠ 2) {Q : zI → zJ → Prop} (h1 : ∀ j, zgo i = .inr j → ∀ I' : zI, frP I I' → zM I' J B n s j → Q I' J) (h0 : ∀ k j, zgo i = .inl (k, j) → ∀ I' : zI, frP I I' → zDe I' B n k j → Q I' J) : v_M_goesOn 5000 I J Q := by
  have h6 := hM.2.2.2.2.2.1
  unfold v_M_goesOn
  rw [hM.1, nI_1]
  refine ⟨fun q I2 e2 => ?_, fun q => ?_⟩
  · have q : i ≠ 400 := fun z => q (by rw [z]; rfl)
    have o2 : ∀ b l, ¬ (b = 361 ∧ l = 11) → I2 b l = I b l := fun b l q => by rw [e2, qu_off (by omega)]
    have hlt : i < 400 := by omega
    obtain ⟨g1, g2, g3, g4, g5, g6, g7⟩ := hM
    refine h1 (i + 1) (zgo_y hlt) I2 (fun b l q => o2 b l (by omega)) ⟨by rw [e2, qu_same], by rw [o2 _ _ (by omega)]; exact g2, by rw [o2 _ _ (by omega)]; exact g3, g4, fun j hj hg => ?_, by omega, fun j hj => ?_⟩
    · obtain ⟨t1, t2, t3, t4⟩ := g5 j hj hg
      exact ⟨by rw [o2 _ _ (by omega)]; exact t1, by rw [o2 _ _ (by omega)]; exact t2, fun z => by rw [o2 _ _ (by omega)]; exact t3 z, t4⟩
    · by_cases e : j = i
      · subst e; exact hk
      · exact g7 j (by omega)
  · have q := (nI_eq (b := 400) (by omega) (by decide)).mp q
    exact m_fail (k := 2) hM (fun I' o' d' => h0 2 i (zgo_n (by omega)) I' o' d')
theorem m_goesOn_d {I : zI} {J : zJ} {k j : Nat} (hD : zDe I B n k j) {Q : zI → zJ → Prop} (h0 : ∀ I' : zI, frP I I' → zDe I' B n k j → Q I' J) : v_M_goesOn 5000 I J Q := by
  obtain ⟨i, hi, ei⟩ := hD.2.2.2
  unfold v_M_goesOn
  rw [ei, nI_1]
  refine ⟨fun q I2 e2 => h0 I2 (fun b l q => by rw [e2, qu_off (by omega)]) ⟨by rw [e2, qu_off (by decide)]; exact hD.1, hD.2.1, by rw [e2, qu_off (by decide)]; exact hD.2.2.1, i + 1, ?_, by rw [e2, qu_same]⟩, fun q => m_fail_d hD (h0 I (fun _ _ _ => rfl) hD)⟩
  have q : i ≠ 400 := fun z => q (by rw [z]; rfl)
  omega
theorem m_is {I : zI} {J : zJ} {i m c : Nat} (hM : zM I J B n s i) (hm : zmk c = m) (hc : zkv c) {Q : Int32 → zI → zJ → Prop} (h1 : tK B n i = c → Q 1 I J) (h0 : tK B n i ≠ c → Q 0 I J) : v_M_is 5000 (nI m) I J Q := by
  have h6 := hM.2.2.2.2.2.1
  have hv := tK_v B n i
  have b1 := zmk_lt hv
  have b2 := zmk_lt hc
  unfold v_M_is
  rw [hM.1, nI_clamp (by omega), hM.tk.1]
  refine z_yr hM.2.1 ⟨vp_in_nI (by omega) (by decide), fun q => h0 (fun z => q (by rw [z, hm])), fun q => h1 ?_⟩
  have q := (nI_eq (by omega) (by omega)).mp q
  rw [← hm] at q
  have := congrArg zmi q
  rw [zmi_mk hv, zmi_mk hc] at this
  exact this
theorem m_is_d {I : zI} {J : zJ} {k j : Nat} {x : Int32} (hD : zDe I B n k j) {Q : Int32 → zI → zJ → Prop} (h0 : Q 0 I J) : v_M_is 5000 x I J Q := z_nr hD.ne h0
theorem m_must {I : zI} {J : zJ} {i m c : Nat} (hM : zM I J B n s i) (hm : zmk c = m) (hc : zkv c) (hc2 : c ≠ 1 ∧ c ≠ 2) {Q : zI → zJ → Prop} (h1 : ∀ j, zpass (tK B n) c i = .inr j → ∀ I' : zI, frP I I' → zM I' J B n s j → Q I' J) (h0 : ∀ k j, zpass (tK B n) c i = .inl (k, j) → ∀ I' : zI, frP I I' → zDe I' B n k j → Q I' J) : v_M_must 5000 (nI m) I J Q := by
  unfold zpass at h1 h0
  refine m_is hM hm hc (fun q => z_n z_10 ?_) (fun q => z_y z_00 ?_)
  · rw [if_pos q] at h1 h0
    exact m_goesOn hM (by rw [q]; exact hc2) h1 h0
  · rw [if_neg q] at h0
    exact m_fail (k := 1) hM (fun I' o' d' => h0 1 i rfl I' o' d')
theorem m_must_d {I : zI} {J : zJ} {k j : Nat} {x : Int32} (hD : zDe I B n k j) {Q : zI → zJ → Prop} (h0 : Q I J) : v_M_must 5000 x I J Q := m_is_d hD (z_y z_00 (m_fail_d hD h0))
/-! what waits, what has come out -/
def zsm (q : Nat) : Nat := if q = 0 then 6 else if q = 2 then 8 else if q = 3 then 9 else if q = 4 then 10 else 15
def zWm2 (I : zI) (st : List Nat) : Prop := I 361 45 = nI st.length ∧ ∀ i q, st[i]? = some q → I 390 i = nI (zsm q)
def zCo (I : zI) (o : Nat) (out : zPf) : Prop := I 361 41 = nI (o + out.length) ∧ ∀ i q, out[i]? = some q → I 388 (o + i) = nI q.1 ∧ I 389 (o + i) = q.2
theorem zWm2.kept {I I' : zI} {st : List Nat} (h : zWm2 I st) (e : ∀ b l, b = 390 ∨ (b = 361 ∧ l = 45) → I' b l = I b l) : zWm2 I' st := ⟨by rw [e _ _ (by omega)]; exact h.1, fun i q hq => by rw [e _ _ (by omega)]; exact h.2 i q hq⟩
theorem zCo.kept {I I' : zI} {o : Nat} {out : zPf} (h : zCo I o out) (e : ∀ b l, b = 388 ∨ b = 389 ∨ (b = 361 ∧ l = 41) → I' b l = I b l) : zCo I' o out := ⟨by rw [e _ _ (by omega)]; exact h.1, fun i q hq => by rw [e _ _ (by omega), e _ _ (by omega)]; exact h.2 i q hq⟩
abbrev frX (s o : Nat) (I I' : zI) : Prop := ∀ b l, ¬ (b = 361 ∧ (l = 11 ∨ l = 12 ∨ l = 13 ∨ l = 14 ∨ l = 41 ∨ l = 45)) → b ≠ 390 → ¬ ((b = 388 ∨ b = 389) ∧ o ≤ l ∧ l < 420 * s + 420) → I' b l = I b l
theorem frP.x {o : Nat} {I I' : zI} (h : frP I I') : frX s o I I' := fun b l q1 _ _ => h b l (by omega)
theorem frX.tr {o : Nat} {I I' I'' : zI} (h : frX s o I I') (g : frX s o I' I'') : frX s o I I'' := fun b l q1 q2 q3 => by rw [g b l q1 q2 q3, h b l q1 q2 q3]
theorem m_emit {I : zI} {J : zJ} {o k : Nat} {v : Int32} {out : zPf} (hs : s < 2) (hO : zCo I o out) (h1 : 420 * s ≤ o) (h2 : o + out.length < 420 * s + 420) {Q : zI → zJ → Prop} (hq : ∀ I' : zI, (∀ b l, ¬ (b = 361 ∧ l = 41) → ¬ ((b = 388 ∨ b = 389) ∧ l = o + out.length) → I' b l = I b l) → zCo I' o (out ++ [(k, v)]) → Q I' J) : v_M_emit 5000 (nI k) v I J Q := by
  have vv : vp_in (nI (o + out.length)) 840 := vp_in_nI (by omega) (by decide)
  have cl : (nI (o + out.length)).toNatClampNeg = o + out.length := nI_clamp (by omega)
  unfold v_M_emit
  rw [hO.1, cl]
  refine ⟨vv, fun I2 e2 => ?_⟩
  have o2 : ∀ b l, ¬ (b = 388 ∧ l = o + out.length) → I2 b l = I b l := fun b l q => by rw [e2, qu_off (by omega)]
  rw [o2 _ _ (by omega), hO.1, cl]
  refine ⟨vv, fun I4 e4 I5 e5 => ?_⟩
  have o4 : ∀ b l, ¬ (b = 389 ∧ l = o + out.length) → I4 b l = I2 b l := fun b l q => by rw [e4, qu_off (by omega)]
  rw [o4 _ _ (by omega), o2 _ _ (by omega), hO.1, nI_1] at e5
  have o5 : ∀ b l, ¬ (b = 361 ∧ l = 41) → I5 b l = I4 b l := fun b l q => by rw [e5, qu_off (by omega)]
  refine hq I5 (fun b l q1 q2 => by rw [o5 b l q1, o4 b l (by omega), o2 b l (by omega)]) ⟨by rw [e5, qu_same, List.length_append]; rfl, fun i q h => ?_⟩
  rcases zap h with ⟨g1, g2⟩ | ⟨rfl, rfl⟩
  · rw [o5 _ _ (by omega), o4 _ _ (by omega), o2 _ _ (by omega), o5 _ _ (by omega), o4 _ _ (by omega), o2 _ _ (by omega)]
    exact hO.2 i q g2
  · refine ⟨?_, ?_⟩
    · rw [o5 _ _ (by omega), o4 _ _ (by omega), e2, qu_same]
    · rw [o5 _ _ (by omega), e4, qu_same]
theorem m_push {I : zI} {st : List Nat} {q : Nat} {x : Int32} (hW : zWm2 I st) (hl : st.length < 64) (hx : x = nI (zsm q)) {P : zI → Prop} (hq : ∀ I' : zI, (∀ b l, ¬ (b = 361 ∧ l = 45) → b ≠ 390 → I' b l = I b l) → zWm2 I' (st ++ [q]) → P I') : vp_in (I 361 45) 64 ∧ ∀ I4 : zI, I4 = qu I 390 (I 361 45).toNatClampNeg x → ∀ I5 : zI, I5 = qu I4 361 45 (I4 361 45 + 1) → P I5 := by
  rw [hW.1, nI_clamp (by omega)]
  refine ⟨vp_in_nI hl (by decide), fun I3 e3 I4 e4 => ?_⟩
  have o3 : ∀ b l, ¬ (b = 390 ∧ l = st.length) → I3 b l = I b l := fun b l q => by rw [e3, qu_off (by omega)]
  rw [o3 _ _ (by omega), hW.1, nI_1] at e4
  have o4 : ∀ b l, ¬ (b = 361 ∧ l = 45) → I4 b l = I3 b l := fun b l q => by rw [e4, qu_off (by omega)]
  refine hq I4 (fun b l q1 q2 => by rw [o4 b l q1, o3 b l (by omega)]) ⟨by rw [e4, qu_same, List.length_append]; rfl, fun i q' h => ?_⟩
  rcases zap h with ⟨h1, h2⟩ | ⟨rfl, rfl⟩
  · rw [o4 _ _ (by omega), o3 _ _ (by omega)]
    exact hW.2 i q' h2
  · rw [o4 _ _ (by omega), e3, qu_same, hx]
abbrev frQ2 (s o : Nat) (I I' : zI) : Prop := ∀ b l, ¬ (b = 361 ∧ (l = 41 ∨ l = 45)) → ¬ ((b = 388 ∨ b = 389) ∧ o ≤ l ∧ l < 420 * s + 420) → I' b l = I b l
theorem m_out1 {I : zI} {J : zJ} {o k q : Nat} {x : Int32} {st : List Nat} {out : zPf} (hs : s < 2) (hW : zWm2 I (st ++ [q])) (hl : st.length < 64) (hO : zCo I o out) (h1 : 420 * s ≤ o) (h2 : o + out.length < 420 * s + 420) (hq0 : q = 2 ∨ q = 3 ∨ q = 4 ∨ q = 5) (hx : x = 0 ∨ q = 4 ∨ q = 5) {Q : zI → zJ → Prop} (hq : ∀ I' : zI, frQ2 s o I I' → zWm2 I' st → zCo I' o (out ++ [(q, 0)]) → v_M_comesOut_0 5000 k x I' J Q) : v_M_comesOut_0 5000 (k + 1) x I J Q := by
  have hlen : (st ++ [q]).length = st.length + 1 := by rw [List.length_append]; rfl
  have e390 := hW.2 st.length q (zgl st q)
  rw [v_M_comesOut_0]; dsimp only; rw [hW.1, hlen, nI_pred, nI_clamp (n := st.length) (by omega), e390]
  have go : v_M_comesOut_42 5000 x (nI (zsm q)) I J Q (fun x1 I J => v_M_comesOut_0 5000 k x1 I J Q) := by
    intro I1 e1
    rw [hW.1, hlen, nI_pred] at e1
    have o1 : ∀ b l, ¬ (b = 361 ∧ l = 45) → I1 b l = I b l := fun b l q => by rw [e1, qu_off (by omega)]
    have w1 : zWm2 I1 st := ⟨by rw [e1, qu_same], fun i q' h => by
      have hi : i < st.length := by
        rcases Nat.lt_or_ge i st.length with z | z
        · exact z
        · rw [List.getElem?_eq_none z] at h; cases h
      rw [o1 _ _ (by omega)]
      exact hW.2 i q' (by rw [List.getElem?_append_left hi]; exact h)⟩
    have em : v_M_emit 5000 (nI q) 0 I1 J (fun I5 J5 => v_M_comesOut_0 5000 k x I5 J5 Q) := m_emit hs (hO.kept (fun b l q => o1 b l (by omega))) h1 h2 (fun I2 o2 g2 => hq I2 (fun b l q1 q2 => by rw [o2 b l (by omega) (by omega), o1 b l (by omega)]) (w1.kept (fun b l q => o2 b l (by omega) (by omega))) g2)
    rcases hq0 with rfl | rfl | rfl | rfl
    · exact z_yr rfl em
    · exact z_nr (by decide) (z_yr rfl em)
    · exact z_nr (by decide) (z_nr (by decide) (z_yr rfl em))
    · exact z_nr (by decide) (z_nr (by decide) (z_nr (by decide) em))
  have n6 : ¬ nI (zsm q) = 6 := by rcases hq0 with rfl | rfl | rfl | rfl <;> decide
  refine z_n (nI_nle (by omega) (by omega)) ⟨vp_in_nI hl (by decide), fun y ey => ?_⟩
  rw [ey]
  refine z_n n6 ⟨fun _ => go, fun hx0 => ?_⟩
  have hq45 : q = 4 ∨ q = 5 := by rcases hx with z | z; exact absurd z hx0; exact z
  have n8 : ¬ nI (zsm q) = 8 := by rcases hq45 with rfl | rfl <;> decide
  have n9 : ¬ nI (zsm q) = 9 := by rcases hq45 with rfl | rfl <;> decide
  exact z_n n8 (z_nr n9 go)
theorem m_out0 {I : zI} {J : zJ} {k : Nat} {x : Int32} {st : List Nat} (hW : zWm2 I st) (hl : st.length < 64) (hst : st = [] ∨ ∃ st' q, st = st' ++ [q] ∧ (q = 0 ∨ (¬ x = 0 ∧ (q = 2 ∨ q = 3)))) {Q : zI → zJ → Prop} (hq : Q I J) : v_M_comesOut_0 5000 (k + 1) x I J Q := by
  rcases hst with rfl | ⟨st', q, rfl, h⟩
  · rw [v_M_comesOut_0]; dsimp only; rw [hW.1]
    exact z_y (by decide) hq
  · have hlen : (st' ++ [q]).length = st'.length + 1 := by rw [List.length_append]; rfl
    rw [hlen] at hl
    rw [v_M_comesOut_0]; dsimp only; rw [hW.1, hlen, nI_pred, nI_clamp (n := st'.length) (by omega), hW.2 st'.length q (zgl st' q)]
    refine z_n (nI_nle (by omega) (by omega)) ⟨vp_in_nI (by omega) (by decide), fun y ey => ?_⟩
    rw [ey]
    rcases h with rfl | ⟨hx, rfl | rfl⟩
    · exact z_y rfl hq
    · exact z_n (by decide) (z_n hx (z_y rfl hq))
    · exact z_n (by decide) (z_n hx (z_n (by decide) (z_yr rfl hq)))
theorem zbs_end2 (l : List (Nat × Nat)) {x : Int32} : zbs l = [] ∨ ∃ st' q, zbs l = st' ++ [q] ∧ (q = 0 ∨ (¬ x = 0 ∧ (q = 2 ∨ q = 3))) := by
  cases l with
  | nil => exact Or.inl rfl
  | cons d l => exact Or.inr ⟨_, 0, rfl, Or.inl rfl⟩
theorem m_outAll {I : zI} {J : zJ} {o k : Nat} {c : Nat × Nat} {l : List (Nat × Nat)} {out : zPf} (hs : s < 2) (hc : zlok c) (hl : l.length ≤ 6) (hW : zWm2 I (zbs l ++ zlv1 c)) (hO : zCo I o out) (h1 : 420 * s ≤ o) (h2 : o + out.length + zops c < 420 * s + 420) (hk : 3 ≤ k) {Q : zI → zJ → Prop} (hq : ∀ I' : zI, frQ2 s o I I' → zWm2 I' (zbs l) → zCo I' o (out ++ zflu c) → Q I' J) : v_M_comesOut_0 5000 k 0 I J Q := by
  obtain ⟨a, m⟩ := c
  obtain ⟨k, rfl⟩ : ∃ k', k = k' + 3 := ⟨k - 3, by omega⟩
  have hlen := zbs_len l
  have ha : a = 0 ∨ a = 2 ∨ a = 3 := hc.1
  have hm : m = 0 ∨ m = 4 ∨ m = 5 := hc.2
  by_cases e1 : a = 0
  · by_cases e2 : m = 0
    · subst e1 e2
      rw [show zlv1 (0, 0) = [] from rfl, List.append_nil] at hW
      refine m_out0 hW (by omega) (zbs_end2 l) (hq I (fun _ _ _ _ => rfl) hW ?_)
      rw [show zflu (0, 0) = [] from rfl, List.append_nil]
      exact hO
    · subst e1
      have f1 : zlv1 (0, m) = [m] := by unfold zlv1; rw [if_pos rfl, if_neg e2]; rfl
      have f2 : zflu (0, m) = [(m, 0)] := by unfold zflu zfm1; rw [if_pos rfl, if_neg e2]; rfl
      rw [f1] at hW
      refine m_out1 hs hW (by omega) hO h1 (by omega) (by omega) (Or.inl rfl) (fun I1 o1 w1 g1 => m_out0 w1 (by omega) (zbs_end2 l) (hq I1 o1 w1 ?_))
      rw [f2]; exact g1
  · by_cases e2 : m = 0
    · subst e2
      have f1 : zlv1 (a, 0) = [a] := by unfold zlv1; rw [if_pos rfl, if_neg e1]; rfl
      have f2 : zflu (a, 0) = [(a, 0)] := by unfold zflu zfm1; rw [if_pos rfl, if_neg e1]; rfl
      rw [f1] at hW
      refine m_out1 hs hW (by omega) hO h1 (by omega) (by omega) (Or.inl rfl) (fun I1 o1 w1 g1 => m_out0 w1 (by omega) (zbs_end2 l) (hq I1 o1 w1 ?_))
      rw [f2]; exact g1
    · have f1 : zlv1 (a, m) = [a] ++ [m] := by unfold zlv1; rw [if_neg e1, if_neg e2]
      have f2 : zflu (a, m) = [(m, 0)] ++ [(a, 0)] := by unfold zflu zfm1; rw [if_neg e1, if_neg e2]
      have f3 : zops (a, m) = 2 := by unfold zops; rw [if_neg e1, if_neg e2]
      rw [f3] at h2
      rw [f1, ← List.append_assoc] at hW
      have hla : (zbs l ++ [a]).length = (zbs l).length + 1 := by rw [List.length_append]; rfl
      refine m_out1 hs hW (by omega) hO h1 (by omega) (by omega) (Or.inl rfl) (fun I1 o1 w1 g1 => m_out1 hs w1 (by omega) g1 h1 (by rw [List.length_append]; show o + (out.length + 1) < _; omega) (by omega) (Or.inl rfl) (fun I2 o2 w2 g2 => m_out0 w2 (by omega) (zbs_end2 l) (hq I2 (fun b l q1 q2 => by rw [o2 b l q1 q2, o1 b l q1 q2]) w2 ?_)))
      rw [f2, ← List.append_assoc]; exact g2
theorem m_outMul {I : zI} {J : zJ} {o k : Nat} {c : Nat × Nat} {l : List (Nat × Nat)} {out : zPf} (hs : s < 2) (hc : zlok c) (hl : l.length ≤ 6) (hW : zWm2 I (zbs l ++ zlv1 c)) (hO : zCo I o out) (h1 : 420 * s ≤ o) (h2 : o + out.length + zops c < 420 * s + 420) (hk : 3 ≤ k) {Q : zI → zJ → Prop} (hq : ∀ I' : zI, frQ2 s o I I' → zWm2 I' (zbs l ++ zlv1 (c.1, 0)) → zCo I' o (out ++ zfm1 c) → Q I' J) : v_M_comesOut_0 5000 k 1 I J Q := by
  obtain ⟨a, m⟩ := c
  obtain ⟨k, rfl⟩ : ∃ k', k = k' + 3 := ⟨k - 3, by omega⟩
  have hlen := zbs_len l
  have hlo := zlv1_len (a, 0)
  have hop := zops_le (a, 0)
  have ha : a = 0 ∨ a = 2 ∨ a = 3 := hc.1
  have hm : m = 0 ∨ m = 4 ∨ m = 5 := hc.2
  have hend : zbs l ++ zlv1 (a, 0) = [] ∨ ∃ st' q, zbs l ++ zlv1 (a, 0) = st' ++ [q] ∧ (q = 0 ∨ (¬ (1 : Int32) = 0 ∧ (q = 2 ∨ q = 3))) := by
    by_cases e1 : a = 0
    · subst e1
      rw [show zlv1 (0, 0) = [] from rfl, List.append_nil]
      exact zbs_end2 l
    · have f1 : zlv1 (a, 0) = [a] := by unfold zlv1; rw [if_pos rfl, if_neg e1]; rfl
      rw [f1]
      exact Or.inr ⟨_, a, rfl, Or.inr ⟨z_10, by omega⟩⟩
  have hl2 : (zbs l ++ zlv1 (a, 0)).length < 64 := by rw [List.length_append, hlo]; omega
  by_cases e2 : m = 0
  · subst e2
    refine m_out0 hW hl2 hend (hq I (fun _ _ _ _ => rfl) hW ?_)
    rw [show zfm1 (a, 0) = [] from rfl, List.append_nil]
    exact hO
  · have f1 : zlv1 (a, m) = zlv1 (a, 0) ++ [m] := by
      show (if a = 0 then [] else [a]) ++ (if m = 0 then [] else [m]) = ((if a = 0 then [] else [a]) ++ []) ++ [m]
      rw [if_neg e2, List.append_nil]
    have f2 : zfm1 (a, m) = [(m, 0)] := by unfold zfm1; rw [if_neg e2]
    have f3 : 1 ≤ zops (a, m) := by unfold zops; rw [if_neg e2]; omega
    rw [f1, ← List.append_assoc] at hW
    refine m_out1 hs hW hl2 hO h1 (by omega) (by omega) (Or.inr (by omega)) (fun I1 o1 w1 g1 => m_out0 w1 hl2 hend (hq I1 o1 w1 ?_))
    rw [f2]; exact g1
end
