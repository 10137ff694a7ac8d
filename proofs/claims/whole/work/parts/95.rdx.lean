/-! reading: the class' parser, expressions and laws -/
section
variable {B : Nat → Nat} {n : Nat}
def zC (I : zI) (J : zJ) (B : Nat → Nat) (n i : Nat) : Prop := I 26 1 = nI i ∧ I 26 2 = nI (tK B n i) ∧ J 26 3 = tV B n i ∧ zTh I J B n ∧ i ≤ 400 ∧ ∀ j, j < i → tK B n j ≠ 1 ∧ tK B n j ≠ 2
abbrev frGJ (J J' : zJ) : Prop := ∀ b l, ¬ (b = 26 ∧ l = 3) → J' b l = J b l
abbrev frGo (I I' : zI) : Prop := ∀ b l, ¬ (b = 26 ∧ (l = 1 ∨ l = 2)) → I' b l = I b l
abbrev frO (I I' : zI) : Prop := ∀ b l, b < 26 ∨ 48 < b → I' b l = I b l
abbrev frOJ (J J' : zJ) : Prop := ∀ b l, b ≠ 26 → b ≠ 45 → b ≠ 46 → J' b l = J b l
theorem zC.kept {I I' : zI} {J J' : zJ} {i : Nat} (h : zC I J B n i) (e : ∀ b l, b = 5 ∨ b = 6 ∨ (b = 26 ∧ (l = 1 ∨ l = 2)) → I' b l = I b l) (f : ∀ b l, b = 7 ∨ (b = 26 ∧ l = 3) → J' b l = J b l) : zC I' J' B n i := by
  obtain ⟨h1, h2, h3, h4, h5, h6⟩ := h
  refine ⟨by rw [e _ _ (by omega)]; exact h1, by rw [e _ _ (by omega)]; exact h2, by rw [f _ _ (by omega)]; exact h3, fun j hj hg => ?_, h5, h6⟩
  rw [e _ _ (by omega), e _ _ (by omega), f _ _ (by omega)]
  exact h4 j hj hg
def zBd (I : zI) (J : zJ) (B : Nat → Nat) (n k j : Nat) (I' : zI) (J' : zJ) : Prop := I' 26 12 = nI k ∧ I' 26 13 = nI (zpsn B n j) ∧ frO I I' ∧ frOJ J J' ∧ (k = 1 ∨ k = 2)
theorem zBd.from {I I1 I' : zI} {J J1 J' : zJ} {k j : Nat} (h : zBd I1 J1 B n k j I' J') (e : frO I I1) (f : frOJ J J1) : zBd I J B n k j I' J' := ⟨h.1, h.2.1, fun b l q => by rw [h.2.2.1 b l q, e b l q], fun b l q1 q2 q3 => by rw [h.2.2.2.1 b l q1 q2 q3, f b l q1 q2 q3], h.2.2.2.2⟩
theorem frGo.o {I I' : zI} (h : frGo I I') : frO I I' := fun b l q => h b l (by omega)
theorem frGJ.o {J J' : zJ} (h : frGJ J J') : frOJ J J' := fun b l q1 q2 q3 => h b l (by omega)
theorem s_fails {I : zI} {J : zJ} {i k : Nat} (hC : zC I J B n i) {Q : Int32 → zI → zJ → Prop} (h0 : ∀ I' : zI, zBd I J B n k i I' J → Q 0 I' J) (hk : k = 1 ∨ k = 2 := by decide) : v_Reader_fails 5000 (nI k) I J Q := by
  obtain ⟨h1, h2, h3, h4, h5, h6⟩ := hC
  intro I1 e1
  have o1 : ∀ b l, ¬ (b = 26 ∧ l = 12) → I1 b l = I b l := fun b l q => by rw [e1, qu_off (by omega)]
  rw [o1 _ _ (by omega), h1, nI_clamp (by omega), o1 6 _ (by omega), (h4 i h5 h6).2.1]
  refine ⟨vp_in_nI (by omega) (by decide), fun I3 e3 => h0 I3 ⟨?_, ?_, fun b l q => ?_, fun _ _ _ _ _ => rfl, hk⟩⟩
  · rw [e3, qu_off (by omega), e1, qu_same]
  · rw [e3, qu_same]
  · rw [e3, qu_off (by omega), o1 b l (by omega)]
theorem s_rdAt {I : zI} {J : zJ} {i : Nat} (hT : zTh I J B n) (hi : i ≤ 400) (hg : ∀ j, j < i → tK B n j ≠ 1 ∧ tK B n j ≠ 2) {Q : zI → zJ → Prop} (hq : ∀ (I' : zI) (J' : zJ), frGo I I' → frGJ J J' → zC I' J' B n i → Q I' J') : v_Reader_lookAt 5000 (nI i) I J Q := by
  intro I1 e1
  rw [nI_clamp (by omega), e1, qu_off (by omega), (hT i hi hg).1, (hT i hi hg).2.2]
  refine ⟨vp_in_nI (by omega) (by decide), fun I3 e3 => ⟨vp_in_nI (by omega) (by decide), fun J5 e5 => ?_⟩⟩
  have o3 : frGo I I3 := fun b l q => by rw [e3, qu_off (by omega), qu_off (by omega)]
  have o5 : frGJ J J5 := fun b l q => by rw [e5, qu_off (by omega)]
  refine hq I3 J5 o3 o5 ⟨by rw [e3, qu_off (by omega), qu_same], by rw [e3, qu_same], by rw [e5, qu_same], fun j hj hg => ?_, hi, hg⟩
  rw [o3 _ _ (by omega), o3 _ _ (by omega), o5 _ _ (by omega)]
  exact hT j hj hg
theorem s_goOn {I : zI} {J : zJ} {i : Nat} (hC : zC I J B n i) (hk : tK B n i ≠ 1 ∧ tK B n i ≠ 2) {Q : Int32 → zI → zJ → Prop} (h1 : ∀ j, zgo i = .inr j → ∀ (I' : zI) (J' : zJ), frGo I I' → frGJ J J' → zC I' J' B n j → Q 1 I' J') (h0 : ∀ k j, zgo i = .inl (k, j) → ∀ I' : zI, zBd I J B n k j I' J → Q 0 I' J) : v_Reader_goOn 5000 I J Q := by
  have h5 := hC.2.2.2.2.1
  unfold v_Reader_goOn
  rw [hC.1, nI_1]
  refine ⟨fun q => ?_, fun q => ?_⟩
  · have q := (nI_ltI (b := 400) (by omega) (by decide)).mp q
    exact s_rdAt hC.2.2.2.1 (by omega) (fun j hj => by
      by_cases e : j = i
      · subst e; exact hk
      · exact hC.2.2.2.2.2 j (by omega)) (fun I' J' o' p' c' => h1 (i + 1) (zgo_y q) I' J' o' p' c')
  · have q : ¬ i < 400 := fun z => q (nI_lt z (by decide))
    exact s_fails (k := 2) hC (fun I' b' => ⟨Or.inl rfl, h0 2 i (zgo_n q) I' b'⟩)
theorem tK_is {i c : Nat} (hc : c < 1000) : nI (tK B n i) = nI c ↔ tK B n i = c := nI_eq (by have := tK_lt B n i; omega) (by omega)
theorem s_pass {I : zI} {J : zJ} {i c : Nat} (hC : zC I J B n i) (hc : c < 1000) (hc2 : c ≠ 1 ∧ c ≠ 2) {Q : Int32 → zI → zJ → Prop} (h1 : ∀ j, zpass (tK B n) c i = .inr j → ∀ (I' : zI) (J' : zJ), frGo I I' → frGJ J J' → zC I' J' B n j → Q 1 I' J') (h0 : ∀ k j, zpass (tK B n) c i = .inl (k, j) → ∀ I' : zI, zBd I J B n k j I' J → Q 0 I' J) : v_Reader_pass 5000 (nI c) I J Q := by
  unfold v_Reader_pass
  rw [hC.2.1, tK_is hc]
  unfold zpass at h1 h0
  refine ⟨fun q => ?_, fun q => ?_⟩
  · rw [if_neg q] at h1 h0
    exact s_fails (k := 1) hC (fun I' b' => ⟨Or.inl rfl, h0 1 i rfl I' b'⟩)
  · rw [if_pos q] at h1 h0
    exact s_goOn hC (by rw [q]; exact hc2) (fun j e I' J' o' p' c' => ⟨Or.inr rfl, h1 j e I' J' o' p' c'⟩) (fun k j e I' b' => ⟨Or.inl rfl, h0 k j e I' b'⟩)
/-! what waits -/
def zsc (q : Nat) : Nat := if q = 0 then 40 else if q = 2 then 43 else if q = 3 then 45 else if q = 4 then 42 else 47
def zstg (q : Nat) : Nat := if q = 0 then 0 else if q = 2 then 1 else if q = 3 then 1 else 2
def zlv1 (c : Nat × Nat) : List Nat := (if c.1 = 0 then [] else [c.1]) ++ (if c.2 = 0 then [] else [c.2])
def zbs : List (Nat × Nat) → List Nat
  | [] => []
  | d :: l => (zbs l ++ zlv1 d) ++ [0]
def zlok (c : Nat × Nat) : Prop := (c.1 = 0 ∨ c.1 = 2 ∨ c.1 = 3) ∧ (c.2 = 0 ∨ c.2 = 4 ∨ c.2 = 5)
def zops (c : Nat × Nat) : Nat := (if c.1 = 0 then 0 else 1) + (if c.2 = 0 then 0 else 1)
def zopl : List (Nat × Nat) → Nat
  | [] => 0
  | d :: l => zopl l + zops d
theorem zops_le (c : Nat × Nat) : zops c ≤ 2 := by unfold zops; split <;> split <;> omega
theorem zlv1_len (c : Nat × Nat) : (zlv1 c).length = zops c := by
  unfold zlv1 zops
  rw [List.length_append]
  split <;> split <;> rfl
theorem zbs_len : ∀ l, (zbs l).length = zopl l + l.length ∧ zopl l ≤ 2 * l.length
  | [] => ⟨rfl, Nat.le_refl _⟩
  | d :: l => by
    have := zbs_len l
    have h := zops_le d
    rw [zbs, zopl]
    simp only [List.length_append, zlv1_len, List.length_cons, List.length_nil]
    exact ⟨by omega, by omega⟩
theorem zstg_m {m : Nat} (h : m = 4 ∨ m = 5) : zstg m = 2 := by rcases h with rfl | rfl <;> rfl
theorem zstg_a {m : Nat} (h : m = 2 ∨ m = 3) : zstg m = 1 := by rcases h with rfl | rfl <;> rfl
theorem zap {α : Type} {S : List α} {e q : α} {i : Nat} (h : (S ++ [e])[i]? = some q) : (i < S.length ∧ S[i]? = some q) ∨ (i = S.length ∧ q = e) := by
  rcases Nat.lt_trichotomy i S.length with z | z | z
  · rw [List.getElem?_append_left z] at h
    exact Or.inl ⟨z, h⟩
  · subst z
    rw [List.getElem?_append_right (Nat.le_refl _), Nat.sub_self] at h
    cases h
    exact Or.inr ⟨rfl, rfl⟩
  · rw [List.getElem?_eq_none (by rw [List.length_append]; show S.length + 1 ≤ i; omega)] at h
    cases h
def zWs (I : zI) (st : List Nat) (d : Nat) : Prop := I 47 1 = nI st.length ∧ I 47 2 = nI d ∧ ∀ i q, st[i]? = some q → I 48 i = nI (zsc q)
def zLs (I : zI) (x : Nat) (S : List (Int32 × Int32)) : Prop := I x 2 = nI S.length ∧ ∀ i q, S[i]? = some q → I (x + 1) i = q.1 ∧ I (x + 2) i = q.2
theorem zWs.kept {I I' : zI} {st : List Nat} {d : Nat} (h : zWs I st d) (e : ∀ b l, b = 47 ∨ b = 48 → I' b l = I b l) : zWs I' st d := ⟨by rw [e _ _ (by omega)]; exact h.1, by rw [e _ _ (by omega)]; exact h.2.1, fun i q hq => by rw [e _ _ (by omega)]; exact h.2.2 i q hq⟩
theorem zLs.kept {I I' : zI} {x : Nat} {S : List (Int32 × Int32)} (h : zLs I x S) (e : ∀ b l, x ≤ b → b ≤ x + 2 → I' b l = I b l) : zLs I' x S := ⟨by rw [e _ _ (by omega) (by omega)]; exact h.1, fun i q hq => by rw [e _ _ (by omega) (by omega), e _ _ (by omega) (by omega)]; exact h.2 i q hq⟩
theorem s_add {I : zI} {J : zJ} {x : Nat} {S : List (Int32 × Int32)} {k v : Int32} (hS : zLs I x S) (hl : S.length < 400) {Q : zI → zJ → Prop} (hq : ∀ I' : zI, (∀ b l, ¬ (x ≤ b ∧ b ≤ x + 2) → I' b l = I b l) → zLs I' x (S ++ [(k, v)]) → Q I' J) : v_Law_add 5000 x k v I J Q := by
  have vv : vp_in (nI S.length) 400 := vp_in_nI hl (by decide)
  have cl : (nI S.length).toNatClampNeg = S.length := nI_clamp (by omega)
  unfold v_Law_add
  rw [hS.1, cl]
  refine z_n (nI_ge (b := 400) hl (by decide)) ⟨vv, fun I3 e3 => ?_⟩
  have o3 : ∀ b l, ¬ (b = x + 1 ∧ l = S.length) → I3 b l = I b l := fun b l q => by rw [e3, qu_off (by omega)]
  rw [o3 _ _ (by omega), hS.1, cl]
  refine ⟨vv, fun I5 e5 I6 e6 => ?_⟩
  have o5 : ∀ b l, ¬ (b = x + 2 ∧ l = S.length) → I5 b l = I3 b l := fun b l q => by rw [e5, qu_off (by omega)]
  rw [o5 _ _ (by omega), o3 _ _ (by omega), hS.1, nI_1] at e6
  have o6 : ∀ b l, ¬ (b = x ∧ l = 2) → I6 b l = I5 b l := fun b l q => by rw [e6, qu_off (by omega)]
  refine hq I6 (fun b l q => by rw [o6 b l (by omega), o5 b l (by omega), o3 b l (by omega)]) ⟨by rw [e6, qu_same, List.length_append]; rfl, fun i q h => ?_⟩
  rcases zap h with ⟨h1, h2⟩ | ⟨rfl, rfl⟩
  · rw [o6 _ _ (by omega), o5 _ _ (by omega), o3 _ _ (by omega), o6 _ _ (by omega), o5 _ _ (by omega), o3 _ _ (by omega)]
    exact hS.2 i q h2
  · refine ⟨?_, ?_⟩
    · rw [o6 _ _ (by omega), o5 _ _ (by omega), e3, qu_same]
    · rw [o6 _ _ (by omega), e5, qu_same]
theorem s_put {I : zI} {J : zJ} {st : List Nat} {d q : Nat} {x : Int32} (hW : zWs I st d) (hl : st.length < 32) (hx : x = nI (zsc q)) {Q : zI → zJ → Prop} (hq : ∀ I' : zI, (∀ b l, ¬ (b = 47 ∧ l = 1) → b ≠ 48 → I' b l = I b l) → zWs I' (st ++ [q]) d → Q I' J) : v_Waits_put 5000 x I J Q := by
  unfold v_Waits_put
  rw [hW.1, nI_clamp (by omega)]
  refine z_n (nI_ge (b := 32) hl (by decide)) ⟨vp_in_nI hl (by decide), fun I3 e3 I4 e4 => ?_⟩
  have o3 : ∀ b l, ¬ (b = 48 ∧ l = st.length) → I3 b l = I b l := fun b l q => by rw [e3, qu_off (by omega)]
  rw [o3 _ _ (by omega), hW.1, nI_1] at e4
  have o4 : ∀ b l, ¬ (b = 47 ∧ l = 1) → I4 b l = I3 b l := fun b l q => by rw [e4, qu_off (by omega)]
  refine hq I4 (fun b l q1 q2 => by rw [o4 b l q1, o3 b l (by omega)]) ⟨by rw [e4, qu_same, List.length_append]; rfl, by rw [o4 _ _ (by omega), o3 _ _ (by omega)]; exact hW.2.1, fun i q' h => ?_⟩
  rcases zap h with ⟨h1, h2⟩ | ⟨rfl, rfl⟩
  · rw [o4 _ _ (by omega), o3 _ _ (by omega)]
    exact hW.2.2 i q' h2
  · rw [o4 _ _ (by omega), e3, qu_same, hx]
theorem s_strength {I : zI} {J : zJ} {q : Nat} (hq0 : q = 0 ∨ q = 2 ∨ q = 3 ∨ q = 4 ∨ q = 5) {Q : Int32 → zI → zJ → Prop} (hq : Q (nI (zstg q)) I J) : v_Waits_strengthOf 5000 (nI (zsc q)) I J Q := by
  rcases hq0 with rfl | rfl | rfl | rfl | rfl
  · exact z_n (by decide) (z_n (by decide) (z_n (by decide) (z_n (by decide) (z_n (by decide) (z_n (by decide) hq)))))
  · exact z_n (by decide) (z_y rfl hq)
  · exact z_n (by decide) (z_n (by decide) (z_n (by decide) (z_y rfl hq)))
  · exact z_y rfl hq
  · exact z_n (by decide) (z_n (by decide) (z_n (by decide) (z_n (by decide) (z_n (by decide) (z_y rfl hq)))))
abbrev frL (x : Nat) (I I' : zI) : Prop := ∀ b l, ¬ (b = 47 ∧ l = 1) → ¬ (x ≤ b ∧ b ≤ x + 2) → I' b l = I b l
theorem zgl {α : Type} (S : List α) (e : α) : (S ++ [e])[S.length]? = some e := by
  rw [List.getElem?_append_right (Nat.le_refl _), Nat.sub_self]
  rfl
theorem s_let1 {I : zI} {J : zJ} {x k d q s : Nat} {st : List Nat} {S : List (Int32 × Int32)} (hx : x < 47) (hx2 : x + 2 < 47) (hW : zWs I (st ++ [q]) d) (hl : st.length < 32) (hS : zLs I x S) (hSl : S.length < 400) (hq0 : q = 0 ∨ q = 2 ∨ q = 3 ∨ q = 4 ∨ q = 5) (hs : s ≤ zstg q) {Q : zI → zJ → Prop} (hq : ∀ I' : zI, frL x I I' → zWs I' st d → zLs I' x (S ++ [(nI (zsc q), 0)]) → v_Waits_letGo_0 5000 k x (nI s) I' J Q) : v_Waits_letGo_0 5000 (k + 1) x (nI s) I J Q := by
  have hlen : (st ++ [q]).length = st.length + 1 := by rw [List.length_append]; rfl
  have hz : zstg q ≤ 2 := by unfold zstg; split <;> (try split) <;> (try split) <;> omega
  have e48 := hW.2.2 st.length q (zgl st q)
  rw [v_Waits_letGo_0]; dsimp only; rw [hW.1, hlen, nI_pred, nI_clamp (n := st.length) (by omega), e48]
  refine z_n (nI_nle (by omega) (by omega)) ⟨vp_in_nI hl (by decide), s_strength hq0 (z_n (nI_nlt hs (by omega)) (fun I6 e6 => ?_))⟩
  rw [hW.1, hlen, nI_pred] at e6
  have o6 : ∀ b l, ¬ (b = 47 ∧ l = 1) → I6 b l = I b l := fun b l q => by rw [e6, qu_off (by omega)]
  rw [show I6 47 1 = nI st.length by rw [e6, qu_same], nI_clamp (n := st.length) (by omega), o6 _ _ (by omega), e48]
  refine ⟨vp_in_nI hl (by decide), s_add (hS.kept (fun b l q1 q2 => o6 b l (by omega))) hSl (fun I8 o8 g8 => hq I8 (fun b l q1 q2 => by rw [o8 b l q2, o6 b l q1]) ⟨?_, ?_, fun i q' h => ?_⟩ g8)⟩
  · rw [o8 _ _ (by omega), e6, qu_same]
  · rw [o8 _ _ (by omega), o6 _ _ (by omega)]; exact hW.2.1
  · have hi : i < st.length := by
      rcases Nat.lt_or_ge i st.length with z | z
      · exact z
      · rw [List.getElem?_eq_none z] at h; cases h
    rw [o8 _ _ (by omega), o6 _ _ (by omega)]
    exact hW.2.2 i q' (by rw [List.getElem?_append_left hi]; exact h)
theorem s_let0 {I : zI} {J : zJ} {x k d s : Nat} {st : List Nat} (hW : zWs I st d) (hl : st.length < 32) (hs : st = [] ∨ ∃ st' q, st = st' ++ [q] ∧ (q = 0 ∨ q = 2 ∨ q = 3 ∨ q = 4 ∨ q = 5) ∧ zstg q < s) (hs2 : s < 10) {Q : zI → zJ → Prop} (hq : Q I J) : v_Waits_letGo_0 5000 (k + 1) x (nI s) I J Q := by
  rcases hs with rfl | ⟨st', q, rfl, hq0, hlt⟩
  · rw [v_Waits_letGo_0]; dsimp only; rw [hW.1]
    exact z_y (by decide) hq
  · have hlen : (st' ++ [q]).length = st'.length + 1 := by rw [List.length_append]; rfl
    rw [hlen] at hl
    rw [v_Waits_letGo_0]; dsimp only; rw [hW.1, hlen, nI_pred, nI_clamp (n := st'.length) (by omega), hW.2.2 st'.length q (zgl st' q)]
    exact z_n (nI_nle (by omega) (by omega)) ⟨vp_in_nI (by omega) (by decide), s_strength hq0 (z_y (nI_lt hlt (by omega)) hq)⟩
theorem zbs_end (l : List (Nat × Nat)) {s : Nat} (hs : 0 < s) : zbs l = [] ∨ ∃ st' q, zbs l = st' ++ [q] ∧ (q = 0 ∨ q = 2 ∨ q = 3 ∨ q = 4 ∨ q = 5) ∧ zstg q < s := by
  cases l with
  | nil => exact Or.inl rfl
  | cons d l => exact Or.inr ⟨_, 0, rfl, Or.inl rfl, hs⟩
theorem zcs_nil : zcSteps [] = [] := rfl
theorem zcs_app (a b : zPf) : zcSteps (a ++ b) = zcSteps a ++ zcSteps b := by unfold zcSteps; exact List.map_append
theorem zcs_op {q : Nat} (h : q = 2 ∨ q = 3 ∨ q = 4 ∨ q = 5) : zcSteps [(q, 0)] = [(nI (zsc q), 0)] := by
  rcases h with rfl | rfl | rfl | rfl <;> rfl
theorem zcs_len (a : zPf) : (zcSteps a).length = a.length := by unfold zcSteps; exact List.length_map ..
theorem zfm1_len (c : Nat × Nat) : (zfm1 c).length = (if c.2 = 0 then 0 else 1) := by unfold zfm1; split <;> rfl
theorem zflu_len (c : Nat × Nat) : (zflu c).length = zops c := by
  unfold zflu zops
  rw [List.length_append, zfm1_len, Nat.add_comm]
  congr 1
  split <;> rfl
/-- all of the level comes out -/
theorem s_letAll {I : zI} {J : zJ} {x d k : Nat} {c : Nat × Nat} {l : List (Nat × Nat)} {S : List (Int32 × Int32)} (hx2 : x + 2 < 47) (hc : zlok c) (hl : l.length ≤ 6) (hW : zWs I (zbs l ++ zlv1 c) d) (hS : zLs I x S) (hSl : S.length + zops c ≤ 399) (hk : 3 ≤ k) {Q : zI → zJ → Prop} (hq : ∀ I' : zI, frL x I I' → zWs I' (zbs l) d → zLs I' x (S ++ zcSteps (zflu c)) → Q I' J) : v_Waits_letGo_0 5000 k x (nI 1) I J Q := by
  obtain ⟨a, m⟩ := c
  obtain ⟨k, rfl⟩ : ∃ k', k = k' + 3 := ⟨k - 3, by omega⟩
  have hlen := zbs_len l
  have ha : a = 0 ∨ a = 2 ∨ a = 3 := hc.1
  have hm : m = 0 ∨ m = 4 ∨ m = 5 := hc.2
  by_cases h1 : a = 0
  · by_cases h2 : m = 0
    · subst h1 h2
      rw [show zlv1 (0, 0) = [] from rfl, List.append_nil] at hW
      refine s_let0 hW (by omega) (zbs_end l (by decide)) (by decide) (hq I (fun _ _ _ _ => rfl) hW ?_)
      rw [show zcSteps (zflu (0, 0)) = [] from rfl, List.append_nil]
      exact hS
    · subst h1
      have e1 : zlv1 (0, m) = [m] := by unfold zlv1; rw [if_pos rfl, if_neg h2]; rfl
      have e2 : zflu (0, m) = [(m, 0)] := by unfold zflu zfm1; rw [if_pos rfl, if_neg h2]; rfl
      rw [e1] at hW
      refine s_let1 (by omega) hx2 hW (by omega) hS (by omega) (by omega) (by rw [zstg_m (by omega)]; decide) (fun I1 o1 w1 g1 => s_let0 w1 (by omega) (zbs_end l (by decide)) (by decide) (hq I1 o1 w1 ?_))
      rw [e2, zcs_op (by omega)]
      exact g1
  · by_cases h2 : m = 0
    · subst h2
      have e1 : zlv1 (a, 0) = [a] := by unfold zlv1; rw [if_pos rfl, if_neg h1]; rfl
      have e2 : zflu (a, 0) = [(a, 0)] := by unfold zflu zfm1; rw [if_pos rfl, if_neg h1]; rfl
      rw [e1] at hW
      refine s_let1 (by omega) hx2 hW (by omega) hS (by omega) (by omega) (by rw [zstg_a (by omega)]; decide) (fun I1 o1 w1 g1 => s_let0 w1 (by omega) (zbs_end l (by decide)) (by decide) (hq I1 o1 w1 ?_))
      rw [e2, zcs_op (by omega)]
      exact g1
    · have e1 : zlv1 (a, m) = [a] ++ [m] := by unfold zlv1; rw [if_neg h1, if_neg h2]
      have e2 : zflu (a, m) = [(m, 0)] ++ [(a, 0)] := by unfold zflu zfm1; rw [if_neg h1, if_neg h2]
      have e3 : zops (a, m) = 2 := by unfold zops; rw [if_neg h1, if_neg h2]
      rw [e3] at hSl
      rw [e1, ← List.append_assoc] at hW
      have hla : (zbs l ++ [a]).length = (zbs l).length + 1 := by rw [List.length_append]; rfl
      refine s_let1 (by omega) hx2 hW (by omega) hS (by omega) (by omega) (by rw [zstg_m (by omega)]; decide) (fun I1 o1 w1 g1 => s_let1 (by omega) hx2 w1 (by omega) g1 (by rw [List.length_append]; show S.length + 1 < 400; omega) (by omega) (by rw [zstg_a (by omega)]; decide) (fun I2 o2 w2 g2 => s_let0 w2 (by omega) (zbs_end l (by decide)) (by decide) (hq I2 (fun b l q1 q2 => by rw [o2 b l q1 q2, o1 b l q1 q2]) w2 ?_)))
      rw [e2, zcs_app, zcs_op (by omega), zcs_op (by omega), ← List.append_assoc]
      exact g2
/-- * and / alone come out -/
theorem s_letMul {I : zI} {J : zJ} {x d k : Nat} {c : Nat × Nat} {l : List (Nat × Nat)} {S : List (Int32 × Int32)} (hx2 : x + 2 < 47) (hc : zlok c) (hl : l.length ≤ 6) (hW : zWs I (zbs l ++ zlv1 c) d) (hS : zLs I x S) (hSl : S.length + zops c ≤ 399) (hk : 3 ≤ k) {Q : zI → zJ → Prop} (hq : ∀ I' : zI, frL x I I' → zWs I' (zbs l ++ zlv1 (c.1, 0)) d → zLs I' x (S ++ zcSteps (zfm1 c)) → Q I' J) : v_Waits_letGo_0 5000 k x (nI 2) I J Q := by
  obtain ⟨a, m⟩ := c
  obtain ⟨k, rfl⟩ : ∃ k', k = k' + 3 := ⟨k - 3, by omega⟩
  have hlen := zbs_len l
  have hlo := zlv1_len (a, 0)
  have hop := zops_le (a, 0)
  have ha : a = 0 ∨ a = 2 ∨ a = 3 := hc.1
  have hm : m = 0 ∨ m = 4 ∨ m = 5 := hc.2
  have hend : zbs l ++ zlv1 (a, 0) = [] ∨ ∃ st' q, zbs l ++ zlv1 (a, 0) = st' ++ [q] ∧ (q = 0 ∨ q = 2 ∨ q = 3 ∨ q = 4 ∨ q = 5) ∧ zstg q < 2 := by
    by_cases h1 : a = 0
    · subst h1
      rw [show zlv1 (0, 0) = [] from rfl, List.append_nil]
      exact zbs_end l (by decide)
    · have e1 : zlv1 (a, 0) = [a] := by unfold zlv1; rw [if_pos rfl, if_neg h1]; rfl
      rw [e1]
      refine Or.inr ⟨_, a, rfl, by omega, ?_⟩
      rcases ha with h | rfl | rfl
      · exact absurd h h1
      · decide
      · decide
  have hl2 : (zbs l ++ zlv1 (a, 0)).length < 32 := by rw [List.length_append, hlo]; omega
  by_cases h2 : m = 0
  · subst h2
    refine s_let0 hW hl2 hend (by decide) (hq I (fun _ _ _ _ => rfl) hW ?_)
    rw [show zcSteps (zfm1 (a, 0)) = [] from rfl, List.append_nil]
    exact hS
  · have e1 : zlv1 (a, m) = zlv1 (a, 0) ++ [m] := by unfold zlv1; rw [if_neg h2, if_pos rfl, List.append_nil]
    have e2 : zfm1 (a, m) = [(m, 0)] := by unfold zfm1; rw [if_neg h2]
    have e3 : 1 ≤ zops (a, m) := by unfold zops; rw [if_neg h2]; omega
    rw [e1, ← List.append_assoc] at hW
    refine s_let1 (by omega) hx2 hW hl2 hS (by omega) (by omega) (by rw [zstg_m (by omega)]; decide) (fun I1 o1 w1 g1 => s_let0 w1 hl2 hend (by decide) (hq I1 o1 w1 ?_))
    rw [e2, zcs_op (by omega)]
    exact g1
end
