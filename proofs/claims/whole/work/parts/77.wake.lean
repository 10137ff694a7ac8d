/-! who wakes as whom: the next on one's nail; the class' way -/
def zfi (f : Nat → Int32) (x : Int32) : Nat → Nat → Option Nat
  | 0, _ => none
  | r + 1, i => if f i = x then some i else zfi f x r (i + 1)
theorem zfi_some {f : Nat → Int32} {x : Int32} : ∀ {r i q}, zfi f x r i = some q → i ≤ q ∧ q < i + r ∧ f q = x ∧ ∀ p, i ≤ p → p < q → ¬ f p = x
  | 0, i, q, h => by cases h
  | r + 1, i, q, h => by
    rw [zfi] at h
    by_cases hc : f i = x
    · rw [if_pos hc] at h
      cases h
      exact ⟨Nat.le_refl _, by omega, hc, fun p h1 h2 => absurd h1 (by omega)⟩
    · rw [if_neg hc] at h
      obtain ⟨h1, h2, h3, h4⟩ := zfi_some h
      refine ⟨by omega, by omega, h3, fun p q1 q2 => ?_⟩
      by_cases hp : p = i
      · rw [hp]; exact hc
      · exact h4 p (by omega) q2
theorem zfi_none {f : Nat → Int32} {x : Int32} : ∀ {r i}, zfi f x r i = none → ∀ p, i ≤ p → p < i + r → ¬ f p = x
  | 0, i, _, p, h1, h2 => absurd h1 (by omega)
  | r + 1, i, h, p, h1, h2 => by
    rw [zfi] at h
    by_cases hc : f i = x
    · rw [if_pos hc] at h; cases h
    · rw [if_neg hc] at h
      by_cases hp : p = i
      · rw [hp]; exact hc
      · exact zfi_none h p (by omega) (by omega)
theorem zfi_is {f : Nat → Int32} {x : Int32} {r i q : Nat} (h1 : i ≤ q) (h2 : q < i + r) (h3 : f q = x) (h4 : ∀ p, i ≤ p → p < q → ¬ f p = x) : zfi f x r i = some q := by
  cases e : zfi f x r i with
  | none => exact absurd h3 (zfi_none e q h1 h2)
  | some q' =>
    obtain ⟨g1, g2, g3, g4⟩ := zfi_some e
    congr 1
    rcases Nat.lt_trichotomy q q' with z | z | z
    · exact absurd h3 (g4 q h1 z)
    · exact z.symm
    · exact absurd g3 (h4 q' g1 z)
theorem zfi_no {f : Nat → Int32} {x : Int32} {r i : Nat} (h : ∀ p, i ≤ p → p < i + r → ¬ f p = x) : zfi f x r i = none := by
  cases e : zfi f x r i with
  | none => rfl
  | some q =>
    obtain ⟨g1, g2, g3, g4⟩ := zfi_some e
    exact absurd g3 (h q g1 g2)
/-- the next one on the nail of p, the first one behind the last -/
def znx (n : Nat) (f : Nat → Int32) (p : Nat) : Nat := (zfi f (f p) (n - (p + 1)) (p + 1)).getD ((zfi f (f p) n 0).getD p)
theorem znx_up {n : Nat} {f : Nat → Int32} {p q : Nat} (h1 : p < q) (h2 : q < n) (h3 : f q = f p) (h4 : ∀ r, p < r → r < q → ¬ f r = f p) : znx n f p = q := by
  unfold znx
  rw [zfi_is (q := q) (by omega) (by omega) h3 (fun r g1 g2 => h4 r (by omega) g2)]
  rfl
theorem znx_wrap {n : Nat} {f : Nat → Int32} {p q : Nat} (h1 : ∀ r, p < r → r < n → ¬ f r = f p) (h2 : q < n) (h3 : f q = f p) (h4 : ∀ r, r < q → ¬ f r = f p) : znx n f p = q := by
  unfold znx
  rw [zfi_no (fun r g1 g2 => h1 r (by omega) (by omega)), zfi_is (q := q) (Nat.zero_le _) (by omega) h3 (fun r _ g2 => h4 r g2)]
  rfl
theorem znx_spec {n : Nat} {f : Nat → Int32} {p : Nat} (hp : p < n) : (znx n f p < n ∧ f (znx n f p) = f p) ∧ ((p < znx n f p ∧ ∀ r, p < r → r < znx n f p → ¬ f r = f p) ∨ (znx n f p ≤ p ∧ (∀ r, p < r → r < n → ¬ f r = f p) ∧ ∀ r, r < znx n f p → ¬ f r = f p)) := by
  cases e : zfi f (f p) (n - (p + 1)) (p + 1) with
  | some q =>
    obtain ⟨g1, g2, g3, g4⟩ := zfi_some e
    have : znx n f p = q := znx_up (by omega) (by omega) g3 (fun r h1 h2 => g4 r (by omega) h2)
    rw [this]
    exact ⟨⟨by omega, g3⟩, Or.inl ⟨by omega, fun r h1 h2 => g4 r (by omega) h2⟩⟩
  | none =>
    have g := zfi_none e
    cases e2 : zfi f (f p) n 0 with
    | none => exact absurd rfl (zfi_none e2 p (Nat.zero_le _) (by omega))
    | some q =>
      obtain ⟨k1, k2, k3, k4⟩ := zfi_some e2
      have : znx n f p = q := znx_wrap (fun r h1 h2 => g r (by omega) (by omega)) (by omega) k3 (fun r h => k4 r (Nat.zero_le _) h)
      rw [this]
      refine ⟨⟨by omega, k3⟩, Or.inr ⟨?_, fun r h1 h2 => g r (by omega) (by omega), fun r h => k4 r (Nat.zero_le _) h⟩⟩
      rcases Nat.lt_or_ge p q with z | z
      · exact absurd rfl (k4 p (Nat.zero_le _) z)
      · exact z
theorem znx_inj {n : Nat} {f : Nat → Int32} {p q : Nat} (hp : p < n) (hq : q < n) (e : znx n f p = znx n f q) : p = q := by
  have key : ∀ p q, p < n → q < n → znx n f p = znx n f q → ¬ p < q := by
    intro p q hp hq e h
    obtain ⟨⟨a1, a2⟩, a3⟩ := znx_spec (f := f) hp
    obtain ⟨⟨b1, b2⟩, b3⟩ := znx_spec (f := f) hq
    have hfe : f p = f q := by rw [← a2, e, b2]
    have h1 : p < znx n f p ∧ znx n f p ≤ q := by
      rcases a3 with ⟨c1, c2⟩ | ⟨c1, c2, c3⟩
      · refine ⟨c1, ?_⟩
        rcases Nat.lt_or_ge q (znx n f p) with z | z
        · exact absurd hfe.symm (c2 q h z)
        · exact z
      · exact absurd hfe.symm (c2 q h hq)
    rcases b3 with ⟨c1, c2⟩ | ⟨c1, c2, c3⟩
    · omega
    · rcases Nat.lt_or_ge p (znx n f q) with z | z
      · exact absurd hfe (c3 p z)
      · omega
  rcases Nat.lt_trichotomy p q with z | z | z
  · exact absurd z (key p q hp hq e)
  · exact z
  · exact absurd z (key q p hq hp e.symm)
/-- the selves of the morning -/
def zSn (t : zX) (s : zT) : Nat → Int32 := fun p => if sO s p < 0 then sS s p else sS s (znx (xP t) (znl t s) p)
def zWake (t : zX) (s : zT) : zT := (sW s, sO s, zSn t s, sC s, sB s, sN s)
theorem zSn_wf {t : zX} {s : zT} (hx : zX_ok t) (hw : zW (xH t) (xP t) s) : (∀ p, p < xP t → zin (zSn t s p) (xP t)) ∧ ∀ p q, p < xP t → q < xP t → zSn t s p = zSn t s q → p = q := by
  have hH := hx.1
  have hself := hw.2.2.2.2.1
  refine ⟨fun p hp => ?_, fun p q hp hq => ?_⟩
  · unfold zSn
    by_cases h : sO s p < 0
    · rw [if_pos h]; exact hw.2.2.2.1 p hp
    · rw [if_neg h]; exact hw.2.2.2.1 _ (znx_spec (f := znl t s) hp).1.1
  · have nail : ∀ r, r < xP t → ¬ sO s r < 0 → ¬ znl t s r = -2 := fun r hr h => by
      rcases z_on hw hr with e | ⟨h', hh', e⟩
      · exact absurd (by rw [e]; decide) h
      · rw [znl_up (by omega) e]; exact zin_ne2 (by decide) (hx.2.2.1 h' hh')
    have floor : ∀ r, r < xP t → sO s r < 0 → znl t s r = -2 := fun r hr h => by
      unfold znl; rw [if_pos h]
    unfold zSn
    by_cases h : sO s p < 0
    · rw [if_pos h]
      by_cases h' : sO s q < 0
      · rw [if_pos h']; exact hself p q hp hq
      · rw [if_neg h']
        intro e
        have := hself _ _ hp (znx_spec (f := znl t s) hq).1.1 e
        have e2 := (znx_spec (f := znl t s) hq).1.2
        rw [← this, floor p hp h] at e2
        exact absurd e2.symm (nail q hq h')
    · rw [if_neg h]
      by_cases h' : sO s q < 0
      · rw [if_pos h']
        intro e
        have := hself _ _ (znx_spec (f := znl t s) hp).1.1 hq e
        have e2 := (znx_spec (f := znl t s) hp).1.2
        rw [this, floor q hq h'] at e2
        exact absurd e2.symm (nail p hp h)
      · rw [if_neg h']
        intro e
        exact znx_inj hp hq (hself _ _ (znx_spec (f := znl t s) hp).1.1 (znx_spec (f := znl t s) hq).1.1 e)
theorem zWake_wf {t : zX} {s : zT} (hx : zX_ok t) (hw : zW (xH t) (xP t) s) : zW (xH t) (xP t) (zWake t s) := ⟨hw.1, hw.2.1, hw.2.2.1, (zSn_wf hx hw).1, (zSn_wf hx hw).2, hw.2.2.2.2.2⟩
theorem s_nailOf2 {I : zI} {J : zJ} {t : zX} {a p : Nat} {s : zT} (hx : zX_ok t) (hT : cT I t) (ho : I (a + 2) p = sO s p) (hw : sO s p = -2 ∨ zin (sO s p) (xH t)) (hp : p < xP t) {Q : Int32 → zI → zJ → Prop} (hq : Q (znl t s p) I J) : v_State_nailOf 5000 a (nI p) I J Q := by
  have hP := hx.2.1
  have hH := hx.1
  unfold v_State_nailOf
  rw [nI_clamp (by omega), ho]
  refine ⟨vp_in_nI (by omega) (by decide), fun y e => ?_⟩
  rw [e]
  unfold znl at hq
  rcases hw with e | ⟨h, hh, e⟩
  · rw [e] at hq ⊢
    exact ⟨fun _ => hq, fun q => absurd z_neg2 q⟩
  · rw [e] at hq ⊢
    rw [if_neg (nI_pos (by omega)), nI_clamp (by omega)] at hq
    refine ⟨fun q => absurd q (nI_pos (by omega)), fun _ => ⟨vp_in_nI (by omega) (by decide), ?_⟩⟩
    rw [nI_clamp (by omega), hT.2.2.1 h hh]
    exact hq
/-- the loop over one nail -/
def zwk (f : Nat → Int32) (x : Int32) (n : Nat) (S0 C : Nat → Int32) (i : Nat) (l : Option Nat) (fs : Int32) : Prop :=
  (∀ q, q < n → ¬ f q = x → C q = S0 q) ∧ (∀ q, q < n → i ≤ q → C q = S0 q) ∧ (l = none → ∀ q, q < i → ¬ f q = x) ∧
  (∀ k, l = some k → k < i ∧ f k = x ∧ (∀ q, k < q → q < i → ¬ f q = x) ∧ ∃ fm, fm ≤ k ∧ f fm = x ∧ (∀ q, q < fm → ¬ f q = x) ∧ fs = S0 fm) ∧
  (∀ q, q < i → f q = x → ¬ l = some q → ∃ q', q < q' ∧ q' < i ∧ f q' = x ∧ (∀ r, q < r → r < q' → ¬ f r = x) ∧ C q = S0 q')
theorem s_wakeOnNail_10 {J : zJ} {t : zX} {a : Nat} {s : zT} {x : Int32} {S0 : Nat → Int32} (hx : zX_ok t) (ha : 25 < a) (hw : ∀ p, p < xP t → sO s p = -2 ∨ zin (sO s p) (xH t)) {Q : zI → zJ → Prop} {K : Int32 → Int32 → zI → zJ → Prop} :
    ∀ r i k (l : Option Nat) (fs : Int32) (I : zI), cT I t → (∀ p, p < xP t → I (a + 2) p = sO s p) → i + r = xP t → r < k → zwk (znl t s) x (xP t) S0 (I (a + 3)) i l fs →
      (∀ (l' : Option Nat) (fs' : Int32) (I' : zI), (∀ b j, b ≠ a + 3 → I' b j = I b j) → zwk (znl t s) x (xP t) S0 (I' (a + 3)) (xP t) l' fs' → K (zol l') fs' I' J) → v_Night_wakeOnNail_10 5000 k a x (zol l) fs (nI i) I J Q K
  | _, _, 0, _, _, _, _, _, _, hk, _, _ => absurd hk (Nat.not_lt_zero _)
  | 0, i, k + 1, l, fs, I, hT, ho, hi, hk, hv, hq => by
    have hP := hx.2.1
    rw [v_Night_wakeOnNail_10]; dsimp only; rw [hT.2.1]
    refine z_y (nI_le (by omega) (by omega)) (hq l fs I (fun _ _ _ => rfl) ?_)
    rw [show xP t = i by omega] at hv ⊢
    exact hv
  | r + 1, i, k + 1, l, fs, I, hT, ho, hi, hk, hv, hq => by
    have hP := hx.2.1
    obtain ⟨v1, v2, v3, v4, v5⟩ := hv
    rw [v_Night_wakeOnNail_10]; dsimp only; rw [hT.2.1]
    refine z_n (nI_ge (by omega) (by omega)) (s_nailOf2 hx hT (ho i (by omega)) (hw i (by omega)) (by omega) ⟨fun q => ?_, fun q => ?_⟩)
    · rw [nI_1]
      refine s_wakeOnNail_10 hx ha hw r (i + 1) k l fs I hT ho (by omega) (by omega) ⟨v1, fun p h1 h2 => v2 p h1 (by omega), fun e p h => ?_, fun k' e => ?_, fun p h1 h2 h3 => ?_⟩ hq
      · by_cases hp : p = i
        · rw [hp]; exact q
        · exact v3 e p (by omega)
      · obtain ⟨g1, g2, g3, g4⟩ := v4 k' e
        refine ⟨by omega, g2, fun p h1 h2 => ?_, g4⟩
        by_cases hp : p = i
        · rw [hp]; exact q
        · exact g3 p h1 (by omega)
      · by_cases hp : p = i
        · rw [hp] at h2; exact absurd h2 q
        · obtain ⟨q', g1, g2, g3⟩ := v5 p (by omega) h2 h3
          exact ⟨q', g1, by omega, g3⟩
    · have hSi := v2 i (by omega) (Nat.le_refl _)
      cases l with
      | none =>
        refine z_yr rfl ⟨vp_in_nI (by omega) (by decide), fun y ey => ?_⟩
        rw [nI_clamp (by omega), hSi] at ey
        rw [nI_1, ey]
        have hno := v3 rfl
        refine s_wakeOnNail_10 hx ha hw r (i + 1) k (some i) (S0 i) I hT ho (by omega) (by omega) ⟨v1, fun p h1 h2 => v2 p h1 (by omega), fun e => by (cases e), fun k' e => ?_, fun p h1 h2 h3 => ?_⟩ hq
        · cases e
          exact ⟨Nat.lt_succ_self _, q, fun p h1 h2 => absurd h1 (by omega), i, Nat.le_refl _, q, hno, rfl⟩
        · have hpi : p ≠ i := fun z => h3 (by rw [z])
          exact absurd h2 (hno p (by omega))
      | some l =>
        obtain ⟨g1, g2, g3, fm, g4⟩ := v4 l rfl
        refine z_nr (z_ne2 (n := l) (by omega)) ⟨vp_in_nI (by omega) (by decide), vp_in_nI (n := l) (by omega) (by decide), fun I8 e8 => ?_⟩
        rw [show (zol (some l)) = nI l from rfl, nI_clamp (n := l) (by omega), nI_clamp (n := i) (by omega), hSi] at e8
        have o8 : ∀ b j, b ≠ a + 3 → I8 b j = I b j := fun b j q => by rw [e8, qu_off (Or.inl q)]
        have c8 : ∀ q, q ≠ l → I8 (a + 3) q = I (a + 3) q := fun q hq => by rw [e8, qu_off (Or.inr hq)]
        have c8l : I8 (a + 3) l = S0 i := by rw [e8, qu_same]
        rw [nI_1]
        refine s_wakeOnNail_10 hx ha hw r (i + 1) k (some i) fs I8 (hT.kept (fun b j q1 q2 => o8 b j (by omega))) (fun p hp => by rw [o8 _ _ (by omega), ho p hp]) (by omega) (by omega) ⟨fun p h1 h2 => ?_, fun p h1 h2 => ?_, fun e => by (cases e), fun k' e => ?_, fun p h1 h2 h3 => ?_⟩ (fun l' fs' I' o' v' => hq l' fs' I' (fun b j q => by rw [o' b j q, o8 b j q]) v')
        · rw [c8 p (fun z => h2 (by rw [z]; exact g2))]; exact v1 p h1 h2
        · rw [c8 p (by omega)]; exact v2 p h1 (by omega)
        · cases e
          exact ⟨Nat.lt_succ_self _, q, fun p h1 h2 => absurd h1 (by omega), fm, by omega, g4.2⟩
        · have hpi : p ≠ i := fun z => h3 (by rw [z])
          by_cases hp : p = l
          · subst hp
            exact ⟨i, by omega, by omega, q, fun r h1 h2 => g3 r h1 h2, c8l⟩
          · obtain ⟨q', k1, k2, k3, k4, k5⟩ := v5 p (by omega) h2 (fun z => hp (by cases z; rfl))
            exact ⟨q', k1, by omega, k3, k4, by rw [c8 p hp]; exact k5⟩
theorem s_wakeOnNail {I : zI} {J : zJ} {t : zX} {a : Nat} {s : zT} {x : Int32} {S0 : Nat → Int32} (hx : zX_ok t) (ha : 25 < a) (hw : ∀ p, p < xP t → sO s p = -2 ∨ zin (sO s p) (xH t)) (hT : cT I t) (ho : ∀ p, p < xP t → I (a + 2) p = sO s p) (hS : ∀ p, p < xP t → I (a + 3) p = S0 p) {Q : zI → zJ → Prop} (hq : ∀ I' : zI, (∀ b j, b ≠ a + 3 → I' b j = I b j) → (∀ p, p < xP t → znl t s p = x → I' (a + 3) p = S0 (znx (xP t) (znl t s) p)) → (∀ p, p < xP t → ¬ znl t s p = x → I' (a + 3) p = S0 p) → Q I' J) : v_Night_wakeOnNail 5000 a x I J Q := by
  have hP := hx.2.1
  refine s_wakeOnNail_10 hx ha hw (xP t) 0 5000 none (-2) I hT ho (by omega) (by omega) ⟨fun q h _ => hS q h, fun q h _ => hS q h, fun _ q h => absurd h (by omega), fun k e => by (cases e), fun q h => absurd h (by omega)⟩ (fun l fs I1 o1 v => ?_)
  obtain ⟨v1, v2, v3, v4, v5⟩ := v
  cases l with
  | none => exact z_y rfl (hq I1 o1 (fun p hp e => absurd e (v3 rfl p hp)) v1)
  | some l =>
    obtain ⟨g1, g2, g3, fm, g4, g5, g6, g7⟩ := v4 l rfl
    refine z_n (z_ne2 (n := l) (by omega)) ⟨vp_in_nI (n := l) (by omega) (by decide), fun I6 e6 => ?_⟩
    rw [show (zol (some l)) = nI l from rfl, nI_clamp (n := l) (by omega)] at e6
    refine hq I6 (fun b j q => by rw [e6, qu_off (Or.inl q), o1 b j q]) (fun p hp e => ?_) (fun p hp e => ?_)
    · by_cases hpl : p = l
      · subst hpl
        rw [e6, qu_same, g7, znx_wrap (q := fm) (fun r h1 h2 => by rw [g2]; exact g3 r h1 h2) (by omega) (by rw [g5, g2]) (fun r h => by rw [g2]; exact g6 r h)]
      · obtain ⟨q', k1, k2, k3, k4, k5⟩ := v5 p hp e (fun z => hpl (by cases z; rfl))
        rw [e6, qu_off (Or.inr hpl), k5, znx_up k1 k2 (by rw [k3, e]) (fun r h1 h2 => by rw [e]; exact k4 r h1 h2)]
    · have hpl : p ≠ l := fun z => e (by rw [z]; exact g2)
      rw [e6, qu_off (Or.inr hpl)]
      exact v1 p hp e
theorem s_wakeAll_2 {J : zJ} {t : zX} {a : Nat} {s : zT} (hx : zX_ok t) (ha : 25 < a) (hw : ∀ p, p < xP t → sO s p = -2 ∨ zin (sO s p) (xH t)) {Q : zI → zJ → Prop} : ∀ r i k (I : zI), cT I t → (∀ p, p < xP t → I (a + 2) p = sO s p) → i + r = 5 → r < k → (∀ p, p < xP t → ((∃ m, m < i ∧ znl t s p = nI m) → I (a + 3) p = sS s (znx (xP t) (znl t s) p)) ∧ ((¬ ∃ m, m < i ∧ znl t s p = nI m) → I (a + 3) p = sS s p)) → (∀ I' : zI, (∀ b j, b ≠ a + 3 → I' b j = I b j) → (∀ p, p < xP t → ((∃ m, m < 5 ∧ znl t s p = nI m) → I' (a + 3) p = sS s (znx (xP t) (znl t s) p)) ∧ ((¬ ∃ m, m < 5 ∧ znl t s p = nI m) → I' (a + 3) p = sS s p)) → Q I' J) → v_Night_wakeAll_2 5000 k a (nI i) I J Q
  | _, _, 0, _, _, _, _, hk, _, _ => absurd hk (Nat.not_lt_zero _)
  | 0, i, k + 1, I, hT, ho, hi, hk, hv, hq => by
    rw [v_Night_wakeAll_2]
    have : i = 5 := by omega
    subst this
    exact z_y (by decide) (hq I (fun _ _ _ => rfl) hv)
  | r + 1, i, k + 1, I, hT, ho, hi, hk, hv, hq => by
    rw [v_Night_wakeAll_2]
    refine z_n (nI_ge (b := 5) (by omega) (by decide)) (s_wakeOnNail hx ha hw hT ho (fun _ _ => rfl) (fun I1 o1 g1 g2 => ?_))
    rw [nI_1]
    refine s_wakeAll_2 hx ha hw r (i + 1) k I1 (hT.kept (fun b j q1 q2 => o1 b j (by omega))) (fun p hp => by rw [o1 _ _ (by omega), ho p hp]) (by omega) (by omega) (fun p hp => ⟨fun ⟨m, hm, e⟩ => ?_, fun hn => ?_⟩) (fun I' o' v' => hq I' (fun b j q => by rw [o' b j q, o1 b j q]) v')
    · by_cases hmi : m = i
      · subst hmi
        rw [g1 p hp e]
        have hz := znx_spec (f := znl t s) hp
        refine (hv _ hz.1.1).2 (fun ⟨m', hm', e'⟩ => ?_)
        rw [hz.1.2, e] at e'
        have := (nI_eq (by omega) (by omega)).mp e'
        omega
      · rw [g2 p hp (fun z => hmi ((nI_eq (by omega) (by omega)).mp (e.symm.trans z)))]
        exact (hv p hp).1 ⟨m, by omega, e⟩
    · rw [g2 p hp (fun z => hn ⟨i, Nat.lt_succ_self _, z⟩)]
      exact (hv p hp).2 (fun ⟨m, hm, e⟩ => hn ⟨m, by omega, e⟩)
theorem s_wakeAll {I : zI} {J : zJ} {t : zX} {a : Nat} {s : zT} (hX : cX I t a s) {Q : zI → zJ → Prop} (hq : ∀ I' : zI, cX I' t a (zWake t s) → (∀ b j, b ≠ a + 3 → I' b j = I b j) → Q I' J) : v_Night_wakeAll 5000 a I J Q := by
  obtain ⟨hx, hT, hw, hS, ha⟩ := hX
  obtain ⟨s0, s1, s2, s3, s4, s5⟩ := hS
  have hH := hx.1
  refine s_wakeAll_2 hx ha.1 hw.2.1 5 0 5000 I hT s2 (by omega) (by omega) (fun p hp => ⟨fun ⟨m, hm, _⟩ => absurd hm (by omega), fun _ => s3 p hp⟩) (fun I1 o1 v1 => ?_)
  refine hq I1 ⟨hx, hT.kept (fun b j q1 q2 => o1 b j (by omega)), zWake_wf hx hw, ⟨?_, fun p hp => ?_, fun p hp => ?_, fun p hp => ?_, fun p hp => ?_, fun p hp => ?_⟩, ha⟩ o1
  · rw [o1 _ _ (by omega)]; exact s0
  · rw [o1 _ _ (by omega)]; exact s1 p hp
  · rw [o1 _ _ (by omega)]; exact s2 p hp
  · show I1 (a + 3) p = zSn t s p
    unfold zSn
    rcases z_on hw hp with e | ⟨h, hh, e⟩
    · rw [if_pos (by rw [e]; decide)]
      refine (v1 p hp).2 (fun ⟨m, hm, e'⟩ => ?_)
      rw [znl_fl e] at e'
      exact absurd e'.symm (z_ne2 (by omega))
    · rw [if_neg (by rw [e]; exact nI_pos (by omega))]
      refine (v1 p hp).1 ?_
      rw [znl_up (by omega) e]
      obtain ⟨m, hm, em⟩ := hx.2.2.1 h hh
      exact ⟨m, hm, em⟩
  · rw [o1 _ _ (by omega)]; exact s4 p hp
  · rw [o1 _ _ (by omega)]; exact s5 p hp
