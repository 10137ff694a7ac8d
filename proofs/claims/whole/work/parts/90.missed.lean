/-! missed -/
theorem zmin_1 (x y : Nat × Nat) : (zmin x y).1 = max x.1 y.1 := by
  unfold zmin
  split <;> omega
theorem zfd_1 {al : Nat → Bool} {cd : Nat → Nat × Nat} {K : Nat} : ∀ r h w, (∀ h', h ≤ h' → h' < h + r → al h' = true → (cd h').1 = K) → w.1 ≤ K → ((∃ h', h ≤ h' ∧ h' < h + r ∧ al h' = true) ∨ w.1 = K) → (zfd al cd r h w).1 = K
  | 0, h, w, _, _, h3 => by
    rcases h3 with ⟨h', h1, h2, _⟩ | e
    · omega
    · exact e
  | r + 1, h, w, h1, h2, h3 => by
    rw [zfd]
    by_cases ha : al h = true
    · rw [if_pos ha]
      have := h1 h (Nat.le_refl _) (by omega) ha
      have e : (zmin (cd h) w).1 = K := by rw [zmin_1, this]; omega
      exact zfd_1 r (h + 1) _ (fun h' g1 g2 => h1 h' (by omega) (by omega)) (by omega) (Or.inr e)
    · rw [if_neg ha]
      refine zfd_1 r (h + 1) w (fun h' g1 g2 => h1 h' (by omega) (by omega)) h2 ?_
      rcases h3 with ⟨h', g1, g2, g3⟩ | e
      · by_cases hh : h' = h
        · subst hh; exact absurd g3 ha
        · exact Or.inl ⟨h', by omega, by omega, g3⟩
      · exact Or.inr e
theorem zfd_no {al : Nat → Bool} {cd : Nat → Nat × Nat} : ∀ r h w, (∀ h', h ≤ h' → h' < h + r → ¬ al h' = true) → zfd al cd r h w = w
  | 0, _, _, _ => rfl
  | r + 1, h, w, h1 => by
    rw [zfd, if_neg (h1 h (Nat.le_refl _) (by omega))]
    exact zfd_no r (h + 1) w (fun h' g1 g2 => h1 h' (by omega) (by omega))
theorem zfd_cg {al al' : Nat → Bool} {cd cd' : Nat → Nat × Nat} : ∀ r h w, (∀ h', h ≤ h' → h' < h + r → al h' = al' h' ∧ cd h' = cd' h') → zfd al cd r h w = zfd al' cd' r h w
  | 0, _, _, _ => rfl
  | r + 1, h, w, h1 => by
    obtain ⟨e1, e2⟩ := h1 h (Nat.le_refl _) (by omega)
    rw [zfd, zfd, e1, e2]
    exact zfd_cg r (h + 1) _ (fun h' g1 g2 => h1 h' (by omega) (by omega))
def zfree (T : Nat) : Nat → Nat
  | 0 => 0
  | n + 1 => zfree T n + if T &&& 2 ^ n = 0 then 1 else 0
theorem z_ands : ∀ T, T < 128 → ∀ h, h < 7 → ∀ h', h' < 7 → (decide ((T ||| 2 ^ h) &&& 2 ^ h' = 0)) = (if h' = h then false else decide (T &&& 2 ^ h' = 0)) := by decide +kernel
theorem zfree_or {T h : Nat} (hT : T < 128) (hh : h < 7) (h0 : T &&& 2 ^ h = 0) : ∀ n, n ≤ 7 → (h < n → zfree (T ||| 2 ^ h) n + 1 = zfree T n) ∧ (n ≤ h → zfree (T ||| 2 ^ h) n = zfree T n)
  | 0, _ => ⟨fun z => absurd z (Nat.not_lt_zero _), fun _ => rfl⟩
  | n + 1, hn => by
    obtain ⟨g1, g2⟩ := zfree_or hT hh h0 n (by omega)
    have ha := z_ands T hT h hh n (by omega)
    rw [zfree, zfree]
    by_cases e : n = h
    · subst e
      rw [if_pos rfl] at ha
      rw [if_neg (of_decide_eq_false ha), if_pos h0]
      exact ⟨fun _ => by rw [g2 (Nat.le_refl _)], fun z => absurd z (by omega)⟩
    · rw [if_neg e] at ha
      have hi : ((T ||| 2 ^ h) &&& 2 ^ n = 0) ↔ (T &&& 2 ^ n = 0) := by
        constructor
        · intro z; exact of_decide_eq_true (ha ▸ decide_eq_true z)
        · intro z; exact of_decide_eq_true (ha.symm ▸ decide_eq_true z)
      by_cases z : T &&& 2 ^ n = 0
      · rw [if_pos z, if_pos (hi.mpr z)]
        exact ⟨fun q => by have := g1 (by omega); omega, fun q => by rw [g2 (by omega)]⟩
      · rw [if_neg z, if_neg (fun y => z (hi.mp y))]
        exact ⟨fun q => by have := g1 (by omega); omega, fun q => by rw [g2 (by omega)]⟩
theorem zfree_pos {T : Nat} : ∀ n, 0 < zfree T n → ∃ h, h < n ∧ T &&& 2 ^ h = 0
  | 0, h => absurd h (Nat.lt_irrefl _)
  | n + 1, h => by
    rw [zfree] at h
    by_cases z : T &&& 2 ^ n = 0
    · exact ⟨n, Nat.lt_succ_self _, z⟩
    · rw [if_neg z] at h
      obtain ⟨h', g1, g2⟩ := zfree_pos n h
      exact ⟨h', by omega, g2⟩
theorem zfree_0 {T : Nat} : ∀ n, zfree T n = 0 → ∀ h, h < n → ¬ T &&& 2 ^ h = 0
  | 0, _, h, hh => absurd hh (Nat.not_lt_zero _)
  | n + 1, e, h, hh => by
    rw [zfree] at e
    by_cases z : h = n
    · subst z
      intro y; rw [if_pos y] at e; omega
    · exact zfree_0 n (by omega) h (by omega)
section
variable {t : zX} {s : zT}
theorem zbt0_0 (t : zX) (h : Nat) : zbt0 t 0 h = 2 ^ h := by unfold zbt0; rw [if_pos rfl]
theorem zBE_s (t : zX) (s : zT) (x x2 : Int32) (r T : Nat) : zBE t s x x2 (r + 1) T = zfd (zal x2 (zbt0 t x) T) (fun h => ((zBE t s x x2 r (T ||| zbt0 t x h)).1 + 1, (zBE t s x x2 r (T ||| zbt0 t x h)).2 + zcs t s (xP t - (r + 1)) h)) (xH t) 0 (zBE t s x x2 r T) := zbe.eq_2 ..
theorem zBE_k (hx : zX_ok t) : ∀ r T, T < 128 → (zBE t s 0 (-2) r T).1 = min r (zfree T (xH t))
  | 0, T, _ => by show 0 = _; omega
  | r + 1, T, hT => by
    have hH := hx.1
    have ih := fun T hT => zBE_k hx r T hT
    rw [zBE_s]
    rcases Nat.eq_zero_or_pos (zfree T (xH t)) with e | e
    · rw [zfd_no _ _ _ (fun h' g1 g2 z => by
        rw [zal_2 _ _ (by omega), zbt0_0] at z
        exact zfree_0 _ e h' (by omega) (of_decide_eq_true z)), ih T hT, e]
      omega
    · refine zfd_1 _ _ _ (fun h' g1 g2 z => ?_) (by rw [ih T hT]; omega) (Or.inl ?_)
      · rw [zal_2 _ _ (by omega), zbt0_0] at z
        have z := of_decide_eq_true z
        have hb := (zbt0_b hx 0 hT (show h' < xH t by omega)).1
        have := (zfree_or hT (by omega) z (xH t) (by omega)).1 (by omega)
        show (zBE t s 0 (-2) r (T ||| zbt0 t 0 h')).1 + 1 = _
        rw [ih _ hb, zbt0_0]
        omega
      · obtain ⟨h, h1, h2⟩ := zfree_pos _ e
        refine ⟨h, Nat.zero_le _, by omega, ?_⟩
        rw [zal_2 _ _ (by omega), zbt0_0]
        exact decide_eq_true h2
theorem zBE_ex (hx : zX_ok t) {h : Nat} (hh : h < xH t) : ∀ r T, T < 128 → zBE t s 0 (nI h) r T = zBE t s 0 (-2) r (T ||| 2 ^ h)
  | 0, _, _ => rfl
  | r + 1, T, hT => by
    have hH := hx.1
    rw [zBE_s, zBE_s, zBE_ex hx hh r T hT]
    refine zfd_cg _ _ _ (fun h' g1 g2 => ?_)
    have ha := z_ands T hT h (by omega) h' (by omega)
    constructor
    · rw [zal_2 _ _ (by omega), zbt0_0, ha]
      unfold zal
      rw [zbt0_0]
      by_cases e : h' = h
      · subst e; rw [if_pos rfl, if_pos rfl]
      · rw [if_neg e, if_neg (fun z => e ((nI_eq (by omega) (by omega)).mp z))]
    · have hb := (zbt0_b hx 0 hT (show h' < xH t by omega)).1
      have e1 : T ||| 2 ^ h ||| zbt0 t 0 h' = T ||| zbt0 t 0 h' ||| 2 ^ h := by rw [Nat.or_assoc, Nat.or_comm (2 ^ h), ← Nat.or_assoc]
      simp only [zBE_ex hx hh r _ hb, e1]
end
def zam (g : Nat → Nat) : Nat → Nat → Option Nat → Option Nat
  | 0, _, b => b
  | r + 1, i, b => zam g r (i + 1) (b.elim (some i) fun j => if g i ≤ g j then some j else some i)
section
variable {t : zX} {s : zT} {live : Nat}
def zmg (t : zX) (s : zT) (h : Nat) : Nat := (zBE t s 0 (nI h) (xP t) 0).2
theorem zmg_bd (hx : zX_ok t) (h : Nat) : zbd 6 (zBE t s 0 (nI h) (xP t) 0) := by
  have hP := hx.2.1
  have : zbd (xP t) (zBE t s 0 (nI h) (xP t) 0) := zbe_bd (zcs_le t s) (xP t) 0
  exact ⟨by have := this.1; omega, by have := this.2; omega⟩
theorem zmg_k (hx : zX_ok t) {h : Nat} (hh : h < xH t) : (zBE t s 0 (nI h) (xP t) 0).1 = min (xP t) (xH t - 1) := by
  have hH := hx.1
  rw [zBE_ex hx hh (xP t) 0 (by decide), zBE_k hx (xP t) _ (Nat.or_lt_two_pow (n := 7) (by decide) (Nat.pow_lt_pow_right (by decide) (by omega)))]
  have h1 := (zfree_or (T := 0) (by decide) (show h < 7 by omega) (Nat.zero_and _) (xH t) (by omega)).1 hh
  have h2 : ∀ n, zfree 0 n = n := fun n => by
    induction n with
    | zero => rfl
    | succ n ih => rw [zfree, ih, if_pos (Nat.zero_and _)]
  rw [h2] at h1
  omega
theorem zmg_le (hx : zX_ok t) {i j : Nat} (hi : i < xH t) (hj : j < xH t) : zvC (zBE t s 0 (nI i) (xP t) 0) ≤ zvC (zBE t s 0 (nI j) (xP t) 0) ↔ zmg t s i ≤ zmg t s j := by
  rw [← Int32.not_lt, zvC_lt (zmg_bd hx j) (zmg_bd hx i), zmg_k hx hi, zmg_k hx hj]
  unfold zmg
  omega
theorem s_missed_28 {J : zJ} {x1 : Int32} {Q : Int32 → zI → zJ → Prop} {K : Int32 → Int32 → Int32 → zI → zJ → Prop} : ∀ r i k (b : Option Nat) (y : Int32) (I : zI), zQ I t live s → (∀ p h, p < xP t → h < xH t → I (68 + p) h = nI (zcs t s p h)) → (∀ j, b = some j → j < i ∧ y = zvC (zBE t s 0 (nI j) (xP t) 0)) → i + r = xH t → r < k → (∀ (I' : zI) (y' : Int32), zK I I' J J → (∀ j, zam (zmg t s) r i b = some j → j < xH t ∧ y' = zvC (zBE t s 0 (nI j) (xP t) 0)) → K x1 (zol (zam (zmg t s) r i b)) y' I' J) → v_X_missed_28 5000 k x1 (zol b) y (nI i) I J Q K
  | _, _, 0, _, _, _, _, _, _, _, hk, _ => absurd hk (Nat.not_lt_zero _)
  | 0, i, k + 1, b, y, I, hQ, hc, hb, hi, hk, hq => by
    have hH := hQ.1.1.1
    rw [v_X_missed_28]; dsimp only; rw [hQ.1.2.1.1]
    exact z_y (nI_le (by omega) (by omega)) (hq I y zK.rfl (fun j e => by obtain ⟨g1, g2⟩ := hb j e; exact ⟨by omega, g2⟩))
  | r + 1, i, k + 1, b, y, I, hQ, hc, hb, hi, hk, hq => by
    have hH := hQ.1.1.1
    rw [v_X_missed_28]; dsimp only; rw [hQ.1.2.1.1]
    rw [zam] at hq
    refine z_n (nI_ge (by omega) (by omega)) (s_findBest hQ hc (fun I3 o3 _ _ => ?_))
    have k3 : zK I I3 J J := zK.fPl (fun b j q1 q2 q3 => o3 b j (by omega))
    have hc3 : ∀ p h, p < xP t → h < xH t → I3 (68 + p) h = nI (zcs t s p h) := fun p h hp hh => by
      have := hQ.1.1.2.1
      rw [o3 _ _ (by omega)]; exact hc p h hp hh
    rw [nI_1]
    cases b with
    | none => exact z_y rfl (s_missed_28 r (i + 1) k (some i) _ I3 (hQ.kept k3) hc3 (fun j e => by cases e; exact ⟨Nat.lt_succ_self _, rfl⟩) (by omega) (by omega) (fun I' y' k' => hq I' y' (k3.trans k')))
    | some j =>
      obtain ⟨hj, ey⟩ := hb j rfl
      refine z_n (z_ne2 (n := j) (by omega)) ?_
      rw [ey]
      by_cases h : zmg t s i ≤ zmg t s j
      · have e : ((some j : Option Nat).elim (some i) fun j => if zmg t s i ≤ zmg t s j then some j else some i) = some j := if_pos h
        rw [e] at hq
        exact z_y ((zmg_le hQ.1.1 (by omega) (by omega)).mpr h) (s_missed_28 r (i + 1) k (some j) _ I3 (hQ.kept k3) hc3 (fun j' e => by cases e; exact ⟨by omega, rfl⟩) (by omega) (by omega) (fun I' y' k' => hq I' y' (k3.trans k')))
      · have e : ((some j : Option Nat).elim (some i) fun j => if zmg t s i ≤ zmg t s j then some j else some i) = some i := if_neg h
        rw [e] at hq
        exact z_n (fun z => h ((zmg_le hQ.1.1 (by omega) (by omega)).mp z)) (s_missed_28 r (i + 1) k (some i) _ I3 (hQ.kept k3) hc3 (fun j' e => by cases e; exact ⟨Nat.lt_succ_self _, rfl⟩) (by omega) (by omega) (fun I' y' k' => hq I' y' (k3.trans k')))
theorem s_M_missed_25 {I : zI} {J : zJ} {x1 : Int32} (hI : zPq I t s live 0) (hr : ∀ q, q ≤ xP t → zMw I (zBE t s 0 (-2)) (xP t) q) {Q : Int32 → zI → zJ → Prop} : ∀ r i k (b : Option Nat) (y : Int32), (∀ j, b = some j → j < i ∧ y = nI (zmg t s j)) → (b = none → y = -2) → i + r = xH t → r < k → Q (if x1 = 0 then zol (zam (zmg t s) r i b) else (zam (zmg t s) r i b).elim (-2) fun j => nI (zmg t s j)) I J → v_M_missed_25 5000 k x1 (zol b) y (nI i) I J Q
  | _, _, 0, _, _, _, _, _, hk, _ => absurd hk (Nat.not_lt_zero _)
  | 0, i, k + 1, b, y, hb, hb0, hi, hk, hq => by
    have hH := hI.1.1
    have hl := hI.2.1.1
    rw [v_M_missed_25]; dsimp only; rw [hI.2.1.2.1, nI_clamp (by omega), hI.2.1.2.2.1]
    rw [zam] at hq
    refine ⟨vp_in_nI hl (by decide), z_y (nI_le (by omega) (by omega)) ⟨fun q => ?_, fun q => ?_⟩⟩
    · rw [if_neg q] at hq
      cases b with
      | none => rw [hb0 rfl]; exact hq
      | some j => rw [(hb j rfl).2]; exact hq
    · rw [if_pos q] at hq; exact hq
  | r + 1, i, k + 1, b, y, hb, hb0, hi, hk, hq => by
    have hH := hI.1.1
    have hl := hI.2.1.1
    have hp : 2 ^ i < 128 := Nat.pow_lt_pow_right (n := 7) (by decide) (by omega)
    have er := hr 0 (Nat.zero_le _) (2 ^ i) hp
    rw [Nat.mul_zero, Nat.zero_add, Nat.sub_zero] at er
    have ee : zBE t s 0 (nI i) (xP t) 0 = zBE t s 0 (-2) (xP t) (2 ^ i) := by
      rw [zBE_ex hI.1 (by omega) (xP t) 0 (by decide), Nat.zero_or]
    rw [← ee] at er
    rw [v_M_missed_25]; dsimp only; rw [hI.2.1.2.1, nI_clamp (n := live) (by omega), hI.2.1.2.2.1, z_sh i (by omega), nI_clamp (n := 2 ^ i) (by omega), er]
    rw [zam] at hq
    have hgi : zmg t s i ≤ 594 := (zmg_bd hI.1 i).2
    refine ⟨vp_in_nI hl (by decide), z_n (nI_ge (by omega) (by omega)) ⟨vp_in_nI (by omega) (by decide), s_M_costOf (zmg_bd hI.1 i) ?_⟩⟩
    rw [nI_1, show (zBE t s 0 (nI i) (xP t) 0).2 = zmg t s i from rfl]
    cases b with
    | none =>
      rw [hb0 rfl]
      exact z_y (Int32.lt_of_lt_of_le z_neg2 (nI_pos' (by omega))) (s_M_missed_25 hI hr r (i + 1) k (some i) _ (fun j e => by cases e; exact ⟨Nat.lt_succ_self _, rfl⟩) (fun e => by cases e) (by omega) (by omega) hq)
    | some j =>
      obtain ⟨hj, ey⟩ := hb j rfl
      have hgj : zmg t s j ≤ 594 := (zmg_bd hI.1 j).2
      rw [ey]
      by_cases h : zmg t s i ≤ zmg t s j
      · have e : ((some j : Option Nat).elim (some i) fun j => if zmg t s i ≤ zmg t s j then some j else some i) = some j := if_pos h
        rw [e] at hq
        exact z_n (nI_nlt h (by omega)) (s_M_missed_25 hI hr r (i + 1) k (some j) _ (fun j' e => by cases e; exact ⟨by omega, rfl⟩) (fun e => by cases e) (by omega) (by omega) hq)
      · have e : ((some j : Option Nat).elim (some i) fun j => if zmg t s i ≤ zmg t s j then some j else some i) = some i := if_neg h
        rw [e] at hq
        exact z_y (nI_lt (by omega) (by omega)) (s_M_missed_25 hI hr r (i + 1) k (some i) _ (fun j' e => by cases e; exact ⟨Nat.lt_succ_self _, rfl⟩) (fun e => by cases e) (by omega) (by omega) hq)
end
theorem zok_missed : zOK_missed Rel := fun a0 => zok_q (vX := v_X_missed 5000 a0) (vM := v_M_missed 5000 a0) (fun I J hR t live s hQ => by
  have hH := hQ.1.1.1
  by_cases hk : zin a0 2
  · refine ⟨if a0 = 0 then zol (zam (zmg t s) (xH t) 0 none) else (zam (zmg t s) (xH t) 0 none).elim (-2) fun j => nI (zmg t s j), fun Q hq => z01y hk (z_nr z_10 (s_lookC hQ (fun I4 o4 f4 => s_missed_28 (xH t) 0 5000 none 0 I4 (hQ.kept (J := J) (J' := J) (zK.fPl o4)) f4 (fun j e => by cases e) (by omega) (by omega) (fun I8 y8 k8 g8 => ?_)))), fun I1 Q k1 hQ1 hq => ?_⟩
    · have hq := fun I' k' => hq I' ((zK.fPl o4).trans (k8.trans k'))
      refine ⟨fun q => ?_, fun q => ?_⟩
      · rw [if_pos q] at hq; exact hq I8 zK.rfl
      · rw [if_neg q] at hq
        cases e : zam (zmg t s) (xH t) 0 none with
        | none => rw [e] at hq; exact z_yr rfl (hq I8 zK.rfl)
        | some j =>
          rw [e] at hq
          obtain ⟨hj, ey⟩ := g8 j e
          rw [ey]
          exact z_nr (z_ne2 (n := j) (by omega)) (s_costOf (zmg_bd hQ.1.1 j) (hq I8 zK.rfl))
    · obtain ⟨k, hk, rfl⟩ := hk
      exact z_in1 (n := 2) (by decide) (by decide) hk (z_nr z_10 (s_M_fillsLeast (x := 0) (Or.inl rfl) hQ1.m (fun I3 o3 g3 r3 => s_M_missed_25 g3 r3 (xH t) 0 5000 none (-2) (fun j e => by cases e) (fun _ => rfl) (by omega) (by omega) (hq I3 (zK.fQ o3)))))
  · exact ⟨-1, fun Q hq => z01n hk (z_yr z_00 (hq I zK.rfl)), fun I1 Q k1 hQ1 hq => z_in0 (n := 2) (by decide) (by decide) hk (z_yr z_00 (hq I1 zK.rfl))⟩)
