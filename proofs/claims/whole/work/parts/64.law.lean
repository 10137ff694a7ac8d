/-! LAWS: what a postfix text is worth, and that both tell it -/
def zop (k : Nat) (a b : Int32) : Int32 := if k = 2 then a + b else if k = 3 then a - b else if k = 4 then a * b else a / b
def zpo (k : Nat) : List Int32 → Option (List Int32)
  | b :: a :: s => if k = 5 ∧ b = 0 then none else some (zop k a b :: s)
  | _ => none
def zpe (f : Nat → Int32) : zPf → List Int32 → Option (List Int32)
  | [], s => some s
  | (k, v) :: l, s => if k = 0 then zpe f l (v :: s) else if k = 1 then zpe f l (f v.toNatClampNeg :: s) else (zpo k s).bind (zpe f l)
def zev (f : Nat → Int32) (l : zPf) : Option Int32 := match zpe f l [] with
  | some (x :: _) => some x
  | _ => none
theorem zpe_app (f : Nat → Int32) (m : Nat) (z : List Int32) : ∀ (l : zPf) (s : List Int32), zpfOK l s.length m → zpe f l (s ++ z) = (zpe f l s).map (· ++ z)
  | [], s, _ => rfl
  | (k, v) :: l, s, h => by
    rw [zpfOK] at h
    rw [zpe, zpe]
    by_cases h0 : k = 0
    · subst h0
      rw [if_pos (by decide)] at h
      rw [if_pos rfl, if_pos rfl]
      exact zpe_app f m z l (v :: s) h.2.2
    · rw [if_neg h0, if_neg h0]
      by_cases h1 : k = 1
      · subst h1
        rw [if_pos (by decide)] at h
        rw [if_pos rfl, if_pos rfl]
        exact zpe_app f m z l (f v.toNatClampNeg :: s) h.2.2
      · rw [if_neg (by omega)] at h
        rw [if_neg h1, if_neg h1]
        match s, h with
        | [], h => exact absurd h.1 (by simp)
        | [_], h => exact absurd h.1 (by simp)
        | b :: a :: s, h =>
          show (if k = 5 ∧ b = 0 then none else some (zop k a b :: (s ++ z))).bind (zpe f l) = ((if k = 5 ∧ b = 0 then none else some (zop k a b :: s)).bind (zpe f l)).map (· ++ z)
          by_cases h5 : k = 5 ∧ b = 0
          · rw [if_pos h5, if_pos h5]
            rfl
          · rw [if_neg h5, if_neg h5]
            exact zpe_app f m z l (zop k a b :: s) h.2.2
theorem zpe_len (f : Nat → Int32) (m : Nat) : ∀ (l : zPf) (s : List Int32), zpfOK l s.length m → ∀ s', zpe f l s = some s' → s'.length = 1
  | [], s, h, s', e => by
    rw [zpe] at e
    cases e
    exact h
  | (k, v) :: l, s, h, s', e => by
    rw [zpfOK] at h
    rw [zpe] at e
    by_cases h0 : k = 0
    · subst h0
      rw [if_pos (by decide)] at h
      rw [if_pos rfl] at e
      exact zpe_len f m l (v :: s) h.2.2 s' e
    · rw [if_neg h0] at e
      by_cases h1 : k = 1
      · subst h1
        rw [if_pos (by decide)] at h
        rw [if_pos rfl] at e
        exact zpe_len f m l (f v.toNatClampNeg :: s) h.2.2 s' e
      · rw [if_neg (by omega)] at h
        rw [if_neg h1] at e
        match s, h, e with
        | [], h, _ => exact absurd h.1 (by simp)
        | [_], h, _ => exact absurd h.1 (by simp)
        | b :: a :: s, h, e =>
          have e : (if k = 5 ∧ b = 0 then none else some (zop k a b :: s)).bind (zpe f l) = some s' := e
          by_cases h5 : k = 5 ∧ b = 0
          · rw [if_pos h5] at e
            cases e
          · rw [if_neg h5] at e
            exact zpe_len f m l (zop k a b :: s) h.2.2 s' e
theorem zpe_ev (f : Nat → Int32) {m : Nat} {l : zPf} (h : zpfOK l 0 m) (s : List Int32) : zpe f l s = (zev f l).map (· :: s) := by
  have h1 := zpe_app f m s l [] h
  rw [List.nil_append] at h1
  rw [h1, zev]
  cases e : zpe f l [] with
  | none => rfl
  | some z =>
    have h2 := zpe_len f m l [] h z e
    match z, h2 with
    | [x], _ => rfl
def zstk (g : Nat → Int32) : List Int32 → Prop
  | [] => True
  | v :: s => g s.length = v ∧ zstk g s
theorem zstk_up {g : Nat → Int32} {n : Nat} {v : Int32} : ∀ {s : List Int32}, s.length ≤ n → zstk g s → zstk (fun j => if j = n then v else g j) s
  | [], _, _ => trivial
  | x :: s, hn, h => ⟨by
    have hn : s.length < n := hn
    show (if s.length = n then v else g s.length) = x
    rw [if_neg (by omega)]
    exact h.1, zstk_up (Nat.le_of_lt hn) h.2⟩
theorem zstk_qu {I : zI} {c n : Nat} {v : Int32} {s : List Int32} (hn : s.length ≤ n) (h : zstk (I c) s) : zstk (qu I c n v c) s := by
  have e : qu I c n v c = fun j => if j = n then v else I c j := by
    funext j
    exact qu_eq
  rw [e]
  exact zstk_up hn h
theorem zstk_push {I : zI} {c : Nat} {v : Int32} {s : List Int32} (h : zstk (I c) s) : zstk (qu I c s.length v c) (v :: s) := ⟨qu_same, zstk_qu (Nat.le_refl _) h⟩
def zat (A B : Nat → Int32) : Nat → List (Int32 × Int32) → Prop
  | _, [] => True
  | o, q :: l => A o = q.1 ∧ B o = q.2 ∧ zat A B (o + 1) l
theorem zat_app {A B : Nat → Int32} : ∀ {l l' : List (Int32 × Int32)} {o : Nat}, zat A B o (l ++ l') → zat A B o l ∧ zat A B (o + l.length) l'
  | [], l', o, h => ⟨trivial, h⟩
  | q :: l, l', o, h => by
    have g := zat_app (l := l) h.2.2
    refine ⟨⟨h.1, h.2.1, g.1⟩, ?_⟩
    have e : o + (q :: l).length = o + 1 + l.length := by rw [List.length_cons]; omega
    rw [e]
    exact g.2
theorem zat_mk {A B : Nat → Int32} : ∀ {l : List (Int32 × Int32)} {o : Nat}, (∀ i q, l[i]? = some q → A (o + i) = q.1 ∧ B (o + i) = q.2) → zat A B o l
  | [], _, _ => trivial
  | q :: l, o, h => by
    have h0 := h 0 q rfl
    refine ⟨h0.1, h0.2, zat_mk fun i q' hq => ?_⟩
    have h1 := h (i + 1) q' hq
    rw [show o + 1 + i = o + (i + 1) by omega]
    exact h1
theorem zcSteps_length (l : zPf) : (zcSteps l).length = l.length := List.length_map _
/-- the sign of a step -/
def zsg (k : Nat) : Int32 := nI (if k = 0 then 1 else if k = 1 then 2 else if k = 2 then 43 else if k = 3 then 45 else if k = 4 then 42 else 47)
theorem z_joined {k : Nat} (h2 : 2 ≤ k) (h6 : k < 6) {a b : Int32} (h5 : ¬ (k = 5 ∧ b = 0)) {I : zI} {J : zJ} {Q : Int32 → zI → zJ → Prop} (hq : Q (zop k a b) I J) : v_Reck_joined 5000 (zsg k) a b I J Q := by
  have hk : k = 2 ∨ k = 3 ∨ k = 4 ∨ k = 5 := by omega
  unfold v_Reck_joined
  rcases hk with rfl | rfl | rfl | rfl
  · exact ⟨fun q => absurd q (by decide), fun _ => ⟨fun _ => hq, fun q => absurd (by decide) q⟩⟩
  · exact ⟨fun q => absurd q (by decide), fun _ => ⟨fun q => absurd q (by decide), fun _ => ⟨fun q => absurd q (by decide), fun _ => ⟨fun _ => hq, fun q => absurd (by decide) q⟩⟩⟩⟩
  · exact ⟨fun _ => hq, fun q => absurd (by decide) q⟩
  · have hb : ¬ b = 0 := fun z => h5 ⟨rfl, z⟩
    exact ⟨fun q => absurd q (by decide), fun _ => ⟨fun q => absurd q (by decide), fun _ => ⟨fun q => absurd q (by decide), fun _ => ⟨fun q => absurd q (by decide), fun _ => ⟨fun _ => ⟨hb, hq⟩, fun q => absurd q hb⟩⟩⟩⟩⟩
theorem z_m2 (n : Nat) : nI (n + 2) + (-2 : Int32) = nI n := by
  rw [nI_succ, nI_succ, Int32.add_assoc, Int32.add_assoc]
  rw [show (1 : Int32) + (1 + -2) = 0 by decide, Int32.add_zero]
theorem zsg_ne {k : Nat} (h2 : 2 ≤ k) (h6 : k < 6) : ¬ zsg k = 1 ∧ ¬ zsg k = 2 ∧ ¬ zsg k = 4 ∧ ¬ zsg k = 3 ∧ (zsg k = 47 ↔ k = 5) := by
  have hk : k = 2 ∨ k = 3 ∨ k = 4 ∨ k = 5 := by omega
  rcases hk with rfl | rfl | rfl | rfl <;> decide
/-- the class over a postfix text -/
theorem s_pf {a : Nat} (ha : 14 ≤ a ∧ a ≤ 23) {A B : Nat → Int32} {n : Nat} (hn : n ≤ 400) {f : Nat → Int32} {J : zJ} {Q : Int32 → zI → zJ → Prop} {K : Int32 → zI → zJ → Prop} :
    ∀ (l : zPf) (s : List Int32) (o d k : Nat) (I : zI), I (a + 1) = A → I (a + 2) = B → I a 2 = nI n → (∀ j, j < 9 → I 62 j = f j) → zat A B o (zcSteps l) → o + l.length < n → zpfOK l d 15 → d ≤ 15 → d ≤ s.length → s.length ≤ d + 1 → zstk (I 63) s → l.length ≤ k →
      (zpe f l s = none → ∀ I' : zI, (∀ b j, b ≠ 63 → I' b j = I b j) → Q 0 I' J) →
      (∀ s', zpe f l s = some s' → ∀ I' : zI, (∀ b j, b ≠ 63 → I' b j = I b j) → zstk (I' 63) s' → v_Reck_valueOf_4 5000 (k - l.length) a (nI s'.length) (nI (o + l.length)) I' J Q K) →
      v_Reck_valueOf_4 5000 k a (nI s.length) (nI o) I J Q K
  | [], s, o, d, k, I, hA, hB, hN, hf, hz, ho, hok, hd0, hd1, hd2, hs, hk, h0, h1 => h1 s rfl I (fun _ _ _ => rfl) hs
  | (c, v) :: l, s, o, d, 0, I, hA, hB, hN, hf, hz, ho, hok, hd0, hd1, hd2, hs, hk, h0, h1 => absurd hk (Nat.not_succ_le_zero _)
  | (c, v) :: l, s, o, d, k + 1, I, hA, hB, hN, hf, hz, ho, hok, hd0, hd1, hd2, hs, hk, h0, h1 => by
    have ho2 : o + (l.length + 1) < n := ho
    have hk2 : l.length ≤ k := Nat.le_of_succ_le_succ hk
    have e1 : A o = zsg c := hz.1
    have e2 : B o = v := hz.2.1
    have hz' : zat A B (o + 1) (zcSteps l) := hz.2.2
    have ef : k + 1 - (l.length + 1) = k - l.length := by omega
    have eo : o + (l.length + 1) = o + 1 + l.length := by omega
    have h12 : ∀ s', zpe f ((c, v) :: l) s = some s' → ∀ I' : zI, (∀ b j, b ≠ 63 → I' b j = I b j) → zstk (I' 63) s' → v_Reck_valueOf_4 5000 (k + 1 - (l.length + 1)) a (nI s'.length) (nI (o + (l.length + 1))) I' J Q K := h1
    rw [ef, eo] at h12
    rw [v_Reck_valueOf_4]
    dsimp only
    rw [hN]
    refine ⟨fun q => absurd q (nI_ge (by omega) (by omega)), fun _ => ⟨vp_in_nI (by omega) (by decide), ?_⟩⟩
    rw [nI_clamp (by omega), hA, hB, e1, e2]
    intro y ey
    refine ⟨vp_in_nI (by omega) (by decide), fun w ew => ?_⟩
    rw [ey, ew, nI_1]
    clear ey ew y w
    rw [zpfOK] at hok
    rw [zpe] at h0
    by_cases c0 : c = 0
    · subst c0
      rw [if_pos (by decide)] at hok
      rw [if_pos rfl] at h0
      refine ⟨fun _ => ?_, fun q => absurd (by decide) q⟩
      refine ⟨fun _ => ⟨fun q => absurd (by decide) q, fun _ => ⟨vp_in_nI (by omega) (by decide), ?_⟩⟩, fun q => absurd (nI_lt (b := 32) (by omega) (by decide)) q⟩
      intro I8 e8
      rw [nI_1]
      rw [nI_clamp (by omega)] at e8
      have o8 : ∀ b j, b ≠ 63 → I8 b j = I b j := fun b j q => by rw [e8, qu_off (Or.inl q)]
      have := s_pf ha hn l (v :: s) (o + 1) (d + 1) k I8 (by funext j; rw [o8 _ _ (by omega), hA]) (by funext j; rw [o8 _ _ (by omega), hB]) (by rw [o8 _ _ (by omega), hN]) (fun j hj => by rw [o8 _ _ (by omega), hf j hj]) hz' (by omega) hok.2.2 (by omega) (Nat.succ_le_succ hd1) (Nat.succ_le_succ hd2) (by rw [e8]; exact zstk_push hs) hk2 (Q := Q) (K := K) (J := J) (f := f)
        (fun e I' o' => h0 e I' (fun b j q => by rw [o' b j q, o8 b j q])) (fun s' e I' o' => h12 s' (by rw [zpe, if_pos rfl]; exact e) I' (fun b j q => by rw [o' b j q, o8 b j q]))
      exact this
    · rw [if_neg c0] at h0
      by_cases c1 : c = 1
      · subst c1
        rw [if_pos (by decide)] at hok
        rw [if_pos rfl] at h0
        obtain ⟨j, hj, rfl⟩ := hok.2.1 rfl
        refine ⟨fun q => absurd q (by decide), fun _ => ⟨fun q => absurd (by decide) q, fun _ => ?_⟩⟩
        refine ⟨fun _ => ⟨fun _ => ?_, fun q => absurd q (by decide)⟩, fun q => absurd (nI_lt (b := 32) (by omega) (by decide)) q⟩
        refine ⟨fun q => absurd q (nI_pos (by omega)), fun _ => ⟨fun q => absurd q (nI_ge (b := 9) hj (by decide)), fun _ => ⟨vp_in_nI hj (by decide), vp_in_nI (by omega) (by decide), ?_⟩⟩⟩
        intro I8 e8
        rw [nI_1]
        rw [nI_clamp (by omega), nI_clamp (by omega), hf j hj] at e8
        rw [nI_clamp (by omega)] at h0
        have o8 : ∀ b j, b ≠ 63 → I8 b j = I b j := fun b j q => by rw [e8, qu_off (Or.inl q)]
        have := s_pf ha hn l (f j :: s) (o + 1) (d + 1) k I8 (by funext j; rw [o8 _ _ (by omega), hA]) (by funext j; rw [o8 _ _ (by omega), hB]) (by rw [o8 _ _ (by omega), hN]) (fun j hj => by rw [o8 _ _ (by omega), hf j hj]) hz' (by omega) hok.2.2 (by omega) (Nat.succ_le_succ hd1) (Nat.succ_le_succ hd2) (by rw [e8]; exact zstk_push hs) hk2 (Q := Q) (K := K) (J := J) (f := f)
          (fun e I' o' => h0 e I' (fun b j q => by rw [o' b j q, o8 b j q])) (fun s' e I' o' => h12 s' (by rw [zpe, if_neg (by decide), if_pos rfl, nI_clamp (by omega)]; exact e) I' (fun b j q => by rw [o' b j q, o8 b j q]))
        exact this
      · rw [if_neg (by omega)] at hok
        rw [if_neg c1] at h0
        obtain ⟨n1, n2, n4, n3, n47⟩ := zsg_ne (k := c) (by omega) hok.2.1
        obtain ⟨b, x, s, rfl⟩ : ∃ b x s', s = b :: x :: s' := by
          match s, hd1 with
          | [], h => exact absurd (Nat.le_trans hok.1 h) (by simp)
          | [_], h => exact absurd (Nat.le_trans hok.1 h) (by simp)
          | b :: x :: s', _ => exact ⟨b, x, s', rfl⟩
        have hs1 : I 63 (s.length + 1) = b := hs.1
        have hs2 : I 63 s.length = x := hs.2.1
        have hs3 : zstk (I 63) s := hs.2.2
        have hd1 : d ≤ s.length + 2 := hd1
        have hd2 : s.length + 2 ≤ d + 1 := hd2
        have hl : s.length + 2 < 32 := by omega
        have ez : nI (b :: x :: s).length = nI (s.length + 2) := rfl
        have ep : nI (s.length + 2) - 1 = nI (s.length + 1) := nI_pred _
        have em : nI (s.length + 2) + (-2 : Int32) = nI s.length := z_m2 _
        rw [ez, ep]
        have main : ¬ (c = 5 ∧ b = 0) → v_Reck_valueOf_128 5000 a (nI (s.length + 2)) (nI (o + 1)) (zsg c) v I J Q (fun x2 x3 I J => v_Reck_valueOf_4 5000 k a x2 x3 I J Q K) := by
          intro h5
          unfold v_Reck_valueOf_128
          rw [em, nI_1, nI_clamp (by omega), nI_clamp (by omega), hs1, hs2]
          refine ⟨fun q => absurd q n3, fun _ => ⟨vp_in_nI (by omega) (by decide), vp_in_nI (by omega) (by decide), z_joined (by omega) hok.2.1 h5 ⟨vp_in_nI (by omega) (by decide), ?_⟩⟩⟩
          intro I8 e8
          have o8 : ∀ b j, b ≠ 63 → I8 b j = I b j := fun b j q => by rw [e8, qu_off (Or.inl q)]
          have := s_pf ha hn l (zop c x b :: s) (o + 1) (d - 1) k I8 (by funext j; rw [o8 _ _ (by omega), hA]) (by funext j; rw [o8 _ _ (by omega), hB]) (by rw [o8 _ _ (by omega), hN]) (fun j hj => by rw [o8 _ _ (by omega), hf j hj]) hz' (by omega) hok.2.2 (by omega) (by simp only [List.length_cons]; omega) (by simp only [List.length_cons]; omega) (by rw [e8]; exact zstk_push hs3) hk2 (Q := Q) (K := K) (J := J) (f := f)
            (fun e I' o' => h0 (by show (if c = 5 ∧ b = 0 then none else some (zop c x b :: s)).bind (zpe f l) = none; rw [if_neg h5]; exact e) I' (fun b j q => by rw [o' b j q, o8 b j q])) (fun s' e I' o' => h12 s' (by rw [zpe, if_neg c0, if_neg c1]; show (if c = 5 ∧ b = 0 then none else some (zop c x b :: s)).bind (zpe f l) = some s'; rw [if_neg h5]; exact e) I' (fun b j q => by rw [o' b j q, o8 b j q]))
          exact this
        refine ⟨fun q => absurd q n1, fun _ => ⟨fun _ => ⟨fun _ => ⟨fun q => absurd q (nI_nlt (b := 2) (by omega) (by omega)), fun _ => ?_⟩, fun q => absurd q n4⟩, fun q => absurd q n2⟩⟩
        refine ⟨fun q => main (fun z => q (n47.mpr z.1)), fun q => ⟨vp_in_nI (by omega) (by decide), ?_⟩⟩
        rw [nI_clamp (by omega), hs1]
        refine ⟨fun z => main (fun y => z y.2), fun z => h0 ?_ I (fun _ _ _ => rfl)⟩
        show (if c = 5 ∧ b = 0 then none else some (zop c x b :: s)).bind (zpe f l) = none
        rw [if_pos ⟨n47.mp q, z⟩]
        rfl
