/-! the reference over its code -/
def zmSteps (l : zPf) : List (Int32 × Int32) := l.map fun q => (nI q.1, q.2)
abbrev frT (I I' : zI) : Prop := ∀ b j, b ≠ 392 → ¬ (b = 361 ∧ j = 48) → I' b j = I b j
theorem zop_ne {k : Nat} {a b : Int32} : (k = 2 → zop k a b = a + b) ∧ (k = 3 → zop k a b = a - b) ∧ (k = 4 → zop k a b = a * b) ∧ (k = 5 → zop k a b = a / b) := by
  refine ⟨fun h => ?_, fun h => ?_, fun h => ?_, fun h => ?_⟩ <;> subst h <;> rfl
theorem z_term104 {c : Nat} (h2 : 2 ≤ c) (h6 : c < 6) {a b x2 x4 : Int32} {n : Nat} (hn : n < 399) (h5 : ¬ (c = 5 ∧ b = 0)) {I : zI} {J : zJ} {Q : Int32 → zI → zJ → Prop} {K : Int32 → Int32 → Int32 → zI → zJ → Prop} (hK : K x2 (nI (n + 1)) (x4 + 1) (qu I 392 n (zop c a b)) J) : v_M_termOf_104 5000 x2 (nI (n + 1)) x4 (nI c) a b I J Q K := by
  unfold v_M_termOf_104
  rw [nI_pred, nI_clamp (by omega)]
  have hv : vp_in (nI n) 400 := vp_in_nI (by omega) (by decide)
  have hk : c = 2 ∨ c = 3 ∨ c = 4 ∨ c = 5 := by omega
  rcases hk with rfl | rfl | rfl | rfl
  · exact ⟨fun q => absurd rfl q, fun _ => ⟨hv, fun I' e => by rw [e]; exact hK⟩⟩
  · exact ⟨fun _ => ⟨fun q => absurd rfl q, fun _ => ⟨hv, fun I' e => by rw [e]; exact hK⟩⟩, fun q => absurd q (by decide)⟩
  · exact ⟨fun _ => ⟨fun _ => ⟨fun q => absurd rfl q, fun _ => ⟨hv, fun I' e => by rw [e]; exact hK⟩⟩, fun q => absurd q (by decide)⟩, fun q => absurd q (by decide)⟩
  · exact ⟨fun _ => ⟨fun _ => ⟨fun _ => ⟨fun z => h5 ⟨rfl, z⟩, hv, fun I' e => by rw [e]; exact hK⟩, fun q => absurd q (by decide)⟩, fun q => absurd q (by decide)⟩, fun q => absurd q (by decide)⟩
theorem s_tm {A B : Nat → Int32} {f : Nat → Int32} {J : zJ} {Q : Int32 → zI → zJ → Prop} :
    ∀ (l : zPf) (s : List Int32) (o k : Nat) (I : zI), I 388 = A → I 389 = B → (∀ j, j < 9 → I 391 j = f j) → zat A B o (zmSteps l) → o + l.length ≤ 840 → zpfOK l s.length 15 → s.length ≤ 15 → zstk (I 392) s → l.length < k →
      (zpe f l s = none → ∀ I' : zI, frT I I' → I' 361 48 = 1 → Q 0 I' J) →
      (∀ x, zpe f l s = some [x] → ∀ I' : zI, frT I I' → I' 361 48 = I 361 48 → Q x I' J) →
      v_M_termOf_5 5000 k (nI (o + l.length)) (nI s.length) (nI o) I J Q
  | _, _, _, 0, _, _, _, _, _, _, _, _, _, hk, _, _ => absurd hk (Nat.not_lt_zero _)
  | [], s, o, k + 1, I, hA, hB, hf, hz, ho, hok, hd, hs, hk, h0, h1 => by
    rw [v_M_termOf_5]
    refine ⟨fun _ => ⟨z_v.2.2.2.2.2.2.2.2.2.2, ?_⟩, fun q => absurd (nI_le (Nat.le_refl _) (by have h : o + 0 ≤ 840 := ho; show o + 0 < 2 ^ 31; omega)) q⟩
    rw [zpfOK] at hok
    match s, hok, hs, h1 with
    | [x], _, hs, h1 =>
      rw [z_l0, show I 392 0 = x from hs.1]
      exact h1 x rfl I (fun _ _ _ _ => rfl) rfl
  | (c, v) :: l, s, o, k + 1, I, hA, hB, hf, hz, ho, hok, hd, hs, hk, h0, h1 => by
    have ho2 : o + (l.length + 1) ≤ 840 := ho
    have hk2 : l.length < k := Nat.lt_of_succ_lt_succ hk
    have e1 : A o = nI c := hz.1
    have e2 : B o = v := hz.2.1
    have hz2 : zat A B (o + 1) (zmSteps l) := hz.2.2
    have eo : o + ((c, v) :: l).length = o + 1 + l.length := by rw [List.length_cons]; omega
    rw [eo, v_M_termOf_5]
    dsimp only
    refine ⟨fun q => absurd q (nI_ge (by omega) (by omega)), fun _ => ⟨vp_in_nI (by omega) (by decide), ?_⟩⟩
    rw [nI_clamp (by omega), hA, hB, e1, e2, nI_1]
    intro y ey
    rw [ey]
    clear ey y
    rw [zpfOK] at hok
    rw [zpe] at h0
    by_cases c2 : c < 2
    · rw [if_pos c2] at hok
      refine ⟨fun q => absurd q (nI_ge (b := 2) c2 (by decide)), fun _ => ?_⟩
      have hc : c = 0 ∨ c = 1 := by omega
      rcases hc with rfl | rfl
      · rw [if_pos rfl] at h0
        refine ⟨fun q => absurd rfl q, fun _ => ⟨vp_in_nI (by omega) (by decide), vp_in_nI (by omega) (by decide), ?_⟩⟩
        intro I8 e8
        rw [nI_1]
        rw [nI_clamp (by omega)] at e8
        have o8 : ∀ b j, b ≠ 392 → I8 b j = I b j := fun b j q => by rw [e8, qu_off (Or.inl q)]
        have := s_tm l (v :: s) (o + 1) k I8 (by funext j; rw [o8 _ _ (by decide), hA]) (by funext j; rw [o8 _ _ (by decide), hB]) (fun j hj => by rw [o8 _ _ (by decide), hf j hj]) hz2 (by omega) hok.2.2 hok.1 (by rw [e8]; exact zstk_push hs) hk2 (Q := Q) (J := J) (f := f)
          (fun e I' o' => h0 e I' (fun b j q q' => by rw [o' b j q q', o8 b j q])) (fun x e I' o' => by rw [o8 _ _ (by decide)]; exact h1 x (by rw [zpe, if_pos rfl]; exact e) I' (fun b j q q' => by rw [o' b j q q', o8 b j q]))
        exact this
      · rw [if_neg (by decide), if_pos rfl] at h0
        obtain ⟨j, hj, rfl⟩ := hok.2.1 rfl
        refine ⟨fun _ => ⟨vp_in_nI (by omega) (by decide), vp_in_nI hj (by decide), vp_in_nI (by omega) (by decide), ?_⟩, fun q => absurd q (by decide)⟩
        intro I8 e8
        rw [nI_1]
        rw [nI_clamp (by omega), nI_clamp (by omega), hf j hj] at e8
        rw [nI_clamp (by omega)] at h0
        have o8 : ∀ b j, b ≠ 392 → I8 b j = I b j := fun b j q => by rw [e8, qu_off (Or.inl q)]
        have := s_tm l (f j :: s) (o + 1) k I8 (by funext j; rw [o8 _ _ (by decide), hA]) (by funext j; rw [o8 _ _ (by decide), hB]) (fun j hj => by rw [o8 _ _ (by decide), hf j hj]) hz2 (by omega) hok.2.2 hok.1 (by rw [e8]; exact zstk_push hs) hk2 (Q := Q) (J := J) (f := f)
          (fun e I' o' => h0 e I' (fun b j q q' => by rw [o' b j q q', o8 b j q])) (fun x e I' o' => by rw [o8 _ _ (by decide)]; exact h1 x (by rw [zpe, if_neg (by decide), if_pos rfl, nI_clamp (by omega)]; exact e) I' (fun b j q q' => by rw [o' b j q q', o8 b j q]))
        exact this
    · rw [if_neg c2] at hok
      rw [if_neg (by omega), if_neg (by omega)] at h0
      obtain ⟨b, x, s, rfl⟩ : ∃ b x s', s = b :: x :: s' := by
        match s, hok.1 with
        | [], h => exact absurd h (by simp)
        | [_], h => exact absurd h (by simp)
        | b :: x :: s', _ => exact ⟨b, x, s', rfl⟩
      have hs1 : I 392 (s.length + 1) = b := hs.1
      have hs2 : I 392 s.length = x := hs.2.1
      have hs3 : zstk (I 392) s := hs.2.2
      have hd2 : s.length + 2 ≤ 15 := hd
      have em : nI (b :: x :: s).length + (-1 : Int32) = nI (s.length + 1) := by
        show nI (s.length + 1 + 1) + (-1 : Int32) = nI (s.length + 1)
        rw [nI_succ (s.length + 1), Int32.add_assoc, show (1 : Int32) + -1 = 0 by decide, Int32.add_zero]
      rw [em, nI_pred, nI_clamp (by omega), nI_clamp (by omega), hs1, hs2]
      have main : ¬ (c = 5 ∧ b = 0) → v_M_termOf_104 5000 (nI (o + 1 + l.length)) (nI (s.length + 1)) (nI o) (nI c) x b I J Q (fun x2 x3 x4 I J => v_M_termOf_5 5000 k x2 x3 x4 I J Q) := by
        intro h5
        refine z_term104 (by omega) hok.2.1 (by omega) h5 ?_
        rw [nI_1]
        obtain ⟨I8, e8⟩ : ∃ z, z = qu I 392 s.length (zop c x b) := ⟨_, rfl⟩
        rw [← e8]
        have o8 : ∀ b j, b ≠ 392 → I8 b j = I b j := fun b j q => by rw [e8, qu_off (Or.inl q)]
        have := s_tm l (zop c x b :: s) (o + 1) k I8 (by funext j; rw [o8 _ _ (by decide), hA]) (by funext j; rw [o8 _ _ (by decide), hB]) (fun j hj => by rw [o8 _ _ (by decide), hf j hj]) hz2 (by omega) hok.2.2 (by simp only [List.length_cons]; omega) (by rw [e8]; exact zstk_push hs3) hk2 (Q := Q) (J := J) (f := f)
          (fun e I' o' => h0 (by show (if c = 5 ∧ b = 0 then none else some (zop c x b :: s)).bind (zpe f l) = none; rw [if_neg h5]; exact e) I' (fun b j q q' => by rw [o' b j q q', o8 b j q])) (fun z e I' o' => by rw [o8 _ _ (by decide)]; exact h1 z (by rw [zpe, if_neg (by omega), if_neg (by omega)]; show (if c = 5 ∧ b = 0 then none else some (zop c x b :: s)).bind (zpe f l) = some [z]; rw [if_neg h5]; exact e) I' (fun b j q q' => by rw [o' b j q q', o8 b j q]))
        exact this
      refine ⟨fun _ => ⟨vp_in_nI (by omega) (by decide), fun y1 ey1 => ⟨vp_in_nI (by omega) (by decide), fun y2 ey2 => ?_⟩⟩, fun q => absurd (nI_le (a := 2) (by omega) (by omega)) q⟩
      rw [ey1, ey2]
      refine ⟨fun q => main (fun z => q (by rw [z.1]; rfl)), fun q => ⟨fun z => main (fun y => z y.2), fun z I8 e8 => ?_⟩⟩
      have c5 : c = 5 := (nI_eq (a := c) (b := 5) (by omega) (by decide)).mp q
      refine h0 ?_ I8 (fun b j q1 q2 => by rw [e8, qu_off (by omega)]) (by rw [e8, qu_same])
      show (if c = 5 ∧ b = 0 then none else some (zop c x b :: s)).bind (zpe f l) = none
      rw [if_pos ⟨c5, z⟩]
      rfl
theorem s_termOf {b o : Nat} {l : zPf} {f : Nat → Int32} {I : zI} {J : zJ} {Q : Int32 → zI → zJ → Prop} (hf : ∀ j, j < 9 → I 391 j = f j) (hz : rMPf I b o l) (hok : zpfOK l 0 15) (h0 : zev f l = none → ∀ I' : zI, frT I I' → I' 361 48 = 1 → Q 0 I' J) (h1 : ∀ x, zev f l = some x → ∀ I' : zI, frT I I' → I' 361 48 = I 361 48 → Q x I' J) : v_M_termOf 5000 (nI o) (nI (o + l.length)) I J Q := by
  refine s_tm l [] o 5000 I rfl rfl hf (zat_mk fun i q hq => ?_) hz.1.1 hok (Nat.zero_le _) trivial ?_ ?_ ?_
  · rw [zmSteps, List.getElem?_map] at hq
    cases e : l[i]? with
    | none => rw [e] at hq; cases hq
    | some p =>
      rw [e] at hq
      cases hq
      exact hz.2 i p e
  · have := hz.1
    omega
  · intro e
    rw [zpe_ev f hok] at e
    cases ez : zev f l with
    | none => exact h0 ez
    | some x => rw [ez] at e; cases e
  · intro x e
    rw [zpe_ev f hok] at e
    cases ez : zev f l with
    | none => rw [ez] at e; cases e
    | some y =>
      rw [ez] at e
      cases e
      exact h1 _ ez
theorem s_law39 {x3 : Nat} (hx3 : x3 < 8) {f : Nat → Int32} {J : zJ} {Q : Int32 → zI → zJ → Prop} :
    ∀ (l : List (zPf × zPf × zPf)) (t : zPf) (b k : Nat) (I : zI), I 382 x3 = nI (b + l.length + 1) → b + l.length < 260 → (∀ j, j < 9 → I 391 j = f j) → rMBr I l t b → (∀ q ∈ l, zpfOK q.1 0 15 ∧ zpfOK q.2.1 0 15 ∧ zpfOK q.2.2 0 15) → zpfOK t 0 15 → I 361 48 = 0 → l.length < k →
      (∀ I' : zI, frT I I' → Q (zlv f l t) I' J) → v_M_lawTells_39 5000 k (nI x3) (nI b) I J Q (fun w8 I9 J9 => v_M_lawTells_119 5000 w8 I9 J9 Q)
  | _, _, _, 0, _, _, _, _, _, _, _, _, hk, _ => absurd hk (Nat.not_lt_zero _)
  | [], t, b, k + 1, I, h382, hb, hf, hr, hl, ht, hi, hk, hq => by
    rw [rMBr] at hr
    obtain ⟨r0, o, r1, r2, r3⟩ := hr
    simp only [List.length_nil, Nat.add_zero] at h382 hb
    rw [v_M_lawTells_39]
    dsimp only
    rw [nI_clamp (by omega), h382, nI_clamp (by omega)]
    refine ⟨vp_in_nI (by omega) (by decide), fun q => absurd q (nI_ge (by omega) (by omega)), fun _ => ⟨vp_in_nI (by omega) (by decide), fun _ => ?_, fun q => absurd r0 q⟩⟩
    unfold v_M_lawTells_119
    rw [nI_clamp (by omega), r1, r2]
    refine ⟨vp_in_nI (by omega) (by decide), vp_in_nI (by omega) (by decide), s_termOf hf r3 ht (fun e I' o' hb' => ?_) (fun x e I' o' hb' => ?_)⟩
    · rw [zlv, e] at hq
      exact ⟨fun q => absurd (hb'.symm.trans q) (by decide), fun _ => hq I' o'⟩
    · rw [zlv, e] at hq
      exact ⟨fun _ => hq I' o', fun q => absurd (hb'.trans hi) q⟩
  | (u, v, w) :: l, t, b, k + 1, I, h382, hb, hf, hr, hl, ht, hi, hk, hq => by
    rw [rMBr] at hr
    obtain ⟨r0, ⟨o, r1, r2, r3, r4, ru, rv, rw'⟩, rl⟩ := hr
    obtain ⟨ou, ov, ow⟩ := hl _ List.mem_cons_self
    have hl' : ∀ q ∈ l, zpfOK q.1 0 15 ∧ zpfOK q.2.1 0 15 ∧ zpfOK q.2.2 0 15 := fun q h => hl q (List.mem_cons_of_mem _ h)
    simp only [List.length_cons] at h382 hb hk
    rw [zlv] at hq
    rw [v_M_lawTells_39]
    dsimp only
    rw [nI_clamp (by omega), h382, nI_clamp (by omega), r1, r2]
    refine ⟨vp_in_nI (by omega) (by decide), fun q => absurd q (nI_ge (by omega) (by omega)), fun _ => ⟨vp_in_nI (by omega) (by decide), fun q => absurd (r0.symm.trans q) (by decide), fun _ => ⟨vp_in_nI (by omega) (by decide), vp_in_nI (by omega) (by decide), ?_⟩⟩⟩
    have fin : ∀ (I2 : zI) (x y : Int32), frT I I2 → I2 361 48 = 0 → zev f u = some x → zev f v = some y → ((x < y → v_M_lawTells_119 5000 (nI b) I2 J Q) ∧ (¬ x < y → v_M_lawTells_39 5000 k (nI x3) (nI b + 1) I2 J Q (fun w8 I9 J9 => v_M_lawTells_119 5000 w8 I9 J9 Q))) := by
      intro I2 x y o2 hb2 eu ev
      rw [eu, ev] at hq
      have hq : ∀ I' : zI, frT I I' → Q (if x < y then (zev f w).getD 0 else zlv f l t) I' J := hq
      refine ⟨fun hxy => ?_, fun hxy => ?_⟩
      · rw [if_pos hxy] at hq
        unfold v_M_lawTells_119
        rw [nI_clamp (by omega), o2 386 b (by decide) (by omega), o2 387 b (by decide) (by omega), r3, r4]
        refine ⟨vp_in_nI (by omega) (by decide), vp_in_nI (by omega) (by decide), s_termOf (f := f) (fun j hj => by rw [o2 _ _ (by decide) (by omega), hf j hj]) ⟨rw'.1, fun i q hq => by rw [o2 _ _ (by decide) (by omega), o2 _ _ (by decide) (by omega)]; exact rw'.2 i q hq⟩ ow (fun e I' o' hb' => ?_) (fun z e I' o' hb' => ?_)⟩
        · rw [e] at hq
          exact ⟨fun q => absurd (hb'.symm.trans q) (by decide), fun _ => hq I' (fun b j q q' => by rw [o' b j q q', o2 b j q q'])⟩
        · rw [e] at hq
          exact ⟨fun _ => hq I' (fun b j q q' => by rw [o' b j q q', o2 b j q q']), fun q => absurd (hb'.trans hb2) q⟩
      · rw [if_neg hxy] at hq
        rw [nI_1]
        exact s_law39 hx3 l t (b + 1) k I2 (by rw [o2 _ _ (by decide) (by omega), h382]; congr 1; omega) (by omega) (fun j hj => by rw [o2 _ _ (by decide) (by omega), hf j hj]) (rMBr.kept (fun a k q1 q2 => o2 a k (by omega) (by omega)) _ _ _ rl) hl' ht hb2 (by omega) (fun I' o' => hq I' (fun b j q q' => by rw [o' b j q q', o2 b j q q']))
    have fin0 : ∀ (I2 : zI), frT I I2 → (zev f u = none ∨ zev f v = none) → Q 0 I2 J := by
      intro I2 o2 h
      have hq := hq I2 o2
      rcases h with h | h
      · rw [h] at hq; exact hq
      · rw [h] at hq
        cases e : zev f u with
        | none => rw [e] at hq; exact hq
        | some x => rw [e] at hq; exact hq
    have step2 : ∀ (I1 : zI) (x : Int32), frT I I1 → (zev f u = none ∧ I1 361 48 = 1 ∨ zev f u = some x ∧ I1 361 48 = 0) → (vp_in (nI b) 260 ∧ (vp_in (nI b) 260 ∧ (v_M_termOf 5000 (I1 385 b) (I1 386 b) I1 J (fun r11 I12 J12 => (((I12 361 48) = 0 → ((x < r11 → (v_M_lawTells_119 5000 (nI b) I12 J12 Q)) ∧ (¬ x < r11 → (v_M_lawTells_39 5000 k (nI x3) (nI b + 1) I12 J12 Q (fun w8 I9 J9 => v_M_lawTells_119 5000 w8 I9 J9 Q))))) ∧ (¬ (I12 361 48) = 0 → Q (0 : Int32) I12 J12)))))) := by
      intro I1 x o1 hx
      rw [o1 385 b (by decide) (by omega), o1 386 b (by decide) (by omega), r2, r3]
      refine ⟨vp_in_nI (by omega) (by decide), vp_in_nI (by omega) (by decide), s_termOf (f := f) (fun j hj => by rw [o1 _ _ (by decide) (by omega), hf j hj]) ⟨rv.1, fun i q hq => by rw [o1 _ _ (by decide) (by omega), o1 _ _ (by decide) (by omega)]; exact rv.2 i q hq⟩ ov (fun e I' o' hb' => ?_) (fun z e I' o' hb' => ?_)⟩
      · exact ⟨fun q => absurd (hb'.symm.trans q) (by decide), fun _ => fin0 I' (fun b j q q' => by rw [o' b j q q', o1 b j q q']) (Or.inr e)⟩
      · rcases hx with ⟨eu, hb1⟩ | ⟨eu, hb1⟩
        · exact ⟨fun q => absurd ((hb'.trans hb1).symm.trans q) (by decide), fun _ => fin0 I' (fun b j q q' => by rw [o' b j q q', o1 b j q q']) (Or.inl eu)⟩
        · exact ⟨fun _ => fin I' x z (fun b j q q' => by rw [o' b j q q', o1 b j q q']) (hb'.trans hb1) eu e, fun q => absurd (hb'.trans hb1) q⟩
    refine s_termOf hf ru ou (fun e I' o' hb' => ?_) (fun x e I' o' hb' => ?_)
    · exact step2 I' 0 o' (Or.inl ⟨e, hb'⟩)
    · exact step2 I' x o' (Or.inr ⟨e, hb'.trans hi⟩)
theorem zev_plain (f : Nat → Int32) (k : Nat) : zlv f (zplain k).1 (zplain k).2 = if k = 0 ∨ k = 3 then f 0 else 0 := by
  unfold zplain
  by_cases h : k = 0 ∨ k = 3
  · rw [if_pos h, if_pos h]
    rfl
  · rw [if_neg h, if_neg h]
    rfl
theorem s_M_lawTells {live c : Nat} (hl : live < 2) (hc : c < 4) {w : zLw} {f : Nat → Int32} {I : zI} {J : zJ} {x : Int32} {Q : Int32 → zI → zJ → Prop} (h18 : I 361 18 = nI live) (hw : zlwOK w) (hm : mLaw I live c w) (hf : ∀ j, j < 9 → I 391 j = f j) (hx : x = if c = 0 ∨ c = 3 then f 0 else 0) (hq : ∀ I' : zI, frT I I' → Q (zlv f w.1 w.2) I' J) : v_M_lawTells 5000 (nI c) x I J Q := by
  unfold v_M_lawTells
  rw [h18, z_m4]
  intro y ey
  rw [ey, nI_clamp (by omega)]
  refine ⟨vp_in_nI (by omega) (by decide), vp_in_nI (by omega) (by decide), ?_⟩
  rcases hm with ⟨e, rfl⟩ | ⟨b, g0, g1, g2, g3⟩
  · refine ⟨fun q => absurd e q, fun _ => ?_⟩
    have := hq I (fun _ _ _ _ => rfl)
    rw [zev_plain] at this
    rw [hx]
    exact this
  · refine ⟨fun _ I5 e5 => ⟨vp_in_nI (by omega) (by decide), fun y7 e7 => ?_⟩, fun q => ?_⟩
    · have o5 : ∀ b j, ¬ (b = 361 ∧ j = 48) → I5 b j = I b j := fun b j q => by rw [e5, qu_off (by omega)]
      rw [e7, o5 _ _ (by omega), g1]
      exact s_law39 (by omega) w.1 w.2 b 5000 I5 (by rw [o5 _ _ (by omega), g2]) g0.1 (fun j hj => by rw [o5 _ _ (by omega), hf j hj]) (rMBr.kept (fun a k q1 q2 => o5 a k (by omega)) _ _ _ g3) hw.1 hw.2 (by rw [e5, qu_same]) (by omega) (fun I' o' => hq I' (fun b j q q' => by rw [o' b j q q', o5 b j q']))
    · rw [g1, g2] at q
      have := (nI_eq (by omega) (by omega)).mp q
      omega
