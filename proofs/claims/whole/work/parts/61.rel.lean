/-! THE RELATION between the class' cells and the reference's, and what it rests on.
Cells: the class 1 (X), 2 Tape (3 bytes, 4 words, 5 kinds, 6 places, 7 values), 8 Text (9 nail, 10 breadth, 11 shoulders, 12 rank, 13 firstOn, Laws 14 17 20 23, each with kinds, values behind it), 26 Reader (27 draft Text, 45 hangerNames, 46 personNames, 47 Waiters, 48 signs), 49 state and 55 dream (wide, on, self, crooked, bent behind each), 61 Reckoner (62 vars, 63 pile), 64 Night (65 slips), 66 Plan (68.. costs, 74 takes, 76.. best), 83 Told (84 people, 85 selves, 86 so, 88.. tally, 94 morning), 100 Past (102 + 6 i the states), 343 + 6 i the slots; the reference 361, its rows 362 .. 409. -/
def zin (x : Int32) (n : Nat) : Prop := ∃ j, j < n ∧ x = nI j
/-- a State of the class (cells a ..) is well made: nH hangers, nP people -/
def zWf (I : zI) (nH nP a : Nat) : Prop :=
  (∀ p, p < nP → zin (I (a + 1) p) 100) ∧ (∀ p, p < nP → I (a + 2) p = -2 ∨ zin (I (a + 2) p) nH) ∧ (∀ p q, p < nP → q < nP → I (a + 2) p = I (a + 2) q → ¬ I (a + 2) p = -2 → p = q) ∧
  (∀ p, p < nP → zin (I (a + 3) p) nP) ∧ (∀ p q, p < nP → q < nP → I (a + 3) p = I (a + 3) q → p = q) ∧ (∀ p, p < nP → zin (I (a + 4) p) 1000) ∧ (∀ h, h < nH → zin (I (a + 5) h) 100)
/-- the State at a and the reference's row r from o on are the same -/
def zSame (I : zI) (nH nP a r o : Nat) : Prop :=
  I a 1 = I r (o + 31) ∧ (∀ p, p < nP → I (a + 1) p = I r (o + p)) ∧ (∀ p, p < nP → I (a + 2) p = I r (o + 6 + p)) ∧ (∀ p, p < nP → I (a + 3) p = I r (o + 12 + p)) ∧ (∀ p, p < nP → I (a + 4) p = I r (o + 18 + p)) ∧ (∀ h, h < nH → I (a + 5) h = I r (o + 24 + h)) ∧
  (∀ p, nP ≤ p → p < 6 → I r (o + 18 + p) = 0) ∧ (∀ h, nH ≤ h → h < 7 → I r (o + 24 + h) = 0)
def zPair (I : zI) (nH nP a r o : Nat) : Prop := zWf I nH nP a ∧ zSame I nH nP a r o
def rTape (I : zI) (n : Nat) : Prop := n ≤ 2000 ∧ I 2 1 = nI n ∧ I 361 2 = nI n ∧ ∀ i, i < n → I 3 i = I 362 i
/-- a LAW as postfix texts: kinds and values of steps; an if: two tests and a term -/
abbrev zPf : Type := List (Nat × Int32)
abbrev zLw : Type := List (zPf × zPf × zPf) × zPf
/-- steps of the class: 1 an int, 2 a var, the sign itself -/
def zcSteps : zPf → List (Int32 × Int32) := fun l => l.map fun q => (nI (if q.1 = 0 then 1 else if q.1 = 1 then 2 else if q.1 = 2 then 43 else if q.1 = 3 then 45 else if q.1 = 4 then 42 else 47), q.2)
def zcLaw : List (zPf × zPf × zPf) → zPf → Nat → List (Int32 × Int32)
  | [], t, _ => zcSteps t ++ [(4, 0)]
  | (u, v, w) :: l, t, o => zcSteps u ++ zcSteps v ++ [(3, nI (o + u.length + v.length + w.length + 2))] ++ zcSteps w ++ [(4, 0)] ++ zcLaw l t (o + u.length + v.length + w.length + 2)
/-- the class' Law at a holds the law -/
def rCLaw (I : zI) (a : Nat) (w : zLw) : Prop := (zcLaw w.1 w.2 0).length ≤ 400 ∧ I a 2 = nI (zcLaw w.1 w.2 0).length ∧ ∀ i q, (zcLaw w.1 w.2 0)[i]? = some q → I (a + 1) i = q.1 ∧ I (a + 2) i = q.2
/-- a postfix text stands in the reference's code from o on -/
def rMPf (I : zI) (b o : Nat) (l : zPf) : Prop := (o + l.length ≤ 840 ∧ 420 * (b / 130) ≤ o ∧ o + l.length ≤ 420 * (b / 130) + 420) ∧ ∀ i q, l[i]? = some q → I 388 (o + i) = nI q.1 ∧ I 389 (o + i) = q.2
def rMBr (I : zI) : List (zPf × zPf × zPf) → zPf → Nat → Prop
  | [], t, b => I 383 b = 0 ∧ ∃ o, I 386 b = nI o ∧ I 387 b = nI (o + t.length) ∧ rMPf I b o t
  | (u, v, w) :: l, t, b => I 383 b = 1 ∧ (∃ o, I 384 b = nI o ∧ I 385 b = nI (o + u.length) ∧ I 386 b = nI (o + u.length + v.length) ∧ I 387 b = nI (o + u.length + v.length + w.length) ∧ rMPf I b o u ∧ rMPf I b (o + u.length) v ∧ rMPf I b (o + u.length + v.length) w) ∧ rMBr I l t (b + 1)
/-- a postfix text that is one: it leaves one number more than were there, on at most m at once -/
def zpfOK : zPf → Nat → Nat → Prop
  | [], d, _ => d = 1
  | (k, v) :: l, d, m => if k < 2 then (d < m ∧ (k = 1 → zin v 9) ∧ zpfOK l (d + 1) m) else (2 ≤ d ∧ k < 6 ∧ zpfOK l (d - 1) m)
def zlwOK (w : zLw) : Prop := (∀ q ∈ w.1, zpfOK q.1 0 15 ∧ zpfOK q.2.1 0 15 ∧ zpfOK q.2.2 0 15) ∧ zpfOK w.2 0 15
/-- the law k: told (the same in both), or not told (the class has its plain form, the reference no branch) -/
def rLaw (I : zI) (live k : Nat) : Prop := ∃ w : zLw, zlwOK w ∧ rCLaw I (14 + 3 * k) w ∧
  ((I 381 (4 * live + k) = I 382 (4 * live + k) ∧ w = ([], [(if k = 0 ∨ k = 3 then (1, 0) else (0, 0))])) ∨ ∃ b, (b + w.1.length < 260 ∧ b / 130 = live ∧ (b + w.1.length) / 130 = live) ∧ I 381 (4 * live + k) = nI b ∧ I 382 (4 * live + k) = nI (b + w.1.length + 1) ∧ rMBr I w.1 w.2 b)
def rText (I : zI) (nH nP live : Nat) : Prop := live < 2 ∧ nH ≤ 7 ∧ nP ≤ 6 ∧ I 361 18 = nI live ∧ I 8 0 = nI nH ∧ I 371 live = nI nH ∧ I 8 3 = nI nP ∧ I 374 live = nI nP ∧
  (∀ h, h < nH → I 9 h = I 372 (7 * live + h) ∧ zin (I 9 h) 5) ∧ (∀ h, h < nH → I 10 h = I 373 (7 * live + h) ∧ zin (I 10 h) 100) ∧ (∀ p, p < nP → I 12 p = I 376 (6 * live + p)) ∧ I 8 11 = I 379 live ∧ I 8 12 = I 380 live ∧ (∀ k, k < 4 → rLaw I live k)
def rPast (I : zI) (nH nP u x : Nat) : Prop := u ≤ 40 ∧ x < 40 ∧ I 100 2 = nI u ∧ I 100 1 = nI x ∧ I 361 57 = nI u ∧ ∀ j, j < u → zPair I nH nP (102 + 6 * ((x + 39 - j) % 40)) 399 (32 * (u - 1 - j))
def rTold (I : zI) (nP t : Nat) : Prop := t ≤ 20 ∧ I 83 7 = nI t ∧ I 361 63 = nI t ∧ ∀ i, i < t → I 84 i = I 403 i ∧ zin (I 84 i) nP ∧ I 85 i = I 404 i ∧ zin (I 85 i) nP ∧ I 86 i = I 405 i ∧ qzb (I 86 i)
def rSlot (I : zI) (nH nP m : Nat) : Prop := m < 8 ∧ I 1 11 = nI m ∧ ∀ i, i < 3 → (m.testBit i = true ∧ I 408 i = 1 ∧ zPair I nH nP (343 + 6 * i) 409 (32 * i)) ∨ (m.testBit i = false ∧ I 408 i = 0)
/-- the words of the grammar as numbers to the base 27 -/
def zKeys : List Nat := [115603515, 232608281, 4281625, 52919155, 1171630, 10340587, 1903978, 267362, 377761, 249, 399641, 107681, 847604, 43409, 459383, 355412, 7622660, 1428816811, 31735670, 12387257, 276546]
def rKeys (J : zJ) : Prop := ∀ k, k < 21 → J 4 k = lN (zKeys.getD k 0) ∧ J 368 k = lN (zKeys.getD k 0)
def Rel (I : zI) (J : zJ) : Prop := ∃ n nH nP live u x t m, rTape I n ∧ I 26 13 = I 361 17 ∧ rText I nH nP live ∧ zPair I nH nP 49 393 0 ∧ rPast I nH nP u x ∧ rTold I nP t ∧ rSlot I nH nP m ∧ rKeys J
/-- the cells that each part of Rel looks at -/
abbrev cTape (a k : Nat) : Prop := (a = 2 ∧ k = 1) ∨ (a = 361 ∧ k = 2) ∨ a = 3 ∨ a = 362
abbrev cPl (a k : Nat) : Prop := (a = 26 ∧ k = 13) ∨ (a = 361 ∧ k = 17)
abbrev cText (a k : Nat) : Prop := (8 ≤ a ∧ a ≤ 25) ∨ (371 ≤ a ∧ a ≤ 389) ∨ (a = 361 ∧ k = 18)
abbrev cNow (a _k : Nat) : Prop := (49 ≤ a ∧ a ≤ 54) ∨ a = 393
abbrev cPast (a k : Nat) : Prop := a = 100 ∨ (102 ≤ a ∧ a ≤ 341) ∨ a = 399 ∨ (a = 361 ∧ k = 57)
abbrev cTold (a k : Nat) : Prop := (a = 83 ∧ k = 7) ∨ (84 ≤ a ∧ a ≤ 86) ∨ (403 ≤ a ∧ a ≤ 405) ∨ (a = 361 ∧ k = 63)
abbrev cSlot (a k : Nat) : Prop := (a = 1 ∧ k = 11) ∨ (343 ≤ a ∧ a ≤ 360) ∨ a = 408 ∨ a = 409
abbrev zE (a k : Nat) : Prop := cTape a k ∨ cPl a k ∨ cText a k ∨ cNow a k ∨ cPast a k ∨ cTold a k ∨ cSlot a k
def zK (I I' : zI) (J J' : zJ) : Prop := (∀ a k, zE a k → I' a k = I a k) ∧ ∀ a k, (a = 4 ∨ a = 368) → J' a k = J a k
theorem zK.rfl {I : zI} {J : zJ} : zK I I J J := ⟨fun _ _ _ => Eq.refl _, fun _ _ _ => Eq.refl _⟩
theorem zK.trans {I I' I'' : zI} {J J' J'' : zJ} (h : zK I I' J J') (g : zK I' I'' J' J'') : zK I I'' J J'' := ⟨fun a k q => (g.1 a k q).trans (h.1 a k q), fun a k q => (g.2 a k q).trans (h.2 a k q)⟩
theorem qu_same {α : Type} {f : Nat → Nat → α} {a k : Nat} {v : α} : qu f a k v a k = v := if_pos ⟨rfl, rfl⟩
theorem qu_off {α : Type} {f : Nat → Nat → α} {a k : Nat} {v : α} {b j : Nat} (h : b ≠ a ∨ j ≠ k) : qu f a k v b j = f b j := if_neg (fun q => h.elim (fun z => z q.1) (fun z => z q.2))
theorem zK.u {I : zI} {J : zJ} {a k : Nat} {v : Int32} (h : ¬ zE a k) : zK I (qu I a k v) J J := ⟨fun b j q => qu_off (by
  rcases Nat.lt_trichotomy b a with z | z | z
  · exact Or.inl (by omega)
  · subst z
    exact Or.inr (fun e => h (e ▸ q))
  · exact Or.inl (by omega)), fun _ _ _ => Eq.refl _⟩
theorem zK.uj {I : zI} {J : zJ} {a k : Nat} {v : Int64} (h : ¬ (a = 4 ∨ a = 368)) : zK I I J (qu J a k v) := ⟨fun _ _ _ => Eq.refl _, fun b j q => qu_off (by omega)⟩
theorem zPair.kept {I I' : zI} {nH nP a r o : Nat} (hc : ∀ d k, d < 6 → I' (a + d) k = I (a + d) k) (hr : ∀ k, I' r k = I r k) (h : zPair I nH nP a r o) : zPair I' nH nP a r o := by
  have c0 : ∀ k, I' a k = I a k := fun k => hc 0 k (by decide)
  have c1 : ∀ k, I' (a + 1) k = I (a + 1) k := fun k => hc 1 k (by decide)
  have c2 : ∀ k, I' (a + 2) k = I (a + 2) k := fun k => hc 2 k (by decide)
  have c3 : ∀ k, I' (a + 3) k = I (a + 3) k := fun k => hc 3 k (by decide)
  have c4 : ∀ k, I' (a + 4) k = I (a + 4) k := fun k => hc 4 k (by decide)
  have c5 : ∀ k, I' (a + 5) k = I (a + 5) k := fun k => hc 5 k (by decide)
  unfold zPair zWf zSame at *
  simp only [c0, c1, c2, c3, c4, c5, hr]
  exact h
theorem rMBr.kept {I I' : zI} (hr : ∀ a k, 383 ≤ a → a ≤ 389 → I' a k = I a k) : ∀ (l : List (zPf × zPf × zPf)) (t : zPf) (b : Nat), rMBr I l t b → rMBr I' l t b
  | [], t, b, h => by
    have e : ∀ a k, (383 ≤ a ∧ a ≤ 389) → I' a k = I a k := fun a k q => hr a k q.1 q.2
    unfold rMBr rMPf at *
    simp only [e 383 _ (by decide), e 386 _ (by decide), e 387 _ (by decide), e 388 _ (by decide), e 389 _ (by decide)]
    exact h
  | (u, v, w) :: l, t, b, h => by
    have e : ∀ a k, (383 ≤ a ∧ a ≤ 389) → I' a k = I a k := fun a k q => hr a k q.1 q.2
    rw [rMBr] at h ⊢
    obtain ⟨h1, h2, h3⟩ := h
    refine ⟨?_, ?_, rMBr.kept hr l t (b + 1) h3⟩
    · rw [e 383 _ (by decide)]; exact h1
    · unfold rMPf at *
      simp only [e 384 _ (by decide), e 385 _ (by decide), e 386 _ (by decide), e 387 _ (by decide), e 388 _ (by decide), e 389 _ (by decide)]
      exact h2
theorem rLaw.kept {I I' : zI} {live k : Nat} (hk : k < 4) (hr : ∀ a j, (14 ≤ a ∧ a ≤ 25) ∨ (381 ≤ a ∧ a ≤ 389) → I' a j = I a j) (h : rLaw I live k) : rLaw I' live k := by
  obtain ⟨w, h0, h1, h2⟩ := h
  refine ⟨w, h0, ?_, ?_⟩
  · unfold rCLaw at *
    rw [hr (14 + 3 * k) 2 (by omega)]
    refine ⟨h1.1, h1.2.1, fun i q hq => ?_⟩
    rw [hr (14 + 3 * k + 1) i (by omega), hr (14 + 3 * k + 2) i (by omega)]
    exact h1.2.2 i q hq
  · rw [hr 381 _ (by omega), hr 382 _ (by omega)]
    rcases h2 with h2 | ⟨b, h2, h3, h4, h5⟩
    · exact Or.inl h2
    · exact Or.inr ⟨b, h2, h3, h4, rMBr.kept (fun a j q1 q2 => hr a j (by omega)) _ _ _ h5⟩
theorem rTape.kept {I I' : zI} {n : Nat} (e : ∀ a k, cTape a k → I' a k = I a k) (h : rTape I n) : rTape I' n := by
  unfold rTape at *
  rw [e 2 1 (by decide), e 361 2 (by decide)]
  refine ⟨h.1, h.2.1, h.2.2.1, fun i hi => ?_⟩
  rw [e 3 i (by omega), e 362 i (by omega)]
  exact h.2.2.2 i hi
theorem rText.kept {I I' : zI} {nH nP live : Nat} (e : ∀ a k, cText a k → I' a k = I a k) (h : rText I nH nP live) : rText I' nH nP live := by
  have text : ∀ a k, 8 ≤ a → a ≤ 25 → I' a k = I a k := fun a k q1 q2 => e a k (by omega)
  have code : ∀ a k, 371 ≤ a → a ≤ 389 → I' a k = I a k := fun a k q1 q2 => e a k (by omega)
  unfold rText at *
  simp only [e 361 18 (by decide), text 8 _ (by decide) (by decide), text 9 _ (by decide) (by decide), text 10 _ (by decide) (by decide), text 12 _ (by decide) (by decide), code 371 _ (by decide) (by decide), code 372 _ (by decide) (by decide), code 373 _ (by decide) (by decide), code 374 _ (by decide) (by decide), code 376 _ (by decide) (by decide), code 379 _ (by decide) (by decide), code 380 _ (by decide) (by decide)]
  obtain ⟨a1, a2, a3, a4, a5, a6, a7, a8, a9, a10, a11, a12, a13, a14⟩ := h
  exact ⟨a1, a2, a3, a4, a5, a6, a7, a8, a9, a10, a11, a12, a13, fun k hk => rLaw.kept hk (fun a j q => by
    rcases q with q | q
    · exact text a j (by omega) (by omega)
    · exact code a j (by omega) (by omega)) (a14 k hk)⟩
theorem rNow.kept {I I' : zI} {nH nP : Nat} (e : ∀ a k, cNow a k → I' a k = I a k) (h : zPair I nH nP 49 393 0) : zPair I' nH nP 49 393 0 :=
  h.kept (fun d k hd => e (49 + d) k (by omega)) (fun k => e 393 k (by omega))
theorem rPast.kept {I I' : zI} {nH nP u x : Nat} (e : ∀ a k, cPast a k → I' a k = I a k) (h : rPast I nH nP u x) : rPast I' nH nP u x := by
  unfold rPast at *
  rw [e 100 2 (by decide), e 100 1 (by decide), e 361 57 (by decide)]
  refine ⟨h.1, h.2.1, h.2.2.1, h.2.2.2.1, h.2.2.2.2.1, fun j hj => (h.2.2.2.2.2 j hj).kept (fun d k hd => e _ k ?_) (fun k => e 399 k (by omega))⟩
  have := Nat.mod_lt (x + 39 - j) (show 0 < 40 by decide)
  omega
theorem rTold.kept {I I' : zI} {nP t : Nat} (e : ∀ a k, cTold a k → I' a k = I a k) (h : rTold I nP t) : rTold I' nP t := by
  unfold rTold at *
  rw [e 83 7 (by decide), e 361 63 (by decide)]
  refine ⟨h.1, h.2.1, h.2.2.1, fun i hi => ?_⟩
  rw [e 84 i (by omega), e 85 i (by omega), e 86 i (by omega), e 403 i (by omega), e 404 i (by omega), e 405 i (by omega)]
  exact h.2.2.2 i hi
theorem rSlot.kept {I I' : zI} {nH nP m : Nat} (e : ∀ a k, cSlot a k → I' a k = I a k) (h : rSlot I nH nP m) : rSlot I' nH nP m := by
  unfold rSlot at *
  rw [e 1 11 (by decide)]
  refine ⟨h.1, h.2.1, fun i hi => ?_⟩
  rw [e 408 i (by omega)]
  rcases h.2.2 i hi with ⟨g1, g2, g3⟩ | g
  · exact Or.inl ⟨g1, g2, g3.kept (fun d k hd => e _ k (by omega)) (fun k => e 409 k (by omega))⟩
  · exact Or.inr g
/-- what changes no cell that Rel looks at keeps Rel -/
theorem Rel.kept {I I' : zI} {J J' : zJ} (hK : zK I I' J J') (h : Rel I J) : Rel I' J' := by
  obtain ⟨n, nH, nP, live, u, x, t, m, h1, h2, h3, h4, h5, h6, h7, h8⟩ := h
  have e := hK.1
  refine ⟨n, nH, nP, live, u, x, t, m, h1.kept (fun a k q => e a k (Or.inl q)), ?_, h3.kept (fun a k q => e a k (Or.inr (Or.inr (Or.inl q)))), rNow.kept (fun a k q => e a k (Or.inr (Or.inr (Or.inr (Or.inl q))))) h4, h5.kept (fun a k q => e a k (Or.inr (Or.inr (Or.inr (Or.inr (Or.inl q)))))), h6.kept (fun a k q => e a k (Or.inr (Or.inr (Or.inr (Or.inr (Or.inr (Or.inl q))))))), h7.kept (fun a k q => e a k (Or.inr (Or.inr (Or.inr (Or.inr (Or.inr (Or.inr q))))))), ?_⟩
  · rw [e 26 13 (by decide), e 361 17 (by decide)]; exact h2
  · intro k hk
    rw [hK.2 4 k (by decide), hK.2 368 k (by decide)]
    exact h8 k hk
