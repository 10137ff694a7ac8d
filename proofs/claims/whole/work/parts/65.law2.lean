/-! a whole LAW: what it is worth; that both tell it -/
def zlv (f : Nat → Int32) : List (zPf × zPf × zPf) → zPf → Int32
  | [], t => (zev f t).getD 0
  | (u, v, w) :: l, t => (zev f u).elim 0 fun a => (zev f v).elim 0 fun b => if a < b then (zev f w).getD 0 else zlv f l t
abbrev zk86 (Q : Int32 → zI → zJ → Prop) : Int32 → zI → zJ → Prop := fun w1 I2 J2 => ((w1 ≤ 0 → Q (0 : Int32) I2 J2) ∧ (¬ w1 ≤ 0 → (vp_in (w1 - (1 : Int32)) 32 ∧ Q (I2 63 ((w1 - (1 : Int32))).toNatClampNeg) I2 J2)))
theorem s_end {a n o k : Nat} {A : Nat → Int32} {I : zI} {J : zJ} {Q : Int32 → zI → zJ → Prop} {x : Int32} (hn : n ≤ 400) (hA : I (a + 1) = A) (hN : I a 2 = nI n) (ho : o < n) (h4 : A o = 4) (hs : zstk (I 63) [x]) (hk : 0 < k) (hq : Q x I J) : v_Reck_valueOf_4 5000 k a (nI 1) (nI o) I J Q (zk86 Q) := by
  obtain ⟨k, rfl⟩ : ∃ m, k = m + 1 := ⟨k - 1, by omega⟩
  rw [v_Reck_valueOf_4]
  dsimp only
  rw [hN]
  refine ⟨fun q => absurd q (nI_ge (by omega) (by omega)), fun _ => ⟨vp_in_nI (by omega) (by decide), ?_⟩⟩
  rw [nI_clamp (by omega), hA, h4]
  intro y ey
  refine ⟨vp_in_nI (by omega) (by decide), fun w ew => ?_⟩
  rw [ey]
  refine ⟨fun q => absurd q (by decide), fun _ => ⟨fun _ => ⟨fun q => absurd rfl q, fun _ => ?_⟩, fun q => absurd q (by decide)⟩⟩
  refine ⟨fun q => absurd q (by decide), fun _ => ⟨vp_in_nI (n := 0) (by decide) (by decide), ?_⟩⟩
  have e0 : (nI 1 - 1).toNatClampNeg = 0 := by decide
  rw [e0, show I 63 0 = x from hs.1]
  exact hq
theorem zcLaw_len : ∀ (l : List (zPf × zPf × zPf)) (t : zPf) (o o' : Nat), (zcLaw l t o).length = (zcLaw l t o').length
  | [], t, o, o' => rfl
  | (u, v, w) :: l, t, o, o' => by
    rw [zcLaw, zcLaw]
    simp only [List.length_append, List.length_cons, List.length_nil]
    rw [zcLaw_len l t _ (o' + u.length + v.length + w.length + 2)]
theorem s_cl {a : Nat} (ha : 14 ≤ a ∧ a ≤ 23) {A B : Nat → Int32} {n : Nat} (hn : n ≤ 400) {f : Nat → Int32} {J : zJ} {Q : Int32 → zI → zJ → Prop} :
    ∀ (l : List (zPf × zPf × zPf)) (t : zPf) (o k : Nat) (I : zI), I (a + 1) = A → I (a + 2) = B → I a 2 = nI n → (∀ j, j < 9 → I 62 j = f j) → zat A B o (zcLaw l t o) → o + (zcLaw l t o).length = n → (∀ q ∈ l, zpfOK q.1 0 15 ∧ zpfOK q.2.1 0 15 ∧ zpfOK q.2.2 0 15) → zpfOK t 0 15 → (zcLaw l t o).length < k →
      (∀ I' : zI, (∀ b j, b ≠ 63 → I' b j = I b j) → Q (zlv f l t) I' J) → v_Reck_valueOf_4 5000 k a (nI 0) (nI o) I J Q (zk86 Q)
  | [], t, o, k, I, hA, hB, hN, hf, hz, ho, hl, ht, hk, hq => by
    rw [zcLaw] at hz ho hk
    simp only [List.length_append, List.length_cons, List.length_nil, zcSteps_length] at ho hk
    obtain ⟨z1, z2⟩ := zat_app hz
    rw [zcSteps_length] at z2
    rw [zlv] at hq
    refine s_pf ha hn t [] o 0 k I hA hB hN hf z1 (by omega) ht (by omega) (Nat.le_refl _) (Nat.zero_le _) trivial (by omega) ?_ ?_
    · intro e I' o'
      rw [zpe_ev f ht] at e
      cases ez : zev f t with
      | none =>
        rw [ez] at hq
        exact hq I' o'
      | some x => rw [ez] at e; cases e
    · intro s' e I' o' hs
      rw [zpe_ev f ht] at e
      cases ez : zev f t with
      | none => rw [ez] at e; cases e
      | some x =>
        rw [ez] at e hq
        cases e
        exact s_end hn (by funext j; rw [o' _ _ (by omega), hA]) (by rw [o' _ _ (by omega), hN]) (by omega) z2.1 hs (by omega) (hq I' o')
  | (u, v, w) :: l, t, o, k, I, hA, hB, hN, hf, hz, ho, hl, ht, hk, hq => by
    obtain ⟨ou, ov, ow⟩ := hl _ List.mem_cons_self
    have hl' : ∀ q ∈ l, zpfOK q.1 0 15 ∧ zpfOK q.2.1 0 15 ∧ zpfOK q.2.2 0 15 := fun q h => hl q (List.mem_cons_of_mem _ h)
    rw [zcLaw] at hz ho hk
    simp only [List.length_append, List.length_cons, List.length_nil, zcSteps_length] at ho hk
    obtain ⟨hz, z6⟩ := zat_app hz
    obtain ⟨hz, z5⟩ := zat_app hz
    obtain ⟨hz, z4⟩ := zat_app hz
    obtain ⟨hz, z3⟩ := zat_app hz
    obtain ⟨z1, z2⟩ := zat_app hz
    simp only [List.length_append, List.length_cons, List.length_nil, zcSteps_length] at z2 z3 z4 z5 z6
    rw [zlv] at hq
    refine s_pf ha hn u [] o 0 k I hA hB hN hf z1 (by omega) ou (by omega) (Nat.le_refl _) (Nat.zero_le _) trivial (by omega) ?_ ?_
    · intro e I' o'
      rw [zpe_ev f ou] at e
      cases ez : zev f u with
      | none =>
        rw [ez] at hq
        exact hq I' o'
      | some x => rw [ez] at e; cases e
    · intro s1 e I1 o1 hs1
      rw [zpe_ev f ou] at e
      cases ez : zev f u with
      | none => rw [ez] at e; cases e
      | some x =>
      rw [ez] at e hq
      cases e
      refine s_pf ha hn v [x] (o + u.length) 0 (k - u.length) I1 (by funext j; rw [o1 _ _ (by omega), hA]) (by funext j; rw [o1 _ _ (by omega), hB]) (by rw [o1 _ _ (by omega), hN]) (fun j hj => by rw [o1 _ _ (by omega), hf j hj]) z2 (by omega) ov (by omega) (Nat.zero_le _) (Nat.le_refl _) hs1 (by omega) ?_ ?_
      · intro e I' o'
        rw [zpe_ev f ov] at e
        cases ey : zev f v with
        | none =>
          rw [ey] at hq
          exact hq I' (fun b j q => by rw [o' b j q, o1 b j q])
        | some y => rw [ey] at e; cases e
      · intro s2 e I2 o2' hs2
        rw [zpe_ev f ov] at e
        cases ey : zev f v with
        | none => rw [ey] at e; cases e
        | some y =>
        rw [ey] at e hq
        cases e
        have o2 : ∀ b j, b ≠ 63 → I2 b j = I b j := fun b j q => by rw [o2' b j q, o1 b j q]
        have hq : ∀ I' : zI, (∀ b j, b ≠ 63 → I' b j = I b j) → Q (if x < y then (zev f w).getD 0 else zlv f l t) I' J := hq
        obtain ⟨k2, ek2⟩ : ∃ m, k - u.length - v.length = m + 1 := ⟨k - u.length - v.length - 1, by omega⟩
        show v_Reck_valueOf_4 5000 (k - u.length - v.length) a (nI 2) (nI (o + u.length + v.length)) I2 J Q (zk86 Q)
        have hp1 : I2 63 1 = y := hs2.1
        have hp0 : I2 63 0 = x := hs2.2.1
        have hB3 : B (o + u.length + v.length) = nI (o + u.length + v.length + w.length + 2) := by
          have z := z3.2.1
          rw [← Nat.add_assoc] at z
          exact z
        rw [ek2, v_Reck_valueOf_4]
        dsimp only
        rw [o2 _ _ (by omega), hN]
        refine ⟨fun q => absurd q (nI_ge (by omega) (by omega)), fun _ => ⟨vp_in_nI (by omega) (by decide), ?_⟩⟩
        rw [nI_clamp (by omega), o2 _ _ (by omega), hA, o2 _ _ (by omega), hB, show A (o + u.length + v.length) = 3 by rw [Nat.add_assoc]; exact z3.1, hB3]
        intro r er
        refine ⟨vp_in_nI (by omega) (by decide), fun r' er' => ?_⟩
        rw [er, er', nI_1]
        refine ⟨fun q => absurd q (by decide), fun _ => ⟨fun _ => ⟨fun _ => ⟨fun q => absurd q (by decide), fun _ => ⟨fun _ => ?_, fun q => absurd q (by decide)⟩⟩, fun q => absurd q (by decide)⟩, fun q => absurd q (by decide)⟩⟩
        refine ⟨fun _ => ⟨vp_in_nI (n := 0) (by decide) (by decide), vp_in_nI (n := 1) (by decide) (by decide), ?_⟩, fun q => absurd rfl q⟩
        rw [show (nI 2 + (-2 : Int32)).toNatClampNeg = 0 by decide, show (nI 2 + (-2 : Int32) + 1).toNatClampNeg = 1 by decide, hp0, hp1, show nI 2 + (-2 : Int32) = nI 0 by decide]
        refine ⟨fun hxy => ?_, fun hxy r'' er'' => ?_⟩
        · rw [if_pos hxy] at hq
          refine s_pf ha hn w [] (o + u.length + v.length + 1) 0 k2 I2 (by funext j; rw [o2 _ _ (by omega), hA]) (by funext j; rw [o2 _ _ (by omega), hB]) (by rw [o2 _ _ (by omega), hN]) (fun j hj => by rw [o2 _ _ (by omega), hf j hj]) (by rw [show o + u.length + v.length + 1 = o + (u.length + v.length + 1) by omega]; exact z4) (by omega) ow (by omega) (Nat.le_refl _) (Nat.zero_le _) trivial (by omega) ?_ ?_
          · intro e I' o'
            rw [zpe_ev f ow] at e
            cases ew : zev f w with
            | none =>
              rw [ew] at hq
              exact hq I' (fun b j q => by rw [o' b j q, o2 b j q])
            | some x => rw [ew] at e; cases e
          · intro s' e I' o' hs
            rw [zpe_ev f ow] at e
            cases ew : zev f w with
            | none => rw [ew] at e; cases e
            | some z =>
              rw [ew] at e hq
              cases e
              exact s_end hn (by funext j; rw [o' _ _ (by omega), o2 _ _ (by omega), hA]) (by rw [o' _ _ (by omega), o2 _ _ (by omega), hN]) (by omega) (by rw [show o + u.length + v.length + 1 + w.length = o + (u.length + v.length + 1 + w.length) by omega]; exact z5.1) hs (by omega) (hq I' (fun b j q => by rw [o' b j q, o2 b j q]))
        · rw [if_neg hxy] at hq
          rw [er'', if_pos (nI_lt (by omega) (by omega))]
          have e6 : o + (u.length + v.length + 1 + w.length + 1) = o + u.length + v.length + w.length + 2 := by omega
          rw [e6] at z6
          exact s_cl ha hn l t (o + u.length + v.length + w.length + 2) k2 I2 (by funext j; rw [o2 _ _ (by omega), hA]) (by funext j; rw [o2 _ _ (by omega), hB]) (by rw [o2 _ _ (by omega), hN]) (fun j hj => by rw [o2 _ _ (by omega), hf j hj]) z6 (by omega) hl' ht (by omega) (fun I' o' => hq I' (fun b j q => by rw [o' b j q, o2 b j q]))
theorem s_valueOf {a : Nat} (ha : 14 ≤ a ∧ a ≤ 23) {w : zLw} {f : Nat → Int32} {I : zI} {J : zJ} {Q : Int32 → zI → zJ → Prop} (hw : zlwOK w) (hc : rCLaw I a w) (hf : ∀ j, j < 9 → I 62 j = f j) (hq : ∀ I' : zI, (∀ b j, b ≠ 63 → I' b j = I b j) → Q (zlv f w.1 w.2) I' J) : v_Reck_valueOf 5000 a I J Q := by
  obtain ⟨c0, c1, c2⟩ := hc
  exact s_cl ha c0 w.1 w.2 0 5000 I rfl rfl c1 hf (zat_mk (fun i q h => by rw [Nat.zero_add]; exact c2 i q h)) (by rw [Nat.zero_add]) hw.1 hw.2 (by omega) hq
