/-! reading: the reference's expressions -/
section
variable {B : Nat → Nat} {n s : Nat}
def zNx (I : zI) (J : zJ) (B : Nat → Nat) (n s i : Nat) (c : Nat × Nat) (l : List (Nat × Nat)) (o : Nat) (out : zPf) : Prop := zM I J B n s i ∧ I 361 12 = nI l.length ∧ zWm2 I (zbs l ++ zlv1 c) ∧ zCo I o out ∧ zlok c ∧ (∀ d ∈ l, zlok d) ∧ l.length ≤ 6 ∧ 420 * s ≤ o ∧ o + out.length + zops c + zopl l ≤ 420 * s + i
theorem m_open {o : Nat} {out : zPf} {J : zJ} {Q : zI → zJ → Prop} {K : Int32 → zI → zJ → Prop} : ∀ r i k c l (I : zI), zNx I J B n s i c l o out → 7 ≤ l.length + r → r + 1 < k → (∀ a, zopn (tK B n) r i c l = .inr a → ∀ I' : zI, frX s o I I' → zNx I' J B n s a.1 a.2.1 a.2.2 o out → K 0 I' J) → (∀ k j, zopn (tK B n) r i c l = .inl (k, j) → ∀ I' : zI, frX s o I I' → zDe I' B n k j → K 0 I' J) → v_M_expression_23 5000 k 0 I J Q K
  | r, i, 0, c, l, I, hN, hr, hk, hok, hbad => absurd hk (Nat.not_lt_zero _)
  | 0, i, k + 1, c, l, I, hN, hr, hk, hok, hbad => absurd hN.2.2.2.2.2.2.1 (by omega)
  | r + 1, i, k + 1, c, l, I, hN, hr, hk, hok, hbad => by
    obtain ⟨hM, h12, hW, hO, hc, hl, hll, ho1, ho2⟩ := id hN
    have hlen := zbs_len l
    have hlv := zlv1_len c
    have hop := zops_le c
    have hst : (zbs l ++ zlv1 c).length < 64 := by rw [List.length_append]; omega
    rw [zopn] at hok hbad
    obtain ⟨k', rfl⟩ : ∃ k', k = k' + 1 := ⟨k - 1, by omega⟩
    have dead : ∀ (k2 j2 : Nat) (I5 : zI), zDe I5 B n k2 j2 → (∀ I' : zI, frX s o I I' → zDe I' B n k2 j2 → K 0 I' J) → frX s o I I5 → v_M_expression_23 5000 (k' + 1) 0 I5 J Q K := fun k2 j2 I5 d5 h5 f5 => by
      rw [v_M_expression_23]
      exact m_is_d d5 (z_y z_00 (h5 I5 f5 d5))
    rw [v_M_expression_23]
    refine m_is hM (c := 40) rfl (by unfold zkv; omega) (fun q => z_n z_10 ?_) (fun q => z_y z_00 ?_)
    · rw [if_pos q] at hok hbad
      rw [h12]
      refine ⟨fun q2 => ?_, fun q2 => ?_⟩
      · have q2 : l.length ≠ 6 := fun z => q2 (by rw [z]; rfl)
        rw [if_pos (by omega)] at hok hbad
        intro I1 e1
        rw [h12, nI_1] at e1
        have o1 : ∀ b j, ¬ (b = 361 ∧ j = 12) → I1 b j = I b j := fun b j q => by rw [e1, qu_off (by omega)]
        have w1 : zWm2 I1 (zbs l ++ zlv1 c) := hW.kept (fun b l q => o1 b l (by omega))
        refine m_goesOn (hM.kept (fun b l q => o1 b l (by omega)) (fun _ => rfl)) (by rw [q]; decide) (fun j ej I2 o2 m2 => m_push (q := 0) (w1.kept (fun b l q => o2 b l (by omega))) hst rfl (fun I5 o5 w5 => ?_)) (fun k2 j2 ej I2 o2 d2 => m_push (q := 0) (w1.kept (fun b l q => o2 b l (by omega))) hst rfl (fun I5 o5 w5 => ?_))
        · rw [ej, zbi_r] at hok hbad
          have hj := (zgo_r ej).2
          have f5 : frX s o I I5 := fun b l q1 q2 q3 => by rw [o5 b l (by omega) q2, o2 b l (by omega), o1 b l (by omega)]
          refine m_open r j (k' + 1) (0, 0) (c :: l) I5 ⟨m2.kept (fun b l q => o5 b l (by omega) (by omega)) (fun _ => rfl), ?_, ?_, hO.kept (fun b l q => by rw [o5 b l (by omega) (by omega), o2 b l (by omega), o1 b l (by omega)]), ⟨Or.inl rfl, Or.inl rfl⟩, fun d hd => ?_, by show l.length + 1 ≤ 6; omega, ho1, ?_⟩ (by show 7 ≤ l.length + 1 + r; omega) (by omega) (fun a ea I' o' h' => hok a ea I' (f5.tr o') h') (fun k2 j2 e2 I' o' d' => hbad k2 j2 e2 I' (f5.tr o') d')
          · rw [o5 _ _ (by omega) (by omega), o2 _ _ (by omega), e1, qu_same]; rfl
          · rw [show zlv1 (0, 0) = [] from rfl, List.append_nil]; exact w5
          · rcases List.mem_cons.mp hd with rfl | hd
            · exact hc
            · exact hl d hd
          · rw [zopl, show zops (0, 0) = 0 from rfl]; omega
        · rw [ej, zbi_l] at hbad
          have f5 : frX s o I I5 := fun b l q1 q2 q3 => by rw [o5 b l (by omega) q2, o2 b l (by omega), o1 b l (by omega)]
          exact dead k2 j2 I5 (d2.kept (fun l q => o5 _ _ (by omega) (by omega))) (hbad k2 j2 rfl) f5
      · have q2 := (nI_eq (b := 6) (by omega) (by decide)).mp q2
        rw [if_neg (by omega)] at hbad
        refine m_fail (k := 2) hM (fun I0 o0 d0 I1 e1 => ?_)
        have o1 : ∀ b j, ¬ (b = 361 ∧ j = 12) → I1 b j = I0 b j := fun b j q => by rw [e1, qu_off (by omega)]
        refine m_goesOn_d (d0.kept (fun l q => o1 _ _ (by omega))) (fun I2 o2 d2 => m_push (q := 0) (hW.kept (fun b l q => by rw [o2 b l (by omega), o1 b l (by omega), o0 b l (by omega)])) hst rfl (fun I5 o5 w5 => ?_))
        exact dead 2 i I5 (d2.kept (fun l q => o5 _ _ (by omega) (by omega))) (hbad 2 i rfl) (fun b l q1 q2 q3 => by rw [o5 b l (by omega) q2, o2 b l (by omega), o1 b l (by omega), o0 b l (by omega)])
    · rw [if_neg q] at hok
      exact hok (i, c, l) rfl I (fun _ _ _ _ _ => rfl) hN
theorem zmk_var {k : Nat} (h : zkv k) : (32 ≤ zmk k ∧ zmk k ≤ 40 ↔ 268 ≤ k ∧ k ≤ 276) ∧ (268 ≤ k → zmk k = k - 236) := by
  by_cases hw : 256 ≤ k
  · have e : zmk k = k - 236 := by
      unfold zmk
      repeat rw [if_neg (by omega)]
    rw [e]
    exact ⟨by omega, fun _ => rfl⟩
  · have : zmk k < 32 := by
      unfold zkv at h
      rcases h with h | h | h | h | (h | h | h | h | h | h | h | h | h) | h
      all_goals first
        | (subst h; decide)
        | omega
    exact ⟨by omega, fun z => by omega⟩
theorem m_unit {I : zI} {J : zJ} {i o : Nat} {c : Nat × Nat} {l : List (Nat × Nat)} {out : zPf} (hN : zNx I J B n s i c l o out) {Q : zI → zJ → Prop} (hok : ∀ a, zunit (tK B n) (tV B n) i out = .inr a → ∀ I' : zI, frX s o I I' → zNx I' J B n s a.1 c l o a.2 → Q I' J) (hbad : ∀ k j, zunit (tK B n) (tV B n) i out = .inl (k, j) → ∀ I' : zI, frX s o I I' → zDe I' B n k j → Q I' J) : v_M_unit 5000 I J Q := by
  obtain ⟨hM, h12, hW, hO, hc, hl, hll, ho1, ho2⟩ := id hN
  have h400 := hM.2.2.2.2.2.1
  have hs := hM.2.2.2.1
  have hv := tK_v B n i
  have hz := zmk_lt hv
  obtain ⟨hz1, hz2⟩ := zmk_var hv
  have go : ∀ (k : Nat) (v : Int32), tK B n i ≠ 1 ∧ tK B n i ≠ 2 → zunit (tK B n) (tV B n) i out = zbi (zgo i) (fun i' => .inr (i', out ++ [(k, v)])) → v_M_emit 5000 (nI k) v I J (fun I11 J11 => v_M_goesOn 5000 I11 J11 (fun I12 J12 => Q I12 J12)) := fun k v hk eu => by
    rw [eu] at hok hbad
    refine m_emit hs hO ho1 (by omega) (fun I1 o1 g1 => m_goesOn (hM.kept (fun b l q => o1 b l (by omega) (by omega)) (fun _ => rfl)) hk (fun j ej I6 o6 m6 => ?_) (fun k2 j2 ej I6 o6 d6 => ?_))
    · rw [ej] at hok
      have hj := (zgo_r ej).2
      refine hok (j, out ++ [(k, v)]) rfl I6 (fun b l q1 q2 q3 => by rw [o6 b l (by omega), o1 b l (by omega) (by omega)]) ⟨m6, by rw [o6 _ _ (by omega), o1 _ _ (by omega) (by omega)]; exact h12, hW.kept (fun b l q => by rw [o6 b l (by omega), o1 b l (by omega) (by omega)]), g1.kept (fun b l q => o6 b l (by omega)), hc, hl, hll, ho1, ?_⟩
      rw [List.length_append]
      show o + (out.length + 1) + _ + _ ≤ 420 * s + j
      omega
    · rw [ej] at hbad
      exact hbad k2 j2 rfl I6 (fun b l q1 q2 q3 => by rw [o6 b l (by omega), o1 b l (by omega) (by omega)]) d6
  unfold zunit at hok hbad go
  refine m_is hM (c := 4) rfl (by unfold zkv; omega) (fun q => z_n z_10 ?_) (fun q => z_y z_00 (z_yr hM.2.1 ?_))
  · rw [hM.1, nI_clamp (by omega), hM.tk.2.2.1 q]
    exact ⟨vp_in_nI (by omega) (by decide), go 0 _ (by omega) (if_pos q)⟩
  · rw [if_neg q] at hok hbad go
    rw [hM.1, nI_clamp (by omega), hM.tk.1]
    have bad : (¬ (268 ≤ tK B n i ∧ tK B n i ≤ 276)) → v_M_fail 5000 (nI 1) I J (fun I8 J8 => Q I8 J8) := fun h => by
      rw [if_neg h] at hbad
      exact m_fail hM (fun I' o' d' => hbad 1 i rfl I' o'.x d')
    refine ⟨vp_in_nI (by omega) (by decide), fun q2 => bad ?_, fun q2 => ⟨fun q3 => bad ?_, fun q3 => ?_⟩⟩
    · have := (nI_ltI (b := 32) (by omega) (by decide)).mp q2; omega
    · have := (nI_ltI (a := 40) (by decide) (by omega)).mp q3; omega
    · have h1 : ¬ zmk (tK B n i) < 32 := fun z => q2 (nI_lt z (by decide))
      have h2 : ¬ 40 < zmk (tK B n i) := fun z => q3 (nI_lt z (by omega))
      have h3 := hz1.mp (by omega)
      have h4 := hz2 h3.1
      have h5 : zmk (tK B n i) - 32 = tK B n i - 268 := by omega
      rw [show nI (zmk (tK B n i)) - 32 = nI (zmk (tK B n i) - 32) from nI_sub (b := 32) (by omega), h5]
      exact go 1 _ (by omega) (if_pos h3)
theorem m_closing {o : Nat} {J : zJ} {Q : zI → zJ → Prop} {K : Int32 → zI → zJ → Prop} : ∀ l i k c out (I : zI), zNx I J B n s i c l o out → l.length + 1 < k → (∀ a, zcls (tK B n) l i c out = .inr a → ∀ I' : zI, frX s o I I' → zNx I' J B n s a.1 a.2.1 a.2.2.1 o a.2.2.2 → K 0 I' J) → (∀ k j, zcls (tK B n) l i c out = .inl (k, j) → ∀ (I' : zI) c' l' out', frX s o I I' → zDe I' B n k j → zWm2 I' (zbs l' ++ zlv1 c') → zCo I' o out' → zlok c' → l'.length ≤ 6 → o + out'.length + zops c' < 420 * s + 420 → K 0 I' J) → v_M_expression_96 5000 k 0 I J Q K
  | _, _, 0, _, _, _, _, hk, _, _ => absurd hk (Nat.not_lt_zero _)
  | [], i, k + 1, c, out, I, hN, hk, hok, hbad => by
    have := hok (i, c, [], out) rfl I (fun _ _ _ _ _ => rfl) hN
    rw [v_M_expression_96]
    refine m_is hN.1 (c := 41) rfl (by unfold zkv; omega) (fun q => z_n z_10 ?_) (fun q => z_y z_00 this)
    rw [hN.2.1]
    exact z_y (by decide) this
  | d :: l, i, k + 1, c, out, I, hN, hk, hok, hbad => by
    obtain ⟨hM, h12, hW, hO, hc, hl, hll, ho1, ho2⟩ := id hN
    have h400 := hM.2.2.2.2.2.1
    have hs := hM.2.2.2.1
    have hlen := zbs_len l
    have hlv := zlv1_len d
    have hop := zops_le d
    have hll' : l.length + 1 ≤ 6 := hll
    have hk' : l.length + 1 + 1 < k + 1 := hk
    obtain ⟨k', rfl⟩ : ∃ k', k = k' + 1 := ⟨k - 1, by omega⟩
    rw [zopl] at ho2
    rw [zcls] at hok hbad
    rw [v_M_expression_96]
    refine m_is hM (c := 41) rfl (by unfold zkv; omega) (fun q => z_n z_10 ?_) (fun q => z_y z_00 ?_)
    · rw [if_pos q] at hok hbad
      rw [h12]
      refine z_n (nI_nle (by show 0 < l.length + 1; omega) (by show l.length + 1 < _; omega)) (m_outAll (l := d :: l) hs hc hll hW hO ho1 (by omega) (by decide) (fun I1 o1 w1 g1 I6 e6 I7 e7 => ?_))
      have hbl : (zbs (d :: l)).length = (zbs l ++ zlv1 d).length + 1 := by rw [zbs, List.length_append]; rfl
      rw [w1.1, hbl, nI_pred] at e6
      have o6 : ∀ b j, ¬ (b = 361 ∧ j = 45) → I6 b j = I1 b j := fun b j q => by rw [e6, qu_off (by omega)]
      rw [o6 _ _ (by omega), o1 _ _ (by omega) (by omega), h12, show nI (d :: l).length - 1 = nI l.length from nI_pred l.length] at e7
      have o7 : ∀ b j, ¬ (b = 361 ∧ j = 12) → I7 b j = I6 b j := fun b j q => by rw [e7, qu_off (by omega)]
      have w7 : zWm2 I7 (zbs l ++ zlv1 d) := ⟨by rw [o7 _ _ (by omega), e6, qu_same], fun idx q' h => by
        have hi : idx < (zbs l ++ zlv1 d).length := by
          rcases Nat.lt_or_ge idx (zbs l ++ zlv1 d).length with z | z
          · exact z
          · rw [List.getElem?_eq_none z] at h; cases h
        rw [o7 _ _ (by omega), o6 _ _ (by omega)]
        exact w1.2 idx q' (by rw [zbs, List.getElem?_append_left hi]; exact h)⟩
      have g7 : zCo I7 o (out ++ zflu c) := g1.kept (fun b l q => by rw [o7 b l (by omega), o6 b l (by omega)])
      have f7 : frX s o I I7 := fun b l q1 q2 q3 => by rw [o7 b l (by omega), o6 b l (by omega), o1 b l (by omega) q3]
      refine m_goesOn (hM.kept (fun b l q => by rw [o7 b l (by omega), o6 b l (by omega), o1 b l (by omega) (by omega)]) (fun _ => rfl)) (by rw [q]; decide) (fun j ej I8 o8 m8 => ?_) (fun k2 j2 ej I8 o8 d8 => ?_)
      · rw [ej, zbi_r] at hok hbad
        have hj := (zgo_r ej).2
        refine m_closing l j (k' + 1) d (out ++ zflu c) I8 ⟨m8, ?_, w7.kept (fun b l q => o8 b l (by omega)), g7.kept (fun b l q => o8 b l (by omega)), hl d List.mem_cons_self, fun e he => hl e (List.mem_cons_of_mem _ he), by omega, ho1, ?_⟩ (by omega) (fun a ea I' o' h' => hok a ea I' ((f7.tr o8.x).tr o') h') (fun k2 j2 e2 I' c' l' out' o' d' h1 h2 h3 h4 h5 => hbad k2 j2 e2 I' c' l' out' ((f7.tr o8.x).tr o') d' h1 h2 h3 h4 h5)
        · rw [o8 _ _ (by omega), e7, qu_same]
        · rw [List.length_append, zflu_len]; omega
      · rw [ej, zbi_l] at hbad
        rw [v_M_expression_96]
        exact m_is_d d8 (z_y z_00 (hbad k2 j2 rfl I8 d l (out ++ zflu c) (f7.tr o8.x) d8 (w7.kept (fun b l q => o8 b l (by omega))) (g7.kept (fun b l q => o8 b l (by omega))) (hl d List.mem_cons_self) (by omega) (by rw [List.length_append, zflu_len]; omega)))
    · rw [if_neg q] at hok
      exact hok (i, c, d :: l, out) rfl I (fun _ _ _ _ _ => rfl) hN
abbrev zKx (Q : zI → zJ → Prop) : Int32 → zI → zJ → Prop := fun w3 I4 J4 => (((I4 361 12) ≤ w3 → (v_M_comesOut 5000 (0 : Int32) I4 J4 (fun I6 J6 => Q I6 J6))) ∧ (¬ (I4 361 12) ≤ w3 → (v_M_fail 5000 (1 : Int32) I4 J4 (fun I7 J7 => (v_M_comesOut 5000 (0 : Int32) I7 J7 (fun I8 J8 => Q I8 J8))))))
theorem m_exp12 {o : Nat} {J : zJ} {Q : zI → zJ → Prop} : ∀ r i k c l out (I : zI), zNx I J B n s i c l o out → 401 ≤ i + r → r + 1 < k → (∀ a, zexp (tK B n) (tV B n) r i c l out = .inr a → ∀ I' : zI, frX s o I I' → zM I' J B n s a.1 → I' 361 12 = 0 → zCo I' o a.2 → o + a.2.length ≤ 420 * s + a.1 → Q I' J) → (∀ k j, zexp (tK B n) (tV B n) r i c l out = .inl (k, j) → ∀ I' : zI, frX s o I I' → zDe I' B n k j → Q I' J) → v_M_expression_12 5000 k 0 1 I J Q (zKx Q)
  | 0, i, k, c, l, out, I, hN, hr, hk, hok, hbad => absurd hN.1.2.2.2.2.2.1 (by omega)
  | r + 1, i, 0, c, l, out, I, hN, hr, hk, hok, hbad => absurd hk (Nat.not_lt_zero _)
  | r + 1, i, k + 1, c, l, out, I, hN, hr, hk, hok, hbad => by
    have hs := hN.1.2.2.2.1
    rw [zexp] at hok hbad
    obtain ⟨k', rfl⟩ : ∃ k', k = k' + 1 := ⟨k - 1, by omega⟩
    rw [v_M_expression_12]
    refine z_n z_10 (z_yr hN.1.2.1 ?_)
    have udead : ∀ (k2 j2 : Nat) (I4 : zI), zDe I4 B n k2 j2 → Q I4 J → v_M_unit 5000 I4 J (fun I5 J5 => (((I5 361 13) ≤ 0 → (v_M_expression_96 5000 5000 0 I5 J5 Q (fun w7 I8 J8 => (v_M_expression_145 5000 w7 I8 J8 Q (fun x1 x2 I J => v_M_expression_12 5000 (k' + 1) x1 x2 I J Q (zKx Q)) (zKx Q))))) ∧ (¬ (I5 361 13) ≤ 0 → Q I5 J5))) := fun k2 j2 I4 d4 h4 => m_is_d d4 (z_y z_00 (z_nr d4.ne (m_fail_d d4 (z_n d4.nle h4))))
    refine m_open 7 i 5000 c l I hN (by omega) (by decide) (fun a ea I4 o4 n4 => ?_) (fun k2 j2 ej I4 o4 d4 => udead k2 j2 I4 d4 (hbad k2 j2 (by rw [ej]; rfl) I4 o4 d4))
    rw [ea, zbi_r] at hok hbad
    have hle1 := zopn_le _ _ _ _ _ ea
    refine m_unit n4 (fun b eb I5 o5 n5 => z_y n5.1.le ?_) (fun k2 j2 ej I5 o5 d5 => z_n d5.nle (hbad k2 j2 (by rw [ej]; rfl) I5 (o4.tr o5) d5))
    rw [eb, zbi_r] at hok hbad
    have hle2 := zunit_le eb
    refine m_closing a.2.2 b.1 5000 a.2.1 b.2 I5 n5 (by have := n5.2.2.2.2.2.2.1; omega) (fun d ed I8 o8 n8 => ?_) (fun k2 j2 ej I8 c' l' out' o8 d8 w8 g8 hc' hl' hb' => ?_)
    · rw [ed, zbi_r] at hok hbad
      obtain ⟨i3, c3, l3, out3⟩ := d
      simp only at n8 hok hbad
      have hle3 := zcls_le _ _ _ _ _ ed
      simp only at hle3
      obtain ⟨hM, h12, hW, hO, hc, hl, hll, ho1, ho2⟩ := id n8
      have h400 := hM.2.2.2.2.2.1
      have fr : frX s o I I8 := (o4.tr o5).tr o8
      have hlen := zbs_len l3
      have hop := zops_le c3
      -- an op
      have opr : zoc (tK B n i3) ≠ 0 → ∀ (z0 : Int32), (z0 = if 4 ≤ zoc (tK B n i3) then 1 else 0) → v_M_expression_234 5000 0 1 z0 I8 J Q (fun x1 x2 I J => v_M_expression_12 5000 (k' + 1) x1 x2 I J Q (zKx Q)) := fun hk0 z0 ez => by
        rw [if_neg hk0] at hok hbad
        have hz := zoc_c hk0
        obtain ⟨q, eq⟩ : ∃ q, q = zoc (tK B n i3) := ⟨_, rfl⟩
        rw [← eq] at hz ez
        have ek : zmk (tK B n i3) = zsm q := by
          rcases hz with ⟨h1, h2⟩ | ⟨h1, h2⟩ | ⟨h1, h2⟩ | ⟨h1, h2⟩ <;> rw [h1, h2] <;> rfl
        have hlo := zopo_ops hk0 c3
        have nx : ∀ I1 : zI, frQ2 s o I8 I1 → zWm2 I1 (zbs l3 ++ zlv1 (zopc (tK B n i3) c3)) → zCo I1 o (out3 ++ zopo (tK B n i3) c3) → v_M_goesOn 5000 I1 J (fun I6 J6 => v_M_expression_12 5000 (k' + 1) 0 1 I6 J6 Q (zKx Q)) → v_M_goesOn 5000 I1 J (fun I6 J6 => v_M_expression_12 5000 (k' + 1) 0 1 I6 J6 Q (zKx Q)) := fun _ _ _ _ h => h
        have fin : ∀ I5 : zI, (∀ b l, ¬ (b = 361 ∧ (l = 41 ∨ l = 45)) → b ≠ 390 → ¬ ((b = 388 ∨ b = 389) ∧ o ≤ l ∧ l < 420 * s + 420) → I5 b l = I8 b l) → zWm2 I5 (zbs l3 ++ zlv1 (zopc (tK B n i3) c3)) → zCo I5 o (out3 ++ zopo (tK B n i3) c3) → v_M_goesOn 5000 I5 J (fun I6 J6 => v_M_expression_12 5000 (k' + 1) 0 1 I6 J6 Q (zKx Q)) := fun I5 o5 w5 g5 => by
          have f5 : frX s o I I5 := fun b l q1 q2 q3 => by rw [o5 b l (by omega) q2 q3, fr b l q1 q2 q3]
          refine m_goesOn (hM.kept (fun b l q => o5 b l (by omega) (by omega) (by omega)) (fun _ => rfl)) (by omega) (fun j ej I6 o6 m6 => ?_) (fun k2 j2 ej I6 o6 d6 => z_n z_10 (z_nr d6.ne (hbad k2 j2 (by rw [ej]; rfl) I6 (f5.tr o6.x) d6)))
          rw [ej, zbi_r] at hok hbad
          have hj := (zgo_r ej).2
          refine m_exp12 r j (k' + 1) (zopc (tK B n i3) c3) l3 (out3 ++ zopo (tK B n i3) c3) I6 ⟨m6, ?_, w5.kept (fun b l q => o6 b l (by omega)), g5.kept (fun b l q => o6 b l (by omega)), zopc_ok hk0 hc, hl, hll, ho1, ?_⟩ (by omega) (by omega) (fun a ea I' o' h1 h2 h3 h4 => hok a ea I' ((f5.tr o6.x).tr o') h1 h2 h3 h4) (fun k2 j2 e2 I' o' d' => hbad k2 j2 e2 I' ((f5.tr o6.x).tr o') d')
          · rw [o6 _ _ (by omega), o5 _ _ (by omega) (by omega) (by omega)]; exact h12
          · rw [List.length_append]; omega
        unfold zopo zopc at fin
        rw [← eq] at fin
        have hpush : ∀ I1 : zI, frQ2 s o I8 I1 → ∀ st, zWm2 I1 st → st.length < 64 → (∀ I5 : zI, (∀ b l, ¬ (b = 361 ∧ (l = 41 ∨ l = 45)) → b ≠ 390 → ¬ ((b = 388 ∨ b = 389) ∧ o ≤ l ∧ l < 420 * s + 420) → I5 b l = I8 b l) → (∀ b l, b = 388 ∨ b = 389 ∨ (b = 361 ∧ l = 41) → I5 b l = I1 b l) → zWm2 I5 (st ++ [q]) → v_M_goesOn 5000 I5 J (fun I6 J6 => v_M_expression_12 5000 (k' + 1) 0 1 I6 J6 Q (zKx Q))) → (vp_in (I1 361 11) 403 ∧ (vp_in (I1 361 45) 64 ∧ ∀ I4 : zI, I4 = qu I1 390 ((I1 361 45)).toNatClampNeg (I1 364 ((I1 361 11)).toNatClampNeg) → (∀ I5 : zI, I5 = qu I4 361 45 ((I4 361 45) + (1 : Int32)) → (v_M_goesOn 5000 I5 J (fun I6 J6 => v_M_expression_12 5000 (k' + 1) 0 1 I6 J6 Q (zKx Q)))))) := fun I1 o1 st w1 hst h => by
          rw [o1 361 11 (by omega) (by omega), hM.1, nI_clamp (by omega), o1 364 _ (by omega) (by omega), hM.tk.1, ek]
          exact ⟨vp_in_nI (by omega) (by decide), m_push w1 hst rfl (fun I5 o5 w5 => h I5 (fun b l q1 q2 q3 => by rw [o5 b l (by omega) q2, o1 b l (by omega) q3]) (fun b l q => o5 b l (by omega) (by omega)) w5)⟩
        by_cases h4 : 4 ≤ q
        · simp only [if_pos h4] at fin
          rw [if_pos h4] at ez
          rw [ez]
          refine m_outMul hs hc hll hW hO ho1 (by omega) (by decide) (fun I1 o1 w1 g1 => hpush I1 o1 _ w1 (by rw [List.length_append, zlv1_len]; have := zops_le (c3.1, 0); omega) (fun I5 o5 p5 w5 => fin I5 o5 ?_ (g1.kept p5)))
          have eq2 : zlv1 (c3.1, q) = zlv1 (c3.1, 0) ++ [q] := by
            show (if c3.1 = 0 then [] else [c3.1]) ++ (if q = 0 then [] else [q]) = ((if c3.1 = 0 then [] else [c3.1]) ++ []) ++ [q]
            rw [if_neg (by omega : ¬ q = 0), List.append_nil]
          rw [eq2, ← List.append_assoc]
          exact w5
        · simp only [if_neg h4] at fin
          rw [if_neg h4] at ez
          rw [ez]
          refine m_outAll hs hc hll hW hO ho1 (by omega) (by decide) (fun I1 o1 w1 g1 => hpush I1 o1 _ w1 (by omega) (fun I5 o5 p5 w5 => fin I5 o5 ?_ (g1.kept p5)))
          rw [show zlv1 (q, 0) = [q] by unfold zlv1; rw [if_pos rfl, List.append_nil, if_neg (by omega)]]
          exact w5
      have notop : zoc (tK B n i3) = 0 → zKx Q 0 I8 J := fun hk0 => by
        rw [if_pos hk0] at hok hbad
        show ((I8 361 12 ≤ 0 → _) ∧ _)
        rw [h12]
        refine ⟨fun q => ?_, fun q => ?_⟩
        · have q := (nI_leI (b := 0) (by omega) (by decide)).mp q
          have el : l3 = [] := List.eq_nil_of_length_eq_zero (by omega)
          rw [if_pos el] at hok
          refine m_outAll hs hc hll hW hO ho1 (by omega) (by decide) (fun I1 o1 w1 g1 => hok (i3, out3 ++ zflu c3) rfl I1 (fr.tr (fun b l q1 q2 q3 => o1 b l (by omega) q3)) (hM.kept (fun b l q => o1 b l (by omega) (by omega)) (fun _ => rfl)) ?_ g1 ?_)
          · rw [o1 _ _ (by omega) (by omega), h12, el]; rfl
          · rw [List.length_append, zflu_len]; omega
        · have el : ¬ l3 = [] := fun z => q (by rw [z]; decide)
          rw [if_neg el] at hbad
          refine m_fail (k := 1) hM (fun I7 o7 d7 => m_outAll hs hc hll (hW.kept (fun b l q => o7 b l (by omega))) (hO.kept (fun b l q => o7 b l (by omega))) ho1 (by omega) (by decide) (fun I1 o1 w1 g1 => hbad 1 i3 rfl I1 (fun b l q1 q2 q3 => by rw [o1 b l (by omega) q3, o7 b l (by omega), fr b l q1 q2 q3]) (d7.kept (fun l q => o1 _ _ (by omega) (by omega)))))
      have k43 : tK B n i3 = 43 → zoc (tK B n i3) = 2 := fun h => by rw [h]; rfl
      have k45 : tK B n i3 = 45 → zoc (tK B n i3) = 3 := fun h => by rw [h]; rfl
      have k42 : tK B n i3 = 42 → zoc (tK B n i3) = 4 := fun h => by rw [h]; rfl
      have k47 : tK B n i3 = 47 → zoc (tK B n i3) = 5 := fun h => by rw [h]; rfl
      have op186 : zoc (tK B n i3) ≠ 0 → v_M_expression_186 5000 0 1 I8 J Q (fun x1 x2 I J => v_M_expression_12 5000 (k' + 1) x1 x2 I J Q (zKx Q)) (zKx Q) := fun hk0 => by
        have hz := zoc_c hk0
        refine z_nr z_10 (m_is hM (c := 42) rfl (by unfold zkv; omega) (fun q => z_nr z_10 (opr hk0 1 (by rw [if_pos (by omega)]))) (fun q => z_yr z_00 (m_is hM (c := 47) rfl (by unfold zkv; omega) (fun q2 => z_n z_10 (opr hk0 1 (by rw [if_pos (by omega)]))) (fun q2 => z_y z_00 (opr hk0 0 (by rw [if_neg (by omega)]))))))
      refine m_is hM (c := 43) rfl (by unfold zkv; omega) (fun q => z_nr z_10 (op186 (by rw [k43 q]; decide))) (fun q1 => z_yr z_00 (m_is hM (c := 45) rfl (by unfold zkv; omega) (fun q => z_nr z_10 (op186 (by rw [k45 q]; decide))) (fun q2 => z_yr z_00 (m_is hM (c := 42) rfl (by unfold zkv; omega) (fun q => z_nr z_10 (op186 (by rw [k42 q]; decide))) (fun q3 => z_yr z_00 (m_is hM (c := 47) rfl (by unfold zkv; omega) (fun q => z_n z_10 (op186 (by rw [k47 q]; decide))) (fun q4 => z_y z_00 (z_yr z_00 (notop ?_)))))))))
      exact Classical.byContradiction (fun z => by have := zoc_c z; omega)
    · have f8 : frX s o I I8 := (o4.tr o5).tr o8
      have co : ∀ I' : zI, I' = I8 → v_M_comesOut 5000 0 I' J (fun I6 J6 => Q I6 J6) := fun I' e => by
        subst e
        refine m_outAll hs hc' hl' w8 g8 n5.2.2.2.2.2.2.2.1 hb' (by decide) (fun I1 o1 w1 g1 => hbad k2 j2 (by rw [ej]; rfl) I1 (f8.tr (fun b l q1 q2 q3 => o1 b l (by omega) q3)) (d8.kept (fun l q => o1 _ _ (by omega) (by omega))))
      exact m_is_d d8 (z_yr z_00 (m_is_d d8 (z_yr z_00 (m_is_d d8 (z_yr z_00 (m_is_d d8 (z_y z_00 (z_yr z_00 ⟨fun _ => co I8 rfl, fun _ => m_fail_d d8 (co I8 rfl)⟩))))))))
theorem m_expression {I : zI} {J : zJ} {i o : Nat} (hM : zM I J B n s i) (h12 : I 361 12 = 0) (h41 : I 361 41 = nI o) (ho1 : 420 * s ≤ o) (ho2 : o ≤ 420 * s + i) {Q : zI → zJ → Prop} (hok : ∀ a, zE1 (tK B n) (tV B n) i = .inr a → ∀ I' : zI, frX s o I I' → zM I' J B n s a.1 → I' 361 12 = 0 → zCo I' o a.2 → o + a.2.length ≤ 420 * s + a.1 → Q I' J) (hbad : ∀ k j, zE1 (tK B n) (tV B n) i = .inl (k, j) → ∀ I' : zI, frX s o I I' → zDe I' B n k j → Q I' J) : v_M_expression 5000 I J Q := by
  intro I1 e1 y ey
  have o1 : ∀ b j, ¬ (b = 361 ∧ j = 45) → I1 b j = I b j := fun b j q => by rw [e1, qu_off (by omega)]
  have f1 : frX s o I I1 := fun b l q1 q2 q3 => o1 b l (by omega)
  rw [o1 _ _ (by omega), h12] at ey
  rw [ey]
  refine m_exp12 401 i 5000 (0, 0) [] [] I1 ⟨hM.kept (fun b l q => o1 b l (by omega)) (fun _ => rfl), by rw [o1 _ _ (by omega), h12]; rfl, ⟨by rw [e1, qu_same]; rfl, fun i q h => by cases h⟩, ⟨by rw [o1 _ _ (by omega)]; exact h41, fun i q h => by cases h⟩, ⟨Or.inl rfl, Or.inl rfl⟩, fun d hd => (by cases hd), by decide, ho1, ?_⟩ (by omega) (by decide) (fun a ea I' o' h1 h2 h3 h4 => hok a ea I' (f1.tr o') h1 h2 h3 h4) (fun k j ej I' o' d' => hbad k j ej I' (f1.tr o') d')
  show o + 0 + 0 + 0 ≤ 420 * s + i
  omega
theorem m_expression_d {I : zI} {J : zJ} {k j : Nat} (hD : zDe I B n k j) {Q : zI → zJ → Prop} (hq : ∀ I' : zI, (∀ b l, ¬ (b = 361 ∧ l = 45) → I' b l = I b l) → zDe I' B n k j → Q I' J) : v_M_expression 5000 I J Q := by
  intro I1 e1 y ey
  have o1 : ∀ b j, ¬ (b = 361 ∧ j = 45) → I1 b j = I b j := fun b j q => by rw [e1, qu_off (by omega)]
  have d1 := hD.kept (I' := I1) (fun l q => o1 _ _ (by omega))
  exact z_n z_10 (z_nr d1.ne (hq I1 o1 d1))
end
