/-! reading: the class' expressions and laws -/
section
variable {B : Nat → Nat} {n : Nat}
def zEx (I : zI) (J : zJ) (B : Nat → Nat) (n x i : Nat) (c : Nat × Nat) (l : List (Nat × Nat)) (S : List (Int32 × Int32)) (out : zPf) : Prop := zC I J B n i ∧ zWs I (zbs l ++ zlv1 c) l.length ∧ zLs I x (S ++ zcSteps out) ∧ zlok c ∧ (∀ d ∈ l, zlok d) ∧ l.length ≤ 6 ∧ S.length + out.length + zops c + zopl l + 2 ≤ i
abbrev frE (x : Nat) (I I' : zI) : Prop := ∀ b j, ¬ (b = 26 ∧ (j = 1 ∨ j = 2)) → b ≠ 47 → b ≠ 48 → ¬ (x ≤ b ∧ b ≤ x + 2) → I' b j = I b j
theorem frE.o {x : Nat} {I I' : zI} (h : frE x I I') (hx : 27 ≤ x ∧ x + 2 < 47) : frO I I' := fun b l q => h b l (by omega) (by omega) (by omega) (by omega)
theorem frE.tr {x : Nat} {I I' I'' : zI} (h : frE x I I') (g : frE x I' I'') : frE x I I'' := fun b j q1 q2 q3 q4 => by rw [g b j q1 q2 q3 q4, h b j q1 q2 q3 q4]
theorem frGJ.tr {J J' J'' : zJ} (h : frGJ J J') (g : frGJ J' J'') : frGJ J J'' := fun b j q => by rw [g b j q, h b j q]
theorem zSle (S : List (Int32 × Int32)) (out : zPf) : (S ++ zcSteps out).length = S.length + out.length := by rw [List.length_append, zcs_len]
theorem s_open2 {x : Nat} {S : List (Int32 × Int32)} {out : zPf} (hx : 27 ≤ x ∧ x + 2 < 47) {Q : Int32 → zI → zJ → Prop} : ∀ r i k y c l (I : zI) (J : zJ), zEx I J B n x i c l S out → y ≤ l.length → r + y = 7 → r < k → (∀ a, zopn (tK B n) r i c l = .inr a → ∀ (I' : zI) (J' : zJ), frE x I I' → frGJ J J' → zEx I' J' B n x a.1 a.2.1 a.2.2 S out → Q 1 I' J') → (∀ k j, zopn (tK B n) r i c l = .inl (k, j) → ∀ (I' : zI) (J' : zJ), zBd I J B n k j I' J' → Q 0 I' J') → v_Reader_readOpening_2 5000 k (nI y) I J Q
  | _, _, 0, _, _, _, _, _, _, _, _, hk, _, _ => absurd hk (Nat.not_lt_zero _)
  | 0, i, k + 1, y, c, l, I, J, hE, hy, hr, hk, hok, hbad => absurd hE.2.2.2.2.2.1 (by omega)
  | r + 1, i, k + 1, y, c, l, I, J, hE, hy, hr, hk, hok, hbad => by
    obtain ⟨hC, hW, hS, hc, hl, hll, hm⟩ := id hE
    rw [zopn] at hok hbad
    rw [v_Reader_readOpening_2]; dsimp only; rw [hC.2.1, hW.2.1, nI_1]
    refine z_n (nI_nlt (a := 6) (by omega) (by decide)) ⟨fun q => ?_, fun q => ?_⟩
    · rw [if_neg (fun z => q ((tK_is (c := 40) (by decide)).mpr z))] at hok
      exact hok (i, c, l) rfl I J (fun _ _ _ _ _ _ => rfl) (fun _ _ _ => rfl) hE
    · have q := (tK_is (c := 40) (by decide)).mp q
      rw [if_pos q] at hok hbad
      refine ⟨fun q2 => ?_, fun q2 => ?_⟩
      · have q2 := (nI_ltI (b := 6) (by omega) (by decide)).mp q2
        rw [if_pos q2] at hok hbad
        have hlen := zbs_len l
        have hlv := zlv1_len c
        have hop := zops_le c
        refine s_put (q := 0) hW (by rw [List.length_append]; omega) rfl (fun I1 o1 w1 I4 e4 => ?_)
        rw [w1.2.1, nI_1] at e4
        have o4 : ∀ b j, b ≠ 47 → b ≠ 48 → I4 b j = I b j := fun b j q1 q2 => by rw [e4, qu_off (by omega), o1 b j (by omega) q2]
        have o41 : ∀ b j, ¬ (b = 47 ∧ j = 2) → I4 b j = I1 b j := fun b j q1 => by rw [e4, qu_off (by omega)]
        have w4 : zWs I4 (zbs (c :: l) ++ zlv1 (0, 0)) (c :: l).length := by
          rw [show zlv1 (0, 0) = [] from rfl, List.append_nil]
          exact ⟨by rw [o41 _ _ (by omega)]; exact w1.1, by rw [e4, qu_same]; rfl, fun i q h => by rw [o41 _ _ (by omega)]; exact w1.2.2 i q h⟩
        refine s_goOn (hC.kept (fun b l q => o4 b l (by omega) (by omega)) (fun _ _ _ => rfl)) (by rw [q]; decide) (fun j ej I6 J6 o6 p6 c6 => ?_) (fun k j ej I6 b6 => ?_)
        · rw [ej, zbi_r] at hok hbad
          have hj := (zgo_r ej).2
          refine z_nr z_10 (s_open2 hx r j k (y + 1) (0, 0) (c :: l) I6 J6 ⟨c6, w4.kept (fun b l q => o6 b l (by omega)), hS.kept (fun b l q1 q2 => by rw [o6 b l (by omega), o4 b l (by omega) (by omega)]), ⟨Or.inl rfl, Or.inl rfl⟩, fun d hd => ?_, by show l.length + 1 ≤ 6; omega, ?_⟩ (by show y + 1 ≤ l.length + 1; omega) (by omega) (by omega) (fun a ea I' J' o' p' e' => hok a ea I' J' (fun b l q1 q2 q3 q4 => by rw [o' b l q1 q2 q3 q4, o6 b l q1, o4 b l q2 q3]) (p6.tr p') e') (fun k j ej I' J' b' => hbad k j ej I' J' (b'.from (fun b l q => by rw [o6 b l (by omega), o4 b l (by omega) (by omega)]) p6.o)))
          · rcases List.mem_cons.mp hd with rfl | hd
            · exact hc
            · exact hl d hd
          · rw [zopl, show zops (0, 0) = 0 from rfl]; omega
        · rw [ej, zbi_l] at hbad
          exact z_yr z_00 (hbad k j rfl I6 J (b6.from (fun b l q => o4 b l (by omega) (by omega)) (fun _ _ _ _ _ => rfl)))
      · have q2 : ¬ l.length < 6 := fun z => q2 (nI_lt z (by decide))
        rw [if_neg q2] at hbad
        exact s_fails (k := 2) hC (fun I' b' => ⟨Or.inl rfl, hbad 2 i rfl I' J b'⟩)
theorem zcs_0 (v : Int32) : zcSteps [(0, v)] = [((1 : Int32), v)] := rfl
theorem zcs_1 (v : Int32) : zcSteps [(1, v)] = [((2 : Int32), v)] := rfl
theorem s_operand {I : zI} {J : zJ} {x i : Nat} {c : Nat × Nat} {l : List (Nat × Nat)} {S : List (Int32 × Int32)} {out : zPf} (hx : 27 ≤ x ∧ x + 2 < 47) (hE : zEx I J B n x i c l S out) {Q : Int32 → zI → zJ → Prop} (hok : ∀ a, zunit (tK B n) (tV B n) i out = .inr a → ∀ (I' : zI) (J' : zJ), frE x I I' → frGJ J J' → zEx I' J' B n x a.1 c l S a.2 → Q 1 I' J') (hbad : ∀ k j, zunit (tK B n) (tV B n) i out = .inl (k, j) → ∀ (I' : zI) (J' : zJ), zBd I J B n k j I' J' → Q 0 I' J') : v_Reader_readOperand 5000 x I J Q := by
  obtain ⟨hC, hW, hS, hc, hl, hll, hm⟩ := id hE
  have h400 := hC.2.2.2.2.1
  have hlt := tK_lt B n i
  have go : ∀ (e : Nat × Int32) (s : Int32 × Int32), zcSteps [e] = [s] → tK B n i ≠ 1 ∧ tK B n i ≠ 2 → zunit (tK B n) (tV B n) i out = zbi (zgo i) (fun i' => .inr (i', out ++ [e])) → v_Law_add 5000 x s.1 s.2 I J (fun I8 J8 => v_Reader_goOn 5000 I8 J8 (fun r9 I10 J10 => qzb r9 ∧ Q r9 I10 J10)) := fun e s es hk eu => by
    rw [eu] at hok hbad
    refine s_add hS (by rw [zSle]; omega) (fun I1 o1 g1 => s_goOn (hC.kept (fun b l q => o1 b l (by omega)) (fun _ _ _ => rfl)) hk (fun j ej I6 J6 o6 p6 c6 => ⟨Or.inr rfl, ?_⟩) (fun k j ej I6 b6 => ⟨Or.inl rfl, ?_⟩))
    · rw [ej] at hok
      have hj := (zgo_r ej).2
      refine hok (j, out ++ [e]) rfl I6 J6 (fun b l q1 q2 q3 q4 => by rw [o6 b l q1, o1 b l q4]) p6 ⟨c6, hW.kept (fun b l q => by rw [o6 b l (by omega), o1 b l (by omega)]), ?_, hc, hl, hll, ?_⟩
      · rw [zcs_app, es, ← List.append_assoc]
        exact g1.kept (fun b l q1 q2 => o6 b l (by omega))
      · rw [List.length_append]
        show _ + (out.length + 1) + _ + _ + 2 ≤ j
        omega
    · rw [ej] at hbad
      exact hbad k j rfl I6 J (b6.from (fun b l q => o1 b l (by omega)) (fun _ _ _ _ _ => rfl))
  unfold v_Reader_readOperand
  rw [hC.2.1, hC.2.2.1]
  unfold zunit at hok hbad go
  refine ⟨fun q => ?_, fun q => ?_⟩
  · have q : ¬ tK B n i = 4 := fun z => q ((tK_is (c := 4) (by decide)).mpr z)
    rw [if_neg q] at hok hbad go
    have bad : (¬ (268 ≤ tK B n i ∧ tK B n i ≤ 276)) → v_Reader_fails 5000 (nI 1) I J (fun r3 I4 J4 => qzb r3 ∧ Q r3 I4 J4) := fun h => by
      rw [if_neg h] at hbad
      exact s_fails hC (fun I' b' => ⟨Or.inl rfl, hbad 1 i rfl I' J b'⟩)
    refine ⟨fun q2 => bad ?_, fun q2 => ⟨fun q3 => bad ?_, fun q3 => ?_⟩⟩
    · have := (nI_ltI (b := 268) (by omega) (by decide)).mp q2; omega
    · have := (nI_ltI (a := 276) (by decide) (by omega)).mp q3; omega
    · have h1 : ¬ tK B n i < 268 := fun z => q2 (nI_lt z (by decide))
      have h2 : ¬ 276 < tK B n i := fun z => q3 (nI_lt z (by omega))
      rw [show nI (tK B n i) - 268 = nI (tK B n i - 268) from nI_sub (b := 268) (by omega)]
      exact go (1, nI (tK B n i - 268)) _ (zcs_1 _) (by omega) (if_pos (by omega))
  · have q := (tK_is (c := 4) (by decide)).mp q
    exact go (0, (tV B n i).toInt32) _ (zcs_0 _) (by omega) (if_pos q)
theorem s_close {I : zI} {J : zJ} {st : List Nat} {d q : Nat} (hW : zWs I (st ++ [q]) (d + 1)) (hl : st.length < 32) (hd : d < 7) {Q : zI → zJ → Prop} (hq : ∀ I' : zI, (∀ b j, b ≠ 47 → I' b j = I b j) → zWs I' st d → Q I' J) : v_Waits_close 5000 I J Q := by
  have hlen : (st ++ [q]).length = st.length + 1 := by rw [List.length_append]; rfl
  intro I1 e1 I2 e2
  rw [hW.1, hlen, nI_pred] at e1
  have hif : (if (0 : Int32) < nI st.length then nI st.length else (0 : Int32)) = nI st.length := by
    split
    · rfl
    · rename_i h
      have : ¬ 0 < st.length := fun z => h (nI_lt (a := 0) z (by omega))
      rw [show st.length = 0 by omega]; exact nI_0.symm
  rw [hif] at e1
  have o1 : ∀ b l, ¬ (b = 47 ∧ l = 1) → I1 b l = I b l := fun b l q => by rw [e1, qu_off (by omega)]
  rw [o1 _ _ (by omega), hW.2.1, nI_pred] at e2
  have o2 : ∀ b l, ¬ (b = 47 ∧ l = 2) → I2 b l = I1 b l := fun b l q => by rw [e2, qu_off (by omega)]
  refine hq I2 (fun b l q => by rw [o2 b l (by omega), o1 b l (by omega)]) ⟨by rw [o2 _ _ (by omega), e1, qu_same], by rw [e2, qu_same], fun i q' h => ?_⟩
  have hi : i < st.length := by
    rcases Nat.lt_or_ge i st.length with z | z
    · exact z
    · rw [List.getElem?_eq_none z] at h; cases h
  rw [o2 _ _ (by omega), o1 _ _ (by omega)]
  exact hW.2.2 i q' (by rw [List.getElem?_append_left hi]; exact h)
theorem s_closing2 {x : Nat} {S : List (Int32 × Int32)} (hx : 27 ≤ x ∧ x + 2 < 47) {Q : Int32 → zI → zJ → Prop} : ∀ l i k y c out (I : zI) (J : zJ), zEx I J B n x i c l S out → y + l.length ≤ 6 → l.length < k → (∀ a, zcls (tK B n) l i c out = .inr a → ∀ (I' : zI) (J' : zJ), frE x I I' → frGJ J J' → zEx I' J' B n x a.1 a.2.1 a.2.2.1 S a.2.2.2 → i ≤ a.1 → Q 1 I' J') → (∀ k j, zcls (tK B n) l i c out = .inl (k, j) → ∀ (I' : zI) (J' : zJ), zBd I J B n k j I' J' → Q 0 I' J') → v_Reader_readClosing_2 5000 k x (nI y) I J Q
  | _, _, 0, _, _, _, _, _, _, _, hk, _, _ => absurd hk (Nat.not_lt_zero _)
  | [], i, k + 1, y, c, out, I, J, hE, hy, hk, hok, hbad => by
    have := hok (i, c, [], out) rfl I J (fun _ _ _ _ _ _ => rfl) (fun _ _ _ => rfl) hE (Nat.le_refl _)
    rw [v_Reader_readClosing_2]; dsimp only; rw [hE.2.1.2.1]
    exact ⟨fun _ => this, fun _ => z_y (by decide) this⟩
  | d :: l, i, k + 1, y, c, out, I, J, hE, hy, hk, hok, hbad => by
    obtain ⟨hC, hW, hS, hc, hl, hll, hm⟩ := id hE
    have h400 := hC.2.2.2.2.1
    have hy' : y + (l.length + 1) ≤ 6 := hy
    rw [zcls] at hok hbad
    rw [v_Reader_readClosing_2]; dsimp only; rw [hC.2.1, hW.2.1, nI_1]
    refine z_n (nI_ge (b := 6) (by omega) (by decide)) (z_n (nI_nle (by show 0 < l.length + 1; omega) (by omega)) ⟨fun q => ?_, fun q => ?_⟩)
    · rw [if_neg (fun z => q ((tK_is (c := 41) (by decide)).mpr z))] at hok
      exact hok (i, c, d :: l, out) rfl I J (fun _ _ _ _ _ _ => rfl) (fun _ _ _ => rfl) hE (Nat.le_refl _)
    · have q := (tK_is (c := 41) (by decide)).mp q
      rw [if_pos q] at hok hbad
      have hlen := zbs_len l
      have hlv := zlv1_len d
      have hop := zops_le d
      rw [zopl] at hm
      refine s_letAll (l := d :: l) hx.2 hc hll hW hS (by rw [zSle]; omega) (by decide) (fun I1 o1 w1 g1 => s_close w1 (by rw [List.length_append]; omega) (by omega) (fun I2 o2 w2 => s_goOn (hC.kept (fun b l q => by rw [o2 b l (by omega), o1 b l (by omega) (by omega)]) (fun _ _ _ => rfl)) (by rw [q]; decide) (fun j ej I6 J6 o6 p6 c6 => z_nr z_10 ?_) (fun k j ej I6 b6 => z_yr z_00 ?_)))
      · rw [ej, zbi_r] at hok hbad
        have hj := (zgo_r ej).2
        refine s_closing2 hx l j k (y + 1) d (out ++ zflu c) I6 J6 ⟨c6, w2.kept (fun b l q => o6 b l (by omega)), ?_, hl d List.mem_cons_self, fun e he => hl e (List.mem_cons_of_mem _ he), by omega, ?_⟩ (by omega) (by show l.length < k; have : l.length + 1 < k + 1 := hk; omega) (fun a ea I' J' o' p' e' hi' => hok a ea I' J' (fun b l q1 q2 q3 q4 => by rw [o' b l q1 q2 q3 q4, o6 b l q1, o2 b l q2, o1 b l (by omega) q4]) (p6.tr p') e' (by omega)) (fun k j ej I' J' b' => hbad k j ej I' J' (b'.from (fun b l q => by rw [o6 b l (by omega), o2 b l (by omega), o1 b l (by omega) (by omega)]) p6.o))
        · rw [zcs_app, ← List.append_assoc]
          exact g1.kept (fun b l q1 q2 => by rw [o6 b l (by omega), o2 b l (by omega)])
        · rw [List.length_append, zflu_len]; omega
      · rw [ej, zbi_l] at hbad
        exact hbad k j rfl I6 J (b6.from (fun b l q => by rw [o2 b l (by omega), o1 b l (by omega) (by omega)]) (fun _ _ _ _ _ => rfl))
theorem s_str0 {I : zI} {J : zJ} {k : Nat} (hk : k < 1000) (h : zoc k = 0) {Q : Int32 → zI → zJ → Prop} (hq : Q 0 I J) : v_Waits_strengthOf 5000 (nI k) I J Q := by
  have e : ∀ d, d < 1000 → k ≠ d → ¬ nI k = nI d := fun d hd h z => h ((nI_eq (by omega) (by omega)).mp z)
  have h43 : k ≠ 43 := fun z => by subst z; exact absurd h (by decide)
  have h45 : k ≠ 45 := fun z => by subst z; exact absurd h (by decide)
  have h42 : k ≠ 42 := fun z => by subst z; exact absurd h (by decide)
  have h47 : k ≠ 47 := fun z => by subst z; exact absurd h (by decide)
  exact z_n (e 42 (by decide) h42) (z_n (e 43 (by decide) h43) ⟨fun _ => hq, fun _ => z_n (e 45 (by decide) h45) ⟨fun _ => hq, fun _ => z_n (e 47 (by decide) h47) hq⟩⟩)
theorem zoc_c {k : Nat} (h : zoc k ≠ 0) : (k = 43 ∧ zoc k = 2) ∨ (k = 45 ∧ zoc k = 3) ∨ (k = 42 ∧ zoc k = 4) ∨ (k = 47 ∧ zoc k = 5) := by
  unfold zoc at h ⊢
  by_cases h1 : k = 43
  · subst h1; exact Or.inl ⟨rfl, rfl⟩
  by_cases h2 : k = 45
  · subst h2; exact Or.inr (Or.inl ⟨rfl, rfl⟩)
  by_cases h3 : k = 42
  · subst h3; exact Or.inr (Or.inr (Or.inl ⟨rfl, rfl⟩))
  by_cases h4 : k = 47
  · subst h4; exact Or.inr (Or.inr (Or.inr ⟨rfl, rfl⟩))
  rw [if_neg h1, if_neg h2, if_neg h3, if_neg h4] at h
  exact absurd rfl h
theorem zopo_ops {k : Nat} (h : zoc k ≠ 0) (c : Nat × Nat) : (zopo k c).length + zops (zopc k c) ≤ zops c + 1 := by
  unfold zopo zopc
  by_cases h4 : 4 ≤ zoc k
  · rw [if_pos h4, if_pos h4, zfm1_len]
    unfold zops
    simp only
    split <;> split <;> omega
  · rw [if_neg h4, if_neg h4, zflu_len]
    unfold zops
    simp only
    rw [if_neg h]
    simp
theorem zopc_ok {k : Nat} (h : zoc k ≠ 0) {c : Nat × Nat} (hc : zlok c) : zlok (zopc k c) := by
  have := zoc_c h
  unfold zopc
  by_cases h4 : 4 ≤ zoc k
  · rw [if_pos h4]; exact ⟨hc.1, by show zoc k = 0 ∨ _; omega⟩
  · rw [if_neg h4]; exact ⟨by show zoc k = 0 ∨ _; omega, Or.inl rfl⟩
/-- an op: what binds as tightly comes out, the op waits -/
theorem s_addOp {I : zI} {J : zJ} {x i : Nat} {c : Nat × Nat} {l : List (Nat × Nat)} {S : List (Int32 × Int32)} {out : zPf} (hx : 27 ≤ x ∧ x + 2 < 47) (hE : zEx I J B n x i c l S out) (hk : zoc (tK B n i) ≠ 0) {Q : zI → zJ → Prop} (hq : ∀ I' : zI, (∀ b j, b ≠ 47 → b ≠ 48 → ¬ (x ≤ b ∧ b ≤ x + 2) → I' b j = I b j) → zWs I' (zbs l ++ zlv1 (zopc (tK B n i) c)) l.length → zLs I' x (S ++ zcSteps (out ++ zopo (tK B n i) c)) → Q I' J) : v_Waits_add 5000 x (nI (tK B n i)) I J Q := by
  obtain ⟨hC, hW, hS, hc, hl, hll, hm⟩ := id hE
  have h400 := hC.2.2.2.2.1
  have hlen := zbs_len l
  have hop := zops_le c
  have hz := zoc_c hk
  obtain ⟨q, eq⟩ : ∃ q, q = zoc (tK B n i) := ⟨_, rfl⟩
  rw [← eq] at hz
  have ek : tK B n i = zsc q := by
    rcases hz with ⟨h1, h2⟩ | ⟨h1, h2⟩ | ⟨h1, h2⟩ | ⟨h1, h2⟩ <;> rw [h1, h2] <;> rfl
  unfold v_Waits_add
  rw [show nI (tK B n i) = nI (zsc q) by rw [ek]]
  refine s_strength (by omega) ?_
  unfold zopo zopc at hq
  rw [← eq] at hq
  by_cases h4 : 4 ≤ q
  · rw [if_pos h4, if_pos h4] at hq
    rw [zstg_m (by omega)]
    refine s_letMul hx.2 hc hll hW hS (by rw [zSle]; omega) (by decide) (fun I1 o1 w1 g1 => s_put (q := q) w1 (by rw [List.length_append, zlv1_len]; have := zops_le (c.1, 0); omega) rfl (fun I2 o2 w2 => hq I2 (fun b j q1 q2 q3 => by rw [o2 b j (by omega) q2, o1 b j (by omega) q3]) ?_ ?_))
    · have eq2 : zlv1 (c.1, q) = zlv1 (c.1, 0) ++ [q] := by
        show (if c.1 = 0 then [] else [c.1]) ++ (if q = 0 then [] else [q]) = ((if c.1 = 0 then [] else [c.1]) ++ []) ++ [q]
        rw [if_neg (by omega : ¬ q = 0), List.append_nil]
      rw [eq2, ← List.append_assoc]
      exact w2
    · rw [zcs_app, ← List.append_assoc]
      exact g1.kept (fun b l q1 q2 => o2 b l (by omega) (by omega))
  · rw [if_neg h4, if_neg h4] at hq
    rw [zstg_a (by omega)]
    refine s_letAll hx.2 hc hll hW hS (by rw [zSle]; omega) (by decide) (fun I1 o1 w1 g1 => s_put (q := q) w1 (by omega) rfl (fun I2 o2 w2 => hq I2 (fun b j q1 q2 q3 => by rw [o2 b j (by omega) q2, o1 b j (by omega) q3]) ?_ ?_))
    · rw [show zlv1 (q, 0) = [q] by unfold zlv1; rw [if_pos rfl, List.append_nil, if_neg (by omega)]]
      exact w2
    · rw [zcs_app, ← List.append_assoc]
      exact g1.kept (fun b l q1 q2 => o2 b l (by omega) (by omega))
theorem zopn_le {kd : Nat → Nat} : ∀ r i c l a, zopn kd r i c l = .inr a → i ≤ a.1
  | 0, i, c, l, a, h => by rw [zopn] at h; cases h; exact Nat.le_refl _
  | r + 1, i, c, l, a, h => by
    rw [zopn] at h
    split at h
    · split at h
      · obtain ⟨j, ej, h⟩ := zbi_inr h
        have := zopn_le r j _ _ a h
        have := (zgo_r ej).2
        omega
      · cases h
    · cases h; exact Nat.le_refl _
theorem zunit_le {kd : Nat → Nat} {vl : Nat → Int64} {i : Nat} {out : zPf} {a : Nat × zPf} (h : zunit kd vl i out = .inr a) : i + 1 = a.1 := by
  unfold zunit at h
  split at h
  · obtain ⟨j, ej, h⟩ := zbi_inr h
    cases h
    exact (zgo_r ej).2.symm
  · split at h
    · obtain ⟨j, ej, h⟩ := zbi_inr h
      cases h
      exact (zgo_r ej).2.symm
    · cases h
theorem s_sum11 {x : Nat} {S : List (Int32 × Int32)} (hx : 27 ≤ x ∧ x + 2 < 47) {Q : Int32 → zI → zJ → Prop} : ∀ r i k y c l out (I : zI) (J : zJ), zEx I J B n x i c l S out → y < i → 401 ≤ i + r → r + 1 < k → (∀ a, zexp (tK B n) (tV B n) r i c l out = .inr a → ∀ (I' : zI) (J' : zJ), frE x I I' → frGJ J J' → zC I' J' B n a.1 → zLs I' x (S ++ zcSteps a.2) → S.length + a.2.length + 2 ≤ a.1 → Q 1 I' J') → (∀ k j, zexp (tK B n) (tV B n) r i c l out = .inl (k, j) → ∀ (I' : zI) (J' : zJ), zBd I J B n k j I' J' → Q 0 I' J') → v_Reader_readSum_11 5000 k x 0 (nI y) I J Q (fun I2 J2 => v_Reader_readSum_94 5000 x I2 J2 Q)
  | 0, i, k, y, c, l, out, I, J, hE, hy, hr, hk, hok, hbad => absurd hE.1.2.2.2.2.1 (by omega)
  | r + 1, i, 0, y, c, l, out, I, J, hE, hy, hr, hk, hok, hbad => absurd hk (Nat.not_lt_zero _)
  | r + 1, i, k + 1, y, c, l, out, I, J, hE, hy, hr, hk, hok, hbad => by
    have h400 := hE.1.2.2.2.2.1
    rw [v_Reader_readSum_11]
    rw [zexp] at hok hbad
    refine z_n (nI_nlt (a := 400) (by omega) (by decide)) (z_yr z_00 ?_)
    refine s_open2 hx 7 i 5000 0 c l I J hE (Nat.zero_le _) (by decide) (by decide) (fun a ea I4 J4 o4 p4 e4 => z_n z_10 ?_) (fun k j ej I4 J4 b4 => z_y z_00 ?_)
    · rw [ea, zbi_r] at hok hbad
      have hle1 := zopn_le _ _ _ _ _ ea
      refine s_operand hx e4 (fun b eb I7 J7 o7 p7 e7 => z_n z_10 ?_) (fun k j ej I7 J7 b7 => z_y z_00 ?_)
      · rw [eb, zbi_r] at hok hbad
        have hle2 := zunit_le eb
        refine s_closing2 hx a.2.2 b.1 5000 0 a.2.1 b.2 I7 J7 e7 (by rw [Nat.zero_add]; exact e7.2.2.2.2.2.1) (by have := e7.2.2.2.2.2.1; omega) (fun d ed I10 J10 o10 p10 e10 hle3 => z_nr z_10 ?_) (fun k j ej I10 J10 b10 => z_yr z_00 ?_)
        · rw [ed, zbi_r] at hok hbad
          obtain ⟨i3, c3, l3, out3⟩ := d
          simp only at e10 hle3 hok hbad
          obtain ⟨hC, hW, hS, hc, hl, hll, hm⟩ := id e10
          have hi3 := hC.2.2.2.2.1
          have fr : frE x I I10 := (o4.tr o7).tr o10
          have fj : frGJ J J10 := (p4.tr p7).tr p10
          rw [hC.2.1]
          by_cases hk0 : zoc (tK B n i3) = 0
          · rw [if_pos hk0] at hok hbad
            refine s_str0 (by have := tK_lt B n i3; omega) hk0 (z_yr z_00 (z_nr z_10 ?_))
            obtain ⟨k', rfl⟩ : ∃ k', k = k' + 1 := ⟨k - 1, by omega⟩
            have fin : v_Reader_readSum_94 5000 x I10 J10 Q := by
              refine s_letAll hx.2 hc hll hW hS (by rw [zSle]; omega) (by decide) (fun I1 o1 w1 g1 => ?_)
              have o1' : frE x I10 I1 := fun b j q1 q2 q3 q4 => o1 b j (by omega) q4
              have c1 : zC I1 J10 B n i3 := hC.kept (fun b l q => o1 b l (by omega) (by omega)) (fun _ _ _ => rfl)
              rw [w1.2.1]
              refine ⟨fun q => ?_, fun q => ?_⟩
              · have q := (nI_eq (b := 0) (by omega) (by decide)).mp q
                rw [if_pos (List.eq_nil_of_length_eq_zero q)] at hok
                refine hok (i3, out3 ++ zflu c3) rfl I1 J10 (fr.tr o1') fj c1 ?_ ?_
                · rw [zcs_app, ← List.append_assoc]; exact g1
                · rw [List.length_append, zflu_len]; omega
              · have q : ¬ l3 = [] := fun z => q (by rw [z]; rfl)
                rw [if_neg q] at hbad
                exact s_fails (k := 1) c1 (fun I' b' => z_y z_00 (hbad 1 i3 rfl I' J10 (b'.from (fun b l q => by rw [o1'.o hx b l q, fr.o hx b l q]) fj.o)))
            exact ⟨fun _ => fin, fun _ => z_nr (fun z => absurd z z_10) fin⟩
          · rw [if_neg hk0] at hok hbad
            have hz := zoc_c hk0
            obtain ⟨q, eq⟩ : ∃ q, q = zoc (tK B n i3) := ⟨_, rfl⟩
            rw [← eq] at hz
            have ek : tK B n i3 = zsc q := by
              rcases hz with ⟨h1, h2⟩ | ⟨h1, h2⟩ | ⟨h1, h2⟩ | ⟨h1, h2⟩ <;> rw [h1, h2] <;> rfl
            rw [show nI (tK B n i3) = nI (zsc q) by rw [ek]]
            refine s_strength (by omega) (z_nr (fun z => ?_) (z_yr z_00 ?_))
            · have : zstg q = 1 ∨ zstg q = 2 := by
                rcases hz with ⟨_, h⟩ | ⟨_, h⟩ | ⟨_, h⟩ | ⟨_, h⟩ <;> rw [h] <;> decide
              have z := (nI_eq (b := 0) (by omega) (by decide)).mp z
              omega
            · rw [hC.2.1]
              refine s_addOp hx e10 hk0 (fun I2 o2 w2 g2 => s_goOn (hC.kept (fun b l q => o2 b l (by omega) (by omega) (by omega)) (fun _ _ _ => rfl)) (by omega) (fun j ej I6 J6 o6 p6 c6 => z_nr z_10 ?_) (fun k j ej I6 b6 => z_yr z_00 ?_))
              · rw [ej, zbi_r] at hok hbad
                have hj := (zgo_r ej).2
                have hlo := zopo_ops hk0 c3
                have fr6 : frE x I I6 := fun b j q1 q2 q3 q4 => by rw [o6 b j q1, o2 b j q2 q3 q4, fr b j q1 q2 q3 q4]
                rw [nI_1]
                refine s_sum11 hx r j k (y + 1) (zopc (tK B n i3) c3) l3 (out3 ++ zopo (tK B n i3) c3) I6 J6 ⟨c6, w2.kept (fun b l q => o6 b l (by omega)), g2.kept (fun b l q1 q2 => o6 b l (by omega)), zopc_ok hk0 hc, hl, hll, ?_⟩ (by omega) (by omega) (by omega) (fun a ea I' J' o' p' c' g' h' => hok a ea I' J' (fr6.tr o') (fj.tr (p6.tr p')) c' g' h') (fun k j ej I' J' b' => hbad k j ej I' J' (b'.from (fr6.o hx) (fj.tr p6).o))
                rw [List.length_append]; omega
              · rw [ej, zbi_l] at hbad
                exact hbad k j rfl I6 J10 (b6.from (fun b l q => by rw [o2 b l (by omega) (by omega) (by omega), fr.o hx b l q]) fj.o)
        · rw [ej, zbi_l] at hbad
          exact hbad k j rfl I10 J10 (b10.from ((o4.tr o7).o hx) (p4.tr p7).o)
      · rw [ej, zbi_l] at hbad
        exact hbad k j rfl I7 J7 (b7.from (o4.o hx) p4.o)
    · rw [ej, zbi_l] at hbad
      exact hbad k j rfl I4 J4 b4
theorem s_readSum {I : zI} {J : zJ} {x i : Nat} {S : List (Int32 × Int32)} (hx : 27 ≤ x ∧ x + 2 < 47) (hC : zC I J B n i) (hS : zLs I x S) (hm : S.length + 2 ≤ i) {Q : Int32 → zI → zJ → Prop} (hok : ∀ a, zE1 (tK B n) (tV B n) i = .inr a → ∀ (I' : zI) (J' : zJ), frE x I I' → frGJ J J' → zC I' J' B n a.1 → zLs I' x (S ++ zcSteps a.2) → S.length + a.2.length + 2 ≤ a.1 → Q 1 I' J') (hbad : ∀ k j, zE1 (tK B n) (tV B n) i = .inl (k, j) → ∀ (I' : zI) (J' : zJ), zBd I J B n k j I' J' → Q 0 I' J') : v_Reader_readSum 5000 x I J Q := by
  intro I1 e1 I2 e2
  have o2 : ∀ b j, b ≠ 47 → I2 b j = I b j := fun b j q => by rw [e2, qu_off (by omega), e1, qu_off (by omega)]
  have w2 : zWs I2 (zbs [] ++ zlv1 (0, 0)) ([] : List (Nat × Nat)).length := ⟨by rw [e2, qu_off (by decide), e1, qu_same]; rfl, by rw [e2, qu_same]; rfl, fun i q h => by cases h⟩
  refine s_sum11 hx 401 i 5000 0 (0, 0) [] [] I2 J ⟨hC.kept (fun b l q => o2 b l (by omega)) (fun _ _ _ => rfl), w2, ?_, ⟨Or.inl rfl, Or.inl rfl⟩, fun d hd => (by cases hd), by decide, ?_⟩ (by omega) (by omega) (by decide) (fun a ea I' J' o' p' c' g' h' => hok a ea I' J' (fun b j q1 q2 q3 q4 => by rw [o' b j q1 q2 q3 q4, o2 b j q2]) p' c' g' h') (fun k j ej I' J' b' => hbad k j ej I' J' (b'.from (fun b l q => o2 b l (by omega)) (fun _ _ _ _ _ => rfl)))
  · rw [zcs_nil, List.append_nil]
    exact hS.kept (fun b l q1 q2 => o2 b l (by omega))
  · show S.length + 0 + 0 + 0 + 2 ≤ i
    omega
end
