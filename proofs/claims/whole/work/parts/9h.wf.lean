/-! reading: what a text without a fault is like -/
def zpfT : zPf → Nat → Nat → Prop
  | [], d, e => d = e
  | (k, v) :: l, d, e => if k < 2 then (d < 15 ∧ (k = 1 → zin v 9) ∧ zpfT l (d + 1) e) else (2 ≤ d ∧ k < 6 ∧ zpfT l (d - 1) e)
theorem zpfT_ok : ∀ l d, zpfT l d 1 → zpfOK l d 15
  | [], d, h => h
  | (k, v) :: l, d, h => by
    rw [zpfT] at h
    rw [zpfOK]
    by_cases hk : k < 2
    · rw [if_pos hk] at h ⊢; exact ⟨h.1, h.2.1, zpfT_ok l _ h.2.2⟩
    · rw [if_neg hk] at h ⊢; exact ⟨h.1, h.2.1, zpfT_ok l _ h.2.2⟩
theorem zpfT_app : ∀ l l' d e f, zpfT l d e → zpfT l' e f → zpfT (l ++ l') d f
  | [], l', d, e, f, h, h' => by
    have h : d = e := h
    subst h
    exact h'
  | (k, v) :: l, l', d, e, f, h, h' => by
    rw [zpfT] at h
    rw [List.cons_append, zpfT]
    by_cases hk : k < 2
    · rw [if_pos hk] at h ⊢; exact ⟨h.1, h.2.1, zpfT_app l l' _ e f h.2.2 h'⟩
    · rw [if_neg hk] at h ⊢; exact ⟨h.1, h.2.1, zpfT_app l l' _ e f h.2.2 h'⟩
theorem zpfT_op {q d : Nat} (hq : q = 2 ∨ q = 3 ∨ q = 4 ∨ q = 5) (hd : 2 ≤ d) : zpfT [(q, 0)] d (d - 1) := by
  rw [zpfT, if_neg (by omega)]
  exact ⟨hd, by omega, rfl⟩
theorem zpfT_m {c : Nat × Nat} (hc : zlok c) {x : Nat} : zpfT (zfm1 c) ((if c.1 = 0 then 0 else 1) + (if c.2 = 0 then 0 else 1) + x + 1) ((if c.1 = 0 then 0 else 1) + x + 1) := by
  have := hc.2
  unfold zfm1
  by_cases h : c.2 = 0
  · rw [if_pos h, if_pos h]; show _ = _; omega
  · rw [if_neg h, if_neg h]
    have := zpfT_op (q := c.2) (d := (if c.1 = 0 then 0 else 1) + 1 + x + 1) (by omega) (by omega)
    rw [show (if c.1 = 0 then 0 else 1) + 1 + x + 1 - 1 = (if c.1 = 0 then 0 else 1) + x + 1 by omega] at this
    exact this
theorem zpfT_fl {c : Nat × Nat} (hc : zlok c) {x : Nat} : zpfT (zflu c) (zops c + x + 1) (x + 1) := by
  have := hc.1
  unfold zflu
  refine zpfT_app _ _ _ ((if c.1 = 0 then 0 else 1) + x + 1) _ (zpfT_m hc) ?_
  by_cases h : c.1 = 0
  · rw [if_pos h, if_pos h]; show _ = _; omega
  · rw [if_neg h, if_neg h]
    have := zpfT_op (q := c.1) (d := 1 + x + 1) (by omega) (by omega)
    rw [show 1 + x + 1 - 1 = x + 1 by omega] at this
    exact this
theorem zpfT_opo {k : Nat} (h : zoc k ≠ 0) {c : Nat × Nat} (hc : zlok c) {x : Nat} : zpfT (zopo k c) (zops c + x + 1) (zops (zopc k c) + x) := by
  unfold zopo zopc
  by_cases h4 : 4 ≤ zoc k
  · rw [if_pos h4, if_pos h4]
    have := zpfT_m hc (x := x)
    have e : zops (c.1, zoc k) + x = (if c.1 = 0 then 0 else 1) + x + 1 := by
      unfold zops
      simp only
      rw [if_neg h]
      omega
    rw [e]
    exact this
  · rw [if_neg h4, if_neg h4]
    have e : zops (zoc k, 0) + x = x + 1 := by
      unfold zops
      simp only
      rw [if_neg h]
      simp
      omega
    rw [e]
    exact zpfT_fl hc
section
variable {kd : Nat → Nat} {vl : Nat → Int64}
theorem zopn_ok : ∀ r i c l a, zopn kd r i c l = .inr a → zlok c → (∀ d ∈ l, zlok d) → l.length ≤ 6 → zlok a.2.1 ∧ (∀ d ∈ a.2.2, zlok d) ∧ a.2.2.length ≤ 6 ∧ zops a.2.1 + zopl a.2.2 = zops c + zopl l
  | 0, i, c, l, a, h, hc, hl, hn => by rw [zopn] at h; cases h; exact ⟨hc, hl, hn, rfl⟩
  | r + 1, i, c, l, a, h, hc, hl, hn => by
    rw [zopn] at h
    split at h
    · split at h
      · rename_i h6
        obtain ⟨j, ej, h⟩ := zbi_inr h
        obtain ⟨g1, g2, g3, g4⟩ := zopn_ok r j (0, 0) (c :: l) a h ⟨Or.inl rfl, Or.inl rfl⟩ (fun d hd => by
          rcases List.mem_cons.mp hd with rfl | hd
          · exact hc
          · exact hl d hd) (by show l.length + 1 ≤ 6; omega)
        refine ⟨g1, g2, g3, ?_⟩
        rw [g4, zopl, show zops (0, 0) = 0 from rfl]
        omega
      · cases h
    · cases h; exact ⟨hc, hl, hn, rfl⟩
theorem zcls_ok : ∀ l i c out a, zcls kd l i c out = .inr a → zlok c → (∀ d ∈ l, zlok d) → l.length ≤ 6 → zpfT out 0 (zops c + zopl l + 1) → zlok a.2.1 ∧ (∀ d ∈ a.2.2.1, zlok d) ∧ a.2.2.1.length ≤ 6 ∧ zpfT a.2.2.2 0 (zops a.2.1 + zopl a.2.2.1 + 1)
  | [], i, c, out, a, h, hc, hl, hn, ho => by rw [zcls] at h; cases h; exact ⟨hc, hl, hn, ho⟩
  | d :: l, i, c, out, a, h, hc, hl, hn, ho => by
    rw [zcls] at h
    split at h
    · obtain ⟨j, ej, h⟩ := zbi_inr h
      have hn' : l.length + 1 ≤ 6 := hn
      rw [zopl] at ho
      refine zcls_ok l j d (out ++ zflu c) a h (hl d List.mem_cons_self) (fun e he => hl e (List.mem_cons_of_mem _ he)) (by omega) (zpfT_app _ _ _ (zops c + (zopl l + zops d) + 1) _ (by rw [show zops c + (zopl l + zops d) + 1 = zops c + (zopl l + zops d) + 1 from rfl]; exact ho) ?_)
      have := zpfT_fl hc (x := zopl l + zops d)
      rw [show zops d + zopl l + 1 = zopl l + zops d + 1 by omega]
      exact this
    · cases h; exact ⟨hc, hl, hn, ho⟩
theorem zexp_ok : ∀ r i c l out a, zexp kd vl r i c l out = .inr a → zlok c → (∀ d ∈ l, zlok d) → l.length ≤ 6 → zpfT out 0 (zops c + zopl l) → zpfOK a.2 0 15
  | 0, i, c, l, out, a, h, _, _, _, _ => by rw [zexp] at h; cases h
  | r + 1, i, c, l, out, a, h, hc, hl, hn, ho => by
    rw [zexp] at h
    obtain ⟨a1, e1, h⟩ := zbi_inr h
    obtain ⟨b1, e2, h⟩ := zbi_inr h
    obtain ⟨d1, e3, h⟩ := zbi_inr h
    obtain ⟨g1, g2, g3, g4⟩ := zopn_ok _ _ _ _ _ e1 hc hl hn
    have h2 := (zbs_len a1.2.2).2
    have h3 := zops_le a1.2.1
    have hu : zpfT b1.2 0 (zops a1.2.1 + zopl a1.2.2 + 1) := by
      rw [g4]
      unfold zunit at e2
      split at e2
      · obtain ⟨j, ej, e2⟩ := zbi_inr e2
        cases e2
        refine zpfT_app _ _ _ _ _ ho ?_
        rw [zpfT, if_pos (by decide)]
        exact ⟨by omega, fun z => absurd z (by decide), rfl⟩
      · split at e2
        · rename_i hv
          obtain ⟨j, ej, e2⟩ := zbi_inr e2
          cases e2
          refine zpfT_app _ _ _ _ _ ho ?_
          rw [zpfT, if_pos (by decide)]
          exact ⟨by omega, fun _ => ⟨kd a1.1 - 268, by omega, rfl⟩, rfl⟩
        · cases e2
    obtain ⟨k1, k2, k3, k4⟩ := zcls_ok _ _ _ _ _ e3 g1 g2 g3 hu
    split at h
    · split at h
      · rename_i hnil
        cases h
        refine zpfT_ok _ _ (zpfT_app _ _ _ (zops d1.2.1 + zopl d1.2.2.1 + 1) _ k4 ?_)
        rw [hnil]
        exact zpfT_fl k1 (x := 0)
      · cases h
    · rename_i hk0
      obtain ⟨j, ej, h⟩ := zbi_inr h
      exact zexp_ok r j _ _ _ a h (zopc_ok hk0 k1) k2 k3 (zpfT_app _ _ _ (zops d1.2.1 + zopl d1.2.2.1 + 1) _ k4 (zpfT_opo hk0 k1))
theorem zE1_ok {i : Nat} {a : Nat × zPf} (h : zE1 kd vl i = .inr a) : zpfOK a.2 0 15 := zexp_ok 401 i (0, 0) [] [] a h ⟨Or.inl rfl, Or.inl rfl⟩ (fun d hd => by cases hd) (by decide) rfl
theorem zif_ok {i : Nat} {a : Nat × zPf × zPf × zPf} (h : zif kd vl i = .inr a) : zpfOK a.2.1 0 15 ∧ zpfOK a.2.2.1 0 15 ∧ zpfOK a.2.2.2 0 15 := by
  unfold zif at h
  obtain ⟨i1, e1, h⟩ := zbi_inr h
  obtain ⟨u, eu, h⟩ := zbi_inr h
  obtain ⟨i3, e3, h⟩ := zbi_inr h
  obtain ⟨v, ev, h⟩ := zbi_inr h
  obtain ⟨i5, e5, h⟩ := zbi_inr h
  obtain ⟨w, ew, h⟩ := zbi_inr h
  obtain ⟨i7, e7, h⟩ := zbi_inr h
  cases h
  exact ⟨zE1_ok eu, zE1_ok ev, zE1_ok ew⟩
theorem zifs_ok : ∀ r i l a, zifs kd vl r i l = .inr a → (∀ q ∈ l, zpfOK q.1 0 15 ∧ zpfOK q.2.1 0 15 ∧ zpfOK q.2.2 0 15) → ∀ q ∈ a.2, zpfOK q.1 0 15 ∧ zpfOK q.2.1 0 15 ∧ zpfOK q.2.2 0 15
  | 0, i, l, a, h, hl => by
    rw [zifs] at h
    split at h
    · cases h
    · cases h; exact hl
  | r + 1, i, l, a, h, hl => by
    rw [zifs] at h
    split at h
    · obtain ⟨b, eb, h⟩ := zbi_inr h
      refine zifs_ok r _ _ a h (fun q hq => ?_)
      rcases List.mem_append.mp hq with hq | hq
      · exact hl q hq
      · rw [List.mem_singleton.mp hq]; exact zif_ok eb
    · cases h; exact hl
theorem zlaw_ok {i : Nat} {a : Nat × zLw} (h : zlaw kd vl i = .inr a) : zlwOK a.2 := by
  unfold zlaw at h
  obtain ⟨i1, e1, h⟩ := zbi_inr h
  obtain ⟨i2, e2, h⟩ := zbi_inr h
  obtain ⟨b, eb, h⟩ := zbi_inr h
  obtain ⟨c, ec, h⟩ := zbi_inr h
  obtain ⟨i5, e5, h⟩ := zbi_inr h
  cases h
  exact ⟨zifs_ok _ _ _ _ eb (fun q hq => by cases hq), zE1_ok ec⟩
theorem zplain_ok (k : Nat) : zlwOK (zplain k) := by
  unfold zplain
  refine ⟨fun q hq => (by cases hq), ?_⟩
  by_cases h : k = 0 ∨ k = 3
  · simp only [if_pos h]
    exact ⟨by decide, fun _ => ⟨0, by decide, rfl⟩, rfl⟩
  · simp only [if_neg h]
    exact ⟨by decide, fun z => absurd z (by decide), rfl⟩
end
/-- a draft is well made -/
def zgOK (g : zG) : Prop := (∀ k w, gL g k = some w → zlwOK w) ∧ (∀ p, (gP g).1 ≤ p → (gG g).2 p = -2) ∧ ((gW g).1 = 0 → (∀ h, h < (gH g).1 → zin ((gH g).2.2.1 h) 5 ∧ zin ((gH g).2.2.2 h) 100) ∧ (∀ p, p < (gP g).1 → zin ((gP g).2.2.1 p) 100) ∧ (∀ p, (gG g).2 p = -2 ∨ zin ((gG g).2 p) (gH g).1) ∧ ∀ p q, (gG g).2 p = (gG g).2 q → ¬ (gG g).2 p = -2 → p = q)
theorem zkeep_0 {k p : Nat} {W : Nat × Nat} (hk : k ≠ 0) : ¬ (zkeep k p W).1 = 0 := by
  unfold zkeep
  by_cases h : W.1 = 0
  · rw [if_pos h]; exact hk
  · rw [if_neg h]; exact h
theorem ztkn_t {f : Nat → Int32} {h : Nat} : ∀ r i p, i ≤ p → p < i + r → f p = nI h → ztkn f h r i = true
  | 0, i, p, h1, h2, _ => absurd h1 (by omega)
  | r + 1, i, p, h1, h2, e => by
    rw [ztkn]
    by_cases z : f i = nI h
    · rw [if_pos z]
    · rw [if_neg z]
      by_cases e2 : p = i
      · subst e2; exact absurd e z
      · exact ztkn_t r (i + 1) p (by omega) (by omega) e
section
variable {B : Nat → Nat} {n : Nat}
theorem znum_0 {m i : Nat} {W : Nat × Nat} (hm : m < 100000) (hk : tK B n i = 4) (h : (znum (tV B n) (zpsn B n) m i W).1 = 0) : W.1 = 0 ∧ zin (tV B n i).toInt32 (m + 1) := by
  unfold znum at h
  by_cases z : lN m < tV B n i
  · rw [if_pos z] at h; exact absurd h (zkeep_0 (by decide))
  · rw [if_neg z] at h
    obtain ⟨v, hv, ev⟩ := tK_int hk
    refine ⟨h, v, ?_, by rw [ev, lN_i]⟩
    rw [ev] at z
    have : ¬ m < v := fun y => z ((lN_lt (by omega) (by omega)).mpr y)
    omega
theorem zent_0 {m1 m2 i : Nat} {g : zG} {b : zBk} {a : Nat × zBk × (Nat × Nat)} (h1 : m1 < 100000) (h2 : m2 < 100000) (h : zent (tK B n) (tV B n) (zpsn B n) m1 m2 g b i = .inr a) : (∃ w x y, a.2.1 = (b.1 + 1, zud b.2.1 b.1 w, zud b.2.2.1 b.1 x, zud b.2.2.2 b.1 y) ∧ (a.2.2.1 = 0 → (gW g).1 = 0 ∧ zin x (m1 + 1) ∧ zin y (m2 + 1))) := by
  unfold zent at h
  obtain ⟨i1, e1, h⟩ := zbi_inr h
  obtain ⟨i2, e2, h⟩ := zbi_inr h
  obtain ⟨i3, e3, h⟩ := zbi_inr h
  obtain ⟨i4, e4, h⟩ := zbi_inr h
  obtain ⟨i5, e5, h⟩ := zbi_inr h
  cases h
  refine ⟨_, _, _, rfl, fun hw => ?_⟩
  obtain ⟨w1, z2⟩ := znum_0 h2 (zpass_r e4).1 hw
  obtain ⟨w2, z1⟩ := znum_0 h1 (zpass_r e3).1 w1
  refine ⟨?_, z1, z2⟩
  by_cases ht : ztold g (tV B n i1) = true
  · rw [if_pos ht] at w2; exact absurd w2 (zkeep_0 (by decide))
  · rw [if_neg ht] at w2; exact w2
theorem zone_0 {m i : Nat} {W : Nat × Nat} {a : Nat × Int32 × (Nat × Nat)} (hm : m < 100000) (h : zone (tK B n) (tV B n) (zpsn B n) m i W = .inr a) : a.2.2.1 = 0 → W.1 = 0 := by
  unfold zone at h
  obtain ⟨i1, e1, h⟩ := zbi_inr h
  obtain ⟨i2, e2, h⟩ := zbi_inr h
  obtain ⟨i3, e3, h⟩ := zbi_inr h
  cases h
  exact fun hw => (znum_0 hm (zpass_r e2).1 hw).1
theorem ztl_ok {i : Nat} {g : zG} {a : Nat × zG} (h : ztl (tK B n) (tV B n) (zpsn B n) g i = .inr a) (hg : zgOK g) (hH : (gH g).1 ≤ 7) (hP : (gP g).1 ≤ 6) : zgOK a.2 ∧ (gH a.2).1 ≤ 7 ∧ (gP a.2).1 ≤ 6 := by
  obtain ⟨gl, gon, gw⟩ := hg
  unfold ztl at h
  split at h
  · split at h
    · rename_i hlt
      obtain ⟨b, eb, h⟩ := zbi_inr h
      cases h
      obtain ⟨w, x, y, e, hw⟩ := zent_0 (by decide) (by decide) eb
      refine ⟨⟨gl, gon, fun z => ?_⟩, ?_, hP⟩
      · obtain ⟨w0, zx, zy⟩ := hw z
        obtain ⟨g1, g2, g3, g4⟩ := gw w0
        have eH : gH (b.1, b.2.1, gP g, gG g, gL g, gM g, b.2.2).2 = ((gH g).1 + 1, zud (gH g).2.1 (gH g).1 w, zud (gH g).2.2.1 (gH g).1 x, zud (gH g).2.2.2 (gH g).1 y) := e
        rw [eH]
        refine ⟨fun h hh => ?_, g2, fun p => ?_, g4⟩
        · have hh : h < (gH g).1 + 1 := hh
          show zin (zud _ _ _ h) 5 ∧ zin (zud _ _ _ h) 100
          by_cases e2 : h = (gH g).1
          · rw [e2, zud_s, zud_s]; exact ⟨zx, zy⟩
          · rw [zud_n e2, zud_n e2]; exact g1 h (by omega)
        · rcases g3 p with q | ⟨j, hj, ej⟩
          · exact Or.inl q
          · exact Or.inr ⟨j, by show j < (gH g).1 + 1; omega, ej⟩
      · show b.2.1.1 ≤ 7
        rw [e]; show (gH g).1 + 1 ≤ 7; omega
    · cases h
  · split at h
    · split at h
      · rename_i hlt
        obtain ⟨b, eb, h⟩ := zbi_inr h
        cases h
        obtain ⟨w, x, y, e, hw⟩ := zent_0 (by decide) (by decide) eb
        refine ⟨⟨gl, fun p hp => ?_, fun z => ?_⟩, hH, ?_⟩
        · have hp : b.2.1.1 ≤ p := hp
          rw [e] at hp
          have hp : (gP g).1 + 1 ≤ p := hp
          exact gon p (by omega)
        · obtain ⟨w0, zx, zy⟩ := hw z
          obtain ⟨g1, g2, g3, g4⟩ := gw w0
          have eP : gP (b.1, gH g, b.2.1, gG g, gL g, gM g, b.2.2).2 = ((gP g).1 + 1, zud (gP g).2.1 (gP g).1 w, zud (gP g).2.2.1 (gP g).1 x, zud (gP g).2.2.2 (gP g).1 y) := e
          rw [eP]
          refine ⟨g1, fun h hh => ?_, g3, g4⟩
          have hh : h < (gP g).1 + 1 := hh
          show zin (zud _ _ _ h) 100
          by_cases e2 : h = (gP g).1
          · rw [e2, zud_s]; exact zx
          · rw [zud_n e2]; exact g2 h (by omega)
        · show b.2.1.1 ≤ 6
          rw [e]; show (gP g).1 + 1 ≤ 6; omega
      · cases h
    · split at h
      · split at h
        · obtain ⟨b, eb, h⟩ := zbi_inr h
          cases h
          unfold zhng at eb
          obtain ⟨i1, e1, eb⟩ := zbi_inr eb
          obtain ⟨i2, e2, eb⟩ := zbi_inr eb
          obtain ⟨i3, e3, eb⟩ := zbi_inr eb
          obtain ⟨i4, e4, eb⟩ := zbi_inr eb
          cases eb
          refine ⟨⟨gl, fun p hp => ?_, fun z => ?_⟩, hH, hP⟩
          · have hp : (gP g).1 ≤ p := hp
            show (zwhp (tV B n) g i1).elim (gG g).2 (fun p => (zwhc (tV B n) g i2).elim (gG g).2 fun h => zud (gG g).2 p (nI h)) p = -2
            cases ep : zwhp (tV B n) g i1 with
            | none => exact gon p hp
            | some q =>
              cases eh : zwhc (tV B n) g i2 with
              | none => exact gon p hp
              | some h =>
                have := (zidx_lt _ _ _ ep).2
                show zud (gG g).2 q (nI h) p = -2
                rw [zud_n (by omega)]; exact gon p hp
          · have z : (zwhcW (tV B n) (zpsn B n) g i2 (zwhoW (tV B n) (zpsn B n) g i1 (gW g))).1 = 0 := z
            show (∀ h, h < (gH g).1 → _) ∧ (∀ p, p < (gP g).1 → _) ∧ (∀ p, (zwhp (tV B n) g i1).elim (gG g).2 (fun p => (zwhc (tV B n) g i2).elim (gG g).2 fun h => zud (gG g).2 p (nI h)) p = -2 ∨ zin ((zwhp (tV B n) g i1).elim (gG g).2 (fun p => (zwhc (tV B n) g i2).elim (gG g).2 fun h => zud (gG g).2 p (nI h)) p) (gH g).1) ∧ ∀ p q, (zwhp (tV B n) g i1).elim (gG g).2 (fun p => (zwhc (tV B n) g i2).elim (gG g).2 fun h => zud (gG g).2 p (nI h)) p = (zwhp (tV B n) g i1).elim (gG g).2 (fun p => (zwhc (tV B n) g i2).elim (gG g).2 fun h => zud (gG g).2 p (nI h)) q → ¬ (zwhp (tV B n) g i1).elim (gG g).2 (fun p => (zwhc (tV B n) g i2).elim (gG g).2 fun h => zud (gG g).2 p (nI h)) p = -2 → p = q
            unfold zwhcW at z
            cases eh : zwhc (tV B n) g i2 with
            | none => rw [eh] at z; exact absurd z (zkeep_0 (by decide))
            | some h =>
              have hh := (zidx_lt _ _ _ eh).2
              rw [eh] at z
              have z : (if ztkn (gG g).2 h (gP g).1 0 = true then zkeep 3 (zpsn B n i2) (zwhoW (tV B n) (zpsn B n) g i1 (gW g)) else zwhoW (tV B n) (zpsn B n) g i1 (gW g)).1 = 0 := z
              by_cases ht : ztkn (gG g).2 h (gP g).1 0 = true
              · rw [if_pos ht] at z; exact absurd z (zkeep_0 (by decide))
              · rw [if_neg ht] at z
                unfold zwhoW at z
                cases ep : zwhp (tV B n) g i1 with
                | none => rw [ep] at z; exact absurd z (zkeep_0 (by decide))
                | some p =>
                  have hp := (zidx_lt _ _ _ ep).2
                  rw [ep] at z
                  have z : (if (gG g).2 p < 0 then gW g else zkeep 3 (zpsn B n i1) (gW g)).1 = 0 := z
                  by_cases hneg : (gG g).2 p < 0
                  · rw [if_pos hneg] at z
                    obtain ⟨g1, g2, g3, g4⟩ := gw z
                    have nth : ∀ q, ¬ (gG g).2 q = nI h := fun q e => by
                      rcases Nat.lt_or_ge q (gP g).1 with y | y
                      · exact ht (ztkn_t (gP g).1 0 q (by omega) (by omega) e)
                      · exact z_ne2 (n := h) (by omega) (e.symm.trans (gon q y))
                    refine ⟨g1, g2, fun q => ?_, fun q r e hq => ?_⟩
                    · show zud (gG g).2 p (nI h) q = -2 ∨ zin (zud (gG g).2 p (nI h) q) (gH g).1
                      by_cases e2 : q = p
                      · rw [e2, zud_s]; exact Or.inr ⟨h, by omega, rfl⟩
                      · rw [zud_n e2]; exact g3 q
                    · have e : zud (gG g).2 p (nI h) q = zud (gG g).2 p (nI h) r := e
                      have hq : ¬ zud (gG g).2 p (nI h) q = -2 := hq
                      by_cases e2 : q = p
                      · by_cases e3 : r = p
                        · rw [e2, e3]
                        · rw [e2, zud_s, zud_n e3] at e; exact absurd e.symm (nth r)
                      · by_cases e3 : r = p
                        · rw [e3, zud_s, zud_n e2] at e; exact absurd e (nth q)
                        · rw [zud_n e2, zud_n e3] at e
                          rw [zud_n e2] at hq
                          exact g4 q r e hq
                  · rw [if_neg hneg] at z; exact absurd z (zkeep_0 (by decide))
        · cases h
      · split at h
        · obtain ⟨b, eb, h⟩ := zbi_inr h
          cases h
          exact ⟨⟨gl, gon, fun z => gw (zone_0 (by decide) eb z)⟩, hH, hP⟩
        · split at h
          · obtain ⟨b, eb, h⟩ := zbi_inr h
            cases h
            exact ⟨⟨gl, gon, fun z => gw (zone_0 (by decide) eb z)⟩, hH, hP⟩
          · split at h
            · obtain ⟨b, eb, h⟩ := zbi_inr h
              cases h
              refine ⟨⟨fun k w e => ?_, gon, gw⟩, hH, hP⟩
              have e : zud (gL g) (tK B n i - 259) (some b.2) k = some w := e
              by_cases e2 : k = tK B n i - 259
              · rw [e2, zud_s] at e
                cases e
                exact zlaw_ok eb
              · rw [zud_n e2] at e; exact gl k w e
            · cases h
theorem zall_ok : ∀ r i g g', zall (tK B n) (tV B n) (zpsn B n) r i g = .inr g' → zgOK g → (gH g).1 ≤ 7 → (gP g).1 ≤ 6 → zgOK g' ∧ (gH g').1 ≤ 7 ∧ (gP g').1 ≤ 6
  | 0, i, g, g', h, _, _, _ => by rw [zall] at h; cases h
  | r + 1, i, g, g', h, hg, hH, hP => by
    rw [zall] at h
    split at h
    · cases h; exact ⟨hg, hH, hP⟩
    · obtain ⟨b, eb, h⟩ := zbi_inr h
      obtain ⟨g1, g2, g3⟩ := ztl_ok eb hg hH hP
      exact zall_ok r _ _ _ h g1 g2 g3
theorem zg0_ok : zgOK zg0 := ⟨fun k w e => (by cases e), fun p _ => rfl, fun _ => ⟨fun h hh => absurd hh (Nat.not_lt_zero _), fun h hh => absurd hh (Nat.not_lt_zero _), fun p => Or.inl rfl, fun p q _ hp => absurd rfl hp⟩⟩
theorem zXg_ok {g : zG} (h : zR1 B n = .inr g) (hw : (gW g).1 = 0) : zX_ok (zXg g) ∧ zW (xH (zXg g)) (xP (zXg g)) (zSg g) := by
  obtain ⟨⟨gl, gon, gw⟩, hH, hP⟩ := zall_ok _ _ _ _ h zg0_ok (by decide) (by decide)
  obtain ⟨g1, g2, g3, g4⟩ := gw hw
  refine ⟨⟨hH, hP, fun h hh => (g1 h hh).1, fun h hh => (g1 h hh).2, fun k hk => ?_⟩, g2, fun p hp => g3 p, fun p q _ _ => g4 p q, fun p hp => ⟨p, hp, rfl⟩, fun p q hp hq e => ?_, fun p hp => ⟨0, by decide, rfl⟩, fun h hh => ⟨0, by decide, rfl⟩⟩
  · show zlwOK ((gL g k).getD (zplain k))
    cases e : gL g k with
    | none => exact zplain_ok k
    | some w => exact gl k w e
  · have hp : p < (gP g).1 := hp
    have hq : q < (gP g).1 := hq
    exact (nI_eq (by omega) (by omega)).mp e
end
