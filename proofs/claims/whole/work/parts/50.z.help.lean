/-! helpers of the second layer -/
theorem qok_mk {h : qH} {a t n : Nat} {i : Int32} (hs : qS h a = .inr (t, n)) (hi : vp_in i n) : qok h a t i := ⟨n, hs, hi⟩
def zcp (I : zI) (a : Nat) (f : Nat → Int32) : zI := fun x => if x = a then f else I x
def zcpok (sp dp n : Int32) (n0 n1 : Nat) : Prop := ¬ sp < 0 ∧ ¬ dp < 0 ∧ ¬ n < 0 ∧ sp.toNatClampNeg + n.toNatClampNeg ≤ n0 ∧ dp.toNatClampNeg + n.toNatClampNeg ≤ n1
theorem qcpok_mk {h : qH} {a0 a1 n0 n1 : Nat} {sp dp n : Int32} (h0 : qS h a0 = .inr (0, n0)) (h1 : qS h a1 = .inr (0, n1)) (hz : zcpok sp dp n n0 n1) : qcpok h a0 a1 sp dp n := ⟨n0, n1, h0, h1, hz⟩
/-- where a sign stands among ; = + - * / < ( ) -/
def zix (c : Int32) : Int32 := if c = 59 then 0 else if c = 61 then 1 else if c = 43 then 2 else if c = 45 then 3 else if c = 42 then 4 else if c = 47 then 5 else if c = 60 then 6 else if c = 40 then 7 else if c = 41 then 8 else -1
theorem zb8 {c : Int32} (h0 : ¬ c < 0) (h1 : ¬ (255 : Int32) < c) {v : Int32} (hv0 : 0 ≤ v.toInt) (hv1 : v.toInt < 128) : v = c.toInt8.toInt32 ↔ c = v := by
  have c0 : 0 ≤ c.toInt := by
    have := Int32.not_lt.mp h0
    simpa using Int32.le_iff_toInt_le.mp this
  have c1 : c.toInt ≤ 255 := by
    have := Int32.not_lt.mp h1
    simpa using Int32.le_iff_toInt_le.mp this
  have e : (c.toInt8.toInt32).toInt = (c.toInt).bmod 256 := by
    simp [Int32.toInt_toInt8]
  rw [← Int32.toInt_inj, ← Int32.toInt_inj, e]
  constructor
  · intro h
    rw [h] at hv0 hv1
    have : c.toInt = c.toInt.bmod 256 ∨ c.toInt = c.toInt.bmod 256 + 256 := by
      unfold Int.bmod
      simp only []
      split <;> omega
    omega
  · intro h
    rw [h]
    unfold Int.bmod
    simp only []
    split <;> omega
theorem z_step {N k : Nat} {c : Int32} {j : Nat} {h : qH} {Q : Int32 → qH → Prop} (hj : j < 9) (h0 : ¬ c < 0) (h1 : ¬ (255 : Int32) < c) (b : Int32) (hb : (bytJS.getD 1 []).getD j 0 = b) (hb0 : 0 ≤ b.toInt) (hb1 : b.toInt < 128) (hne : c = b → Q (nI j) h) (hk : ¬ c = b → w_Latin1_indexOfChar_7 N k 1 9 c.toInt8.toInt32 (nI (j + 1)) h Q) : w_Latin1_indexOfChar_7 N (k + 1) 1 9 c.toInt8.toInt32 (nI j) h Q := by
  rw [w_Latin1_indexOfChar_7]
  refine ⟨fun q => absurd q (nI_ge (a := j) (b := 9) (by omega) (by decide)), fun _ => ⟨by decide, vp_in_nI (n := j) (N := 9) hj (by decide), ?_⟩⟩
  rw [nI_clamp (by omega), hb]
  refine ⟨fun q => ?_, fun q => ?_⟩
  · rw [nI_1]
    exact hk (fun z => q ((zb8 h0 h1 hb0 hb1).mpr z))
  · exact hne ((zb8 h0 h1 hb0 hb1).mp q)
theorem z_indexOf (N : Nat) (hN : 20 ≤ N) (c : Int32) (h : qH) (Q : Int32 → qH → Prop) (hq : Q (zix c) h) : w_String_indexOf_I_I N 1 c h Q := by
  have hneg : (c < 0 ∨ (255 : Int32) < c) → zix c = -1 := by
    intro hc
    have key : ∀ v : Int32, 0 ≤ v.toInt → v.toInt < 128 → ¬ c = v := by
      intro v v0 v1 e
      subst e
      rcases hc with q | q
      · have := Int32.lt_iff_toInt_lt.mp q
        simp at this
        omega
      · have := Int32.lt_iff_toInt_lt.mp q
        simp at this
        omega
    unfold zix
    rw [if_neg (key 59 (by decide) (by decide)), if_neg (key 61 (by decide) (by decide)), if_neg (key 43 (by decide) (by decide)), if_neg (key 45 (by decide) (by decide)), if_neg (key 42 (by decide) (by decide)), if_neg (key 47 (by decide) (by decide)), if_neg (key 60 (by decide) (by decide)), if_neg (key 40 (by decide) (by decide)), if_neg (key 41 (by decide) (by decide))]
  refine ⟨by decide, by decide, fun q => absurd q (by decide), fun _ => ⟨by decide, fun q => absurd rfl q, fun _ => ⟨Or.inr rfl, fun q => absurd q (by decide), fun _ => ⟨by decide, by decide, by decide, by decide, by decide, ?_⟩⟩⟩⟩
  refine ⟨fun q => absurd q (by decide), fun _ => ⟨by decide, rfl, ?_⟩⟩
  show w_Latin1_indexOf N 1 c 0 (nI 9 >>> ((0 : Int32) &&& 31)) h Q
  rw [show nI 9 >>> ((0 : Int32) &&& 31) = 9 by decide]
  refine ⟨fun q => ⟨Or.inl rfl, fun z => absurd rfl z, fun _ => ?_⟩, fun q0 => ⟨fun q => ⟨Or.inl rfl, fun z => absurd rfl z, fun _ => ?_⟩, fun q1 => ⟨Or.inr rfl, fun _ => ?_, fun z => absurd z (by decide)⟩⟩⟩
  · rw [← hneg (Or.inl q)]; exact hq
  · rw [← hneg (Or.inr q)]; exact hq
  · intro y4 e4
    refine ⟨by decide, fun y6 e6 => ?_⟩
    have e4 : y4 = nI 0 := by rw [e4]; decide
    have e6 : y6 = 9 := by rw [e6]; decide
    subst e4 e6
    refine ⟨fun _ => ?_, fun z => absurd (by decide) z⟩
    show w_Latin1_indexOfChar_7 N N 1 9 c.toInt8.toInt32 (nI 0) h Q
    obtain ⟨k, rfl⟩ : ∃ k, N = k + 10 := ⟨N - 10, by omega⟩
    unfold zix at hq
    refine z_step (j := 0) (by decide) q0 q1 59 (by decide) (by decide) (by decide) (fun z => ?_) (fun z0 => ?_)
    · subst z; exact hq
    rw [if_neg z0] at hq
    refine z_step (j := 1) (by decide) q0 q1 61 (by decide) (by decide) (by decide) (fun z => ?_) (fun z1 => ?_)
    · subst z; exact hq
    rw [if_neg z1] at hq
    refine z_step (j := 2) (by decide) q0 q1 43 (by decide) (by decide) (by decide) (fun z => ?_) (fun z2 => ?_)
    · subst z; exact hq
    rw [if_neg z2] at hq
    refine z_step (j := 3) (by decide) q0 q1 45 (by decide) (by decide) (by decide) (fun z => ?_) (fun z3 => ?_)
    · subst z; exact hq
    rw [if_neg z3] at hq
    refine z_step (j := 4) (by decide) q0 q1 42 (by decide) (by decide) (by decide) (fun z => ?_) (fun z4 => ?_)
    · subst z; exact hq
    rw [if_neg z4] at hq
    refine z_step (j := 5) (by decide) q0 q1 47 (by decide) (by decide) (by decide) (fun z => ?_) (fun z5 => ?_)
    · subst z; exact hq
    rw [if_neg z5] at hq
    refine z_step (j := 6) (by decide) q0 q1 60 (by decide) (by decide) (by decide) (fun z => ?_) (fun z6 => ?_)
    · subst z; exact hq
    rw [if_neg z6] at hq
    refine z_step (j := 7) (by decide) q0 q1 40 (by decide) (by decide) (by decide) (fun z => ?_) (fun z7 => ?_)
    · subst z; exact hq
    rw [if_neg z7] at hq
    refine z_step (j := 8) (by decide) q0 q1 41 (by decide) (by decide) (by decide) (fun z => ?_) (fun z8 => ?_)
    · subst z; exact hq
    rw [if_neg z8] at hq
    rw [w_Latin1_indexOfChar_7]
    exact ⟨fun _ => hq, fun z => absurd (by decide) z⟩
