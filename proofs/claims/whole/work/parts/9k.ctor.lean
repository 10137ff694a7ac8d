/-! the start: the constructors over a heap that grows -/
abbrev zRf : Type := Nat → Nat → Nat
def zHn (n : Nat) (I : zI) (J : zJ) (R : zRf) : qH := (n, fun a => if a ≤ n then zS a else .inl 99, I, J, R)
def z3 (n : Nat) (I : zI) (J : zJ) (R : zRf) : Prop := (∀ a k, n < a → I a k = 0) ∧ (∀ a k, n < a → J a k = 0) ∧ ∀ a k, n < a → R a k = 0
section
variable {n m x0 f c a k : Nat} {I : zI} {J : zJ} {R R0 : zRf}
theorem hnS (h : a ≤ n) : qS (zHn n I J R) a = zS a := if_pos h
theorem hnok {t len : Nat} {i : Int32} (h : a ≤ n) (hs : zS a = .inr (t, len)) (hi : vp_in i len) : qok (zHn n I J R) a t i := ⟨len, (hnS h).trans hs, hi⟩
theorem z3.up (h : z3 n I J R) (hm : n ≤ m) : z3 m I J R := ⟨fun a k q => h.1 a k (by omega), fun a k q => h.2.1 a k (by omega), fun a k q => h.2.2 a k (by omega)⟩
theorem z3.r {v : Nat} (h : z3 n I J R) (ha : a ≤ n) : z3 n I J (qu R a k v) := ⟨h.1, h.2.1, fun b j q => by rw [qu_off (Or.inl (by omega))]; exact h.2.2 b j q⟩
theorem z3.i {v : Int32} (h : z3 n I J R) (ha : a ≤ n) : z3 n (qu I a k v) J R := ⟨fun b j q => by rw [qu_off (Or.inl (by omega))]; exact h.1 b j q, h.2⟩
theorem z3.j {v : Int64} (h : z3 n I J R) (ha : a ≤ n) : z3 n I (qu J a k v) R := ⟨h.1, fun b j q => by rw [qu_off (Or.inl (by omega))]; exact h.2.1 b j q, h.2.2⟩
theorem hn_new {sh : Nat ⊕ (Nat × Nat)} (hs : zS (n + 1) = sh) (h : z3 n I J R) : qnew (zHn n I J R) sh = zHn (n + 1) I J R := by
  unfold qnew zHn
  refine Prod.ext rfl (Prod.ext ?_ (Prod.ext ?_ (Prod.ext ?_ ?_)))
  · funext a
    show (if a = n + 1 then sh else if a ≤ n then zS a else .inl 99) = if a ≤ n + 1 then zS a else .inl 99
    by_cases e : a = n + 1
    · rw [if_pos e, e, if_pos (Nat.le_refl _), hs]
    · rw [if_neg e]
      by_cases l : a ≤ n
      · rw [if_pos l, if_pos (by omega)]
      · rw [if_neg l, if_neg (by omega)]
  · funext a k
    show (if a = n + 1 then 0 else I a k) = I a k
    by_cases e : a = n + 1
    · rw [if_pos e, h.1 a k (by omega)]
    · rw [if_neg e]
  · funext a k
    show (if a = n + 1 then 0 else J a k) = J a k
    by_cases e : a = n + 1
    · rw [if_pos e, h.2.1 a k (by omega)]
    · rw [if_neg e]
  · funext a k
    show (if a = n + 1 then 0 else R a k) = R a k
    by_cases e : a = n + 1
    · rw [if_pos e, h.2.2 a k (by omega)]
    · rw [if_neg e]
/-- a new row of rows -/
def zrw (R : zRf) (n m : Nat) : zRf := fun a j => if a = n + 1 ∧ j < m then n + 2 + j else R a j
theorem hn_new2 {r w : Nat} (hs : zS (n + 1) = .inr (5, r)) (hs2 : ∀ j, j < r → zS (n + 2 + j) = .inr (0, w)) (h : z3 n I J R) : qnew2 (zHn n I J R) r w = zHn (n + 1 + r) I J (zrw R n r) := by
  unfold qnew2 zHn
  refine Prod.ext rfl (Prod.ext ?_ (Prod.ext ?_ (Prod.ext ?_ ?_)))
  · funext a
    show (if a = n + 1 then .inr (5, r) else if n + 1 < a ∧ a ≤ n + 1 + r then .inr (0, w) else if a ≤ n then zS a else .inl 99) = if a ≤ n + 1 + r then zS a else .inl 99
    by_cases e : a = n + 1
    · rw [if_pos e, e, if_pos (by omega), hs]
    · rw [if_neg e]
      by_cases l : n + 1 < a ∧ a ≤ n + 1 + r
      · rw [if_pos l, if_pos (by omega), ← hs2 (a - (n + 2)) (by omega)]
        congr 1
        omega
      · rw [if_neg l]
        by_cases l2 : a ≤ n
        · rw [if_pos l2, if_pos (by omega)]
        · rw [if_neg l2, if_neg (by omega)]
  · funext a k
    show (if n < a ∧ a ≤ n + 1 + r then 0 else I a k) = I a k
    by_cases e : n < a ∧ a ≤ n + 1 + r
    · rw [if_pos e, h.1 a k (by omega)]
    · rw [if_neg e]
  · funext a k
    show (if n < a ∧ a ≤ n + 1 + r then 0 else J a k) = J a k
    by_cases e : n < a ∧ a ≤ n + 1 + r
    · rw [if_pos e, h.2.1 a k (by omega)]
    · rw [if_neg e]
  · funext a k
    show (if a = n + 1 then (if k < r then n + 2 + k else 0) else if n < a ∧ a ≤ n + 1 + r then 0 else R a k) = if a = n + 1 ∧ k < r then n + 2 + k else R a k
    by_cases e : a = n + 1
    · rw [if_pos e]
      by_cases l : k < r
      · rw [if_pos l, if_pos ⟨e, l⟩]
      · rw [if_neg l, if_neg (fun z => l z.2), h.2.2 a k (by omega)]
    · rw [if_neg e, if_neg (c := a = n + 1 ∧ k < r) (fun z => e z.1)]
      by_cases l : n < a ∧ a ≤ n + 1 + r
      · rw [if_pos l, h.2.2 a k (by omega)]
      · rw [if_neg l]
theorem z3.rw' {r : Nat} (h : z3 n I J R) : z3 (n + 1 + r) I J (zrw R n r) := ⟨fun a k q => h.1 a k (by omega), fun a k q => h.2.1 a k (by omega), fun a k q => by
  unfold zrw
  rw [if_neg (by omega)]
  exact h.2.2 a k (by omega)⟩
/-! references told -/
def zlu : List (Nat × Nat) → Nat → Nat
  | [], _ => 0
  | (i, v) :: l, k => if k = i then v else zlu l k
theorem zR_big (a : Nat) {k : Nat} (hk : 72 ≤ k) : zR a k = 0 := by
  have hb : ∀ c, c < 73 → Nat.blt k c = false := fun c hc => by
    have : ¬ k < c := by omega
    rw [← Bool.not_eq_true]
    intro z
    exact this (Nat.le_of_ble_eq_true z)
  simp [zR, hb]
def zR0 (a : Nat) : Bool := (List.range 72).all fun k => zR a k == 0
def zRL (a : Nat) (L : List (Nat × Nat)) : Bool := ((List.range 72).all fun k => zlu L k == zR a k) && L.all fun q => decide (q.1 < 72)
theorem zR0_ok (h : zR0 a = true) : ∀ k, zR a k = 0 := fun k => by
  rcases Nat.lt_or_ge k 72 with z | z
  · have := List.all_eq_true.mp h k (List.mem_range.mpr z)
    exact beq_iff_eq.mp this
  · exact zR_big a z
theorem zlu_big : ∀ (L : List (Nat × Nat)) {k : Nat}, (L.all fun q => decide (q.1 < 72)) = true → 72 ≤ k → zlu L k = 0
  | [], _, _, _ => rfl
  | (i, v) :: l, k, h, hk => by
    rw [List.all_cons, Bool.and_eq_true] at h
    have := of_decide_eq_true h.1
    rw [zlu, if_neg (by omega)]
    exact zlu_big l h.2 hk
theorem zRL_ok {L : List (Nat × Nat)} (h : zRL a L = true) : ∀ k, zlu L k = zR a k := fun k => by
  unfold zRL at h
  rw [Bool.and_eq_true] at h
  rcases Nat.lt_or_ge k 72 with z | z
  · have := List.all_eq_true.mp h.1 k (List.mem_range.mpr z)
    exact beq_iff_eq.mp this
  · rw [zlu_big L h.2 z, zR_big a z]
def zKp (n x0 : Nat) (R0 R : zRf) (L : List (Nat × Nat)) : Prop := (∀ k, R x0 k = zlu L k) ∧ (∀ a k, a < x0 → R a k = R0 a k) ∧ ∀ a, x0 < a → a ≤ n → ∀ k, R a k = zR a k
theorem qu_lu {L : List (Nat × Nat)} {v : Nat} (h : ∀ k, R x0 k = zlu L k) : ∀ k, qu R x0 f v x0 k = zlu ((f, v) :: L) k := fun k => by
  rw [zlu]
  by_cases e : k = f
  · rw [e, qu_same, if_pos rfl]
  · rw [qu_off (Or.inr e), if_neg e]; exact h k
theorem zKp.st {L : List (Nat × Nat)} {v : Nat} (h : zKp n x0 R0 R L) : zKp n x0 R0 (qu R x0 f v) ((f, v) :: L) := ⟨qu_lu h.1, fun a k q => by rw [qu_off (Or.inl (by omega))]; exact h.2.1 a k q, fun a q1 q2 k => by rw [qu_off (Or.inl (by omega))]; exact h.2.2 a q1 q2 k⟩
theorem zKp.more {L : List (Nat × Nat)} (h : zKp n x0 R0 R L) (h3 : z3 n I J R) (hz : ∀ k, zR (n + 1) k = 0) : zKp (n + 1) x0 R0 R L := ⟨h.1, h.2.1, fun a q1 q2 k => by
  by_cases e : a = n + 1
  · rw [e, hz, h3.2.2 _ _ (by omega)]
  · exact h.2.2 a q1 (by omega) k⟩
theorem zKp.al {L : List (Nat × Nat)} {v : Nat} (h : zKp n x0 R0 R L) (h3 : z3 n I J R) (hz : ∀ k, zR (n + 1) k = 0) : zKp (n + 1) x0 R0 (qu R x0 f v) ((f, v) :: L) := (h.more h3 hz).st
theorem zKp.fin {L : List (Nat × Nat)} (h : zKp n x0 R0 R L) (hL : ∀ k, zlu L k = zR x0 k) : ∀ a, x0 ≤ a → a ≤ n → ∀ k, R a k = zR a k := fun a q1 q2 k => by
  by_cases e : a = x0
  · rw [e, h.1, hL]
  · exact h.2.2 a (by omega) q2 k
/-- a constructor within a constructor -/
theorem zKp.sub {L : List (Nat × Nat)} {R' : zRf} (h : zKp n x0 R0 R L) (hx : x0 ≤ n) (h1 : ∀ a k, a < n + 1 → R' a k = R a k) (h2 : ∀ a, n + 1 ≤ a → a ≤ m → ∀ k, R' a k = zR a k) : zKp m x0 R0 R' L := ⟨fun k => by rw [h1 _ _ (by omega)]; exact h.1 k, fun a k q => by rw [h1 _ _ (by omega)]; exact h.2.1 a k q, fun a q1 q2 k => by
  rcases Nat.lt_or_ge n a with z | z
  · exact h2 a (by omega) q2 k
  · rw [h1 _ _ (by omega)]; exact h.2.2 a q1 z k⟩
/-! steps -/
theorem k_alloc {sh : Nat ⊕ (Nat × Nat)} {C1 C2 : Prop} {P : Nat → qH → Prop} (c1 : C1) (c2 : C2) (h3 : z3 n I J R) (hs : zS (n + 1) = sh) (hx : x0 ≤ n) (hc : zS x0 = .inl c) (hq : z3 (n + 1) I J (qu R x0 f (n + 1)) → P (n + 1) (zHn (n + 1) I J (qu R x0 f (n + 1)))) : C1 ∧ C2 ∧ ∀ y : Nat, y = qN (zHn n I J R) + 1 → ∀ h4 : qH, h4 = qnew (zHn n I J R) sh → (qS h4 x0 = .inl c ∧ ∀ h7 : qH, h7 = qsR h4 x0 f y → P y h7) := by
  refine ⟨c1, c2, fun y ey h4 e4 => ?_⟩
  rw [hn_new hs h3] at e4
  have ey : y = n + 1 := ey
  subst e4 ey
  exact ⟨(hnS (by omega)).trans hc, fun h7 e7 => by subst e7; exact hq ((h3.up (by omega)).r (by omega))⟩
theorem k_new {sh : Nat ⊕ (Nat × Nat)} {C1 C2 : Prop} {P : Nat → qH → Prop} (c1 : C1) (c2 : C2) (h3 : z3 n I J R) (hs : zS (n + 1) = sh) (hq : z3 (n + 1) I J R → P (n + 1) (zHn (n + 1) I J R)) : C1 ∧ C2 ∧ ∀ y : Nat, y = qN (zHn n I J R) + 1 → ∀ h4 : qH, h4 = qnew (zHn n I J R) sh → P y h4 := by
  refine ⟨c1, c2, fun y ey h4 e4 => ?_⟩
  rw [hn_new hs h3] at e4
  have ey : y = n + 1 := ey
  subst e4 ey
  exact hq (h3.up (by omega))
theorem k_rows {r w : Nat} {C1 C2 : Prop} {P : Nat → qH → Prop} (c1 : C1) (c2 : C2) (h3 : z3 n I J R) (hs : zS (n + 1) = .inr (5, r)) (hs2 : ∀ j, j < r → zS (n + 2 + j) = .inr (0, w)) (hx : x0 ≤ n) (hc : zS x0 = .inl c) (hq : z3 (n + 1 + r) I J (qu (zrw R n r) x0 f (n + 1)) → P (n + 1) (zHn (n + 1 + r) I J (qu (zrw R n r) x0 f (n + 1)))) : C1 ∧ C2 ∧ ∀ y : Nat, y = qN (zHn n I J R) + 1 → ∀ h4 : qH, h4 = qnew2 (zHn n I J R) r w → (qS h4 x0 = .inl c ∧ ∀ h7 : qH, h7 = qsR h4 x0 f y → P y h7) := by
  refine ⟨c1, c2, fun y ey h4 e4 => ?_⟩
  rw [hn_new2 hs hs2 h3] at e4
  have ey : y = n + 1 := ey
  subst e4 ey
  exact ⟨(hnS (by omega)).trans hc, fun h7 e7 => by subst e7; exact hq (h3.rw'.r (by omega))⟩
theorem zKp.rows {L : List (Nat × Nat)} {r v : Nat} (h : zKp n x0 R0 R L) (h3 : z3 n I J R) (hx : x0 ≤ n) (hz : ∀ j k, j < r → zR (n + 2 + j) k = 0) (hr : ∀ k, zR (n + 1) k = if k < r then n + 2 + k else 0) : zKp (n + 1 + r) x0 R0 (qu (zrw R n r) x0 f v) ((f, v) :: L) := by
  have e : ∀ a k, a ≤ n → zrw R n r a k = R a k := fun a k q => by unfold zrw; rw [if_neg (by omega)]
  have h' : zKp (n + 1 + r) x0 R0 (zrw R n r) L := ⟨fun k => by rw [e _ _ hx]; exact h.1 k, fun a k q => by rw [e _ _ (by omega)]; exact h.2.1 a k q, fun a q1 q2 k => by
    rcases Nat.lt_or_ge n a with z | z
    · unfold zrw
      by_cases e2 : a = n + 1
      · rw [e2, hr]
        by_cases l : k < r
        · rw [if_pos ⟨rfl, l⟩, if_pos l]
        · rw [if_neg (fun z => l z.2), if_neg l]; exact h3.2.2 _ _ (by omega)
      · rw [if_neg (fun z => e2 z.1), h3.2.2 _ _ (by omega)]
        have := hz (a - (n + 2)) k (by omega)
        rw [show n + 2 + (a - (n + 2)) = a by omega] at this
        exact this.symm
    · rw [e _ _ z]; exact h.2.2 a q1 z k⟩
  exact h'.st
theorem k_setR {v : Nat} {P : qH → Prop} (hx : x0 ≤ n) (hc : zS x0 = .inl c) (hq : P (zHn n I J (qu R x0 f v))) : qS (zHn n I J R) x0 = .inl c ∧ ∀ h7 : qH, h7 = qsR (zHn n I J R) x0 f v → P h7 := ⟨(hnS hx).trans hc, fun h7 e7 => by subst e7; exact hq⟩
theorem k_setI {v : Int32} {P : qH → Prop} (hx : x0 ≤ n) (hc : zS x0 = .inl c) (hq : P (zHn n (qu I x0 f v) J R)) : qS (zHn n I J R) x0 = .inl c ∧ ∀ h7 : qH, h7 = qsI (zHn n I J R) x0 f v → P h7 := ⟨(hnS hx).trans hc, fun h7 e7 => by subst e7; exact hq⟩
end
/-! what a constructor leaves -/
def zPo (x0 m : Nat) (I I' : zI) (R R' : zRf) : Prop := (∀ a k, a < x0 → I' a k = I a k) ∧ (∀ a k, a < x0 → R' a k = R a k) ∧ ∀ a, x0 ≤ a → a ≤ m → ∀ k, R' a k = zR a k
theorem zKp.zero {n : Nat} {I : zI} {J : zJ} {R : zRf} (h3 : z3 n I J R) : zKp (n + 1) (n + 1) R R [] := ⟨fun k => h3.2.2 _ _ (by omega), fun _ _ _ => rfl, fun a q1 q2 => absurd q1 (by omega)⟩
section
variable {x0 : Nat} {I : zI} {J : zJ} {R : zRf}
theorem k_Law (hS : zS x0 = .inl 0) (s1 : zS (x0 + 1) = .inr (0, 400)) (s2 : zS (x0 + 2) = .inr (0, 400)) (hp : 0 < x0) (hL : ∀ k, zlu [(1, x0 + 2), (0, x0 + 1)] k = zR x0 k) (z1 : ∀ k, zR (x0 + 1) k = 0) (z2 : ∀ k, zR (x0 + 2) k = 0) (h3 : z3 x0 I J R) (hk : zKp x0 x0 R R []) {Q : qH → Prop} (hq : ∀ (I' : zI) (R' : zRf), z3 (x0 + 2) I' J R' → zPo x0 (x0 + 2) I I' R R' → Q (zHn (x0 + 2) I' J R')) : w_Law_init 5000 x0 (zHn x0 I J R) Q := by
  refine ⟨hp, k_alloc (by decide) (by decide) h3 s1 (Nat.le_refl _) hS (fun g1 => k_alloc (by decide) (by decide) g1 s2 (by omega) hS (fun g2 => k_setI (by omega) hS ⟨by decide, by decide, hq _ _ (g2.i (by omega)) ⟨fun a k q => qu_off (Or.inl (by omega)), ?_, ?_⟩⟩))⟩
  · exact ((hk.al h3 z1).al g1 z2).2.1
  · exact ((hk.al h3 z1).al g1 z2).fin hL
/-! a State begins -/
theorem k_begin7 {n : Nat} (hx : x0 + 5 ≤ n) (hn : 13 ≤ n) (hst : zSt x0) (r0 : R x0 0 = 8) (r2 : R x0 2 = x0 + 1) (r3 : R x0 3 = x0 + 2) (r4 : R x0 4 = x0 + 3) (r5 : R x0 5 = x0 + 4) (t4 : R 8 4 = 11) (t6 : R 8 6 = 13) {Q : qH → Prop} {K : Nat → qH → Prop} : ∀ r i k (I : zI), i + r = 6 → r < k → (∀ I' : zI, (∀ a l, ¬ (x0 + 1 ≤ a ∧ a ≤ x0 + 4) → I' a l = I a l) → K x0 (zHn n I' J R)) → w_State_begin_7 5000 k x0 (nI i) (zHn n I J R) Q K
  | _, _, 0, _, _, hk, _ => absurd hk (Nat.not_lt_zero _)
  | 0, i, k + 1, I, hi, hk, hq => z_y (nI_le (a := 6) (by omega) (by omega)) (hq I (fun _ _ _ => rfl))
  | r + 1, i, k + 1, I, hi, hk, hq => by
    obtain ⟨a0, _, _, _, _, _, _, b1, b2, b3, b4, b5⟩ := id hst
    have v : vp_in (nI i) 6 := vp_in_nI (by omega) (by decide)
    have S0 : ∀ I', qS (zHn n I' J R) x0 = .inl 6 := fun I' => (hnS (by omega)).trans a0
    have S8 : ∀ I', qS (zHn n I' J R) (R x0 0) = .inl 8 := fun I' => by rw [r0]; exact (hnS (by omega)).trans rfl
    rw [w_State_begin_7]; dsimp only; rw [nI_1]
    refine z_n (nI_ge (b := 6) (by omega) (by decide)) ⟨S0 I, S8 I, ?_, ?_, fun h6 e6 => ?_⟩
    · show qok _ (R (R x0 0) 4) 0 _
      rw [r0, t4]; exact hnok (by omega) rfl v
    · show qok _ (R x0 2) 0 _
      rw [r2]; exact hnok (by omega) b1 v
    · have e6 : h6 = zHn n (qu I (x0 + 1) (nI i).toNatClampNeg (I (R (R x0 0) 4) (nI i).toNatClampNeg)) J R := by rw [e6]; show qsI _ (R x0 2) _ _ = _; rw [r2]; rfl
      subst e6
      refine ⟨S0 _, S8 _, ?_, ?_, fun h11 e11 => ?_⟩
      · show qok _ (R (R x0 0) 6) 0 _
        rw [r0, t6]; exact hnok (by omega) rfl v
      · show qok _ (R x0 3) 0 _
        rw [r3]; exact hnok (by omega) b2 v
      · obtain ⟨w, ew⟩ : ∃ w, w = qI (zHn n (qu I (x0 + 1) (nI i).toNatClampNeg (I (R (R x0 0) 4) (nI i).toNatClampNeg)) J R) (qR (zHn n (qu I (x0 + 1) (nI i).toNatClampNeg (I (R (R x0 0) 4) (nI i).toNatClampNeg)) J R) (qR (zHn n (qu I (x0 + 1) (nI i).toNatClampNeg (I (R (R x0 0) 4) (nI i).toNatClampNeg)) J R) x0 0) 6) (nI i).toNatClampNeg := ⟨_, rfl⟩
        rw [← ew] at e11
        have e11 : h11 = zHn n (qu (qu I (x0 + 1) (nI i).toNatClampNeg (I (R (R x0 0) 4) (nI i).toNatClampNeg)) (x0 + 2) (nI i).toNatClampNeg w) J R := by rw [e11]; show qsI _ (R x0 3) _ _ = _; rw [r3]; rfl
        subst e11
        refine ⟨S0 _, ?_, fun h14 e14 => ?_⟩
        · show qok _ (R x0 4) 0 _
          rw [r4]; exact hnok (by omega) b3 v
        · have e14 : h14 = zHn n (qu (qu (qu I (x0 + 1) (nI i).toNatClampNeg (I (R (R x0 0) 4) (nI i).toNatClampNeg)) (x0 + 2) (nI i).toNatClampNeg w) (x0 + 3) (nI i).toNatClampNeg (nI i)) J R := by rw [e14]; show qsI _ (R x0 4) _ _ = _; rw [r4]; rfl
          subst e14
          refine ⟨S0 _, ?_, fun h17 e17 => ?_⟩
          · show qok _ (R x0 5) 0 _
            rw [r5]; exact hnok (by omega) b4 v
          · have e17 : h17 = zHn n (qu (qu (qu (qu I (x0 + 1) (nI i).toNatClampNeg (I (R (R x0 0) 4) (nI i).toNatClampNeg)) (x0 + 2) (nI i).toNatClampNeg w) (x0 + 3) (nI i).toNatClampNeg (nI i)) (x0 + 4) (nI i).toNatClampNeg 0) J R := by rw [e17]; show qsI _ (R x0 5) _ _ = _; rw [r5]; rfl
            subst e17
            refine k_begin7 hx hn hst r0 r2 r3 r4 r5 t4 t6 r (i + 1) k _ (by omega) (by omega) (fun I' o' => hq I' (fun a l q => ?_))
            rw [o' a l q, qu_off (Or.inl (by omega)), qu_off (Or.inl (by omega)), qu_off (Or.inl (by omega)), qu_off (Or.inl (by omega))]
theorem k_begin65 {n : Nat} (hx : x0 + 5 ≤ n) (hst : zSt x0) (r6 : R x0 6 = x0 + 5) {Q : qH → Prop} : ∀ r i k (I : zI), i + r = 7 → r < k → (∀ I' : zI, (∀ a l, a ≠ x0 + 5 → I' a l = I a l) → Q (zHn n I' J R)) → w_State_begin_65 5000 k x0 (nI i) (zHn n I J R) Q
  | _, _, 0, _, _, hk, _ => absurd hk (Nat.not_lt_zero _)
  | 0, i, k + 1, I, hi, hk, hq => z_y (nI_le (a := 7) (by omega) (by omega)) (hq I (fun _ _ _ => rfl))
  | r + 1, i, k + 1, I, hi, hk, hq => by
    obtain ⟨a0, _, _, _, _, _, _, b1, b2, b3, b4, b5⟩ := id hst
    rw [w_State_begin_65]; dsimp only; rw [nI_1]
    refine z_n (nI_ge (b := 7) (by omega) (by decide)) ⟨(hnS (by omega)).trans a0, ?_, fun h4 e4 => ?_⟩
    · show qok _ (R x0 6) 0 _
      rw [r6]; exact hnok (by omega) b5 (vp_in_nI (by omega) (by decide))
    · have e4 : h4 = zHn n (qu I (x0 + 5) (nI i).toNatClampNeg 0) J R := by rw [e4]; show qsI _ (R x0 6) _ _ = _; rw [r6]; rfl
      subst e4
      exact k_begin65 hx hst r6 r (i + 1) k _ (by omega) (by omega) (fun I' o' => hq I' (fun a l q => by rw [o' a l q, qu_off (Or.inl q)]))
/-- what State needs -/
def zStk (x0 : Nat) : Prop := zSt x0 ∧ (∀ k, zlu [(0, 8), (6, x0 + 5), (5, x0 + 4), (4, x0 + 3), (3, x0 + 2), (2, x0 + 1)] k = zR x0 k) ∧ ∀ j, 1 ≤ j → j ≤ 5 → ∀ k, zR (x0 + j) k = 0
theorem k_State (hp : 13 < x0) (hst : zStk x0) (t4 : R 8 4 = 11) (t6 : R 8 6 = 13) (h3 : z3 x0 I J R) (hk : zKp x0 x0 R R []) {Q : qH → Prop} (hq : ∀ (I' : zI) (R' : zRf), z3 (x0 + 5) I' J R' → zPo x0 (x0 + 5) I I' R R' → I' x0 1 = 0 → Q (zHn (x0 + 5) I' J R')) : w_State_init 5000 x0 8 (zHn x0 I J R) Q := by
  obtain ⟨st, hL, hz⟩ := hst
  obtain ⟨a0, _, _, _, _, _, _, b1, b2, b3, b4, b5⟩ := id st
  refine ⟨by omega, k_alloc (by decide) (by decide) h3 b1 (Nat.le_refl _) a0 (fun g1 => k_alloc (by decide) (by decide) g1 b2 (by omega) a0 (fun g2 => k_alloc (by decide) (by decide) g2 b3 (by omega) a0 (fun g3 => k_alloc (by decide) (by decide) g3 b4 (by omega) a0 (fun g4 => k_alloc (by decide) (by decide) g4 b5 (by omega) a0 (fun g5 => k_setR (by omega) a0 ?_)))))⟩
  have k5 := ((((hk.al (f := 2) (v := x0 + 1) h3 (hz 1 (by decide) (by decide))).al (f := 3) (v := x0 + 2) g1 (hz 2 (by decide) (by decide))).al (f := 4) (v := x0 + 3) g2 (hz 3 (by decide) (by decide))).al (f := 5) (v := x0 + 4) g3 (hz 4 (by decide) (by decide))).al (f := 6) (v := x0 + 5) g4 (hz 5 (by decide) (by decide))
  have k6 := k5.st (f := 0) (v := 8)
  have fin := k6.fin hL
  generalize eR : qu (qu (qu (qu (qu (qu R x0 2 (x0 + 1)) x0 3 (x0 + 2)) x0 4 (x0 + 3)) x0 5 (x0 + 4)) x0 6 (x0 + 5)) x0 0 8 = R' at *
  have g6 : z3 (x0 + 5) I J R' := by rw [← eR]; exact g5.r (by omega)
  refine ⟨(hnS (by omega)).trans a0, by decide, by decide, (hnS (by omega)).trans a0, fun h2 e2 => ?_⟩
  have e2 : h2 = zHn (x0 + 5) (qu I x0 1 0) J R' := e2
  subst e2
  have f8 : ∀ k, R' 8 k = R 8 k := fun k => k6.2.1 8 k (by omega)
  refine k_begin7 (Nat.le_refl _) (by omega) st (k6.1 0) (k6.1 2) (k6.1 3) (k6.1 4) (k6.1 5) (by rw [f8]; exact t4) (by rw [f8]; exact t6) 6 0 5000 _ (by decide) (by decide) (fun I2 o2 => k_begin65 (Nat.le_refl _) st (k6.1 6) 7 0 5000 I2 (by decide) (by decide) (fun I3 o3 => ⟨by decide, by decide, hq I3 R' ⟨fun a k q => ?_, g6.2⟩ ⟨fun a k q => ?_, k6.2.1, fin⟩ ?_⟩))
  · rw [o3 a k (by omega), o2 a k (by omega), qu_off (Or.inl (by omega))]; exact g6.1 a k q
  · rw [o3 a k (by omega), o2 a k (by omega), qu_off (Or.inl (by omega))]
  · rw [o3 _ _ (by omega), o2 _ _ (by omega), qu_same]
end
