/-! reading: the parser as a function of the tokens -/
abbrev zF (α : Type) : Type := (Nat × Nat) ⊕ α
def zbi {α β : Type} (x : zF α) (f : α → zF β) : zF β := match x with
  | .inl e => .inl e
  | .inr a => f a
theorem zbi_l {α β : Type} (e : Nat × Nat) (f : α → zF β) : zbi (.inl e) f = .inl e := rfl
theorem zbi_r {α β : Type} (a : α) (f : α → zF β) : zbi (.inr a) f = f a := rfl
def zgo (i : Nat) : zF Nat := if i < 400 then .inr (i + 1) else .inl (2, i)
/-- which op a sign is: 2 + 3 - 4 * 5 / -/
def zoc (k : Nat) : Nat := if k = 43 then 2 else if k = 45 then 3 else if k = 42 then 4 else if k = 47 then 5 else 0
/-- what waits at a level comes out: first * or /, then + or - -/
def zfm1 (c : Nat × Nat) : zPf := if c.2 = 0 then [] else [(c.2, 0)]
def zflu (c : Nat × Nat) : zPf := zfm1 c ++ if c.1 = 0 then [] else [(c.1, 0)]
section
variable (kd : Nat → Nat) (vl : Nat → Int64)
def zpass (c i : Nat) : zF Nat := if kd i = c then zgo i else .inl (1, i)
def zopn : Nat → Nat → Nat × Nat → List (Nat × Nat) → zF (Nat × (Nat × Nat) × List (Nat × Nat))
  | 0, i, c, l => .inr (i, c, l)
  | r + 1, i, c, l => if kd i = 40 then (if l.length < 6 then zbi (zgo i) (fun i' => zopn r i' (0, 0) (c :: l)) else .inl (2, i)) else .inr (i, c, l)
def zunit (i : Nat) (out : zPf) : zF (Nat × zPf) :=
  if kd i = 4 then zbi (zgo i) (fun i' => .inr (i', out ++ [(0, (vl i).toInt32)])) else if 268 ≤ kd i ∧ kd i ≤ 276 then zbi (zgo i) (fun i' => .inr (i', out ++ [(1, nI (kd i - 268))])) else .inl (1, i)
def zcls : List (Nat × Nat) → Nat → Nat × Nat → zPf → zF (Nat × (Nat × Nat) × List (Nat × Nat) × zPf)
  | [], i, c, out => .inr (i, c, [], out)
  | d :: l, i, c, out => if kd i = 41 then zbi (zgo i) (fun i' => zcls l i' d (out ++ zflu c)) else .inr (i, c, d :: l, out)
/-- behind an op: what came out, what waits -/
def zopo (k : Nat) (c : Nat × Nat) : zPf := if 4 ≤ zoc k then zfm1 c else zflu c
def zopc (k : Nat) (c : Nat × Nat) : Nat × Nat := if 4 ≤ zoc k then (c.1, zoc k) else (zoc k, 0)
def zexp : Nat → Nat → Nat × Nat → List (Nat × Nat) → zPf → zF (Nat × zPf)
  | 0, i, _, _, _ => .inl (1, i)
  | r + 1, i, c, l, out => zbi (zopn kd 7 i c l) fun a => zbi (zunit kd vl a.1 out) fun b => zbi (zcls kd a.2.2 b.1 a.2.1 b.2) fun d =>
      if zoc (kd d.1) = 0 then (if d.2.2.1 = [] then .inr (d.1, d.2.2.2 ++ zflu d.2.1) else .inl (1, d.1)) else zbi (zgo d.1) fun i' => zexp r i' (zopc (kd d.1) d.2.1) d.2.2.1 (d.2.2.2 ++ zopo (kd d.1) d.2.1)
def zE1 (i : Nat) : zF (Nat × zPf) := zexp kd vl 401 i (0, 0) [] []
def zif (i : Nat) : zF (Nat × zPf × zPf × zPf) := zbi (zgo i) fun i1 => zbi (zE1 kd vl i1) fun u => zbi (zpass kd 60 u.1) fun i3 => zbi (zE1 kd vl i3) fun v => zbi (zpass kd 266 v.1) fun i5 => zbi (zE1 kd vl i5) fun w => zbi (zpass kd 267 w.1) fun i7 => .inr (i7, u.2, v.2, w.2)
def zifs : Nat → Nat → List (zPf × zPf × zPf) → zF (Nat × List (zPf × zPf × zPf))
  | 0, i, l => if kd i = 265 then .inl (2, i) else .inr (i, l)
  | r + 1, i, l => if kd i = 265 then zbi (zif kd vl i) (fun a => zifs r a.1 (l ++ [a.2])) else .inr (i, l)
def zlaw (i : Nat) : zF (Nat × zLw) := zbi (zgo i) fun i1 => zbi (zpass kd 61 i1) fun i2 => zbi (zifs kd vl 4 i2 []) fun a => zbi (zE1 kd vl a.1) fun b => zbi (zpass kd 59 b.1) fun i5 => .inr (i5, a.2, b.2)
end
/-! tells -/
/-- hangers or people: how many, names, two numbers -/
abbrev zBk : Type := Nat × (Nat → Int64) × (Nat → Int32) × (Nat → Int32)
/-- hangers, people, hangs, laws, moth and seed, the kept fault -/
abbrev zG : Type := zBk × zBk × (Nat × (Nat → Int32)) × (Nat → Option zLw) × (Int32 × Int32) × (Nat × Nat)
def zud {α : Type} (f : Nat → α) (k : Nat) (x : α) : Nat → α := fun j => if j = k then x else f j
theorem zud_s {α : Type} {f : Nat → α} {k : Nat} {x : α} : zud f k x k = x := if_pos rfl
theorem zud_n {α : Type} {f : Nat → α} {k j : Nat} {x : α} (h : j ≠ k) : zud f k x j = f j := if_neg h
def zidx (f : Nat → Int64) (w : Int64) : Nat → Nat → Option Nat
  | 0, _ => none
  | r + 1, i => if f i = w then some i else zidx f w r (i + 1)
def zkeep (k p : Nat) (W : Nat × Nat) : Nat × Nat := if W.1 = 0 then (k, p) else W
def gH (g : zG) : zBk := g.1
def gP (g : zG) : zBk := g.2.1
def gG (g : zG) : Nat × (Nat → Int32) := g.2.2.1
def gL (g : zG) : Nat → Option zLw := g.2.2.2.1
def gM (g : zG) : Int32 × Int32 := g.2.2.2.2.1
def gW (g : zG) : Nat × Nat := g.2.2.2.2.2
def ztold (g : zG) (w : Int64) : Bool := (zidx (gH g).2.1 w (gH g).1 0).isSome || (zidx (gP g).2.1 w (gP g).1 0).isSome
def ztkn (f : Nat → Int32) (h : Nat) : Nat → Nat → Bool
  | 0, _ => false
  | r + 1, i => if f i = nI h then true else ztkn f h r (i + 1)
section
variable (kd : Nat → Nat) (vl : Nat → Int64) (pl : Nat → Nat)
/-- the kept fault behind a number at i that is m at most -/
def znum (m i : Nat) (W : Nat × Nat) : Nat × Nat := if lN m < vl i then zkeep 5 (pl i) W else W
/-- two numbers and a name: a hanger or a person -/
def zent (m1 m2 : Nat) (g : zG) (b : zBk) (i : Nat) : zF (Nat × zBk × (Nat × Nat)) := zbi (zgo i) fun i1 => zbi (zpass kd 3 i1) fun i2 => zbi (zpass kd 4 i2) fun i3 => zbi (zpass kd 4 i3) fun i4 => zbi (zpass kd 59 i4) fun i5 =>
  .inr (i5, (b.1 + 1, zud b.2.1 b.1 (vl i1), zud b.2.2.1 b.1 (vl i2).toInt32, zud b.2.2.2 b.1 (vl i3).toInt32), znum vl pl m2 i3 (znum vl pl m1 i2 (if ztold g (vl i1) = true then zkeep 3 (pl i1) (gW g) else gW g)))
def zone (m : Nat) (i : Nat) (W : Nat × Nat) : zF (Nat × Int32 × (Nat × Nat)) := zbi (zgo i) fun i1 => zbi (zpass kd 4 i1) fun i2 => zbi (zpass kd 59 i2) fun i3 => .inr (i3, (vl i1).toInt32, znum vl pl m i1 W)
/-- the person, the hanger of a name; the kept fault -/
def zwhp (g : zG) (i : Nat) : Option Nat := zidx (gP g).2.1 (vl i) (gP g).1 0
def zwhoW (g : zG) (i : Nat) (W : Nat × Nat) : Nat × Nat := (zwhp vl g i).elim (zkeep 4 (pl i) W) fun p => if (gG g).2 p < 0 then W else zkeep 3 (pl i) W
def zwhc (g : zG) (i : Nat) : Option Nat := zidx (gH g).2.1 (vl i) (gH g).1 0
def zwhcW (g : zG) (i : Nat) (W : Nat × Nat) : Nat × Nat := (zwhc vl g i).elim (zkeep 4 (pl i) W) fun h => if ztkn (gG g).2 h (gP g).1 0 = true then zkeep 3 (pl i) W else W
def zhng (g : zG) (i : Nat) : zF (Nat × (Nat → Int32) × (Nat × Nat)) := zbi (zgo i) fun i1 => zbi (zpass kd 3 i1) fun i2 => zbi (zpass kd 3 i2) fun i3 => zbi (zpass kd 59 i3) fun i4 =>
  .inr (i4, (zwhp vl g i1).elim (gG g).2 (fun p => (zwhc vl g i2).elim (gG g).2 fun h => zud (gG g).2 p (nI h)), zwhcW vl pl g i2 (zwhoW vl pl g i1 (gW g)))
def ztl (g : zG) (i : Nat) : zF (Nat × zG) :=
  if kd i = 256 then (if (gH g).1 < 7 then zbi (zent kd vl pl 4 99 g (gH g) i) (fun a => .inr (a.1, a.2.1, gP g, gG g, gL g, gM g, a.2.2)) else .inl (2, i)) else
  if kd i = 257 then (if (gP g).1 < 6 then zbi (zent kd vl pl 99 9 g (gP g) i) (fun a => .inr (a.1, gH g, a.2.1, gG g, gL g, gM g, a.2.2)) else .inl (2, i)) else
  if kd i = 258 then (if (gG g).1 < 6 then zbi (zhng kd vl pl g i) (fun a => .inr (a.1, gH g, gP g, ((gG g).1 + 1, a.2.1), gL g, gM g, a.2.2)) else .inl (2, i)) else
  if kd i = 263 then zbi (zone kd vl pl 100 i (gW g)) (fun a => .inr (a.1, gH g, gP g, gG g, gL g, (a.2.1, (gM g).2), a.2.2)) else
  if kd i = 264 then zbi (zone kd vl pl 9999 i (gW g)) (fun a => .inr (a.1, gH g, gP g, gG g, gL g, ((gM g).1, a.2.1), a.2.2)) else
  if 259 ≤ kd i ∧ kd i ≤ 262 then zbi (zlaw kd vl i) (fun a => .inr (a.1, gH g, gP g, gG g, zud (gL g) (kd i - 259) (some a.2), gM g, gW g)) else .inl (1, i)
def zall : Nat → Nat → zG → zF zG
  | 0, i, _ => .inl (1, i)
  | r + 1, i, g => if kd i = 1 then .inr g else zbi (ztl kd vl pl g i) (fun a => zall r a.1 a.2)
end
def zg0 : zG := ((0, fun _ => 0, fun _ => 0, fun _ => 0), (0, fun _ => 0, fun _ => 0, fun _ => 0), (0, fun _ => -2), fun _ => none, (0, 0), (0, 0))
/-! where the parser stands -/
section
variable {kd : Nat → Nat} {vl : Nat → Int64} {pl : Nat → Nat}
theorem zgo_r {i j : Nat} (h : zgo i = .inr j) : i < 400 ∧ j = i + 1 := by
  unfold zgo at h
  split at h
  · rename_i z; cases h; exact ⟨z, rfl⟩
  · cases h
theorem zgo_y {i : Nat} (h : i < 400) : zgo i = .inr (i + 1) := if_pos h
theorem zgo_n {i : Nat} (h : ¬ i < 400) : zgo i = .inl (2, i) := if_neg h
theorem zpass_r {c i j : Nat} (h : zpass kd c i = .inr j) : kd i = c ∧ i < 400 ∧ j = i + 1 := by
  unfold zpass at h
  split at h
  · rename_i z; exact ⟨z, zgo_r h⟩
  · cases h
theorem zbi_inr {α β : Type} {x : zF α} {f : α → zF β} {b : β} (h : zbi x f = .inr b) : ∃ a, x = .inr a ∧ f a = .inr b := by
  cases x with
  | inl e => cases h
  | inr a => exact ⟨a, rfl, h⟩
theorem zbi_inl {α β : Type} {x : zF α} {f : α → zF β} {e : Nat × Nat} (h : zbi x f = .inl e) : x = .inl e ∨ ∃ a, x = .inr a ∧ f a = .inl e := by
  cases x with
  | inl e' => cases h; exact Or.inl rfl
  | inr a => exact Or.inr ⟨a, rfl, h⟩
/-- none of the tokens from i to j ends the text -/
def zgd (kd : Nat → Nat) (i j : Nat) : Prop := i ≤ j ∧ j ≤ 400 ∧ ∀ l, i ≤ l → l < j → kd l ≠ 1 ∧ kd l ≠ 2
theorem zgd.rf {i : Nat} (h : i ≤ 400) : zgd kd i i := ⟨Nat.le_refl _, h, fun l h1 h2 => absurd h1 (by omega)⟩
theorem zgd.tr {i j k : Nat} (h : zgd kd i j) (g : zgd kd j k) : zgd kd i k := ⟨by have := h.1; have := g.1; omega, g.2.1, fun l h1 h2 => by
  rcases Nat.lt_or_ge l j with z | z
  · exact h.2.2 l h1 z
  · exact g.2.2 l z h2⟩
theorem zgd.one {i j : Nat} (h : zgo i = .inr j) (hk : kd i ≠ 1 ∧ kd i ≠ 2) : zgd kd i j := by
  obtain ⟨h1, h2⟩ := zgo_r h
  exact ⟨by omega, by omega, fun l g1 g2 => by rw [show l = i by omega]; exact hk⟩
theorem zgd.ps {c i j : Nat} (h : zpass kd c i = .inr j) (hc : c ≠ 1 ∧ c ≠ 2) : zgd kd i j := by
  obtain ⟨h1, h2, h3⟩ := zpass_r h
  exact ⟨by omega, by omega, fun l g1 g2 => by rw [show l = i by omega, h1]; exact hc⟩
end
