/-! THE ABSTRACT HEAP: cells numbered from 1 on (cell a stands at the address b + a), what each is (a class, or an array's kind and length), its ints, longs, references (0: null) -/
abbrev qH : Type := Nat × (Nat → Nat ⊕ (Nat × Nat)) × (Nat → Nat → Int32) × (Nat → Nat → Int64) × (Nat → Nat → Nat)
def qN (h : qH) : Nat := h.1
def qS (h : qH) : Nat → Nat ⊕ (Nat × Nat) := h.2.1
def qI (h : qH) : Nat → Nat → Int32 := h.2.2.1
def qJ (h : qH) : Nat → Nat → Int64 := h.2.2.2.1
def qR (h : qH) : Nat → Nat → Nat := h.2.2.2.2
def qu {α : Type} (f : Nat → Nat → α) (a k : Nat) (v : α) : Nat → Nat → α := fun x j => if x = a ∧ j = k then v else f x j
def qsI (h : qH) (a k : Nat) (v : Int32) : qH := (h.1, h.2.1, qu h.2.2.1 a k v, h.2.2.2.1, h.2.2.2.2)
def qsJ (h : qH) (a k : Nat) (v : Int64) : qH := (h.1, h.2.1, h.2.2.1, qu h.2.2.2.1 a k v, h.2.2.2.2)
def qsR (h : qH) (a k : Nat) (v : Nat) : qH := (h.1, h.2.1, h.2.2.1, h.2.2.2.1, qu h.2.2.2.2 a k v)
/-- a row of ints copied -/
def qcp (h : qH) (a1 : Nat) (f : Nat → Int32) : qH := (h.1, h.2.1, (fun x => if x = a1 then f else h.2.2.1 x), h.2.2.2.1, h.2.2.2.2)
/-- a new cell, all of it 0 -/
def qnew (h : qH) (x : Nat ⊕ (Nat × Nat)) : qH := (h.1 + 1, (fun a => if a = h.1 + 1 then x else h.2.1 a), (fun a k => if a = h.1 + 1 then 0 else h.2.2.1 a k), (fun a k => if a = h.1 + 1 then 0 else h.2.2.2.1 a k), (fun a k => if a = h.1 + 1 then 0 else h.2.2.2.2 a k))
/-- a new array of n new arrays of ints, each of length k -/
def qnew2 (h : qH) (n k : Nat) : qH := (h.1 + 1 + n, (fun a => if a = h.1 + 1 then .inr (5, n) else if h.1 + 1 < a ∧ a ≤ h.1 + 1 + n then .inr (0, k) else h.2.1 a), (fun a j => if h.1 < a ∧ a ≤ h.1 + 1 + n then 0 else h.2.2.1 a j), (fun a j => if h.1 < a ∧ a ≤ h.1 + 1 + n then 0 else h.2.2.2.1 a j), (fun a j => if a = h.1 + 1 then (if j < n then h.1 + 2 + j else 0) else if h.1 < a ∧ a ≤ h.1 + 1 + n then 0 else h.2.2.2.2 a j))
theorem qN_sI (h : qH) (a k : Nat) (v : Int32) : qN (qsI h a k v) = qN h := rfl
theorem qS_sI (h : qH) (a k : Nat) (v : Int32) : qS (qsI h a k v) = qS h := rfl
theorem qJ_sI (h : qH) (a k : Nat) (v : Int32) : qJ (qsI h a k v) = qJ h := rfl
theorem qR_sI (h : qH) (a k : Nat) (v : Int32) : qR (qsI h a k v) = qR h := rfl
theorem qI_sI (h : qH) (a k : Nat) (v : Int32) (x j : Nat) : qI (qsI h a k v) x j = if x = a ∧ j = k then v else qI h x j := rfl
theorem qN_sJ (h : qH) (a k : Nat) (v : Int64) : qN (qsJ h a k v) = qN h := rfl
theorem qS_sJ (h : qH) (a k : Nat) (v : Int64) : qS (qsJ h a k v) = qS h := rfl
theorem qI_sJ (h : qH) (a k : Nat) (v : Int64) : qI (qsJ h a k v) = qI h := rfl
theorem qR_sJ (h : qH) (a k : Nat) (v : Int64) : qR (qsJ h a k v) = qR h := rfl
theorem qJ_sJ (h : qH) (a k : Nat) (v : Int64) (x j : Nat) : qJ (qsJ h a k v) x j = if x = a ∧ j = k then v else qJ h x j := rfl
theorem qN_sR (h : qH) (a k : Nat) (v : Nat) : qN (qsR h a k v) = qN h := rfl
theorem qS_sR (h : qH) (a k : Nat) (v : Nat) : qS (qsR h a k v) = qS h := rfl
theorem qI_sR (h : qH) (a k : Nat) (v : Nat) : qI (qsR h a k v) = qI h := rfl
theorem qJ_sR (h : qH) (a k : Nat) (v : Nat) : qJ (qsR h a k v) = qJ h := rfl
theorem qR_sR (h : qH) (a k : Nat) (v : Nat) (x j : Nat) : qR (qsR h a k v) x j = if x = a ∧ j = k then v else qR h x j := rfl
theorem qN_cp (h : qH) (a : Nat) (f : Nat → Int32) : qN (qcp h a f) = qN h := rfl
theorem qS_cp (h : qH) (a : Nat) (f : Nat → Int32) : qS (qcp h a f) = qS h := rfl
theorem qJ_cp (h : qH) (a : Nat) (f : Nat → Int32) : qJ (qcp h a f) = qJ h := rfl
theorem qR_cp (h : qH) (a : Nat) (f : Nat → Int32) : qR (qcp h a f) = qR h := rfl
theorem qI_cp (h : qH) (a : Nat) (f : Nat → Int32) (x : Nat) : qI (qcp h a f) x = if x = a then f else qI h x := rfl
/-- the types of the arrays, by their kinds -/
def qty : Nat → FieldType
  | 0 => .int
  | 1 => .byte
  | 2 => .boolean
  | 3 => .long
  | 4 => .object "CoatHangers$State"
  | _ => .array .int
def qtys (cy : Nat → ClassId) : List (ClassId × FieldType) := [(cy 0, qty 0), (cy 1, qty 1), (cy 2, qty 2), (cy 3, qty 3), (cy 4, qty 4), (cy 5, qty 5)]
def qo (b x : Nat) : Option Nat := if x = 0 then none else some (b + x)
def qr (b x : Nat) : Value := va_rf (qo b x)
theorem qr_pos {b x : Nat} (h : 0 < x) : qr b x = .ref (b + x) := by
  unfold qr qo
  rw [if_neg (by omega)]
  rfl
theorem qr_zero (b : Nat) : qr b 0 = .null := rfl
theorem qr_cases (b x : Nat) : (x = 0 ∧ qr b x = .null) ∨ (0 < x ∧ qr b x = .ref (b + x)) := by
  rcases Nat.eq_zero_or_pos x with h | h
  · subst h; exact Or.inl ⟨rfl, rfl⟩
  · exact Or.inr ⟨h, qr_pos h⟩
theorem qr_cat (b x : Nat) : (qr b x).category = 1 := by
  rcases qr_cases b x with ⟨-, h⟩ | ⟨-, h⟩ <;> rw [h] <;> rfl
def qfv (b : Nat) (h : qH) (a k t : Nat) : Value := if t = 0 then .int (qI h a k) else if t = 1 then .long (qJ h a k) else qr b (qR h a k)
def qfs (b : Nat) (h : qH) (a ci : Nat) : List Value := (List.range (qfn ci)).map fun k => qfv b h a k (qfk ci k)
def qar (b : Nat) (h : qH) (a t : Nat) : (Nat → Int32) ⊕ (Nat → Int64) ⊕ (Nat → UInt32) ⊕ (Nat → UInt64) ⊕ (Nat → Option Nat) := if t < 3 then .inl (qI h a) else if t = 3 then .inr (.inl (qJ h a)) else .inr (.inr (.inr (.inr (fun j => qo b (qR h a j)))))
def qent (cy : Nat → ClassId) (b : Nat) (h : qH) (a : Nat) : va_E := match qS h a with
  | .inl ci => .inr (ci, qfs b h a ci)
  | .inr (t, n) => .inl (cy t, n, qar b h a t)
theorem qent_o {cy : Nat → ClassId} {b : Nat} {h : qH} {a ci : Nat} (e : qS h a = .inl ci) : qent cy b h a = .inr (ci, qfs b h a ci) := by unfold qent; rw [e]
theorem qent_a {cy : Nat → ClassId} {b : Nat} {h : qH} {a t n : Nat} (e : qS h a = .inr (t, n)) : qent cy b h a = .inl (cy t, n, qar b h a t) := by unfold qent; rw [e]
theorem qfs_at {b : Nat} {h : qH} {a ci k : Nat} (hk : k < qfn ci) : (qfs b h a ci)[k]? = some (qfv b h a k (qfk ci k)) := by
  unfold qfs
  rw [List.getElem?_map, List.getElem?_range hk]
  rfl
theorem qfs_V {b : Nat} {h : qH} {a ci k : Nat} (hk : k < qfn ci) : vp_V (qfs b h a ci) k = qfv b h a k (qfk ci k) := by
  unfold vp_V
  rw [List.getD_eq_getElem?_getD, qfs_at hk]
  rfl
/-- the machine's heap holds the abstract one from b + 1 on, and ends with it -/
def qP (D : va_G) (cy : Nat → ClassId) (b : Nat) (h : qH) (H : Heap) : Prop := H.size = b + 1 + qN h ∧ (∀ a, 0 < a → a ≤ qN h → va_at D qCl (b + a, qent cy b h a) H) ∧ ∀ a, (a = 0 ∨ qN h < a) → qS h a = .inl 99
def qA (b : Nat) : Nat → Prop := fun q => b + 1 ≤ q
theorem qP.is_o {D : va_G} {cy : Nat → ClassId} {b : Nat} {h : qH} {H : Heap} (hP : qP D cy b h H) {a ci : Nat} (e : qS h a = .inl ci) (hc : ci ≠ 99) : 0 < a ∧ a ≤ qN h := by
  by_cases g : a = 0 ∨ qN h < a
  · have := hP.2.2 a g
    rw [e] at this
    exact absurd (Sum.inl.inj this) hc
  · omega
theorem qP.is_a {D : va_G} {cy : Nat → ClassId} {b : Nat} {h : qH} {H : Heap} (hP : qP D cy b h H) {a t n : Nat} (e : qS h a = .inr (t, n)) : 0 < a ∧ a ≤ qN h := by
  by_cases g : a = 0 ∨ qN h < a
  · have := hP.2.2 a g
    rw [e] at this
    cases this
  · omega
theorem qP.obj {D : va_G} {cy : Nat → ClassId} {b : Nat} {h : qH} {H : Heap} (hP : qP D cy b h H) {a ci : Nat} (e : qS h a = .inl ci) (hc : ci ≠ 99) : va_P D qCl [(b + a, .inr (ci, qfs b h a ci))] H := by
  intro k q hk
  have hz : k < 1 := (List.getElem?_eq_some_iff.mp hk).1
  rw [show k = 0 by omega] at hk
  cases hk
  obtain ⟨h1, h2⟩ := hP.is_o e hc
  have := hP.2.1 a h1 h2
  rw [qent_o e] at this
  exact this
theorem qP.arr {D : va_G} {cy : Nat → ClassId} {b : Nat} {h : qH} {H : Heap} (hP : qP D cy b h H) {a t n : Nat} (e : qS h a = .inr (t, n)) : va_P D qCl [(b + a, .inl (cy t, n, qar b h a t))] H := by
  intro k q hk
  have hz : k < 1 := (List.getElem?_eq_some_iff.mp hk).1
  rw [show k = 0 by omega] at hk
  cases hk
  obtain ⟨h1, h2⟩ := hP.is_a e
  have := hP.2.1 a h1 h2
  rw [qent_a e] at this
  exact this
/-- one cell has changed -/
theorem qP.set {D : va_G} {cy : Nat → ClassId} {b : Nat} {h h' : qH} {H H1 : Heap} (hP : qP D cy b h H) {a : Nat} (hn : qN h' = qN h) (hs : qS h' = qS h) (ho : ∀ x, x ≠ a → qI h' x = qI h x ∧ qJ h' x = qJ h x ∧ qR h' x = qR h x) (z : H1.size = H.size) (oq : ∀ q : Nat, q ≠ b + a → H1[q]? = H[q]?) (he : va_at D qCl (b + a, qent cy b h' a) H1) : qP D cy b h' H1 := by
  refine ⟨by rw [z, hn]; exact hP.1, fun x h1 h2 => ?_, fun x hx => by rw [hs]; rw [hn] at hx; exact hP.2.2 x hx⟩
  by_cases e : x = a
  · subst e; exact he
  · obtain ⟨o1, o2, o3⟩ := ho x e
    have e1 : qent cy b h' x = qent cy b h x := by
      unfold qent qfs qar qfv
      rw [hs, o1, o2, o3]
    rw [e1]
    rw [hn] at h2
    exact (hP.2.1 x h1 h2).kept (oq _ (by show b + x ≠ b + a; omega))
theorem qu_ne {α : Type} {f : Nat → Nat → α} {a k : Nat} {v : α} {x : Nat} (h : x ≠ a) : qu f a k v x = f x := by
  funext j
  unfold qu
  rw [if_neg (fun q => h q.1)]
theorem qu_eq {α : Type} {f : Nat → Nat → α} {a k : Nat} {v : α} {j : Nat} : qu f a k v a j = if j = k then v else f a j := by
  unfold qu
  by_cases h : j = k
  · rw [if_pos ⟨rfl, h⟩, if_pos h]
  · rw [if_neg (fun q => h q.2), if_neg h]
theorem qP.setI {D : va_G} {cy : Nat → ClassId} {b : Nat} {h : qH} {H H1 : Heap} (hP : qP D cy b h H) {a k : Nat} {v : Int32} (z : H1.size = H.size) (oq : ∀ q : Nat, q ≠ b + a → H1[q]? = H[q]?) (he : va_at D qCl (b + a, qent cy b (qsI h a k v) a) H1) : qP D cy b (qsI h a k v) H1 :=
  hP.set rfl rfl (fun x hx => ⟨qu_ne hx, rfl, rfl⟩) z oq he
theorem qP.setJ {D : va_G} {cy : Nat → ClassId} {b : Nat} {h : qH} {H H1 : Heap} (hP : qP D cy b h H) {a k : Nat} {v : Int64} (z : H1.size = H.size) (oq : ∀ q : Nat, q ≠ b + a → H1[q]? = H[q]?) (he : va_at D qCl (b + a, qent cy b (qsJ h a k v) a) H1) : qP D cy b (qsJ h a k v) H1 :=
  hP.set rfl rfl (fun x hx => ⟨rfl, qu_ne hx, rfl⟩) z oq he
theorem qP.setR {D : va_G} {cy : Nat → ClassId} {b : Nat} {h : qH} {H H1 : Heap} (hP : qP D cy b h H) {a k : Nat} {v : Nat} (z : H1.size = H.size) (oq : ∀ q : Nat, q ≠ b + a → H1[q]? = H[q]?) (he : va_at D qCl (b + a, qent cy b (qsR h a k v) a) H1) : qP D cy b (qsR h a k v) H1 :=
  hP.set rfl rfl (fun x hx => ⟨rfl, rfl, qu_ne hx⟩) z oq he
/-- one cell has come -/
theorem qP.born {D : va_G} {cy : Nat → ClassId} {b : Nat} {h : qH} {H H1 : Heap} (hP : qP D cy b h H) {x : Nat ⊕ (Nat × Nat)} (z : H1.size = H.size + 1) (oq : ∀ q : Nat, q < H.size → H1[q]? = H[q]?) (he : va_at D qCl (H.size, qent cy b (qnew h x) (qN h + 1)) H1) : qP D cy b (qnew h x) H1 := by
  have hsz := hP.1
  refine ⟨by rw [z, hsz]; show _ = b + 1 + (qN h + 1); omega, fun a h1 h2 => ?_, fun a ha => ?_⟩
  · have h2 : a ≤ qN h + 1 := h2
    by_cases e : a = qN h + 1
    · subst e
      rw [show b + (qN h + 1) = H.size by omega]
      exact he
    · have e1 : qent cy b (qnew h x) a = qent cy b h a := by
        have e2 : ¬ a = h.1 + 1 := e
        have s : qS (qnew h x) a = qS h a := if_neg e2
        have i : qI (qnew h x) a = qI h a := funext fun k => if_neg e2
        have j : qJ (qnew h x) a = qJ h a := funext fun k => if_neg e2
        have r : qR (qnew h x) a = qR h a := funext fun k => if_neg e2
        unfold qent qfs qar qfv
        rw [s, i, j, r]
      rw [e1]
      exact (hP.2.1 a h1 (by omega)).kept (oq _ (by show b + a < H.size; omega))
  · have ha : a = 0 ∨ qN h + 1 < a := ha
    have e2 : ¬ a = h.1 + 1 := by
      have : h.1 = qN h := rfl
      omega
    exact (if_neg e2).trans (hP.2.2 a (by omega))
