/-! THE JUDGEMENT qW: the machine, at pc with these locals and this stack and any heap that holds h, comes to Qw; and a row for each instruction. Written by wip/whole/rows.py -/
def lenJS : List Nat := [120, 9]
def bytJS : List (List Int32) := [[104, 97, 110, 103, 101, 114, 32, 112, 101, 114, 115, 111, 110, 32, 104, 97, 110, 103, 115, 32, 99, 114, 111, 111, 107, 115, 32, 98, 101, 110, 100, 115, 32, 115, 108, 105, 112, 115, 32, 99, 111, 115, 116, 115, 32, 109, 111, 116, 104, 32, 115, 101, 101, 100, 32, 105, 102, 32, 116, 104, 101, 110, 32, 101, 108, 115, 101, 32, 97, 112, 97, 114, 116, 32, 98, 101, 110, 116, 32, 119, 105, 100, 101, 32, 114, 97, 110, 107, 32, 110, 105, 103, 104, 116, 32, 99, 114, 111, 111, 107, 101, 100, 32, 98, 101, 115, 105, 100, 101, 32, 119, 104, 105, 99, 104, 32, 110, 97, 105, 108], [59, 61, 43, 45, 42, 47, 60, 40, 41]]
/-- the text constants of Tape, and two statics of the JDK: where they stand, what they hold -/
def qZ (b : Nat) (adK adV : Nat → Nat) (s : State) : Prop := vk_S 2 lenJS bytJS adK adV (qA b) s s.heap ∧ vk_R "CoatHangers$Tape" 33 "hanger person hangs crooks bends slips costs moth seed if then else apart bent wide rank night crooked beside which nail" (adK 0) s ∧ vk_R "CoatHangers$Tape" 78 ";=+-*/<()" (adK 1) s ∧ va_Z "java/lang/String" "COMPACT_STRINGS" "Z" (.int 1) (qA b) s s.heap ∧ va_Zq "jdk/internal/util/Preconditions" "SIOOBE_FORMATTER" "Ljava/util/function/BiFunction;" (qA b) s s.heap ∧ va_AO "CoatHangers$State" s ∧ (Cond.arrayOver (.array .int)).before #[] s = true ∧ va_Nw (.methodLinkNest "CoatHangers$Text" 29 ⟨"CoatHangers$Law", "<init>", "()V"⟩ "CoatHangers") s ∧ va_Nw (.methodLinkNest "CoatHangers$Reader" 27 ⟨"CoatHangers$Waiters", "<init>", "()V"⟩ "CoatHangers") s
theorem qZ.to {b : Nat} {adK adV : Nat → Nat} {s U : State} {H : Heap} {locs : List Loc} (h : qZ b adK adV s) (hS : va_S (qA b) s.heap H locs) (hU : U.heap = H) (hW : s.WarmedH U.vm) : qZ b adK adV U := by
  subst hU
  exact ⟨vk_S.moved hW.alike (h.1.kept hS.2.1), vk_R.warm hW h.2.1, vk_R.warm hW h.2.2.1, va_Z.moved hW.alike (h.2.2.2.1.kept hS.2.1), va_Zq.moved hW.alike (h.2.2.2.2.1.kept hS.2.1), va_AO.moved hW.alike h.2.2.2.2.2.1, over_moved hW.alike h.2.2.2.2.2.2.1, va_Nw.warmM hW h.2.2.2.2.2.2.2.1, va_Nw.warmM hW h.2.2.2.2.2.2.2.2⟩
theorem qZ.calling {b : Nat} {adK adV : Nat → Nat} {U : State} (h : qZ b adK adV U) (g : JFrame) (mk : MethodId) (a : Array Value) : qZ b adK adV (U.calling g mk a) :=
  ⟨vk_S.moved (u := U) (U := U.calling g mk a) (Vm.Alike.refl U.vm) h.1, vk_R.same rfl h.2.1, vk_R.same rfl h.2.2.1, va_Z.moved (u := U) (U := U.calling g mk a) (Vm.Alike.refl U.vm) h.2.2.2.1, va_Zq.moved (u := U) (U := U.calling g mk a) (Vm.Alike.refl U.vm) h.2.2.2.2.1, va_AO.moved (u := U) (U := U.calling g mk a) (Vm.Alike.refl U.vm) h.2.2.2.2.2.1, over_moved (u := U) (E := U.calling g mk a) (Vm.Alike.refl U.vm) h.2.2.2.2.2.2.1, va_Nw.same rfl rfl h.2.2.2.2.2.2.2.1, va_Nw.same rfl rfl h.2.2.2.2.2.2.2.2⟩
/-- what holds in a method: the machine, its code, its locals, its class, the tables' words, the classes, the texts, what it answers, its name -/
def qX (p : Program) (s : State) (m : MethodId) (args : Array Value) (meth : Method) (c : Code) (D : va_G) (cy : Nat → ClassId) (b : Nat) (adK adV : Nat → Nat) (cc : ByteArray) (own : String) (nL : Nat) (ret : Option FieldType) (nm : String) : Prop :=
  p.tables.exec = Jvm.exec ∧ c.code = cc ∧ c.maxLocals = nL ∧ meth.locks = false ∧ s.vm.findClass own = some m.cls ∧ (∀ w ∈ qT, w.before args s = true) ∧ va_K D qCl (qtys cy) s ∧ qZ b adK adV s ∧ meth.sig.returnType = ret ∧ meth.name = nm ∧ b + 1 ≤ s.heap.size
/-- a local's value: an int, a long, a cell of ours, an address that was there before -/
abbrev qV : Type := Int32 ⊕ Int64 ⊕ Nat ⊕ Nat
def qval (b : Nat) : qV → Value
  | .inl x => .int x
  | .inr (.inl x) => .long x
  | .inr (.inr (.inl a)) => qr b a
  | .inr (.inr (.inr a)) => .ref a
def qlg : qV → Bool
  | .inr (.inl _) => true
  | _ => false
def qLm (b : Nat) (L : List (Nat × qV)) : List (Nat × Value) := L.map (fun q => (q.1, qval b q.2))
theorem qval_cat (b : Nat) (v : qV) : ((qval b v).category == 2) = qlg v := by
  rcases v with x | x | x | x
  · rfl
  · rfl
  · show ((qr b x).category == 2) = false
    rw [qr_cat]; rfl
  · rfl
theorem qLm_at {b q i : Nat} {L : List (Nat × qV)} {v : qV} (h : L[q]? = some (i, v)) : (qLm b L)[q]? = some (i, qval b v) := by
  unfold qLm
  rw [List.getElem?_map, h]; rfl
def qf1 (i : Nat) (L : List (Nat × qV)) : List (Nat × qV) := L.filter (fun q => !(q.1 == i) && !(q.1 + 1 == i && qlg q.2))
def qf2 (i : Nat) (L : List (Nat × qV)) : List (Nat × qV) := L.filter (fun q => !(q.1 == i) && (!(q.1 == i + 1) && !(q.1 + 1 == i && qlg q.2)))
theorem qLm_f1 (b i : Nat) (L : List (Nat × qV)) : (qLm b L).filter (fun q => !(q.1 == i) && !(q.1 + 1 == i && q.2.category == 2)) = qLm b (qf1 i L) := by
  unfold qLm qf1
  rw [List.filter_map]
  congr 1
  apply List.filter_congr
  intro x _
  simp only [Function.comp, qval_cat]
theorem qLm_f2 (b i : Nat) (L : List (Nat × qV)) : (qLm b L).filter (fun q => !(q.1 == i) && (!(q.1 == i + 1) && !(q.1 + 1 == i && q.2.category == 2))) = qLm b (qf2 i L) := by
  unfold qLm qf2
  rw [List.filter_map]
  congr 1
  apply List.filter_congr
  intro x _
  simp only [Function.comp, qval_cat]
theorem qLm_c1 {b i : Nat} {v : qV} {L L' : List (Nat × qV)} (h : (i, v) :: qf1 i L = L') : (i, qval b v) :: (qLm b L).filter (fun q => !(q.1 == i) && !(q.1 + 1 == i && q.2.category == 2)) = qLm b L' := by
  rw [qLm_f1, ← h]; rfl
theorem qLm_c2 {b i : Nat} {v : qV} {L L' : List (Nat × qV)} (h : (i, v) :: qf2 i L = L') : (i, qval b v) :: (qLm b L).filter (fun q => !(q.1 == i) && (!(q.1 == i + 1) && !(q.1 + 1 == i && q.2.category == 2))) = qLm b L' := by
  rw [qLm_f2, ← h]; rfl
theorem qst8 {st : List Value} {n : Nat} (h : 2 * st.length ≤ n) : (st.map fun v => v.category).sum ≤ n := by
  have g : ∀ l : List Value, (l.map fun v => v.category).sum ≤ 2 * l.length := by
    intro l
    induction l with
    | nil => exact Nat.le_refl 0
    | cons v l ih =>
      have := lv_cat v
      simp only [List.map_cons, List.sum_cons, List.length_cons]
      omega
  exact Nat.le_trans (g st) h
def qargs : Nat → List qV → List (Nat × qV)
  | _, [] => []
  | i, v :: vs => (i, v) :: qargs (if qlg v = true then i + 2 else i + 1) vs
def qwords : List qV → Nat
  | [] => 0
  | v :: vs => (if qlg v = true then 2 else 1) + qwords vs
theorem qval_c2 (b : Nat) (v : qV) : (qval b v).category = 2 ↔ qlg v = true := by
  rw [← qval_cat b v]; exact beq_iff_eq.symm
theorem qargs_eq (b : Nat) : ∀ (vs : List qV) (i : Nat), lv_args i (vs.map (qval b)) = qLm b (qargs i vs)
  | [], _ => rfl
  | v :: vs, i => by
    show (i, qval b v) :: lv_args _ (vs.map (qval b)) = (i, qval b v) :: qLm b (qargs _ vs)
    rw [qargs_eq b vs]
    by_cases hv : qlg v = true
    · rw [if_pos ((qval_c2 b v).mpr hv), if_pos hv]
    · rw [if_neg (fun q => hv ((qval_c2 b v).mp q)), if_neg hv]
theorem qwords_eq (b : Nat) : ∀ vs : List qV, (lg_sl (vs.map (qval b))).length = qwords vs
  | [] => rfl
  | v :: vs => by
    have ih := qwords_eq b vs
    show ((if (qval b v).category = 2 then [Slot.val (qval b v), .second] else [.val (qval b v)]) ++ lg_sl (vs.map (qval b))).length = (if qlg v = true then 2 else 1) + qwords vs
    rw [List.length_append, ih]
    by_cases hv : qlg v = true
    · rw [if_pos ((qval_c2 b v).mpr hv), if_pos hv]; rfl
    · rw [if_neg (fun q => hv ((qval_c2 b v).mp q)), if_neg hv]; rfl
def qW (p : Program) (l : Launch) (e : Env) (R : Room) (s : State) (m : MethodId) (args : Array Value) (below : List Frame) (meth : Method) (c : Code) (D : va_G) (cy : Nat → ClassId) (b nL C S : Nat) (Qw : State → Prop) (pc : Nat) (L : List (Nat × qV)) (st : List Value) (h : qH) : Prop :=
  ∀ (H : Heap) (locs : List Loc) (ls : Array Slot), qP D cy b h H → va_S (qA b) s.heap H locs → lv_has ls nL (qLm b L) → W p l e R s m args below meth c H locs C S Qw (F0 m pc ls st)
/-- a method's start: its arguments, the heap -/
def qPc (D : va_G) (cy : Nat → ClassId) (b : Nat) (adK adV : Nat → Nat) (h : qH) (vs : List Value) : Array Value → State → Prop := fun v U => v = vs.toArray ∧ qP D cy b h U.heap ∧ va_K D qCl (qtys cy) U ∧ qZ b adK adV U
/-- a method's end: its answer and the heap behind it -/
def qQc {α : Type} (D : va_G) (cy : Nat → ClassId) (b : Nat) (f : α → Option Value) (Q : α → qH → Prop) : Array Value → State → Outcome → State → Prop := fun _ st o t => (∃ (r : α) (h' : qH), o = .returned (f r) ∧ Q r h' ∧ qP D cy b h' t.heap) ∧ va_F (qA b) st t
theorem qPc_blind (D : va_G) (cy : Nat → ClassId) (b : Nat) (adK adV : Nat → Nat) (h : qH) (vs : List Value) : FrameBlind (qPc D cy b adK adV h vs) := fun a U g mk q => ⟨q.1, q.2.1, va_K.moved (u := U) (U := U.calling g mk a) (Vm.Alike.refl U.vm) q.2.2.1, q.2.2.2.calling g mk a⟩
abbrev qrI (r : Int32) : Option Value := some (.int r)
abbrev qrJ (r : Int64) : Option Value := some (.long r)
abbrev qrR (b : Nat) (r : Nat) : Option Value := some (qr b r)
abbrev qrV (_ : Unit) : Option Value := none
theorem qcl_ne {ci : Nat} {q : vw_C} (h : qCl[ci]? = some q) : ci ≠ 99 := by
  have := (List.getElem?_eq_some_iff.mp h).1
  have e : qCl.length = 13 := rfl
  omega
/-- an index within an array of that kind -/
def qok (h : qH) (a t : Nat) (i : Int32) : Prop := ∃ n, qS h a = .inr (t, n) ∧ vp_in i n
def qzb (v : Int32) : Prop := v = 0 ∨ v = 1
theorem qzb_nar {v : Int32} (h : qzb v) : narrow .boolean (.int v) = .int v := by rcases h with rfl | rfl <;> rfl
theorem qzb_fit {v : Int32} (h : qzb v) : fits .boolean (.int v) = true := by rcases h with rfl | rfl <;> rfl
section QROWS
variable {p : Program} {l : Launch} {e : Env} {R : Room} {s : State} {m : MethodId} {args : Array Value} {below : List Frame} {meth : Method} {c : Code} {D : va_G} {cy : Nat → ClassId} {b nL C S : Nat} {adK adV : Nat → Nat} {Qw : State → Prop} {cc : ByteArray} {own nm : String} {ret : Option FieldType} {pc : Nat} {L L' : List (Nat × qV)} {st : List Value} {h : qH}
theorem qx_iconst (X : qX p s m args meth c D cy b adK adV cc own nL ret nm) {n : Int} {v : Int32} (d : decode cc pc = .ok (.iconst n, 1)) (hv : Int32.ofInt n = v) (k : qW p l e R s m args below meth c D cy b nL C S Qw (pc + 1) L (.int v :: st) h) : qW p l e R s m args below meth c D cy b nL C S Qw pc L st h :=
  fun H locs ls hP hS hl => lv_iconst X.1 X.2.1 d hv (k H locs ls hP hS hl)
theorem qx_bipush (X : qX p s m args meth c D cy b adK adV cc own nL ret nm) {n : Int} {v : Int32} (d : decode cc pc = .ok (.bipush n, 2)) (hv : (Int8.ofInt n).toInt32 = v) (k : qW p l e R s m args below meth c D cy b nL C S Qw (pc + 2) L (.int v :: st) h) : qW p l e R s m args below meth c D cy b nL C S Qw pc L st h :=
  fun H locs ls hP hS hl => lv_bipush X.1 X.2.1 d hv (k H locs ls hP hS hl)
theorem qx_sipush (X : qX p s m args meth c D cy b adK adV cc own nL ret nm) {n : Int} {v : Int32} (d : decode cc pc = .ok (.sipush n, 3)) (hv : (Int16.ofInt n).toInt32 = v) (k : qW p l e R s m args below meth c D cy b nL C S Qw (pc + 3) L (.int v :: st) h) : qW p l e R s m args below meth c D cy b nL C S Qw pc L st h :=
  fun H locs ls hP hS hl => lv_sipush X.1 X.2.1 d hv (k H locs ls hP hS hl)
theorem qx_lconst (X : qX p s m args meth c D cy b adK adV cc own nL ret nm) {n : Fin 2} {v : Int64} (d : decode cc pc = .ok (.lconst n, 1)) (hv : Int64.ofNat (n : Nat) = v) (k : qW p l e R s m args below meth c D cy b nL C S Qw (pc + 1) L (.long v :: st) h) : qW p l e R s m args below meth c D cy b nL C S Qw pc L st h :=
  fun H locs ls hP hS hl => lv_lconst X.1 X.2.1 d hv (k H locs ls hP hS hl)
theorem qx_ldc (X : qX p s m args meth c D cy b adK adV cc own nL ret nm) {i : Nat} {v : Int32} (w : Cond.constant own i v ∈ qT) (d : decode cc pc = .ok (.ldc i, 2)) (k : qW p l e R s m args below meth c D cy b nL C S Qw (pc + 2) L (.int v :: st) h) : qW p l e R s m args below meth c D cy b nL C S Qw pc L st h :=
  fun H locs ls hP hS hl => lv_ldc X.1 X.2.1 X.2.2.2.2.1 (X.2.2.2.2.2.1 _ w) d (k H locs ls hP hS hl)
theorem qx_ldcw (X : qX p s m args meth c D cy b adK adV cc own nL ret nm) {i : Nat} {v : Int32} (w : Cond.constant own i v ∈ qT) (d : decode cc pc = .ok (.ldc_w i, 3)) (k : qW p l e R s m args below meth c D cy b nL C S Qw (pc + 3) L (.int v :: st) h) : qW p l e R s m args below meth c D cy b nL C S Qw pc L st h :=
  fun H locs ls hP hS hl => lv_ldcw X.1 X.2.1 X.2.2.2.2.1 (X.2.2.2.2.2.1 _ w) d (k H locs ls hP hS hl)
theorem qx_ldc2 (X : qX p s m args meth c D cy b adK adV cc own nL ret nm) {i : Nat} {v : Int64} (w : Cond.constantLong own i v ∈ qT) (d : decode cc pc = .ok (.ldc2_w i, 3)) (k : qW p l e R s m args below meth c D cy b nL C S Qw (pc + 3) L (.long v :: st) h) : qW p l e R s m args below meth c D cy b nL C S Qw pc L st h :=
  fun H locs ls hP hS hl => lv_ldc2 X.1 X.2.1 X.2.2.2.2.1 (X.2.2.2.2.2.1 _ w) d (k H locs ls hP hS hl)
theorem qx_iload_n (X : qX p s m args meth c D cy b adK adV cc own nL ret nm) {n : Fin 4} {i : Nat} {x : Int32} (d : decode cc pc = .ok (.iload_n n, 1)) (hi : (n : Nat) = i) (q : Nat) (hq : L[q]? = some (i, .inl x)) (k : qW p l e R s m args below meth c D cy b nL C S Qw (pc + 1) L (.int x :: st) h) : qW p l e R s m args below meth c D cy b nL C S Qw pc L st h :=
  fun H locs ls hP hS hl => lv_iload_n X.1 X.2.1 d hi (lv_at hl q (qLm_at hq)) (k H locs ls hP hS hl)
theorem qx_iload (X : qX p s m args meth c D cy b adK adV cc own nL ret nm) {i : Nat} {x : Int32} (d : decode cc pc = .ok (.iload i, 2)) (q : Nat) (hq : L[q]? = some (i, .inl x)) (k : qW p l e R s m args below meth c D cy b nL C S Qw (pc + 2) L (.int x :: st) h) : qW p l e R s m args below meth c D cy b nL C S Qw pc L st h :=
  fun H locs ls hP hS hl => lv_iload X.1 X.2.1 d (lv_at hl q (qLm_at hq)) (k H locs ls hP hS hl)
theorem qx_lload_n (X : qX p s m args meth c D cy b adK adV cc own nL ret nm) {n : Fin 4} {i : Nat} {x : Int64} (d : decode cc pc = .ok (.lload_n n, 1)) (hi : (n : Nat) = i) (q : Nat) (hq : L[q]? = some (i, .inr (.inl x))) (k : qW p l e R s m args below meth c D cy b nL C S Qw (pc + 1) L (.long x :: st) h) : qW p l e R s m args below meth c D cy b nL C S Qw pc L st h :=
  fun H locs ls hP hS hl => lv_lload_n X.1 X.2.1 d hi (lv_at hl q (qLm_at hq)) (k H locs ls hP hS hl)
theorem qx_lload (X : qX p s m args meth c D cy b adK adV cc own nL ret nm) {i : Nat} {x : Int64} (d : decode cc pc = .ok (.lload i, 2)) (q : Nat) (hq : L[q]? = some (i, .inr (.inl x))) (k : qW p l e R s m args below meth c D cy b nL C S Qw (pc + 2) L (.long x :: st) h) : qW p l e R s m args below meth c D cy b nL C S Qw pc L st h :=
  fun H locs ls hP hS hl => lv_lload X.1 X.2.1 d (lv_at hl q (qLm_at hq)) (k H locs ls hP hS hl)
theorem qx_aload_n (X : qX p s m args meth c D cy b adK adV cc own nL ret nm) {n : Fin 4} {i : Nat} {x : Nat} (d : decode cc pc = .ok (.aload_n n, 1)) (hi : (n : Nat) = i) (q : Nat) (hq : L[q]? = some (i, .inr (.inr (.inl x)))) (k : qW p l e R s m args below meth c D cy b nL C S Qw (pc + 1) L (qr b x :: st) h) : qW p l e R s m args below meth c D cy b nL C S Qw pc L st h := by
  intro H locs ls hP hS hl
  have kk := k H locs ls hP hS hl
  have h1 : ls[i]? = some (.val (qr b x)) := lv_at hl q (qLm_at hq)
  rcases qr_cases b x with ⟨-, z⟩ | ⟨-, z⟩ <;> rw [z] at kk h1
  · exact lv_aload_nN X.1 X.2.1 d hi h1 kk
  · exact lv_aload_n X.1 X.2.1 d hi h1 kk
theorem qx_aload (X : qX p s m args meth c D cy b adK adV cc own nL ret nm) {i : Nat} {x : Nat} (d : decode cc pc = .ok (.aload i, 2)) (q : Nat) (hq : L[q]? = some (i, .inr (.inr (.inl x)))) (k : qW p l e R s m args below meth c D cy b nL C S Qw (pc + 2) L (qr b x :: st) h) : qW p l e R s m args below meth c D cy b nL C S Qw pc L st h := by
  intro H locs ls hP hS hl
  have kk := k H locs ls hP hS hl
  have h1 : ls[i]? = some (.val (qr b x)) := lv_at hl q (qLm_at hq)
  rcases qr_cases b x with ⟨-, z⟩ | ⟨-, z⟩ <;> rw [z] at kk h1
  · exact lv_aloadN X.1 X.2.1 d h1 kk
  · exact lv_aload X.1 X.2.1 d h1 kk
theorem qx_istore_n (X : qX p s m args meth c D cy b adK adV cc own nL ret nm) {n : Fin 4} {i : Nat} {x : Int32} (d : decode cc pc = .ok (.istore_n n, 1)) (hi : (n : Nat) = i) (hn : i < nL) (hL : (i, .inl x) :: qf1 i L = L') (k : qW p l e R s m args below meth c D cy b nL C S Qw (pc + 1) L' st h) : qW p l e R s m args below meth c D cy b nL C S Qw pc L (.int x :: st) h :=
  fun H locs ls hP hS hl => lv_istore_n X.1 X.2.1 d hi hl hn (qLm_c1 hL) (fun ls1 hl1 => k H locs ls1 hP hS hl1)
theorem qx_istore (X : qX p s m args meth c D cy b adK adV cc own nL ret nm) {i : Nat} {x : Int32} (d : decode cc pc = .ok (.istore i, 2)) (hn : i < nL) (hL : (i, .inl x) :: qf1 i L = L') (k : qW p l e R s m args below meth c D cy b nL C S Qw (pc + 2) L' st h) : qW p l e R s m args below meth c D cy b nL C S Qw pc L (.int x :: st) h :=
  fun H locs ls hP hS hl => lv_istore X.1 X.2.1 d hl hn (qLm_c1 hL) (fun ls1 hl1 => k H locs ls1 hP hS hl1)
theorem qx_lstore_n (X : qX p s m args meth c D cy b adK adV cc own nL ret nm) {n : Fin 4} {i : Nat} {x : Int64} (d : decode cc pc = .ok (.lstore_n n, 1)) (hi : (n : Nat) = i) (hn : i + 1 < nL) (hL : (i, .inr (.inl x)) :: qf2 i L = L') (k : qW p l e R s m args below meth c D cy b nL C S Qw (pc + 1) L' st h) : qW p l e R s m args below meth c D cy b nL C S Qw pc L (.long x :: st) h :=
  fun H locs ls hP hS hl => lv_lstore_n X.1 X.2.1 d hi hl hn (qLm_c2 hL) (fun ls1 hl1 => k H locs ls1 hP hS hl1)
theorem qx_lstore (X : qX p s m args meth c D cy b adK adV cc own nL ret nm) {i : Nat} {x : Int64} (d : decode cc pc = .ok (.lstore i, 2)) (hn : i + 1 < nL) (hL : (i, .inr (.inl x)) :: qf2 i L = L') (k : qW p l e R s m args below meth c D cy b nL C S Qw (pc + 2) L' st h) : qW p l e R s m args below meth c D cy b nL C S Qw pc L (.long x :: st) h :=
  fun H locs ls hP hS hl => lv_lstore X.1 X.2.1 d hl hn (qLm_c2 hL) (fun ls1 hl1 => k H locs ls1 hP hS hl1)
theorem qx_astore_n (X : qX p s m args meth c D cy b adK adV cc own nL ret nm) {n : Fin 4} {i : Nat} {x : Nat} (d : decode cc pc = .ok (.astore_n n, 1)) (hi : (n : Nat) = i) (hn : i < nL) (hL : (i, .inr (.inr (.inl x))) :: qf1 i L = L') (k : qW p l e R s m args below meth c D cy b nL C S Qw (pc + 1) L' st h) : qW p l e R s m args below meth c D cy b nL C S Qw pc L (qr b x :: st) h := by
  intro H locs ls hP hS hl
  have hL : (i, qr b x) :: _ = _ := qLm_c1 (b := b) hL
  rcases qr_cases b x with ⟨-, z⟩ | ⟨-, z⟩ <;> rw [z] at hL ⊢
  · exact lv_astore_nN X.1 X.2.1 d hi hl hn hL (fun ls1 hl1 => k H locs ls1 hP hS hl1)
  · exact lv_astore_n X.1 X.2.1 d hi hl hn hL (fun ls1 hl1 => k H locs ls1 hP hS hl1)
theorem qx_astore (X : qX p s m args meth c D cy b adK adV cc own nL ret nm) {i : Nat} {x : Nat} (d : decode cc pc = .ok (.astore i, 2)) (hn : i < nL) (hL : (i, .inr (.inr (.inl x))) :: qf1 i L = L') (k : qW p l e R s m args below meth c D cy b nL C S Qw (pc + 2) L' st h) : qW p l e R s m args below meth c D cy b nL C S Qw pc L (qr b x :: st) h := by
  intro H locs ls hP hS hl
  have hL : (i, qr b x) :: _ = _ := qLm_c1 (b := b) hL
  rcases qr_cases b x with ⟨-, z⟩ | ⟨-, z⟩ <;> rw [z] at hL ⊢
  · exact lv_astoreN X.1 X.2.1 d hl hn hL (fun ls1 hl1 => k H locs ls1 hP hS hl1)
  · exact lv_astore X.1 X.2.1 d hl hn hL (fun ls1 hl1 => k H locs ls1 hP hS hl1)
theorem qx_iinc (X : qX p s m args meth c D cy b adK adV cc own nL ret nm) {i : Nat} {n : Int} {x v : Int32} (d : decode cc pc = .ok (.iinc i n, 3)) (q : Nat) (hq : L[q]? = some (i, .inl x)) (hv : x + Int32.ofInt n = v) (hn : i < nL) (hL : (i, .inl v) :: qf1 i L = L') (k : qW p l e R s m args below meth c D cy b nL C S Qw (pc + 3) L' st h) : qW p l e R s m args below meth c D cy b nL C S Qw pc L st h :=
  fun H locs ls hP hS hl => lv_iinc X.1 X.2.1 d hl (qLm_at hq) hv hn (qLm_c1 hL) (fun ls1 hl1 => k H locs ls1 hP hS hl1)
theorem qx_iincW (X : qX p s m args meth c D cy b adK adV cc own nL ret nm) {i : Nat} {n : Int} {x v : Int32} (d : decode cc pc = .ok (.iinc i n, 6)) (q : Nat) (hq : L[q]? = some (i, .inl x)) (hv : x + Int32.ofInt n = v) (hn : i < nL) (hL : (i, .inl v) :: qf1 i L = L') (k : qW p l e R s m args below meth c D cy b nL C S Qw (pc + 6) L' st h) : qW p l e R s m args below meth c D cy b nL C S Qw pc L st h :=
  fun H locs ls hP hS hl => lv_iincW X.1 X.2.1 d hl (qLm_at hq) hv hn (qLm_c1 hL) (fun ls1 hl1 => k H locs ls1 hP hS hl1)
theorem qx_iadd (X : qX p s m args meth c D cy b adK adV cc own nL ret nm) {x y : Int32} (d : decode cc pc = .ok (.iadd, 1)) (k : qW p l e R s m args below meth c D cy b nL C S Qw (pc + 1) L (.int (x + y) :: st) h) : qW p l e R s m args below meth c D cy b nL C S Qw pc L (.int y :: .int x :: st) h :=
  fun H locs ls hP hS hl => lv_iadd X.1 X.2.1 d (k H locs ls hP hS hl)
theorem qx_isub (X : qX p s m args meth c D cy b adK adV cc own nL ret nm) {x y : Int32} (d : decode cc pc = .ok (.isub, 1)) (k : qW p l e R s m args below meth c D cy b nL C S Qw (pc + 1) L (.int (x - y) :: st) h) : qW p l e R s m args below meth c D cy b nL C S Qw pc L (.int y :: .int x :: st) h :=
  fun H locs ls hP hS hl => lv_isub X.1 X.2.1 d (k H locs ls hP hS hl)
theorem qx_imul (X : qX p s m args meth c D cy b adK adV cc own nL ret nm) {x y : Int32} (d : decode cc pc = .ok (.imul, 1)) (k : qW p l e R s m args below meth c D cy b nL C S Qw (pc + 1) L (.int (x * y) :: st) h) : qW p l e R s m args below meth c D cy b nL C S Qw pc L (.int y :: .int x :: st) h :=
  fun H locs ls hP hS hl => lv_imul X.1 X.2.1 d (k H locs ls hP hS hl)
theorem qx_iand (X : qX p s m args meth c D cy b adK adV cc own nL ret nm) {x y : Int32} (d : decode cc pc = .ok (.iand, 1)) (k : qW p l e R s m args below meth c D cy b nL C S Qw (pc + 1) L (.int (x &&& y) :: st) h) : qW p l e R s m args below meth c D cy b nL C S Qw pc L (.int y :: .int x :: st) h :=
  fun H locs ls hP hS hl => lv_iand X.1 X.2.1 d (k H locs ls hP hS hl)
theorem qx_ior (X : qX p s m args meth c D cy b adK adV cc own nL ret nm) {x y : Int32} (d : decode cc pc = .ok (.ior, 1)) (k : qW p l e R s m args below meth c D cy b nL C S Qw (pc + 1) L (.int (x ||| y) :: st) h) : qW p l e R s m args below meth c D cy b nL C S Qw pc L (.int y :: .int x :: st) h :=
  fun H locs ls hP hS hl => lv_ior X.1 X.2.1 d (k H locs ls hP hS hl)
theorem qx_ixor (X : qX p s m args meth c D cy b adK adV cc own nL ret nm) {x y : Int32} (d : decode cc pc = .ok (.ixor, 1)) (k : qW p l e R s m args below meth c D cy b nL C S Qw (pc + 1) L (.int (x ^^^ y) :: st) h) : qW p l e R s m args below meth c D cy b nL C S Qw pc L (.int y :: .int x :: st) h :=
  fun H locs ls hP hS hl => lv_ixor X.1 X.2.1 d (k H locs ls hP hS hl)
theorem qx_ishl (X : qX p s m args meth c D cy b adK adV cc own nL ret nm) {x y : Int32} (d : decode cc pc = .ok (.ishl, 1)) (k : qW p l e R s m args below meth c D cy b nL C S Qw (pc + 1) L (.int (x <<< (y &&& 31)) :: st) h) : qW p l e R s m args below meth c D cy b nL C S Qw pc L (.int y :: .int x :: st) h :=
  fun H locs ls hP hS hl => lv_ishl X.1 X.2.1 d (k H locs ls hP hS hl)
theorem qx_ishr (X : qX p s m args meth c D cy b adK adV cc own nL ret nm) {x y : Int32} (d : decode cc pc = .ok (.ishr, 1)) (k : qW p l e R s m args below meth c D cy b nL C S Qw (pc + 1) L (.int (x >>> (y &&& 31)) :: st) h) : qW p l e R s m args below meth c D cy b nL C S Qw pc L (.int y :: .int x :: st) h :=
  fun H locs ls hP hS hl => lv_ishr X.1 X.2.1 d (k H locs ls hP hS hl)
theorem qx_iushr (X : qX p s m args meth c D cy b adK adV cc own nL ret nm) {x y : Int32} (d : decode cc pc = .ok (.iushr, 1)) (k : qW p l e R s m args below meth c D cy b nL C S Qw (pc + 1) L (.int (x.toUInt32 >>> (y.toUInt32 &&& Int32.toUInt32 31)).toInt32 :: st) h) : qW p l e R s m args below meth c D cy b nL C S Qw pc L (.int y :: .int x :: st) h :=
  fun H locs ls hP hS hl => lv_iushr X.1 X.2.1 d rfl (k H locs ls hP hS hl)
theorem qx_idiv (X : qX p s m args meth c D cy b adK adV cc own nL ret nm) {x y : Int32} (hne : ¬ y = 0) (d : decode cc pc = .ok (.idiv, 1)) (k : qW p l e R s m args below meth c D cy b nL C S Qw (pc + 1) L (.int (x / y) :: st) h) : qW p l e R s m args below meth c D cy b nL C S Qw pc L (.int y :: .int x :: st) h :=
  fun H locs ls hP hS hl => lv_idiv X.1 X.2.1 d hne (k H locs ls hP hS hl)
theorem qx_irem (X : qX p s m args meth c D cy b adK adV cc own nL ret nm) {x y : Int32} (hne : ¬ y = 0) (d : decode cc pc = .ok (.irem, 1)) (k : qW p l e R s m args below meth c D cy b nL C S Qw (pc + 1) L (.int (x - x / y * y) :: st) h) : qW p l e R s m args below meth c D cy b nL C S Qw pc L (.int y :: .int x :: st) h :=
  fun H locs ls hP hS hl => lv_irem X.1 X.2.1 d hne (k H locs ls hP hS hl)
theorem qx_ladd (X : qX p s m args meth c D cy b adK adV cc own nL ret nm) {x y : Int64} (d : decode cc pc = .ok (.ladd, 1)) (k : qW p l e R s m args below meth c D cy b nL C S Qw (pc + 1) L (.long (x + y) :: st) h) : qW p l e R s m args below meth c D cy b nL C S Qw pc L (.long y :: .long x :: st) h :=
  fun H locs ls hP hS hl => lv_ladd X.1 X.2.1 d (k H locs ls hP hS hl)
theorem qx_lmul (X : qX p s m args meth c D cy b adK adV cc own nL ret nm) {x y : Int64} (d : decode cc pc = .ok (.lmul, 1)) (k : qW p l e R s m args below meth c D cy b nL C S Qw (pc + 1) L (.long (x * y) :: st) h) : qW p l e R s m args below meth c D cy b nL C S Qw pc L (.long y :: .long x :: st) h :=
  fun H locs ls hP hS hl => lv_lmul X.1 X.2.1 d (k H locs ls hP hS hl)
theorem qx_lcmp (X : qX p s m args meth c D cy b adK adV cc own nL ret nm) {x y : Int64} (d : decode cc pc = .ok (.lcmp, 1)) (k : qW p l e R s m args below meth c D cy b nL C S Qw (pc + 1) L (.int (lg_cmp x y) :: st) h) : qW p l e R s m args below meth c D cy b nL C S Qw pc L (.long y :: .long x :: st) h :=
  fun H locs ls hP hS hl => W.lcmp X.1 X.2.1 d (k H locs ls hP hS hl)
theorem qx_i2l (X : qX p s m args meth c D cy b adK adV cc own nL ret nm) {x : Int32} (d : decode cc pc = .ok (.i2l, 1)) (k : qW p l e R s m args below meth c D cy b nL C S Qw (pc + 1) L (.long x.toInt64 :: st) h) : qW p l e R s m args below meth c D cy b nL C S Qw pc L (.int x :: st) h :=
  fun H locs ls hP hS hl => lv_i2l X.1 X.2.1 d rfl (k H locs ls hP hS hl)
theorem qx_l2i (X : qX p s m args meth c D cy b adK adV cc own nL ret nm) {x : Int64} (d : decode cc pc = .ok (.l2i, 1)) (k : qW p l e R s m args below meth c D cy b nL C S Qw (pc + 1) L (.int x.toInt32 :: st) h) : qW p l e R s m args below meth c D cy b nL C S Qw pc L (.long x :: st) h :=
  fun H locs ls hP hS hl => lv_l2i X.1 X.2.1 d rfl (k H locs ls hP hS hl)
theorem qx_i2b (X : qX p s m args meth c D cy b adK adV cc own nL ret nm) {x : Int32} (d : decode cc pc = .ok (.i2b, 1)) (k : qW p l e R s m args below meth c D cy b nL C S Qw (pc + 1) L (.int x.toInt8.toInt32 :: st) h) : qW p l e R s m args below meth c D cy b nL C S Qw pc L (.int x :: st) h :=
  fun H locs ls hP hS hl => lv_i2b X.1 X.2.1 d rfl (k H locs ls hP hS hl)
theorem qx_i2c (X : qX p s m args meth c D cy b adK adV cc own nL ret nm) {x : Int32} (d : decode cc pc = .ok (.i2c, 1)) (k : qW p l e R s m args below meth c D cy b nL C S Qw (pc + 1) L (.int (x.toUInt32 % 65536).toInt32 :: st) h) : qW p l e R s m args below meth c D cy b nL C S Qw pc L (.int x :: st) h :=
  fun H locs ls hP hS hl => lv_i2c X.1 X.2.1 d rfl (k H locs ls hP hS hl)
theorem qx_dup (X : qX p s m args meth c D cy b adK adV cc own nL ret nm) {va : Value} (hc : va.category = 1) (d : decode cc pc = .ok (.dup, 1)) (k : qW p l e R s m args below meth c D cy b nL C S Qw (pc + 1) L (va :: va :: st) h) : qW p l e R s m args below meth c D cy b nL C S Qw pc L (va :: st) h :=
  fun H locs ls hP hS hl => lv_dup X.1 X.2.1 d hc (k H locs ls hP hS hl)
theorem qx_dup2 (X : qX p s m args meth c D cy b adK adV cc own nL ret nm) {va vb : Value} (hc : va.category = 1) (hc2 : vb.category = 1) (d : decode cc pc = .ok (.dup2, 1)) (k : qW p l e R s m args below meth c D cy b nL C S Qw (pc + 1) L (va :: vb :: va :: vb :: st) h) : qW p l e R s m args below meth c D cy b nL C S Qw pc L (va :: vb :: st) h :=
  fun H locs ls hP hS hl => lv_dup2_11 X.1 X.2.1 d hc hc2 (k H locs ls hP hS hl)
theorem qx_icmp_eq (X : qX p s m args meth c D cy b adK adV cc own nL ret nm) {x y : Int32} {off : Int} (tgt : Nat) (d : decode cc pc = .ok (.if_icmp .eq off, 3)) (ht : (pc : Int) + off = (tgt : Int)) (kt : x = y → qW p l e R s m args below meth c D cy b nL C S Qw tgt L st h) (kf : ¬ x = y → qW p l e R s m args below meth c D cy b nL C S Qw (pc + 3) L st h) : qW p l e R s m args below meth c D cy b nL C S Qw pc L (.int y :: .int x :: st) h :=
  fun H locs ls hP hS hl => lv_icmp_eq X.1 X.2.1 d ht (fun q => kt q H locs ls hP hS hl) (fun q => kf q H locs ls hP hS hl)
theorem qx_if_eq (X : qX p s m args meth c D cy b adK adV cc own nL ret nm) {x : Int32} {off : Int} (tgt : Nat) (d : decode cc pc = .ok (.ifCond .eq off, 3)) (ht : (pc : Int) + off = (tgt : Int)) (kt : x = 0 → qW p l e R s m args below meth c D cy b nL C S Qw tgt L st h) (kf : ¬ x = 0 → qW p l e R s m args below meth c D cy b nL C S Qw (pc + 3) L st h) : qW p l e R s m args below meth c D cy b nL C S Qw pc L (.int x :: st) h :=
  fun H locs ls hP hS hl => lv_if_eq X.1 X.2.1 d ht (fun q => kt q H locs ls hP hS hl) (fun q => kf q H locs ls hP hS hl)
theorem qx_icmp_ne (X : qX p s m args meth c D cy b adK adV cc own nL ret nm) {x y : Int32} {off : Int} (tgt : Nat) (d : decode cc pc = .ok (.if_icmp .ne off, 3)) (ht : (pc : Int) + off = (tgt : Int)) (kt : ¬ x = y → qW p l e R s m args below meth c D cy b nL C S Qw tgt L st h) (kf : x = y → qW p l e R s m args below meth c D cy b nL C S Qw (pc + 3) L st h) : qW p l e R s m args below meth c D cy b nL C S Qw pc L (.int y :: .int x :: st) h :=
  fun H locs ls hP hS hl => lv_icmp_ne X.1 X.2.1 d ht (fun q => kt q H locs ls hP hS hl) (fun q => kf q H locs ls hP hS hl)
theorem qx_if_ne (X : qX p s m args meth c D cy b adK adV cc own nL ret nm) {x : Int32} {off : Int} (tgt : Nat) (d : decode cc pc = .ok (.ifCond .ne off, 3)) (ht : (pc : Int) + off = (tgt : Int)) (kt : ¬ x = 0 → qW p l e R s m args below meth c D cy b nL C S Qw tgt L st h) (kf : x = 0 → qW p l e R s m args below meth c D cy b nL C S Qw (pc + 3) L st h) : qW p l e R s m args below meth c D cy b nL C S Qw pc L (.int x :: st) h :=
  fun H locs ls hP hS hl => lv_if_ne X.1 X.2.1 d ht (fun q => kt q H locs ls hP hS hl) (fun q => kf q H locs ls hP hS hl)
theorem qx_icmp_lt (X : qX p s m args meth c D cy b adK adV cc own nL ret nm) {x y : Int32} {off : Int} (tgt : Nat) (d : decode cc pc = .ok (.if_icmp .lt off, 3)) (ht : (pc : Int) + off = (tgt : Int)) (kt : x < y → qW p l e R s m args below meth c D cy b nL C S Qw tgt L st h) (kf : ¬ x < y → qW p l e R s m args below meth c D cy b nL C S Qw (pc + 3) L st h) : qW p l e R s m args below meth c D cy b nL C S Qw pc L (.int y :: .int x :: st) h :=
  fun H locs ls hP hS hl => lv_icmp_lt X.1 X.2.1 d ht (fun q => kt q H locs ls hP hS hl) (fun q => kf q H locs ls hP hS hl)
theorem qx_if_lt (X : qX p s m args meth c D cy b adK adV cc own nL ret nm) {x : Int32} {off : Int} (tgt : Nat) (d : decode cc pc = .ok (.ifCond .lt off, 3)) (ht : (pc : Int) + off = (tgt : Int)) (kt : x < 0 → qW p l e R s m args below meth c D cy b nL C S Qw tgt L st h) (kf : ¬ x < 0 → qW p l e R s m args below meth c D cy b nL C S Qw (pc + 3) L st h) : qW p l e R s m args below meth c D cy b nL C S Qw pc L (.int x :: st) h :=
  fun H locs ls hP hS hl => lv_if_lt X.1 X.2.1 d ht (fun q => kt q H locs ls hP hS hl) (fun q => kf q H locs ls hP hS hl)
theorem qx_icmp_ge (X : qX p s m args meth c D cy b adK adV cc own nL ret nm) {x y : Int32} {off : Int} (tgt : Nat) (d : decode cc pc = .ok (.if_icmp .ge off, 3)) (ht : (pc : Int) + off = (tgt : Int)) (kt : y ≤ x → qW p l e R s m args below meth c D cy b nL C S Qw tgt L st h) (kf : ¬ y ≤ x → qW p l e R s m args below meth c D cy b nL C S Qw (pc + 3) L st h) : qW p l e R s m args below meth c D cy b nL C S Qw pc L (.int y :: .int x :: st) h :=
  fun H locs ls hP hS hl => lv_icmp_ge X.1 X.2.1 d ht (fun q => kt q H locs ls hP hS hl) (fun q => kf q H locs ls hP hS hl)
theorem qx_if_ge (X : qX p s m args meth c D cy b adK adV cc own nL ret nm) {x : Int32} {off : Int} (tgt : Nat) (d : decode cc pc = .ok (.ifCond .ge off, 3)) (ht : (pc : Int) + off = (tgt : Int)) (kt : 0 ≤ x → qW p l e R s m args below meth c D cy b nL C S Qw tgt L st h) (kf : ¬ 0 ≤ x → qW p l e R s m args below meth c D cy b nL C S Qw (pc + 3) L st h) : qW p l e R s m args below meth c D cy b nL C S Qw pc L (.int x :: st) h :=
  fun H locs ls hP hS hl => lv_if_ge X.1 X.2.1 d ht (fun q => kt q H locs ls hP hS hl) (fun q => kf q H locs ls hP hS hl)
theorem qx_icmp_gt (X : qX p s m args meth c D cy b adK adV cc own nL ret nm) {x y : Int32} {off : Int} (tgt : Nat) (d : decode cc pc = .ok (.if_icmp .gt off, 3)) (ht : (pc : Int) + off = (tgt : Int)) (kt : y < x → qW p l e R s m args below meth c D cy b nL C S Qw tgt L st h) (kf : ¬ y < x → qW p l e R s m args below meth c D cy b nL C S Qw (pc + 3) L st h) : qW p l e R s m args below meth c D cy b nL C S Qw pc L (.int y :: .int x :: st) h :=
  fun H locs ls hP hS hl => lv_icmp_gt X.1 X.2.1 d ht (fun q => kt q H locs ls hP hS hl) (fun q => kf q H locs ls hP hS hl)
theorem qx_if_gt (X : qX p s m args meth c D cy b adK adV cc own nL ret nm) {x : Int32} {off : Int} (tgt : Nat) (d : decode cc pc = .ok (.ifCond .gt off, 3)) (ht : (pc : Int) + off = (tgt : Int)) (kt : 0 < x → qW p l e R s m args below meth c D cy b nL C S Qw tgt L st h) (kf : ¬ 0 < x → qW p l e R s m args below meth c D cy b nL C S Qw (pc + 3) L st h) : qW p l e R s m args below meth c D cy b nL C S Qw pc L (.int x :: st) h :=
  fun H locs ls hP hS hl => lv_if_gt X.1 X.2.1 d ht (fun q => kt q H locs ls hP hS hl) (fun q => kf q H locs ls hP hS hl)
theorem qx_icmp_le (X : qX p s m args meth c D cy b adK adV cc own nL ret nm) {x y : Int32} {off : Int} (tgt : Nat) (d : decode cc pc = .ok (.if_icmp .le off, 3)) (ht : (pc : Int) + off = (tgt : Int)) (kt : x ≤ y → qW p l e R s m args below meth c D cy b nL C S Qw tgt L st h) (kf : ¬ x ≤ y → qW p l e R s m args below meth c D cy b nL C S Qw (pc + 3) L st h) : qW p l e R s m args below meth c D cy b nL C S Qw pc L (.int y :: .int x :: st) h :=
  fun H locs ls hP hS hl => lv_icmp_le X.1 X.2.1 d ht (fun q => kt q H locs ls hP hS hl) (fun q => kf q H locs ls hP hS hl)
theorem qx_if_le (X : qX p s m args meth c D cy b adK adV cc own nL ret nm) {x : Int32} {off : Int} (tgt : Nat) (d : decode cc pc = .ok (.ifCond .le off, 3)) (ht : (pc : Int) + off = (tgt : Int)) (kt : x ≤ 0 → qW p l e R s m args below meth c D cy b nL C S Qw tgt L st h) (kf : ¬ x ≤ 0 → qW p l e R s m args below meth c D cy b nL C S Qw (pc + 3) L st h) : qW p l e R s m args below meth c D cy b nL C S Qw pc L (.int x :: st) h :=
  fun H locs ls hP hS hl => lv_if_le X.1 X.2.1 d ht (fun q => kt q H locs ls hP hS hl) (fun q => kf q H locs ls hP hS hl)
theorem qx_goto (X : qX p s m args meth c D cy b adK adV cc own nL ret nm) {off : Int} (tgt : Nat) (d : decode cc pc = .ok (.goto off, 3)) (ht : (pc : Int) + off = (tgt : Int)) (k : qW p l e R s m args below meth c D cy b nL C S Qw tgt L st h) : qW p l e R s m args below meth c D cy b nL C S Qw pc L st h :=
  fun H locs ls hP hS hl => lv_goto X.1 X.2.1 d ht (k H locs ls hP hS hl)
theorem qx_lookup (X : qX p s m args meth c D cy b adK adV cc own nL ret nm) {dflt : Int} {ps : Array (Int × Int)} {len : Nat} {x : Int32} {off : Int} (tgt : Nat) (d : decode cc pc = .ok (.lookupswitch dflt ps, len)) (hp : (ps.toList.zip (ps.toList.drop 1)).all (fun (a, next) => a.1 < next.1) = true) (ho : Op.lookupswitch.offset ps.toList dflt x.toInt = off) (ht : (pc : Int) + off = (tgt : Int)) (k : qW p l e R s m args below meth c D cy b nL C S Qw tgt L st h) : qW p l e R s m args below meth c D cy b nL C S Qw pc L (.int x :: st) h :=
  fun H locs ls hP hS hl => lv_lookup X.1 X.2.1 d hp ho ht (k H locs ls hP hS hl)
theorem qx_tableOut (X : qX p s m args meth c D cy b adK adV cc own nL ret nm) {dflt lo hi : Int} {offs : Array Int} {len : Nat} {x : Int32} (tgt : Nat) (d : decode cc pc = .ok (.tableswitch dflt lo hi offs, len)) (hx : x.toInt < lo ∨ hi < x.toInt) (ht : (pc : Int) + dflt = (tgt : Int)) (k : qW p l e R s m args below meth c D cy b nL C S Qw tgt L st h) : qW p l e R s m args below meth c D cy b nL C S Qw pc L (.int x :: st) h :=
  fun H locs ls hP hS hl => lv_tableOut X.1 X.2.1 d hx ht (k H locs ls hP hS hl)
theorem qx_tableIn (X : qX p s m args meth c D cy b adK adV cc own nL ret nm) {dflt lo hi : Int} {offs : Array Int} {len : Nat} {x : Int32} {off : Int} (tgt : Nat) (d : decode cc pc = .ok (.tableswitch dflt lo hi offs, len)) (h1 : ¬ x.toInt < lo) (h2 : ¬ hi < x.toInt) (ho : offs[(x.toInt - lo).toNat]? = some off) (ht : (pc : Int) + off = (tgt : Int)) (k : qW p l e R s m args below meth c D cy b nL C S Qw tgt L st h) : qW p l e R s m args below meth c D cy b nL C S Qw pc L (.int x :: st) h :=
  fun H locs ls hP hS hl => lv_tableIn X.1 X.2.1 d h1 h2 ho ht (k H locs ls hP hS hl)
theorem qx_getI (X : qX p s m args meth c D cy b adK adV cc own nL ret nm) {ci : Nat} {Cn : String} {T : u_T} {N : Nat} {ty : Nat → FieldType} (hc : qCls ci Cn T N ty) {a : Nat} (ha : qS h a = .inl ci) (k0 : Nat) (hk : k0 < N) (hf : qfk ci k0 = 0) {i : Nat} (w : Cond.fieldLink own i (T k0).1 (T k0).2.1 (T k0).2.2.1 ∈ qT) (d : decode cc pc = .ok (.getfield i, 3)) (k : qW p l e R s m args below meth c D cy b nL C S Qw (pc + 3) L (.int (qI h a k0) :: st) h) : qW p l e R s m args below meth c D cy b nL C S Qw pc L (qr b a :: st) h := by
  intro H locs ls hP hS hl
  have hne := qcl_ne hc.1
  rw [qr_pos (hP.is_o ha hne).1]
  have hn := hc.2.2.2.2.1
  refine va_get X.1 X.2.1 X.2.2.2.2.2.1 hc.2.1 X.2.2.2.2.1 X.2.2.2.2.2.2.1 (hP.obj ha hne) 0 rfl hc.1 k0 hk (X.2.2.2.2.2.1 _ w) (fun _ q => q) (v := .int (qI h a k0)) ?_ d (k H locs ls hP hS hl)
  rw [qfs_at (by omega), hf]
  rfl
theorem qx_getJ (X : qX p s m args meth c D cy b adK adV cc own nL ret nm) {ci : Nat} {Cn : String} {T : u_T} {N : Nat} {ty : Nat → FieldType} (hc : qCls ci Cn T N ty) {a : Nat} (ha : qS h a = .inl ci) (k0 : Nat) (hk : k0 < N) (hf : qfk ci k0 = 1) {i : Nat} (w : Cond.fieldLink own i (T k0).1 (T k0).2.1 (T k0).2.2.1 ∈ qT) (d : decode cc pc = .ok (.getfield i, 3)) (k : qW p l e R s m args below meth c D cy b nL C S Qw (pc + 3) L (.long (qJ h a k0) :: st) h) : qW p l e R s m args below meth c D cy b nL C S Qw pc L (qr b a :: st) h := by
  intro H locs ls hP hS hl
  have hne := qcl_ne hc.1
  rw [qr_pos (hP.is_o ha hne).1]
  have hn := hc.2.2.2.2.1
  refine va_get X.1 X.2.1 X.2.2.2.2.2.1 hc.2.1 X.2.2.2.2.1 X.2.2.2.2.2.2.1 (hP.obj ha hne) 0 rfl hc.1 k0 hk (X.2.2.2.2.2.1 _ w) (fun _ q => q) (v := .long (qJ h a k0)) ?_ d (k H locs ls hP hS hl)
  rw [qfs_at (by omega), hf]
  rfl
theorem qx_getR (X : qX p s m args meth c D cy b adK adV cc own nL ret nm) {ci : Nat} {Cn : String} {T : u_T} {N : Nat} {ty : Nat → FieldType} (hc : qCls ci Cn T N ty) {a : Nat} (ha : qS h a = .inl ci) (k0 : Nat) (hk : k0 < N) (hf : qfk ci k0 = 2) {i : Nat} (w : Cond.fieldLink own i (T k0).1 (T k0).2.1 (T k0).2.2.1 ∈ qT) (d : decode cc pc = .ok (.getfield i, 3)) (k : qW p l e R s m args below meth c D cy b nL C S Qw (pc + 3) L (qr b (qR h a k0) :: st) h) : qW p l e R s m args below meth c D cy b nL C S Qw pc L (qr b a :: st) h := by
  intro H locs ls hP hS hl
  have hne := qcl_ne hc.1
  rw [qr_pos (hP.is_o ha hne).1]
  have hn := hc.2.2.2.2.1
  refine va_get X.1 X.2.1 X.2.2.2.2.2.1 hc.2.1 X.2.2.2.2.1 X.2.2.2.2.2.2.1 (hP.obj ha hne) 0 rfl hc.1 k0 hk (X.2.2.2.2.2.1 _ w) (fun _ q => q) (v := qr b (qR h a k0)) ?_ d (k H locs ls hP hS hl)
  rw [qfs_at (by omega), hf]
  rfl
theorem qx_putI (X : qX p s m args meth c D cy b adK adV cc own nL ret nm) {ci : Nat} {Cn : String} {T : u_T} {N : Nat} {ty : Nat → FieldType} (hc : qCls ci Cn T N ty) {a : Nat} (ha : qS h a = .inl ci) (k0 : Nat) (hk : k0 < N) (hf : qfk ci k0 = 0) {i : Nat} (w : Cond.fieldLink own i (T k0).1 (T k0).2.1 (T k0).2.2.1 ∈ qT) {v : Int32} (hfin : (T k0).2.2.2 = false) (hnar : narrow (ty k0) (.int v) = .int v) (hfit : fits (ty k0) (.int v) = true) (d : decode cc pc = .ok (.putfield i, 3)) (k : qW p l e R s m args below meth c D cy b nL C S Qw (pc + 3) L st (qsI h a k0 v)) : qW p l e R s m args below meth c D cy b nL C S Qw pc L (.int v :: qr b a :: st) h := by
  intro H locs ls hP hS hl
  have hne := qcl_ne hc.1
  obtain ⟨a1, a2⟩ := hP.is_o ha hne
  rw [qr_pos a1]
  have hn := hc.2.2.2.2.1
  have hts := X.2.2.2.2.2.1
  have hK := X.2.2.2.2.2.2.1
  have hap := va_apart (own := own) hts hc.2.1 ty hc.2.2.1 hc.2.2.2.1 hK hc.1
  obtain ⟨r, h1, cell, q1, q2, q3, q4⟩ := hP.obj ha hne 0 _ rfl
  have hr : r = (Cn, T, N) := Option.some.inj (h1.symm.trans hc.1)
  subst hr
  obtain ⟨hSl, hfc, kC, hkC, hkind⟩ := hK.1 ci _ hc.1
  obtain ⟨cf, kf, fi, f, hi, hsl⟩ := hSl k0 hk
  have hlay := hts _ (hc.2.1 _ (u_in_lay hk))
  unfold u_lay at hlay
  rw [if_neg (by rw [hfin]; decide)] at hlay
  have hst := (u_facts hfc hkC (u_lays hts hc.2.1 hk) hi).1
  have h6 := u_store hfc hkC hkind hlay hi (hc.2.2.1 k0 hk) hnar hfit
  refine W.putK X.1 X.2.1 (f := f) ⟨X.2.2.2.2.1, hts _ w, ⟨_, _, _, hi⟩, hst⟩ (by rw [q2]; exact h6) q1 q3 (by rw [hsl]; exact k2_hasslot (q4 k0 hk)) rfl rfl d fun H' e1 e2 e3 => ?_
  rw [hsl] at e1
  refine k H' _ ls (hP.setI e2 e3 ?_) (hS.put e2 e3 (show b + 1 ≤ b + a by omega)) hl
  rw [qent_o (by show qS h a = _; exact ha)]
  refine ⟨_, hc.1, t_OB.to (V := updV (vp_V (qfs b h a ci)) k0 (.int v)) ⟨_, e1, q2, q3, t_set q4 hap hk _⟩ (fun j hj => ?_)⟩
  have hj : j < N := hj
  have hj : j < qfn ci := by omega
  rw [qfs_V hj]
  by_cases ej : j = k0
  · subst ej
    unfold updV
    rw [if_pos rfl, hf]
    show Value.int v = .int (qu h.2.2.1 a j v a j)
    rw [qu_eq, if_pos rfl]
  · unfold updV
    rw [if_neg ej, qfs_V hj]
    unfold qfv
    rw [show qI (qsI h a k0 v) a j = qI h a j from qu_eq.trans (if_neg ej)]
    rfl
theorem qx_putIF (X : qX p s m args meth c D cy b adK adV cc own nL ret nm) {ci : Nat} {Cn : String} {T : u_T} {N : Nat} {ty : Nat → FieldType} (hc : qCls ci Cn T N ty) {a : Nat} (ha : qS h a = .inl ci) (k0 : Nat) (hk : k0 < N) (hf : qfk ci k0 = 0) {i : Nat} (w : Cond.fieldLink own i (T k0).1 (T k0).2.1 (T k0).2.2.1 ∈ qT) {v : Int32} (hfin : (T k0).2.2.2 = true) (hin2 : nm = "<init>") (hdecl : (T k0).1 = own) (hnar : narrow (ty k0) (.int v) = .int v) (hfit : fits (ty k0) (.int v) = true) (d : decode cc pc = .ok (.putfield i, 3)) (k : qW p l e R s m args below meth c D cy b nL C S Qw (pc + 3) L st (qsI h a k0 v)) : qW p l e R s m args below meth c D cy b nL C S Qw pc L (.int v :: qr b a :: st) h := by
  intro H locs ls hP hS hl
  have hne := qcl_ne hc.1
  obtain ⟨a1, a2⟩ := hP.is_o ha hne
  rw [qr_pos a1]
  have hn := hc.2.2.2.2.1
  have hts := X.2.2.2.2.2.1
  have hK := X.2.2.2.2.2.2.1
  have hap := va_apart (own := own) hts hc.2.1 ty hc.2.2.1 hc.2.2.2.1 hK hc.1
  obtain ⟨r, h1, cell, q1, q2, q3, q4⟩ := hP.obj ha hne 0 _ rfl
  have hr : r = (Cn, T, N) := Option.some.inj (h1.symm.trans hc.1)
  subst hr
  obtain ⟨hSl, hfc, kC, hkC, hkind⟩ := hK.1 ci _ hc.1
  obtain ⟨cf, kf, fi, f, hi, hsl⟩ := hSl k0 hk
  have hlay := hts _ (hc.2.1 _ (u_in_lay hk))
  unfold u_lay at hlay
  rw [if_pos hfin] at hlay
  have hst := (u_facts hfc hkC (u_lays hts hc.2.1 hk) hi).1
  have hcf : m.cls = cf := by
    obtain ⟨_, _, c', _, _, _, -, -, hf', -, -, -, hown2, -⟩ := Cond.laysFinal_spec hlay
    have e1 : c' = cf := by have := hi.symm.trans hf'; simp at this; exact this.1.symm
    rw [hdecl] at hown2
    rw [← e1]; exact Option.some.inj (X.2.2.2.2.1.symm.trans hown2)
  have h6 := u_fits hfc hkC hkind (Or.inr hlay) hi (hc.2.2.1 k0 hk) hnar hfit
  refine W.putFinK X.1 X.2.1 X.2.2.2.2.1 (hts _ w) hi hst hcf (X.2.2.2.2.2.2.2.2.2.1.trans hin2) (by rw [q2]; exact h6) q1 q3 (by rw [hsl]; exact k2_hasslot (q4 k0 hk)) rfl rfl d fun H' e1 e2 e3 => ?_
  rw [hsl] at e1
  refine k H' _ ls (hP.setI e2 e3 ?_) (hS.put e2 e3 (show b + 1 ≤ b + a by omega)) hl
  rw [qent_o (by show qS h a = _; exact ha)]
  refine ⟨_, hc.1, t_OB.to (V := updV (vp_V (qfs b h a ci)) k0 (.int v)) ⟨_, e1, q2, q3, t_set q4 hap hk _⟩ (fun j hj => ?_)⟩
  have hj : j < N := hj
  have hj : j < qfn ci := by omega
  rw [qfs_V hj]
  by_cases ej : j = k0
  · subst ej
    unfold updV
    rw [if_pos rfl, hf]
    show Value.int v = .int (qu h.2.2.1 a j v a j)
    rw [qu_eq, if_pos rfl]
  · unfold updV
    rw [if_neg ej, qfs_V hj]
    unfold qfv
    rw [show qI (qsI h a k0 v) a j = qI h a j from qu_eq.trans (if_neg ej)]
    rfl
theorem qx_putJ (X : qX p s m args meth c D cy b adK adV cc own nL ret nm) {ci : Nat} {Cn : String} {T : u_T} {N : Nat} {ty : Nat → FieldType} (hc : qCls ci Cn T N ty) {a : Nat} (ha : qS h a = .inl ci) (k0 : Nat) (hk : k0 < N) (hf : qfk ci k0 = 1) {i : Nat} (w : Cond.fieldLink own i (T k0).1 (T k0).2.1 (T k0).2.2.1 ∈ qT) {v : Int64} (hfin : (T k0).2.2.2 = false) (hnar : narrow (ty k0) (.long v) = .long v) (hfit : fits (ty k0) (.long v) = true) (d : decode cc pc = .ok (.putfield i, 3)) (k : qW p l e R s m args below meth c D cy b nL C S Qw (pc + 3) L st (qsJ h a k0 v)) : qW p l e R s m args below meth c D cy b nL C S Qw pc L (.long v :: qr b a :: st) h := by
  intro H locs ls hP hS hl
  have hne := qcl_ne hc.1
  obtain ⟨a1, a2⟩ := hP.is_o ha hne
  rw [qr_pos a1]
  have hn := hc.2.2.2.2.1
  have hts := X.2.2.2.2.2.1
  have hK := X.2.2.2.2.2.2.1
  have hap := va_apart (own := own) hts hc.2.1 ty hc.2.2.1 hc.2.2.2.1 hK hc.1
  obtain ⟨r, h1, cell, q1, q2, q3, q4⟩ := hP.obj ha hne 0 _ rfl
  have hr : r = (Cn, T, N) := Option.some.inj (h1.symm.trans hc.1)
  subst hr
  obtain ⟨hSl, hfc, kC, hkC, hkind⟩ := hK.1 ci _ hc.1
  obtain ⟨cf, kf, fi, f, hi, hsl⟩ := hSl k0 hk
  have hlay := hts _ (hc.2.1 _ (u_in_lay hk))
  unfold u_lay at hlay
  rw [if_neg (by rw [hfin]; decide)] at hlay
  have hst := (u_facts hfc hkC (u_lays hts hc.2.1 hk) hi).1
  have h6 := u_store hfc hkC hkind hlay hi (hc.2.2.1 k0 hk) hnar hfit
  refine W.putK X.1 X.2.1 (f := f) ⟨X.2.2.2.2.1, hts _ w, ⟨_, _, _, hi⟩, hst⟩ (by rw [q2]; exact h6) q1 q3 (by rw [hsl]; exact k2_hasslot (q4 k0 hk)) rfl rfl d fun H' e1 e2 e3 => ?_
  rw [hsl] at e1
  refine k H' _ ls (hP.setJ e2 e3 ?_) (hS.put e2 e3 (show b + 1 ≤ b + a by omega)) hl
  rw [qent_o (by show qS h a = _; exact ha)]
  refine ⟨_, hc.1, t_OB.to (V := updV (vp_V (qfs b h a ci)) k0 (.long v)) ⟨_, e1, q2, q3, t_set q4 hap hk _⟩ (fun j hj => ?_)⟩
  have hj : j < N := hj
  have hj : j < qfn ci := by omega
  rw [qfs_V hj]
  by_cases ej : j = k0
  · subst ej
    unfold updV
    rw [if_pos rfl, hf]
    show Value.long v = .long (qu h.2.2.2.1 a j v a j)
    rw [qu_eq, if_pos rfl]
  · unfold updV
    rw [if_neg ej, qfs_V hj]
    unfold qfv
    rw [show qJ (qsJ h a k0 v) a j = qJ h a j from qu_eq.trans (if_neg ej)]
    rfl
theorem qx_putJF (X : qX p s m args meth c D cy b adK adV cc own nL ret nm) {ci : Nat} {Cn : String} {T : u_T} {N : Nat} {ty : Nat → FieldType} (hc : qCls ci Cn T N ty) {a : Nat} (ha : qS h a = .inl ci) (k0 : Nat) (hk : k0 < N) (hf : qfk ci k0 = 1) {i : Nat} (w : Cond.fieldLink own i (T k0).1 (T k0).2.1 (T k0).2.2.1 ∈ qT) {v : Int64} (hfin : (T k0).2.2.2 = true) (hin2 : nm = "<init>") (hdecl : (T k0).1 = own) (hnar : narrow (ty k0) (.long v) = .long v) (hfit : fits (ty k0) (.long v) = true) (d : decode cc pc = .ok (.putfield i, 3)) (k : qW p l e R s m args below meth c D cy b nL C S Qw (pc + 3) L st (qsJ h a k0 v)) : qW p l e R s m args below meth c D cy b nL C S Qw pc L (.long v :: qr b a :: st) h := by
  intro H locs ls hP hS hl
  have hne := qcl_ne hc.1
  obtain ⟨a1, a2⟩ := hP.is_o ha hne
  rw [qr_pos a1]
  have hn := hc.2.2.2.2.1
  have hts := X.2.2.2.2.2.1
  have hK := X.2.2.2.2.2.2.1
  have hap := va_apart (own := own) hts hc.2.1 ty hc.2.2.1 hc.2.2.2.1 hK hc.1
  obtain ⟨r, h1, cell, q1, q2, q3, q4⟩ := hP.obj ha hne 0 _ rfl
  have hr : r = (Cn, T, N) := Option.some.inj (h1.symm.trans hc.1)
  subst hr
  obtain ⟨hSl, hfc, kC, hkC, hkind⟩ := hK.1 ci _ hc.1
  obtain ⟨cf, kf, fi, f, hi, hsl⟩ := hSl k0 hk
  have hlay := hts _ (hc.2.1 _ (u_in_lay hk))
  unfold u_lay at hlay
  rw [if_pos hfin] at hlay
  have hst := (u_facts hfc hkC (u_lays hts hc.2.1 hk) hi).1
  have hcf : m.cls = cf := by
    obtain ⟨_, _, c', _, _, _, -, -, hf', -, -, -, hown2, -⟩ := Cond.laysFinal_spec hlay
    have e1 : c' = cf := by have := hi.symm.trans hf'; simp at this; exact this.1.symm
    rw [hdecl] at hown2
    rw [← e1]; exact Option.some.inj (X.2.2.2.2.1.symm.trans hown2)
  have h6 := u_fits hfc hkC hkind (Or.inr hlay) hi (hc.2.2.1 k0 hk) hnar hfit
  refine W.putFinK X.1 X.2.1 X.2.2.2.2.1 (hts _ w) hi hst hcf (X.2.2.2.2.2.2.2.2.2.1.trans hin2) (by rw [q2]; exact h6) q1 q3 (by rw [hsl]; exact k2_hasslot (q4 k0 hk)) rfl rfl d fun H' e1 e2 e3 => ?_
  rw [hsl] at e1
  refine k H' _ ls (hP.setJ e2 e3 ?_) (hS.put e2 e3 (show b + 1 ≤ b + a by omega)) hl
  rw [qent_o (by show qS h a = _; exact ha)]
  refine ⟨_, hc.1, t_OB.to (V := updV (vp_V (qfs b h a ci)) k0 (.long v)) ⟨_, e1, q2, q3, t_set q4 hap hk _⟩ (fun j hj => ?_)⟩
  have hj : j < N := hj
  have hj : j < qfn ci := by omega
  rw [qfs_V hj]
  by_cases ej : j = k0
  · subst ej
    unfold updV
    rw [if_pos rfl, hf]
    show Value.long v = .long (qu h.2.2.2.1 a j v a j)
    rw [qu_eq, if_pos rfl]
  · unfold updV
    rw [if_neg ej, qfs_V hj]
    unfold qfv
    rw [show qJ (qsJ h a k0 v) a j = qJ h a j from qu_eq.trans (if_neg ej)]
    rfl
theorem qx_putR (X : qX p s m args meth c D cy b adK adV cc own nL ret nm) {ci : Nat} {Cn : String} {T : u_T} {N : Nat} {ty : Nat → FieldType} (hc : qCls ci Cn T N ty) {a : Nat} (ha : qS h a = .inl ci) (k0 : Nat) (hk : k0 < N) (hf : qfk ci k0 = 2) {i : Nat} (w : Cond.fieldLink own i (T k0).1 (T k0).2.1 (T k0).2.2.1 ∈ qT) {v : Nat} (hfin : (T k0).2.2.2 = false) (hrf : (∃ n, ty k0 = .object n) ∨ ∃ t, ty k0 = .array t) (d : decode cc pc = .ok (.putfield i, 3)) (k : qW p l e R s m args below meth c D cy b nL C S Qw (pc + 3) L st (qsR h a k0 v)) : qW p l e R s m args below meth c D cy b nL C S Qw pc L (qr b v :: qr b a :: st) h := by
  have hnar : narrow (ty k0) (qr b v) = qr b v := by rcases hrf with ⟨n, q⟩ | ⟨n, q⟩ <;> rcases qr_cases b v with ⟨-, z⟩ | ⟨-, z⟩ <;> rw [q, z] <;> rfl
  have hfit : fits (ty k0) (qr b v) = true := by rcases hrf with ⟨n, q⟩ | ⟨n, q⟩ <;> rcases qr_cases b v with ⟨-, z⟩ | ⟨-, z⟩ <;> rw [q, z] <;> rfl
  intro H locs ls hP hS hl
  have hne := qcl_ne hc.1
  obtain ⟨a1, a2⟩ := hP.is_o ha hne
  rw [qr_pos a1]
  have hn := hc.2.2.2.2.1
  have hts := X.2.2.2.2.2.1
  have hK := X.2.2.2.2.2.2.1
  have hap := va_apart (own := own) hts hc.2.1 ty hc.2.2.1 hc.2.2.2.1 hK hc.1
  obtain ⟨r, h1, cell, q1, q2, q3, q4⟩ := hP.obj ha hne 0 _ rfl
  have hr : r = (Cn, T, N) := Option.some.inj (h1.symm.trans hc.1)
  subst hr
  obtain ⟨hSl, hfc, kC, hkC, hkind⟩ := hK.1 ci _ hc.1
  obtain ⟨cf, kf, fi, f, hi, hsl⟩ := hSl k0 hk
  have hlay := hts _ (hc.2.1 _ (u_in_lay hk))
  unfold u_lay at hlay
  rw [if_neg (by rw [hfin]; decide)] at hlay
  have hst := (u_facts hfc hkC (u_lays hts hc.2.1 hk) hi).1
  have h6 := u_store hfc hkC hkind hlay hi (hc.2.2.1 k0 hk) hnar hfit
  refine W.putK X.1 X.2.1 (f := f) ⟨X.2.2.2.2.1, hts _ w, ⟨_, _, _, hi⟩, hst⟩ (by rw [q2]; exact h6) q1 q3 (by rw [hsl]; exact k2_hasslot (q4 k0 hk)) rfl rfl d fun H' e1 e2 e3 => ?_
  rw [hsl] at e1
  refine k H' _ ls (hP.setR e2 e3 ?_) (hS.put e2 e3 (show b + 1 ≤ b + a by omega)) hl
  rw [qent_o (by show qS h a = _; exact ha)]
  refine ⟨_, hc.1, t_OB.to (V := updV (vp_V (qfs b h a ci)) k0 (qr b v)) ⟨_, e1, q2, q3, t_set q4 hap hk _⟩ (fun j hj => ?_)⟩
  have hj : j < N := hj
  have hj : j < qfn ci := by omega
  rw [qfs_V hj]
  by_cases ej : j = k0
  · subst ej
    unfold updV
    rw [if_pos rfl, hf]
    show qr b v = qr b (qu h.2.2.2.2 a j v a j)
    rw [qu_eq, if_pos rfl]
  · unfold updV
    rw [if_neg ej, qfs_V hj]
    unfold qfv
    rw [show qR (qsR h a k0 v) a j = qR h a j from qu_eq.trans (if_neg ej)]
    rfl
theorem qx_putRF (X : qX p s m args meth c D cy b adK adV cc own nL ret nm) {ci : Nat} {Cn : String} {T : u_T} {N : Nat} {ty : Nat → FieldType} (hc : qCls ci Cn T N ty) {a : Nat} (ha : qS h a = .inl ci) (k0 : Nat) (hk : k0 < N) (hf : qfk ci k0 = 2) {i : Nat} (w : Cond.fieldLink own i (T k0).1 (T k0).2.1 (T k0).2.2.1 ∈ qT) {v : Nat} (hfin : (T k0).2.2.2 = true) (hin2 : nm = "<init>") (hdecl : (T k0).1 = own) (hrf : (∃ n, ty k0 = .object n) ∨ ∃ t, ty k0 = .array t) (d : decode cc pc = .ok (.putfield i, 3)) (k : qW p l e R s m args below meth c D cy b nL C S Qw (pc + 3) L st (qsR h a k0 v)) : qW p l e R s m args below meth c D cy b nL C S Qw pc L (qr b v :: qr b a :: st) h := by
  have hnar : narrow (ty k0) (qr b v) = qr b v := by rcases hrf with ⟨n, q⟩ | ⟨n, q⟩ <;> rcases qr_cases b v with ⟨-, z⟩ | ⟨-, z⟩ <;> rw [q, z] <;> rfl
  have hfit : fits (ty k0) (qr b v) = true := by rcases hrf with ⟨n, q⟩ | ⟨n, q⟩ <;> rcases qr_cases b v with ⟨-, z⟩ | ⟨-, z⟩ <;> rw [q, z] <;> rfl
  intro H locs ls hP hS hl
  have hne := qcl_ne hc.1
  obtain ⟨a1, a2⟩ := hP.is_o ha hne
  rw [qr_pos a1]
  have hn := hc.2.2.2.2.1
  have hts := X.2.2.2.2.2.1
  have hK := X.2.2.2.2.2.2.1
  have hap := va_apart (own := own) hts hc.2.1 ty hc.2.2.1 hc.2.2.2.1 hK hc.1
  obtain ⟨r, h1, cell, q1, q2, q3, q4⟩ := hP.obj ha hne 0 _ rfl
  have hr : r = (Cn, T, N) := Option.some.inj (h1.symm.trans hc.1)
  subst hr
  obtain ⟨hSl, hfc, kC, hkC, hkind⟩ := hK.1 ci _ hc.1
  obtain ⟨cf, kf, fi, f, hi, hsl⟩ := hSl k0 hk
  have hlay := hts _ (hc.2.1 _ (u_in_lay hk))
  unfold u_lay at hlay
  rw [if_pos hfin] at hlay
  have hst := (u_facts hfc hkC (u_lays hts hc.2.1 hk) hi).1
  have hcf : m.cls = cf := by
    obtain ⟨_, _, c', _, _, _, -, -, hf', -, -, -, hown2, -⟩ := Cond.laysFinal_spec hlay
    have e1 : c' = cf := by have := hi.symm.trans hf'; simp at this; exact this.1.symm
    rw [hdecl] at hown2
    rw [← e1]; exact Option.some.inj (X.2.2.2.2.1.symm.trans hown2)
  have h6 := u_fits hfc hkC hkind (Or.inr hlay) hi (hc.2.2.1 k0 hk) hnar hfit
  refine W.putFinK X.1 X.2.1 X.2.2.2.2.1 (hts _ w) hi hst hcf (X.2.2.2.2.2.2.2.2.2.1.trans hin2) (by rw [q2]; exact h6) q1 q3 (by rw [hsl]; exact k2_hasslot (q4 k0 hk)) rfl rfl d fun H' e1 e2 e3 => ?_
  rw [hsl] at e1
  refine k H' _ ls (hP.setR e2 e3 ?_) (hS.put e2 e3 (show b + 1 ≤ b + a by omega)) hl
  rw [qent_o (by show qS h a = _; exact ha)]
  refine ⟨_, hc.1, t_OB.to (V := updV (vp_V (qfs b h a ci)) k0 (qr b v)) ⟨_, e1, q2, q3, t_set q4 hap hk _⟩ (fun j hj => ?_)⟩
  have hj : j < N := hj
  have hj : j < qfn ci := by omega
  rw [qfs_V hj]
  by_cases ej : j = k0
  · subst ej
    unfold updV
    rw [if_pos rfl, hf]
    show qr b v = qr b (qu h.2.2.2.2 a j v a j)
    rw [qu_eq, if_pos rfl]
  · unfold updV
    rw [if_neg ej, qfs_V hj]
    unfold qfv
    rw [show qR (qsR h a k0 v) a j = qR h a j from qu_eq.trans (if_neg ej)]
    rfl
theorem qx_sub (is : List Nat) (hL : is.filterMap (fun k => L[k]?) = L') (k : qW p l e R s m args below meth c D cy b nL C S Qw pc L' st h) : qW p l e R s m args below meth c D cy b nL C S Qw pc L st h := by
  intro H locs ls hP hS hl
  refine k H locs ls hP hS ⟨hl.1, hl.2.1, fun q hq => ?_⟩
  obtain ⟨x, hx, rfl⟩ := List.mem_map.mp hq
  rw [← hL] at hx
  obtain ⟨j, -, hj⟩ := List.mem_filterMap.mp hx
  exact hl.2.2 _ (List.mem_map.mpr ⟨x, List.mem_of_getElem? hj, rfl⟩)
theorem qx_topi {x : Int32} (k : ∀ y, y = x → qW p l e R s m args below meth c D cy b nL C S Qw pc L (.int y :: st) h) : qW p l e R s m args below meth c D cy b nL C S Qw pc L (.int x :: st) h := k x rfl
theorem qx_topj {x : Int64} (k : ∀ y, y = x → qW p l e R s m args below meth c D cy b nL C S Qw pc L (.long y :: st) h) : qW p l e R s m args below meth c D cy b nL C S Qw pc L (.long x :: st) h := k x rfl
theorem qx_topr {x : Nat} (k : ∀ y, y = x → qW p l e R s m args below meth c D cy b nL C S Qw pc L (qr b y :: st) h) : qW p l e R s m args below meth c D cy b nL C S Qw pc L (qr b x :: st) h := k x rfl
theorem qx_toph {x : qH} (k : ∀ y, y = x → qW p l e R s m args below meth c D cy b nL C S Qw pc L st y) : qW p l e R s m args below meth c D cy b nL C S Qw pc L st x := k x rfl
end QROWS
