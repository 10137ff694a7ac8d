/-! more rows: arrays, new cells, calls, ends. Written by wip/whole/rows2.py -/
def qdv (t : Nat) : Value := if t = 0 then .int 0 else if t = 1 then .long 0 else .null
def qrm (f cs sl lo : Nat) : Room := { frames := f, cells := cs, slots := sl, locals := lo }
theorem qdef0 : ∀ k, k < 3 → defaultValue (qTy0 k) = qdv (qfk 0 k) := by decide +kernel
theorem qdef1 : ∀ k, k < 3 → defaultValue (qTy1 k) = qdv (qfk 1 k) := by decide +kernel
theorem qdef2 : ∀ k, k < 3 → defaultValue (qTy2 k) = qdv (qfk 2 k) := by decide +kernel
theorem qdef3 : ∀ k, k < 5 → defaultValue (qTy3 k) = qdv (qfk 3 k) := by decide +kernel
theorem qdef4 : ∀ k, k < 14 → defaultValue (qTy4 k) = qdv (qfk 4 k) := by decide +kernel
theorem qdef5 : ∀ k, k < 3 → defaultValue (qTy5 k) = qdv (qfk 5 k) := by decide +kernel
theorem qdef6 : ∀ k, k < 7 → defaultValue (qTy6 k) = qdv (qfk 6 k) := by decide +kernel
theorem qdef7 : ∀ k, k < 7 → defaultValue (qTy7 k) = qdv (qfk 7 k) := by decide +kernel
theorem qdef8 : ∀ k, k < 13 → defaultValue (qTy8 k) = qdv (qfk 8 k) := by decide +kernel
theorem qdef9 : ∀ k, k < 8 → defaultValue (qTy9 k) = qdv (qfk 9 k) := by decide +kernel
theorem qdef10 : ∀ k, k < 3 → defaultValue (qTy10 k) = qdv (qfk 10 k) := by decide +kernel
theorem qdef11 : ∀ k, k < 12 → defaultValue (qTy11 k) = qdv (qfk 11 k) := by decide +kernel
theorem qdef12 : ∀ k, k < 71 → defaultValue (qTy12 k) = qdv (qfk 12 k) := by decide +kernel
section QROWS2
variable {p : Program} {l : Launch} {e : Env} {R : Room} {s : State} {m : MethodId} {args : Array Value} {below : List Frame} {meth : Method} {c : Code} {D : va_G} {cy : Nat → ClassId} {b nL C S : Nat} {adK adV : Nat → Nat} {Qw : State → Prop} {cc : ByteArray} {own nm : String} {ret : Option FieldType} {pc : Nat} {L L' : List (Nat × qV)} {st : List Value} {h : qH}
theorem qx_ild (X : qX p s m args meth c D cy b adK adV cc own nL ret nm) {a : Nat} {i : Int32} (hq : qok h a 0 i) (d : decode cc pc = .ok (.iaload, 1)) (k : qW p l e R s m args below meth c D cy b nL C S Qw (pc + 1) L (.int (qI h a i.toNatClampNeg) :: st) h) : qW p l e R s m args below meth c D cy b nL C S Qw pc L (.int i :: qr b a :: st) h := by
  intro H locs ls hP hS hl
  obtain ⟨n, hs, hin⟩ := hq
  rw [qr_pos (hP.is_a hs).1]
  exact va_iald X.1 X.2.1 X.2.2.2.2.2.2.1 (hP.arr hs) 0 0 (cA := cy 0) rfl rfl hin d (k H locs ls hP hS hl)
theorem qx_bld (X : qX p s m args meth c D cy b adK adV cc own nL ret nm) {a : Nat} {i : Int32} (hq : qok h a 1 i) (d : decode cc pc = .ok (.baload, 1)) (k : qW p l e R s m args below meth c D cy b nL C S Qw (pc + 1) L (.int (qI h a i.toNatClampNeg) :: st) h) : qW p l e R s m args below meth c D cy b nL C S Qw pc L (.int i :: qr b a :: st) h := by
  intro H locs ls hP hS hl
  obtain ⟨n, hs, hin⟩ := hq
  rw [qr_pos (hP.is_a hs).1]
  exact va_bald X.1 X.2.1 X.2.2.2.2.2.2.1 (hP.arr hs) 0 1 (cA := cy 1) rfl rfl hin d (k H locs ls hP hS hl)
theorem qx_zld (X : qX p s m args meth c D cy b adK adV cc own nL ret nm) {a : Nat} {i : Int32} (hq : qok h a 2 i) (d : decode cc pc = .ok (.baload, 1)) (k : qW p l e R s m args below meth c D cy b nL C S Qw (pc + 1) L (.int (qI h a i.toNatClampNeg) :: st) h) : qW p l e R s m args below meth c D cy b nL C S Qw pc L (.int i :: qr b a :: st) h := by
  intro H locs ls hP hS hl
  obtain ⟨n, hs, hin⟩ := hq
  rw [qr_pos (hP.is_a hs).1]
  exact va_zald X.1 X.2.1 X.2.2.2.2.2.2.1 (hP.arr hs) 0 2 (cA := cy 2) rfl rfl hin d (k H locs ls hP hS hl)
theorem qx_lld (X : qX p s m args meth c D cy b adK adV cc own nL ret nm) {a : Nat} {i : Int32} (hq : qok h a 3 i) (d : decode cc pc = .ok (.laload, 1)) (k : qW p l e R s m args below meth c D cy b nL C S Qw (pc + 1) L (.long (qJ h a i.toNatClampNeg) :: st) h) : qW p l e R s m args below meth c D cy b nL C S Qw pc L (.int i :: qr b a :: st) h := by
  intro H locs ls hP hS hl
  obtain ⟨n, hs, hin⟩ := hq
  rw [qr_pos (hP.is_a hs).1]
  exact va_lald X.1 X.2.1 X.2.2.2.2.2.2.1 (hP.arr hs) 0 3 (cA := cy 3) rfl rfl hin d (k H locs ls hP hS hl)
theorem qx_ald (X : qX p s m args meth c D cy b adK adV cc own nL ret nm) {a : Nat} {i : Int32} (hq : qok h a 4 i) (d : decode cc pc = .ok (.aaload, 1)) (k : qW p l e R s m args below meth c D cy b nL C S Qw (pc + 1) L (qr b (qR h a i.toNatClampNeg) :: st) h) : qW p l e R s m args below meth c D cy b nL C S Qw pc L (.int i :: qr b a :: st) h := by
  intro H locs ls hP hS hl
  obtain ⟨n, hs, hin⟩ := hq
  rw [qr_pos (hP.is_a hs).1]
  have hlt : i.toNatClampNeg < n := Nat.not_le.mp fun q => hin (Or.inr q)
  exact W.aald (v := qr b (qR h a i.toNatClampNeg)) (ty := qty 4) X.1 X.2.1 (hP.arr hs 0 _ rfl) ((X.2.2.2.2.2.2.1.2 4 _ rfl).1 n (fun j => va_rf (qo b (qR h a j)))) rfl (fun q => by cases q) (by show ¬ (i < 0 ∨ (arrV _ _ _).slots.size ≤ _); rw [arrV_size]; exact hin) (by show (arrV _ _ _).slots[_]? = _; rw [arrV_read _ _ hlt]; rfl) rfl rfl d (k H locs ls hP hS hl)
theorem qx_agld (X : qX p s m args meth c D cy b adK adV cc own nL ret nm) {a : Nat} {i : Int32} (hq : qok h a 5 i) (d : decode cc pc = .ok (.aaload, 1)) (k : qW p l e R s m args below meth c D cy b nL C S Qw (pc + 1) L (qr b (qR h a i.toNatClampNeg) :: st) h) : qW p l e R s m args below meth c D cy b nL C S Qw pc L (.int i :: qr b a :: st) h := by
  intro H locs ls hP hS hl
  obtain ⟨n, hs, hin⟩ := hq
  rw [qr_pos (hP.is_a hs).1]
  have hlt : i.toNatClampNeg < n := Nat.not_le.mp fun q => hin (Or.inr q)
  exact W.aald (v := qr b (qR h a i.toNatClampNeg)) (ty := qty 5) X.1 X.2.1 (hP.arr hs 0 _ rfl) ((X.2.2.2.2.2.2.1.2 5 _ rfl).1 n (fun j => va_rf (qo b (qR h a j)))) rfl (fun q => by cases q) (by show ¬ (i < 0 ∨ (arrV _ _ _).slots.size ≤ _); rw [arrV_size]; exact hin) (by show (arrV _ _ _).slots[_]? = _; rw [arrV_read _ _ hlt]; rfl) rfl rfl d (k H locs ls hP hS hl)
theorem qx_len (X : qX p s m args meth c D cy b adK adV cc own nL ret nm) {a t n : Nat} (hs : qS h a = .inr (t, n)) (ht : t < 6) (d : decode cc pc = .ok (.arraylength, 1)) (k : qW p l e R s m args below meth c D cy b nL C S Qw (pc + 1) L (.int (nI n) :: st) h) : qW p l e R s m args below meth c D cy b nL C S Qw pc L (qr b a :: st) h := by
  intro H locs ls hP hS hl
  rw [qr_pos (hP.is_a hs).1]
  have ht2 : (qtys cy)[t]? = some (cy t, qty t) := by
    match t, ht with
    | 0, _ => rfl
    | 1, _ => rfl
    | 2, _ => rfl
    | 3, _ => rfl
    | 4, _ => rfl
    | 5, _ => rfl
  exact va_alen X.1 X.2.1 X.2.2.2.2.2.2.1 (hP.arr hs) 0 t rfl ht2 (v := nI n) rfl d (k H locs ls hP hS hl)
theorem qx_ist (X : qX p s m args meth c D cy b adK adV cc own nL ret nm) {a : Nat} {i : Int32} {x : Int32} (hq : qok h a 0 i) (d : decode cc pc = .ok (.iastore, 1)) (k : qW p l e R s m args below meth c D cy b nL C S Qw (pc + 1) L st (qsI h a i.toNatClampNeg x)) : qW p l e R s m args below meth c D cy b nL C S Qw pc L (.int x :: .int i :: qr b a :: st) h := by
  intro H locs ls hP hS hl
  obtain ⟨n, hs, hin⟩ := hq
  have ha := (hP.is_a hs).1
  rw [qr_pos ha]
  refine W.iast X.1 X.2.1 (hP.arr hs 0 _ rfl) ((X.2.2.2.2.2.2.1.2 0 _ rfl).1 n (fun j => .int (qI h a j))) (fun q => by cases q) (by show ¬ (i < 0 ∨ (arrV _ _ _).slots.size ≤ _); rw [arrV_size]; exact hin) rfl rfl d fun H1 e1 z oq => ?_
  refine k H1 _ ls (hP.setI z oq ?_) (hS.put z oq (show b + 1 ≤ b + a by omega)) hl
  rw [qent_a (by show qS h a = _; exact hs)]
  show H1[b + a]? = some (vp_cell _ _)
  rw [e1]
  show some ((arrV (cy 0) n (fun j => .int (qI h a j))).setSlot _ _) = some (arrV (cy 0) n (fun j => .int (qI (qsI h a i.toNatClampNeg x) a j)))
  rw [arrV_store]
  refine congrArg (fun g => some (arrV (cy 0) n g)) (funext fun j => ?_)
  show updV _ _ _ j = .int (qu h.2.2.1 a i.toNatClampNeg x a j)
  rw [qu_eq]
  unfold updV
  by_cases ej : j = i.toNatClampNeg
  · rw [if_pos ej, if_pos ej]
  · rw [if_neg ej, if_neg ej]; rfl
theorem qx_bst (X : qX p s m args meth c D cy b adK adV cc own nL ret nm) {a : Nat} {i : Int32} {x : Int32} (hq : qok h a 1 i) (d : decode cc pc = .ok (.bastore, 1)) (k : qW p l e R s m args below meth c D cy b nL C S Qw (pc + 1) L st (qsI h a i.toNatClampNeg (vp_nar .byte x))) : qW p l e R s m args below meth c D cy b nL C S Qw pc L (.int x :: .int i :: qr b a :: st) h := by
  intro H locs ls hP hS hl
  obtain ⟨n, hs, hin⟩ := hq
  have ha := (hP.is_a hs).1
  rw [qr_pos ha]
  refine W.bast X.1 X.2.1 (hP.arr hs 0 _ rfl) ((X.2.2.2.2.2.2.1.2 1 _ rfl).1 n (fun j => .int (qI h a j))) (fun q => by cases q) (by show ¬ (i < 0 ∨ (arrV _ _ _).slots.size ≤ _); rw [arrV_size]; exact hin) rfl rfl d fun H1 e1 z oq => ?_
  refine k H1 _ ls (hP.setI z oq ?_) (hS.put z oq (show b + 1 ≤ b + a by omega)) hl
  rw [qent_a (by show qS h a = _; exact hs)]
  show H1[b + a]? = some (vp_cell _ _)
  rw [e1]
  show some ((arrV (cy 1) n (fun j => .int (qI h a j))).setSlot _ _) = some (arrV (cy 1) n (fun j => .int (qI (qsI h a i.toNatClampNeg (vp_nar .byte x)) a j)))
  rw [arrV_store]
  refine congrArg (fun g => some (arrV (cy 1) n g)) (funext fun j => ?_)
  show updV _ _ _ j = .int (qu h.2.2.1 a i.toNatClampNeg (vp_nar .byte x) a j)
  rw [qu_eq]
  unfold updV
  by_cases ej : j = i.toNatClampNeg
  · rw [if_pos ej, if_pos ej]; rfl
  · rw [if_neg ej, if_neg ej]; rfl
theorem qx_zst (X : qX p s m args meth c D cy b adK adV cc own nL ret nm) {a : Nat} {i : Int32} {x : Int32} (hq : qok h a 2 i) (d : decode cc pc = .ok (.bastore, 1)) (k : qW p l e R s m args below meth c D cy b nL C S Qw (pc + 1) L st (qsI h a i.toNatClampNeg (vp_nar .boolean x))) : qW p l e R s m args below meth c D cy b nL C S Qw pc L (.int x :: .int i :: qr b a :: st) h := by
  intro H locs ls hP hS hl
  obtain ⟨n, hs, hin⟩ := hq
  have ha := (hP.is_a hs).1
  rw [qr_pos ha]
  refine W.zast X.1 X.2.1 (hP.arr hs 0 _ rfl) ((X.2.2.2.2.2.2.1.2 2 _ rfl).1 n (fun j => .int (qI h a j))) (fun q => by cases q) (by show ¬ (i < 0 ∨ (arrV _ _ _).slots.size ≤ _); rw [arrV_size]; exact hin) rfl rfl d fun H1 e1 z oq => ?_
  refine k H1 _ ls (hP.setI z oq ?_) (hS.put z oq (show b + 1 ≤ b + a by omega)) hl
  rw [qent_a (by show qS h a = _; exact hs)]
  show H1[b + a]? = some (vp_cell _ _)
  rw [e1]
  show some ((arrV (cy 2) n (fun j => .int (qI h a j))).setSlot _ _) = some (arrV (cy 2) n (fun j => .int (qI (qsI h a i.toNatClampNeg (vp_nar .boolean x)) a j)))
  rw [arrV_store]
  refine congrArg (fun g => some (arrV (cy 2) n g)) (funext fun j => ?_)
  show updV _ _ _ j = .int (qu h.2.2.1 a i.toNatClampNeg (vp_nar .boolean x) a j)
  rw [qu_eq]
  unfold updV
  by_cases ej : j = i.toNatClampNeg
  · rw [if_pos ej, if_pos ej]; rfl
  · rw [if_neg ej, if_neg ej]; rfl
theorem qx_lst (X : qX p s m args meth c D cy b adK adV cc own nL ret nm) {a : Nat} {i : Int32} {x : Int64} (hq : qok h a 3 i) (d : decode cc pc = .ok (.lastore, 1)) (k : qW p l e R s m args below meth c D cy b nL C S Qw (pc + 1) L st (qsJ h a i.toNatClampNeg x)) : qW p l e R s m args below meth c D cy b nL C S Qw pc L (.long x :: .int i :: qr b a :: st) h := by
  intro H locs ls hP hS hl
  obtain ⟨n, hs, hin⟩ := hq
  have ha := (hP.is_a hs).1
  rw [qr_pos ha]
  refine W.last X.1 X.2.1 (hP.arr hs 0 _ rfl) ((X.2.2.2.2.2.2.1.2 3 _ rfl).1 n (fun j => .long (qJ h a j))) (fun q => by cases q) (by show ¬ (i < 0 ∨ (arrV _ _ _).slots.size ≤ _); rw [arrV_size]; exact hin) rfl rfl d fun H1 e1 z oq => ?_
  refine k H1 _ ls (hP.setJ z oq ?_) (hS.put z oq (show b + 1 ≤ b + a by omega)) hl
  rw [qent_a (by show qS h a = _; exact hs)]
  show H1[b + a]? = some (vp_cell _ _)
  rw [e1]
  show some ((arrV (cy 3) n (fun j => .long (qJ h a j))).setSlot _ _) = some (arrV (cy 3) n (fun j => .long (qJ (qsJ h a i.toNatClampNeg x) a j)))
  rw [arrV_store]
  refine congrArg (fun g => some (arrV (cy 3) n g)) (funext fun j => ?_)
  show updV _ _ _ j = .long (qu h.2.2.2.1 a i.toNatClampNeg x a j)
  rw [qu_eq]
  unfold updV
  by_cases ej : j = i.toNatClampNeg
  · rw [if_pos ej, if_pos ej]
  · rw [if_neg ej, if_neg ej]; rfl
theorem qx_ast (X : qX p s m args meth c D cy b adK adV cc own nL ret nm) {a v ci : Nat} {i : Int32} {T : u_T} {N : Nat} {ty : Nat → FieldType} (hc : qCls ci "CoatHangers$State" T N ty) (hv : qS h v = .inl ci) (hq : qok h a 4 i) (d : decode cc pc = .ok (.aastore, 1)) (k : qW p l e R s m args below meth c D cy b nL C S Qw (pc + 1) L st (qsR h a i.toNatClampNeg v)) : qW p l e R s m args below meth c D cy b nL C S Qw pc L (qr b v :: .int i :: qr b a :: st) h := by
  intro H locs ls hP hS hl
  obtain ⟨n, hs, hin⟩ := hq
  have ha := (hP.is_a hs).1
  have hne := qcl_ne hc.1
  have hv1 := (hP.is_o hv hne).1
  rw [qr_pos ha, qr_pos hv1]
  have hK := X.2.2.2.2.2.2.1
  have hlt : i.toNatClampNeg < n := Nat.not_le.mp fun q => hin (Or.inr q)
  have h0 : ¬ i < 0 := fun q => hin (Or.inl q)
  obtain ⟨r', hr', cellV, g1, g2, g3, -⟩ := hP.obj hv hne 0 _ rfl
  have hcls := (hK.1 ci _ hc.1).2
  obtain ⟨kA, comp, k1, k2, k3, -⟩ := (hK.2 4 _ rfl).2
  have hcomp : comp = D.1 ci := Option.some.inj (k3.symm.trans hcls.1)
  subst hcomp
  obtain ⟨kC, hkC, -⟩ := hcls.2
  refine W.aast X.1 X.2.1 (hP.arr hs 0 _ rfl) (fun q h => by cases h) (fun h => by cases h) k1 k2 rfl hkC ⟨h0, by show _ < (arrV _ _ _).slots.size; rw [arrV_size]; exact hlt⟩ g1 (fun q h => by rw [g3] at h; cases h) (by rw [g2]; exact hkC) (by rw [g2]; exact va_assign hcls) rfl rfl d fun H1 e1 z oq => ?_
  refine k H1 _ ls (hP.setR z oq ?_) (hS.put z oq (show b + 1 ≤ b + a by omega)) hl
  rw [qent_a (by show qS h a = _; exact hs)]
  show H1[b + a]? = some (vp_cell _ _)
  rw [e1]
  show some ((arrV (cy 4) n (fun j => va_rf (qo b (qR h a j)))).setSlot _ _) = some (arrV (cy 4) n (fun j => va_rf (qo b (qR (qsR h a i.toNatClampNeg v) a j))))
  rw [arrV_store]
  refine congrArg (fun g => some (arrV (cy 4) n g)) (funext fun j => ?_)
  show updV _ _ _ j = qr b (qu h.2.2.2.2 a i.toNatClampNeg v a j)
  rw [qu_eq]
  unfold updV
  by_cases ej : j = i.toNatClampNeg
  · rw [if_pos ej, if_pos ej, qr_pos hv1]
  · rw [if_neg ej, if_neg ej]; rfl
theorem qx_new (X : qX p s m args meth c D cy b adK adV cc own nL ret nm) {ci : Nat} {Cn : String} {T : u_T} {N : Nat} {ty : Nat → FieldType} (hc : qCls ci Cn T N ty) (hdf : ∀ k, k < N → defaultValue (ty k) = qdv (qfk ci k)) {i : Nat} (w1 : Cond.classLink own i Cn ∈ qT) (w2 : Cond.instantiable Cn N ∈ qT) (w3 : Cond.initialized Cn ∈ qT) (hC : C + 1 ≤ R.cells) (hSl : S + N ≤ R.slots) (d : decode cc pc = .ok (.new i, 3)) (k : qW p l e R s m args below meth c D cy b nL (C + 1) (S + N) Qw (pc + 3) L (qr b (qN h + 1) :: st) (qnew h (.inl ci))) : qW p l e R s m args below meth c D cy b nL C S Qw pc L st h := by
  intro H locs ls hP hS hl
  have hts := X.2.2.2.2.2.1
  have hKn := X.2.2.2.2.2.2.1.1 ci _ hc.1
  refine W.newcK X.1 X.2.1 X.2.2.2.2.1 (hts _ w1) (hts _ w2) (hts _ w3) rfl d hC hSl hKn.2.1 rfl fun H1 kC hkC e1 z1 o1 => ?_
  have hq : Value.ref H.size = qr b (qN h + 1) := by rw [qr_pos (Nat.succ_pos _), hP.1, Nat.add_assoc b 1, Nat.add_comm 1]
  show W _ _ _ _ _ _ _ _ _ _ _ _ _ _ _ (F0 m (pc + 3) ls (.ref H.size :: st))
  rw [hq]
  refine k H1 locs ls (hP.born z1 o1 ?_) ⟨by have := hS.1; omega, fun x h1 h2 => (o1 x (Nat.lt_of_lt_of_le h1 hS.1)).trans (hS.2.1 x h1 h2), hS.2.2⟩ hl
  have hs : qS (qnew h (.inl ci)) (qN h + 1) = .inl ci := if_pos rfl
  rw [qent_o hs]
  refine ⟨_, hc.1, (u_born ty hts hc.2.1 hKn hkC e1 hc.2.2.1).to (fun j hj => ?_)⟩
  have hj : j < N := hj
  have hn := hc.2.2.2.2.1
  rw [qfs_V (by omega), hdf j hj]
  have i0 : qI (qnew h (.inl ci)) (qN h + 1) j = 0 := if_pos rfl
  have j0 : qJ (qnew h (.inl ci)) (qN h + 1) j = 0 := if_pos rfl
  have r0 : qR (qnew h (.inl ci)) (qN h + 1) j = 0 := if_pos rfl
  unfold qfv qdv
  rw [i0, j0, r0]
  rfl
theorem qx_newaI (X : qX p s m args meth c D cy b adK adV cc own nL ret nm) {n : Int32} {N : Nat} (w : Cond.arrayClass (qty 0) ∈ qT) (hn : ¬ n < 0) (hN : n.toNatClampNeg = N) (hby : N * componentBytes (qty 0) ≤ 536870912) (hC : C + 1 ≤ R.cells) (hSl : S + N ≤ R.slots) (d : decode cc pc = .ok (.newarray .int, 2)) (k : qW p l e R s m args below meth c D cy b nL (C + 1) (S + N) Qw (pc + 2) L (qr b (qN h + 1) :: st) (qnew h (.inr (0, N)))) : qW p l e R s m args below meth c D cy b nL C S Qw pc L (.int n :: st) h := by
  intro H locs ls hP hS hl
  refine va_newaK (atype := .int) X.1 X.2.1 (X.2.2.2.2.2.1 _ w) rfl d rfl hn hN hby hC hSl rfl fun H1 cA e1 z1 o1 hAr hNm => ?_
  have hcA : cA = cy 0 := Option.some.inj (hNm.symm.trans (X.2.2.2.2.2.2.1.2 0 _ rfl).2)
  subst hcA
  have hq : Value.ref H.size = qr b (qN h + 1) := by rw [qr_pos (Nat.succ_pos _), hP.1, Nat.add_assoc b 1, Nat.add_comm 1]
  show W _ _ _ _ _ _ _ _ _ _ _ _ _ _ _ (F0 m (pc + 2) ls (.ref H.size :: st))
  rw [hq]
  refine k H1 locs ls (hP.born z1 o1 ?_) ⟨by have := hS.1; omega, fun x h1 h2 => (o1 x (Nat.lt_of_lt_of_le h1 hS.1)).trans (hS.2.1 x h1 h2), hS.2.2⟩ hl
  have hs : qS (qnew h (.inr (0, N))) (qN h + 1) = .inr (0, N) := if_pos rfl
  rw [qent_a hs]
  show H1[H.size]? = some (arrV (cy 0) N (fun j => .int (qI (qnew h (.inr (0, N))) (qN h + 1) j)))
  rw [e1]
  refine congrArg (fun g => some (arrV (cy 0) N g)) (funext fun j => ?_)
  have i0 : qI (qnew h (.inr (0, N))) (qN h + 1) j = 0 := if_pos rfl
  rw [i0]
  rfl
theorem qx_newaB (X : qX p s m args meth c D cy b adK adV cc own nL ret nm) {n : Int32} {N : Nat} (w : Cond.arrayClass (qty 1) ∈ qT) (hn : ¬ n < 0) (hN : n.toNatClampNeg = N) (hby : N * componentBytes (qty 1) ≤ 536870912) (hC : C + 1 ≤ R.cells) (hSl : S + N ≤ R.slots) (d : decode cc pc = .ok (.newarray .byte, 2)) (k : qW p l e R s m args below meth c D cy b nL (C + 1) (S + N) Qw (pc + 2) L (qr b (qN h + 1) :: st) (qnew h (.inr (1, N)))) : qW p l e R s m args below meth c D cy b nL C S Qw pc L (.int n :: st) h := by
  intro H locs ls hP hS hl
  refine va_newaK (atype := .byte) X.1 X.2.1 (X.2.2.2.2.2.1 _ w) rfl d rfl hn hN hby hC hSl rfl fun H1 cA e1 z1 o1 hAr hNm => ?_
  have hcA : cA = cy 1 := Option.some.inj (hNm.symm.trans (X.2.2.2.2.2.2.1.2 1 _ rfl).2)
  subst hcA
  have hq : Value.ref H.size = qr b (qN h + 1) := by rw [qr_pos (Nat.succ_pos _), hP.1, Nat.add_assoc b 1, Nat.add_comm 1]
  show W _ _ _ _ _ _ _ _ _ _ _ _ _ _ _ (F0 m (pc + 2) ls (.ref H.size :: st))
  rw [hq]
  refine k H1 locs ls (hP.born z1 o1 ?_) ⟨by have := hS.1; omega, fun x h1 h2 => (o1 x (Nat.lt_of_lt_of_le h1 hS.1)).trans (hS.2.1 x h1 h2), hS.2.2⟩ hl
  have hs : qS (qnew h (.inr (1, N))) (qN h + 1) = .inr (1, N) := if_pos rfl
  rw [qent_a hs]
  show H1[H.size]? = some (arrV (cy 1) N (fun j => .int (qI (qnew h (.inr (1, N))) (qN h + 1) j)))
  rw [e1]
  refine congrArg (fun g => some (arrV (cy 1) N g)) (funext fun j => ?_)
  have i0 : qI (qnew h (.inr (1, N))) (qN h + 1) j = 0 := if_pos rfl
  rw [i0]
  rfl
theorem qx_newaZ (X : qX p s m args meth c D cy b adK adV cc own nL ret nm) {n : Int32} {N : Nat} (w : Cond.arrayClass (qty 2) ∈ qT) (hn : ¬ n < 0) (hN : n.toNatClampNeg = N) (hby : N * componentBytes (qty 2) ≤ 536870912) (hC : C + 1 ≤ R.cells) (hSl : S + N ≤ R.slots) (d : decode cc pc = .ok (.newarray .boolean, 2)) (k : qW p l e R s m args below meth c D cy b nL (C + 1) (S + N) Qw (pc + 2) L (qr b (qN h + 1) :: st) (qnew h (.inr (2, N)))) : qW p l e R s m args below meth c D cy b nL C S Qw pc L (.int n :: st) h := by
  intro H locs ls hP hS hl
  refine va_newaK (atype := .boolean) X.1 X.2.1 (X.2.2.2.2.2.1 _ w) rfl d rfl hn hN hby hC hSl rfl fun H1 cA e1 z1 o1 hAr hNm => ?_
  have hcA : cA = cy 2 := Option.some.inj (hNm.symm.trans (X.2.2.2.2.2.2.1.2 2 _ rfl).2)
  subst hcA
  have hq : Value.ref H.size = qr b (qN h + 1) := by rw [qr_pos (Nat.succ_pos _), hP.1, Nat.add_assoc b 1, Nat.add_comm 1]
  show W _ _ _ _ _ _ _ _ _ _ _ _ _ _ _ (F0 m (pc + 2) ls (.ref H.size :: st))
  rw [hq]
  refine k H1 locs ls (hP.born z1 o1 ?_) ⟨by have := hS.1; omega, fun x h1 h2 => (o1 x (Nat.lt_of_lt_of_le h1 hS.1)).trans (hS.2.1 x h1 h2), hS.2.2⟩ hl
  have hs : qS (qnew h (.inr (2, N))) (qN h + 1) = .inr (2, N) := if_pos rfl
  rw [qent_a hs]
  show H1[H.size]? = some (arrV (cy 2) N (fun j => .int (qI (qnew h (.inr (2, N))) (qN h + 1) j)))
  rw [e1]
  refine congrArg (fun g => some (arrV (cy 2) N g)) (funext fun j => ?_)
  have i0 : qI (qnew h (.inr (2, N))) (qN h + 1) j = 0 := if_pos rfl
  rw [i0]
  rfl
theorem qx_newaJ (X : qX p s m args meth c D cy b adK adV cc own nL ret nm) {n : Int32} {N : Nat} (w : Cond.arrayClass (qty 3) ∈ qT) (hn : ¬ n < 0) (hN : n.toNatClampNeg = N) (hby : N * componentBytes (qty 3) ≤ 536870912) (hC : C + 1 ≤ R.cells) (hSl : S + N ≤ R.slots) (d : decode cc pc = .ok (.newarray .long, 2)) (k : qW p l e R s m args below meth c D cy b nL (C + 1) (S + N) Qw (pc + 2) L (qr b (qN h + 1) :: st) (qnew h (.inr (3, N)))) : qW p l e R s m args below meth c D cy b nL C S Qw pc L (.int n :: st) h := by
  intro H locs ls hP hS hl
  refine va_newaK (atype := .long) X.1 X.2.1 (X.2.2.2.2.2.1 _ w) rfl d rfl hn hN hby hC hSl rfl fun H1 cA e1 z1 o1 hAr hNm => ?_
  have hcA : cA = cy 3 := Option.some.inj (hNm.symm.trans (X.2.2.2.2.2.2.1.2 3 _ rfl).2)
  subst hcA
  have hq : Value.ref H.size = qr b (qN h + 1) := by rw [qr_pos (Nat.succ_pos _), hP.1, Nat.add_assoc b 1, Nat.add_comm 1]
  show W _ _ _ _ _ _ _ _ _ _ _ _ _ _ _ (F0 m (pc + 2) ls (.ref H.size :: st))
  rw [hq]
  refine k H1 locs ls (hP.born z1 o1 ?_) ⟨by have := hS.1; omega, fun x h1 h2 => (o1 x (Nat.lt_of_lt_of_le h1 hS.1)).trans (hS.2.1 x h1 h2), hS.2.2⟩ hl
  have hs : qS (qnew h (.inr (3, N))) (qN h + 1) = .inr (3, N) := if_pos rfl
  rw [qent_a hs]
  show H1[H.size]? = some (arrV (cy 3) N (fun j => .long (qJ (qnew h (.inr (3, N))) (qN h + 1) j)))
  rw [e1]
  refine congrArg (fun g => some (arrV (cy 3) N g)) (funext fun j => ?_)
  have i0 : qJ (qnew h (.inr (3, N))) (qN h + 1) j = 0 := if_pos rfl
  rw [i0]
  rfl
theorem qx_anew (X : qX p s m args meth c D cy b adK adV cc own nL ret nm) {n : Int32} {N : Nat} {i : Nat} (w1 : Cond.classLink own i "CoatHangers$State" ∈ qT) (hn : ¬ n < 0) (hN : n.toNatClampNeg = N) (hby : N * 4 ≤ 536870912) (hC : C + 1 ≤ R.cells) (hSl : S + N ≤ R.slots) (d : decode cc pc = .ok (.anewarray i, 3)) (k : qW p l e R s m args below meth c D cy b nL (C + 1) (S + N) Qw (pc + 3) L (qr b (qN h + 1) :: st) (qnew h (.inr (4, N)))) : qW p l e R s m args below meth c D cy b nL C S Qw pc L (.int n :: st) h := by
  intro H locs ls hP hS hl
  subst hN
  refine W.anew X.1 X.2.1 X.2.2.2.2.1 (X.2.2.2.2.2.1 _ w1) (va_AO.use X.2.2.2.2.2.2.2.1.2.2.2.2.2.1) rfl d rfl hn hby hC hSl fun cA kA comp f1 f2 f3 f4 => ?_
  have hcA : cA = cy 4 := by
    obtain ⟨kA', comp', -, -, -, g⟩ := (X.2.2.2.2.2.2.1.2 4 _ rfl).2
    exact Option.some.inj (f1.symm.trans g)
  subst hcA
  generalize hH1 : H.push ({ cls := cy 4, slots := Array.replicate n.toNatClampNeg .null, vm := .none } : Cell) = H1
  have z1 : H1.size = H.size + 1 := by rw [← hH1, Array.size_push]
  have e1 : H1[H.size]? = some (arrV (cy 4) n.toNatClampNeg (fun _ => .null)) := by rw [← hH1, Array.getElem?_push_size, ← arrV_new]
  have o1 : ∀ q : Nat, q < H.size → H1[q]? = H[q]? := fun q hq => by rw [← hH1, Array.getElem?_push, if_neg (Nat.ne_of_lt hq)]
  have hq : Value.ref H.size = qr b (qN h + 1) := by rw [qr_pos (Nat.succ_pos _), hP.1, Nat.add_assoc b 1, Nat.add_comm 1]
  show W _ _ _ _ _ _ _ _ _ _ _ _ _ _ _ (F0 m (pc + 3) ls (.ref H.size :: st))
  rw [hq]
  refine k H1 locs ls (hP.born z1 o1 ?_) ⟨by have := hS.1; omega, fun x h1 h2 => (o1 x (Nat.lt_of_lt_of_le h1 hS.1)).trans (hS.2.1 x h1 h2), hS.2.2⟩ hl
  have hs : qS (qnew h (.inr (4, n.toNatClampNeg))) (qN h + 1) = .inr (4, n.toNatClampNeg) := if_pos rfl
  rw [qent_a hs]
  show H1[H.size]? = some (arrV (cy 4) n.toNatClampNeg (fun j => va_rf (qo b (qR (qnew h (.inr (4, n.toNatClampNeg))) (qN h + 1) j))))
  rw [e1]
  refine congrArg (fun g => some (arrV (cy 4) n.toNatClampNeg g)) (funext fun j => ?_)
  have i0 : qR (qnew h (.inr (4, n.toNatClampNeg))) (qN h + 1) j = 0 := if_pos rfl
  rw [i0]
  rfl
theorem qx_oinit (X : qX p s m args meth c D cy b adK adV cc own nL ret nm) {x i : Nat} (hx : 0 < x) (w1 : Cond.methodLink own i objectInit ∈ qT) (w2 : Cond.instanceMethod objectInit ∈ qT) (w3 : Cond.code objectInit ⟨#[0xb1]⟩ 1 none ∈ qT) (hf : 1 ≤ R.frames) (hlo : 2 * st.length + 12 ≤ R.locals) (d : decode cc pc = .ok (.invokespecial i, 3)) (k : qW p l e R s m args below meth c D cy b nL C S Qw (pc + 3) L st h) : qW p l e R s m args below meth c D cy b nL C S Qw pc L (qr b x :: st) h := by
  intro H locs ls hP hS hl
  rw [qr_pos hx]
  exact W.objInit X.1 X.2.1 X.2.2.2.2.1 (X.2.2.2.2.2.1 _ w1) (X.2.2.2.2.2.1 _ w2) (X.2.2.2.2.2.1 _ w3) rfl (by rw [X.2.2.1]; exact hl.1) rfl d hf (by have := qst8 (Nat.le_refl (2 * st.length)); show 2 * 0 + _ + 12 ≤ _; omega) (k H locs ls hP hS hl)
theorem qx_iret (X : qX p s m args meth c D cy b adK adV cc own nL ret nm) {mc ms : Nat} {Q : Int32 → qH → Prop} {v : Int32} (hQ : Q v h) (hC : C ≤ mc) (hSl : S ≤ ms) (hr : ret = some .int) (d : decode cc pc = .ok (.ireturn, 1)) : qW p l e R s m args below meth c D cy b nL C S (MQ below (qQc D cy b qrI Q) args s mc ms (qA b)) pc L [.int v] h := by
  intro H locs ls hP hS hl
  have hlocks : meth.locks = false := X.2.2.2.1
  refine W.widen (k := mc) (n := ms) hC hSl ?_
  exact W.iret (v := v) X.1 X.2.1 (X.2.2.2.2.2.2.2.2.1.trans hr) (fun t ht hW => ⟨⟨v, h, rfl, hQ, by rw [ht]; exact hP⟩, hS.F ht⟩) hS.2.2 d
theorem qx_zret (X : qX p s m args meth c D cy b adK adV cc own nL ret nm) {mc ms : Nat} {Q : Int32 → qH → Prop} {v : Int32} (hQ : qzb v ∧ Q v h) (hC : C ≤ mc) (hSl : S ≤ ms) (hr : ret = some .boolean) (d : decode cc pc = .ok (.ireturn, 1)) : qW p l e R s m args below meth c D cy b nL C S (MQ below (qQc D cy b qrI Q) args s mc ms (qA b)) pc L [.int v] h := by
  intro H locs ls hP hS hl
  have hlocks : meth.locks = false := X.2.2.2.1
  refine W.widen (k := mc) (n := ms) hC hSl ?_
  exact W.zret (v := v) X.1 X.2.1 (X.2.2.2.2.2.2.2.2.1.trans hr) (qzb_nar hQ.1) (fun t ht hW => ⟨⟨v, h, rfl, hQ.2, by rw [ht]; exact hP⟩, hS.F ht⟩) hS.2.2 d
theorem qx_lret (X : qX p s m args meth c D cy b adK adV cc own nL ret nm) {mc ms : Nat} {Q : Int64 → qH → Prop} {v : Int64} (hQ : Q v h) (hC : C ≤ mc) (hSl : S ≤ ms) (hr : ret = some .long) (d : decode cc pc = .ok (.lreturn, 1)) : qW p l e R s m args below meth c D cy b nL C S (MQ below (qQc D cy b qrJ Q) args s mc ms (qA b)) pc L [.long v] h := by
  intro H locs ls hP hS hl
  have hlocks : meth.locks = false := X.2.2.2.1
  refine W.widen (k := mc) (n := ms) hC hSl ?_
  exact W.lret (v := v) X.1 X.2.1 (X.2.2.2.2.2.2.2.2.1.trans hr) (fun t ht hW => ⟨⟨v, h, rfl, hQ, by rw [ht]; exact hP⟩, hS.F ht⟩) hS.2.2 d
theorem qx_aret (X : qX p s m args meth c D cy b adK adV cc own nL ret nm) {mc ms : Nat} {Q : Nat → qH → Prop} {v : Nat} {rt : FieldType} (hQ : Q v h) (hC : C ≤ mc) (hSl : S ≤ ms) (hr : ret = some rt) (hrt : (∃ n, rt = .object n) ∨ ∃ t, rt = .array t) (d : decode cc pc = .ok (.areturn, 1)) : qW p l e R s m args below meth c D cy b nL C S (MQ below (qQc D cy b (qrR b) Q) args s mc ms (qA b)) pc L [qr b v] h := by
  intro H locs ls hP hS hl
  have hlocks : meth.locks = false := X.2.2.2.1
  refine W.widen (k := mc) (n := ms) hC hSl ?_
  exact W.aret (v := qr b v) X.1 X.2.1 (X.2.2.2.2.2.2.2.2.1.trans hr) hrt (by rcases qr_cases b v with ⟨-, z⟩ | ⟨-, z⟩; exact Or.inl z; exact Or.inr ⟨_, z⟩) (fun t ht hW => ⟨⟨v, h, rfl, hQ, by rw [ht]; exact hP⟩, hS.F ht⟩) hS.2.2 d
theorem qx_vret (X : qX p s m args meth c D cy b adK adV cc own nL ret nm) {mc ms : Nat} {Q : qH → Prop}  (hQ : Q h) (hC : C ≤ mc) (hSl : S ≤ ms) (hr : ret = none) (d : decode cc pc = .ok (.return_, 1)) : qW p l e R s m args below meth c D cy b nL C S (MQ below (qQc D cy b qrV (fun (_ : Unit) h => Q h)) args s mc ms (qA b)) pc L [] h := by
  intro H locs ls hP hS hl
  have hlocks : meth.locks = false := X.2.2.2.1
  refine W.widen (k := mc) (n := ms) hC hSl ?_
  exact W.vret X.1 X.2.1 (X.2.2.2.2.2.2.2.2.1.trans hr) (fun t ht hW => ⟨⟨(), h, rfl, hQ, by rw [ht]; exact hP⟩, hS.F ht⟩) hS.2.2 d
theorem qcont {α : Type} {f : α → Option Value} {Q : α → qH → Prop} {H : Heap} {locs : List Loc} {ls : Array Slot} {st0 rest : List Value} {aa : Array Value} {mc ms : Nat} (hr : va_Run p l e R s m args below meth c H locs C S mc ms (F0 m pc ls st0) rest (qQc D cy b f Q aa) (qA b)) (hS : va_S (qA b) s.heap H locs) (hl : lv_has ls nL (qLm b L))
    (kk : ∀ (r : α) (h' : qH), Q r h' → qW p l e R s m args below meth c D cy b nL (C + mc) (S + ms) Qw (pc + 3) L ((f r).toList ++ rest) h') : W p l e R s m args below meth c H locs C S Qw (F0 m pc ls st0) := by
  intro T hT Xs
  obtain ⟨v, st₀, t, T', Lc, h0, X', hL, e1, e2, ⟨⟨r, h', hv, hq, hp⟩, hz, hk⟩, stp⟩ := hr T hT Xs
  cases hv
  rw [h0] at hz hk
  obtain ⟨t2, a1, b1⟩ := kk r h' hq T'.heap (locs ++ Lc) ls (by rw [e1]; exact hp)
    ⟨Nat.le_trans hS.1 (by rw [e1]; exact hz), fun q h1 h2 => by rw [e1, hk q (Nat.lt_of_lt_of_le h1 hS.1) h2]; exact hS.2.1 q h1 h2, fun q hq => by
      rcases List.mem_append.mp hq with h | h
      · exact hS.2.2 q h
      · exact hL q h⟩ hl T' rfl X'
  exact ⟨t2, stp t2 a1, b1⟩
/-- what the tables say of a method of ours -/
def qMt (y : MethodName) (bytes : ByteArray) (maxL : Nat) (ret : Option FieldType) (n : Nat) : Prop := Cond.code y bytes maxL ret ∈ qT ∧ Cond.initialized y.cls ∈ qT ∧ y.cls ≠ "java/lang/invoke/MethodHandle" ∧ y.cls ≠ "java/lang/invoke/VarHandle" ∧ (parseMethodDescriptor y.desc).map (fun d => d.parameters.length) = some n
theorem qgood {y : MethodName} {bytes : ByteArray} {maxL : Nat} {rt : Option FieldType} (h : Cond.code y bytes maxL rt ∈ qT) : GoodIn qT (Cond.code y bytes maxL rt :: qT) := fun w hw => by
  rcases List.mem_cons.mp hw with rfl | hw
  · exact ⟨h, qT_good _ h⟩
  · exact ⟨hw, qT_good _ hw⟩
theorem qcallB {R : Room} {y : MethodName} {bytes : ByteArray} {maxL : Nat} {rt : Option FieldType} {n i mc ms : Nat} {rm : Room} (hts : ∀ w ∈ qT, w.before args s = true) (M : qMt y bytes maxL rt n) (w : Cond.methodLink own i y ∈ qT) (hrc : rm.cells = mc) (hrs : rm.slots = ms) (hR : rm.frames + 1 ≤ R.frames ∧ 8 + (maxL + 11) + rm.locals ≤ R.locals) : CallB R s args own i y bytes maxL rt (Cond.code y bytes maxL rt :: qT) rm mc ms n :=
  callB_of n hts (qgood M.1) rfl hrc hrs (hts _ M.2.1) (hts _ w) ⟨M.2.2.1, M.2.2.2.1, M.2.2.2.2⟩ hR
theorem qpre {H : Heap} {locs : List Loc} (X : qX p s m args meth c D cy b adK adV cc own nL ret nm) (hP : qP D cy b h H) (hS : va_S (qA b) s.heap H locs) (vs : List Value) : ∀ U : State, U.heap = H → s.WarmedH U.vm → qPc D cy b adK adV h vs vs.toArray U :=
  fun U hU hW => ⟨rfl, by rw [hU]; exact hP, va_K.moved hW.alike X.2.2.2.2.2.2.1, X.2.2.2.2.2.2.2.1.to hS hU hW⟩
theorem qx_callV (X : qX p s m args meth c D cy b adK adV cc own nL ret nm) {α : Type} {f : α → Option Value} {Q : α → qH → Prop} {y : MethodName} {bytes : ByteArray} {maxL : Nat} {rt : Option FieldType} {n i mc ms : Nat} {rm : Room} {As : List Value} {a ci : Nat} {T : u_T} {N : Nat} {ty : Nat → FieldType} (hM : Met l y (Cond.code y bytes maxL rt :: qT) rm (qPc D cy b adK adV h (qr b a :: As)) (qQc D cy b f Q) mc ms (qA b)) (M : qMt y bytes maxL rt n) (w1 : Cond.methodLink own i y ∈ qT) (w2 : Cond.instanceMethod y ∈ qT) (w3 : Cond.selects y.cls y y ∈ qT) (hc : qCls ci y.cls T N ty) (ha : qS h a = .inl ci)
    (hn : As.length = n) (hrc : rm.cells = mc) (hrs : rm.slots = ms) (hR : rm.frames + 1 ≤ R.frames ∧ 8 + (maxL + 11) + rm.locals ≤ R.locals) (hCS : C + mc ≤ R.cells ∧ S + ms ≤ R.slots) (hst : 2 * st.length ≤ 8) {st0 : List Value} (hst0 : st0 = As.reverse ++ qr b a :: st) (d : decode cc pc = .ok (.invokevirtual i, 3))
    (k : ∀ (r : α) (h' : qH), Q r h' → qW p l e R s m args below meth c D cy b nL (C + mc) (S + ms) Qw (pc + 3) L ((f r).toList ++ st) h') : qW p l e R s m args below meth c D cy b nL C S Qw pc L st0 h := by
  intro H locs ls hP hS hl
  have hne := qcl_ne hc.1
  have hts := X.2.2.2.2.2.1
  rw [hst0]
  rw [qr_pos (hP.is_o ha hne).1] at hM ⊢
  have hrun := va_runV (As := As) (rest := st) (meth := meth) (l := l) (R := R) (below := below) (e := e) (locs := locs) (cells := C) (slots := S) (C := y.cls) (g := F0 m pc ls (As.reverse ++ .ref (b + a) :: st)) ⟨X.1, X.2.1, X.2.2.1, X.2.2.2.2.1, hts⟩ hM ⟨qcallB hts M w1 hrc hrs hR, hts _ w2, hts _ w3⟩ ⟨qPc_blind _ _ _ _ _ _ _, va_recv X.2.2.2.2.2.2.1 (hP.obj ha hne) (ci := ci) (q0 := 0) hc.1 rfl, qpre X hP hS _⟩ rfl hn hl.1 rfl (lv_room (qst8 hst)) d hCS
  exact qcont hrun hS hl k
theorem qx_callS (X : qX p s m args meth c D cy b adK adV cc own nL ret nm) {α : Type} {f : α → Option Value} {Q : α → qH → Prop} {y : MethodName} {bytes : ByteArray} {maxL : Nat} {rt : Option FieldType} {n i mc ms : Nat} {rm : Room} {As : List Value} (hM : Met l y (Cond.code y bytes maxL rt :: qT) rm (qPc D cy b adK adV h As) (qQc D cy b f Q) mc ms (qA b)) (M : qMt y bytes maxL rt n) (w1 : Cond.methodLink own i y ∈ qT) (w2 : Cond.static y ∈ qT)
    (hn : As.length = n) (hrc : rm.cells = mc) (hrs : rm.slots = ms) (hR : rm.frames + 1 ≤ R.frames ∧ 8 + (maxL + 11) + rm.locals ≤ R.locals) (hCS : C + mc ≤ R.cells ∧ S + ms ≤ R.slots) (hst : 2 * st.length ≤ 8) {st0 : List Value} (hst0 : st0 = As.reverse ++ st) (d : decode cc pc = .ok (.invokestatic i, 3))
    (k : ∀ (r : α) (h' : qH), Q r h' → qW p l e R s m args below meth c D cy b nL (C + mc) (S + ms) Qw (pc + 3) L ((f r).toList ++ st) h') : qW p l e R s m args below meth c D cy b nL C S Qw pc L st0 h := by
  intro H locs ls hP hS hl
  have hts := X.2.2.2.2.2.1
  rw [hst0]
  have hrun := va_runS (As := As) (rest := st) (meth := meth) (l := l) (R := R) (below := below) (e := e) (locs := locs) (cells := C) (slots := S) (g := F0 m pc ls (As.reverse ++ st)) ⟨X.1, X.2.1, X.2.2.1, X.2.2.2.2.1, hts⟩ hM ⟨qcallB hts M w1 hrc hrs hR, hts _ w2⟩ ⟨qPc_blind _ _ _ _ _ _ _, qpre X hP hS _⟩ rfl hn hl.1 rfl (lv_room (qst8 hst)) d hCS
  exact qcont hrun hS hl k
theorem qx_callI (X : qX p s m args meth c D cy b adK adV cc own nL ret nm) {α : Type} {f : α → Option Value} {Q : α → qH → Prop} {y : MethodName} {bytes : ByteArray} {maxL : Nat} {n i mc ms : Nat} {rm : Room} {As : List Value} {a : Nat} (hM : Met l y (Cond.code y bytes maxL none :: qT) rm (qPc D cy b adK adV h (qr b a :: As)) (qQc D cy b f Q) mc ms (qA b)) (M : qMt y bytes maxL none n) (w1 : Cond.methodLink own i y ∈ qT) (w2 : Cond.instanceMethod y ∈ qT) (hy : y.name = "<init>") (ha : 0 < a)
    (hn : As.length = n) (hrc : rm.cells = mc) (hrs : rm.slots = ms) (hR : rm.frames + 1 ≤ R.frames ∧ 8 + (maxL + 11) + rm.locals ≤ R.locals) (hCS : C + mc ≤ R.cells ∧ S + ms ≤ R.slots) (hst : 2 * st.length ≤ 8) {st0 : List Value} (hst0 : st0 = As.reverse ++ qr b a :: st) (d : decode cc pc = .ok (.invokespecial i, 3))
    (k : ∀ (r : α) (h' : qH), Q r h' → qW p l e R s m args below meth c D cy b nL (C + mc) (S + ms) Qw (pc + 3) L ((f r).toList ++ st) h') : qW p l e R s m args below meth c D cy b nL C S Qw pc L st0 h := by
  intro H locs ls hP hS hl
  have hts := X.2.2.2.2.2.1
  rw [hst0]
  rw [qr_pos ha] at hM ⊢
  have hrun := va_runI (As := As) (rest := st) (meth := meth) (l := l) (R := R) (below := below) (e := e) (locs := locs) (cells := C) (slots := S) (g := F0 m pc ls (As.reverse ++ .ref (b + a) :: st)) ⟨X.1, X.2.1, X.2.2.1, X.2.2.2.2.1, hts⟩ hM ⟨qcallB hts M w1 hrc hrs hR, hy, hts _ w2⟩ ⟨qPc_blind _ _ _ _ _ _ _, qpre X hP hS _⟩ rfl hn hl.1 rfl (lv_room (qst8 hst)) d hCS
  exact qcont hrun hS hl k
theorem qx_callIN (X : qX p s m args meth c D cy b adK adV cc own nL ret nm) {α : Type} {f : α → Option Value} {Q : α → qH → Prop} {y : MethodName} {bytes : ByteArray} {maxL : Nat} {n i mc ms : Nat} {rm : Room} {As : List Value} {a : Nat} {host : String} (hM : Met l y (Cond.code y bytes maxL none :: qT) rm (qPc D cy b adK adV h (qr b a :: As)) (qQc D cy b f Q) mc ms (qA b)) (M : qMt y bytes maxL none n) (hnw : va_Nw (.methodLinkNest own i y host) s) (w2 : Cond.instanceMethod y ∈ qT) (hy : y.name = "<init>") (ha : 0 < a)
    (hn : As.length = n) (hrc : rm.cells = mc) (hrs : rm.slots = ms) (hR : rm.frames + 1 ≤ R.frames ∧ 8 + (maxL + 11) + rm.locals ≤ R.locals) (hCS : C + mc ≤ R.cells ∧ S + ms ≤ R.slots) (hst : 2 * st.length ≤ 8) {st0 : List Value} (hst0 : st0 = As.reverse ++ qr b a :: st) (d : decode cc pc = .ok (.invokespecial i, 3))
    (k : ∀ (r : α) (h' : qH), Q r h' → qW p l e R s m args below meth c D cy b nL (C + mc) (S + ms) Qw (pc + 3) L ((f r).toList ++ st) h') : qW p l e R s m args below meth c D cy b nL C S Qw pc L st0 h := by
  intro H locs ls hP hS hl
  have hts := X.2.2.2.2.2.1
  rw [hst0]
  rw [qr_pos ha] at hM ⊢
  have hrun := va_runIN (As := As) (rest := st) (meth := meth) (l := l) (R := R) (below := below) (e := e) (locs := locs) (cells := C) (slots := S) (g := F0 m pc ls (As.reverse ++ .ref (b + a) :: st)) ⟨X.1, X.2.1, X.2.2.1, X.2.2.2.2.1, hts⟩ hM ⟨va_cnB n hts (qgood M.1) rfl hrc hrs hnw (hts _ M.2.1) ⟨M.2.2.1, M.2.2.2.1, M.2.2.2.2⟩ hR, hy, hts _ w2⟩ ⟨qPc_blind _ _ _ _ _ _ _, qpre X hP hS _⟩ rfl hn hl.1 rfl (lv_room (qst8 hst)) d hCS
  exact qcont hrun hS hl k
theorem qx_mmax (X : qX p s m args meth c D cy b adK adV cc own nL ret nm) {x y : Int32} {i : Nat} (w1 : Cond.methodLink own i Lib.Math.max.name ∈ qT) (w2 : Cond.static Lib.Math.max.name ∈ qT) (w3 : Cond.initialized "java/lang/Math" ∈ qT) (w4 : Cond.code Lib.Math.max.name Lib.Math.max.code 2 (some .int) ∈ qT) (hf : 1 ≤ R.frames) (hlo : 2 * st.length + 13 ≤ R.locals) (hC : C ≤ R.cells) (hSl : S ≤ R.slots) (d : decode cc pc = .ok (.invokestatic i, 3)) (k : qW p l e R s m args below meth c D cy b nL C S Qw (pc + 3) L (.int (if x < y then y else x) :: st) h) : qW p l e R s m args below meth c D cy b nL C S Qw pc L (.int y :: .int x :: st) h :=
  fun H locs ls hP hS hl => va_mmax X.1 X.2.1 (by rw [X.2.2.1]; exact hl.1.symm) X.2.2.2.2.1 (X.2.2.2.2.2.1 _ w1) (X.2.2.2.2.2.1 _ w2) (X.2.2.2.2.2.1 _ w3) (X.2.2.2.2.2.1 _ w4) hf (by have := qst8 (Nat.le_refl (2 * st.length)); omega) hC hSl d (k H locs ls hP hS hl)
theorem qx_mmin (X : qX p s m args meth c D cy b adK adV cc own nL ret nm) {x y : Int32} {i : Nat} (w1 : Cond.methodLink own i Lib.Math.min.name ∈ qT) (w2 : Cond.static Lib.Math.min.name ∈ qT) (w3 : Cond.initialized "java/lang/Math" ∈ qT) (w4 : Cond.code Lib.Math.min.name Lib.Math.min.code 2 (some .int) ∈ qT) (hf : 1 ≤ R.frames) (hlo : 2 * st.length + 13 ≤ R.locals) (hC : C ≤ R.cells) (hSl : S ≤ R.slots) (d : decode cc pc = .ok (.invokestatic i, 3)) (k : qW p l e R s m args below meth c D cy b nL C S Qw (pc + 3) L (.int (if y < x then y else x) :: st) h) : qW p l e R s m args below meth c D cy b nL C S Qw pc L (.int y :: .int x :: st) h :=
  fun H locs ls hP hS hl => va_mmin X.1 X.2.1 (by rw [X.2.2.1]; exact hl.1.symm) X.2.2.2.2.1 (X.2.2.2.2.2.1 _ w1) (X.2.2.2.2.2.1 _ w2) (X.2.2.2.2.2.1 _ w3) (X.2.2.2.2.2.1 _ w4) hf (by have := qst8 (Nat.le_refl (2 * st.length)); omega) hC hSl d (k H locs ls hP hS hl)
theorem qx_mabs (X : qX p s m args meth c D cy b adK adV cc own nL ret nm) {x : Int32} {i : Nat} (w1 : Cond.methodLink own i Lib.Math.abs.name ∈ qT) (w2 : Cond.static Lib.Math.abs.name ∈ qT) (w3 : Cond.initialized "java/lang/Math" ∈ qT) (w4 : Cond.code Lib.Math.abs.name Lib.Math.abs.code 1 (some .int) ∈ qT) (hf : 1 ≤ R.frames) (hlo : 2 * st.length + 13 ≤ R.locals) (hC : C ≤ R.cells) (hSl : S ≤ R.slots) (d : decode cc pc = .ok (.invokestatic i, 3)) (k : qW p l e R s m args below meth c D cy b nL C S Qw (pc + 3) L (.int (if 0 ≤ x then x else 0 - x) :: st) h) : qW p l e R s m args below meth c D cy b nL C S Qw pc L (.int x :: st) h :=
  fun H locs ls hP hS hl => va_mabs X.1 X.2.1 (by rw [X.2.2.1]; exact hl.1.symm) X.2.2.2.2.1 (X.2.2.2.2.2.1 _ w1) (X.2.2.2.2.2.1 _ w2) (X.2.2.2.2.2.1 _ w3) (X.2.2.2.2.2.1 _ w4) hf (by have := qst8 (Nat.le_refl (2 * st.length)); omega) hC hSl d (k H locs ls hP hS hl)
/-- a method's contract out of the walk of its body -/
theorem qmet {α : Type} {f : α → Option Value} {Q : α → qH → Prop} {y : MethodName} {bytes : ByteArray} {maxL : Nat} {rt : Option FieldType} {mc ms : Nat} {rm : Room} {vs : List Value} {n : Nat} (M : qMt y bytes maxL rt n) (hy : plainFor y = true) (vq : List qV) (hvs : vs = vq.map (qval b)) (hsl : qwords vq ≤ maxL) {L0 : List (Nat × qV)} (hL0 : qargs 0 vq = L0)
    (body : ∀ (p : Program) (e : Env) (s : State) (m : MethodId) (args : Array Value) (below : List Frame) (meth : Method) (c : Code), qX p s m args meth c D cy b adK adV bytes y.cls maxL rt y.name → qW p l e rm s m args below meth c D cy b maxL 0 0 (MQ below (qQc D cy b f Q) args s mc ms (qA b)) 0 L0 [] h) :
    Met l y (Cond.code y bytes maxL rt :: qT) rm (qPc D cy b adK adV h vs) (qQc D cy b f Q) mc ms (qA b) := by
  refine va_MetF (cc := bytes) (maxL := maxL) (ret := rt) hy rfl ?_
  intro p e s m args below meth c s₁ B hml hv
  obtain ⟨rfl, hP, hK, hZ⟩ := hv
  have hts := atoms_spec (ws := Cond.code y bytes maxL rt :: qT) B.pre
  have hX : qX p s m vs.toArray meth c D cy b adK adV bytes y.cls maxL rt y.name := ⟨B.exec, B.bytes, hml, B.notSynchronized, findClass_of_methodNamed B.named, fun w hw => hts w (List.mem_cons_of_mem _ hw), hK, hZ, B.returns, (name_of_methodNamed B.named B.method).1, by rw [hP.1]; omega⟩
  have hl := lv_entry vs (n := maxL) (by rw [hvs, qwords_eq]; exact hsl)
  rw [lg_entry_eq]
  generalize (lg_sl vs ++ List.replicate (maxL - (lg_sl vs).length) Slot.unset).toArray = ls at hl ⊢
  rw [show lv_args 0 vs = qLm b L0 by rw [hvs, qargs_eq, hL0]] at hl
  exact body p e s m _ below meth c hX s.heap [] ls hP va_S.rf hl
end QROWS2
