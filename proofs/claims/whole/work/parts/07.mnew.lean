/-! new int[n][k]: the outer array and its rows, one behind another -/
theorem qouter (c : ClassId) (N h0 : Nat) : ∀ i : Nat, Jvm.Free.Multi.outerC c N h0 i = arrV c N (fun j => va_rf (if j < i then some (h0 + 1 + j) else none))
  | 0 => by
    show ({ cls := c, slots := Array.replicate N .null, vm := .none } : Cell) = _
    rw [arrV_new]
    refine congrArg (arrV c N) (funext fun j => ?_)
    simp [va_rf]
  | i + 1 => by
    show (Jvm.Free.Multi.outerC c N h0 i).setSlot i (.ref (h0 + 1 + i)) = _
    rw [qouter c N h0 i, arrV_store]
    refine congrArg (arrV c N) (funext fun j => ?_)
    by_cases e : j = i
    · subst e
      simp [updV, va_rf]
    · by_cases h : j < i
      · simp [updV, e, h, Nat.lt_succ_of_lt h]
      · simp [updV, e, h, show ¬ j < i + 1 by omega]
section QMN
variable {p : Program} {l : Launch} {e : Env} {R : Room} {s : State} {m : MethodId} {args : Array Value} {below : List Frame} {meth : Method} {c : Code} {D : va_G} {cy : Nat → ClassId} {b nL C S : Nat} {adK adV : Nat → Nat} {Qw : State → Prop} {cc : ByteArray} {own nm : String} {ret : Option FieldType} {pc : Nat} {L L' : List (Nat × qV)} {st : List Value} {h : qH}
set_option maxHeartbeats 2000000 in
theorem qx_mnew (X : qX p s m args meth c D cy b adK adV cc own nL ret nm) {i : Nat} {n k : Int32} {N K : Nat} (w1 : Cond.classLink own i "[[I" ∈ qT) (w3 : Cond.arrayClass (qty 0) ∈ qT) (hn : ¬ n < 0) (hk : ¬ k < 0) (hN : n.toNatClampNeg = N) (hKk : k.toNatClampNeg = K) (hb1 : N * 4 ≤ 536870912) (hb2 : K * 4 ≤ 536870912) (hC : C + (1 + N) ≤ R.cells) (hSl : S + (N + N * K) ≤ R.slots) (d : decode cc pc = .ok (.multianewarray i 2, 4))
    (kk : qW p l e R s m args below meth c D cy b nL (C + (1 + N)) (S + (N + N * K)) Qw (pc + 4) L (qr b (qN h + 1) :: st) (qnew2 h N K)) : qW p l e R s m args below meth c D cy b nL C S Qw pc L (.int k :: .int n :: st) h := by
  subst hN
  subst hKk
  intro H locs ls hP hS hl T hT Xs
  have hts := X.2.2.2.2.2.1
  have hK := X.2.2.2.2.2.2.1
  obtain ⟨vm₁, cA, comp, -, fA, fC, hO, -, X', step⟩ := Xs.multianewarray2F (ty := .int) X.1 X.2.2.2.2.1 (hts _ w1) (over_moved (Vm.Alike.refl s.vm) X.2.2.2.2.2.2.2.1.2.2.2.2.2.2.1) (hts _ w3) (g := F0 m pc ls (.int k :: .int n :: st)) rfl (by rw [X.2.1]; exact d) rfl hn hk hb1 hb2 (by omega) rfl rfl hC hSl
  have ecA : cA = cy 5 := Option.some.inj (fA.symm.trans (hK.2 5 _ rfl).2)
  have ecC : comp = cy 0 := Option.some.inj (fC.symm.trans (hK.2 0 _ rfl).2)
  subst ecA
  subst ecC
  generalize hF : Jvm.Free.Multi.fill (T.setVm vm₁) (cy 5) (cy 0) n.toNatClampNeg k.toNatClampNeg (defaultValue .int) n.toNatClampNeg = F at X' step
  have hTh : (T.setVm vm₁).heap = H := hT
  obtain ⟨f1, f2, -, -⟩ := Jvm.Free.Multi.fill_facts (T.setVm vm₁) (cy 5) (cy 0) n.toNatClampNeg k.toNatClampNeg (defaultValue .int) n.toNatClampNeg
  rw [hF, hTh] at f1 f2
  have hold : ∀ x : Nat, x < H.size → F.heap[x]? = H[x]? := fun x hx => by
    have := Jvm.Free.Multi.fill_old (T.setVm vm₁) (cy 5) (cy 0) n.toNatClampNeg k.toNatClampNeg (defaultValue .int) (a := x) (by rw [hTh]; exact hx) n.toNatClampNeg
    rw [hF, hTh] at this
    exact this
  have hrow : ∀ j : Nat, j < n.toNatClampNeg → F.heap[H.size + 1 + j]? = some (arrV (cy 0) k.toNatClampNeg (fun _ => .int 0)) := fun j hj => by
    have := Jvm.Free.Multi.fill_inner (T.setVm vm₁) (cy 5) (cy 0) n.toNatClampNeg k.toNatClampNeg (defaultValue .int) n.toNatClampNeg j hj
    rw [hF, hTh] at this
    rw [this]
    exact congrArg some (arrV_new (cy 0) k.toNatClampNeg (.int 0))
  rw [qouter] at f2
  have hsz := hP.1
  have hP' : qP D cy b (qnew2 h n.toNatClampNeg k.toNatClampNeg) F.heap := by
    refine ⟨by rw [f1, hsz]; show _ = b + 1 + (qN h + 1 + n.toNatClampNeg); omega, fun a h1 h2 => ?_, fun a ha => ?_⟩
    · have h2 : a ≤ qN h + 1 + n.toNatClampNeg := h2
      by_cases g1 : a ≤ qN h
      · have e1 : qent cy b (qnew2 h n.toNatClampNeg k.toNatClampNeg) a = qent cy b h a := by
          have n1 : ¬ a = h.1 + 1 := by have : h.1 = qN h := rfl; omega
          have n2 : ¬ (h.1 + 1 < a ∧ a ≤ h.1 + 1 + n.toNatClampNeg) := by have : h.1 = qN h := rfl; omega
          have n3 : ¬ (h.1 < a ∧ a ≤ h.1 + 1 + n.toNatClampNeg) := by have : h.1 = qN h := rfl; omega
          have s1 : qS (qnew2 h n.toNatClampNeg k.toNatClampNeg) a = qS h a := (if_neg n1).trans (if_neg n2)
          have i1 : qI (qnew2 h n.toNatClampNeg k.toNatClampNeg) a = qI h a := funext fun j => if_neg n3
          have j1 : qJ (qnew2 h n.toNatClampNeg k.toNatClampNeg) a = qJ h a := funext fun j => if_neg n3
          have r1 : qR (qnew2 h n.toNatClampNeg k.toNatClampNeg) a = qR h a := funext fun j => (if_neg n1).trans (if_neg n3)
          unfold qent qfs qar qfv
          rw [s1, i1, j1, r1]
        rw [e1]
        exact (hP.2.1 a h1 g1).kept (hold _ (by show b + a < H.size; omega))
      · by_cases g2 : a = qN h + 1
        · have hs : qS (qnew2 h n.toNatClampNeg k.toNatClampNeg) a = .inr (5, n.toNatClampNeg) := if_pos g2
          rw [qent_a hs]
          show F.heap[b + a]? = some (arrV (cy 5) n.toNatClampNeg (fun j => va_rf (qo b (qR (qnew2 h n.toNatClampNeg k.toNatClampNeg) a j))))
          rw [show b + a = H.size by omega, f2]
          refine congrArg (fun g => some (arrV (cy 5) n.toNatClampNeg g)) (funext fun j => ?_)
          have r1 : qR (qnew2 h n.toNatClampNeg k.toNatClampNeg) a j = if j < n.toNatClampNeg then h.1 + 2 + j else 0 := if_pos g2
          rw [r1]
          by_cases hj : j < n.toNatClampNeg
          · rw [if_pos hj, if_pos hj]
            unfold qo
            rw [if_neg (by omega)]
            have e5 : h.1 = qN h := rfl
            rw [hsz, e5]
            exact congrArg (fun z => va_rf (some z)) (by omega)
          · rw [if_neg hj, if_neg hj]; rfl
        · have hs : qS (qnew2 h n.toNatClampNeg k.toNatClampNeg) a = .inr (0, k.toNatClampNeg) := (if_neg g2).trans (if_pos (by have : h.1 = qN h := rfl; omega))
          rw [qent_a hs]
          show F.heap[b + a]? = some (arrV (cy 0) k.toNatClampNeg (fun j => .int (qI (qnew2 h n.toNatClampNeg k.toNatClampNeg) a j)))
          have e5 : h.1 = qN h := rfl
          obtain ⟨j, hj⟩ : ∃ j, a = qN h + 2 + j := ⟨a - (qN h + 2), by omega⟩
          rw [show b + a = H.size + 1 + j by omega, hrow j (by omega)]
          refine congrArg (fun g => some (arrV (cy 0) k.toNatClampNeg g)) (funext fun q => ?_)
          have i1 : qI (qnew2 h n.toNatClampNeg k.toNatClampNeg) a q = 0 := if_pos (by omega)
          rw [i1]
    · have ha : a = 0 ∨ qN h + 1 + n.toNatClampNeg < a := ha
      have e5 : h.1 = qN h := rfl
      exact ((if_neg (by omega)).trans (if_neg (by omega))).trans (hP.2.2 a (by omega))
  have hq : Value.ref H.size = qr b (qN h + 1) := by rw [qr_pos (Nat.succ_pos _), hP.1, Nat.add_assoc b 1, Nat.add_comm 1]
  rw [show C + 1 + n.toNatClampNeg = C + (1 + n.toNatClampNeg) by omega, show S + n.toNatClampNeg + n.toNatClampNeg * k.toNatClampNeg = S + (n.toNatClampNeg + n.toNatClampNeg * k.toNatClampNeg) by omega] at X'
  obtain ⟨t, a1, b1⟩ := kk F.heap locs ls hP' ⟨by rw [f1]; have := hS.1; omega, fun x h1 h2 => (hold x (Nat.lt_of_lt_of_le h1 hS.1)).trans (hS.2.1 x h1 h2), hS.2.2⟩ hl F rfl X'
  refine ⟨t, step t ?_, b1⟩
  have e9 : T.heap.size = H.size := by rw [hT]
  rw [e9]
  show Steps p.tables e below (F.setTop (F0 m (pc + 4) ls (.ref H.size :: st))) t
  rw [hq]
  exact a1
end QMN
