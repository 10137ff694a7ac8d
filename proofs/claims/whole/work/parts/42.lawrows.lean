/-! THE CLAIM OUT OF ONE WALK OF THE LAW'S BODY. Your part is whole_start (and what it stands on); all else here is the same for every law, but numbers. -/
def R_law : String := "CoatHangersLaw"
def lw_P (b : Addr) (xs : List Int32) (args : Array Value) (s : State) : Prop := args = #[.ref b] ∧ s.IntsAt b xs ∧ xs.length ≤ 3072 ∧ (Jvm.Cond.and given_1 narrow_1).before args s = true
def lw_Q (_ : Array Value) (s : State) (o : Outcome) (t : State) : Prop := o = .returned (some (.int 1)) ∧ Framed s o t [] 600000 7302250
def lw_Z (below : List Frame) (a : Array Value) (s : State) : State → Prop := fun t => ∃ o, t.status = .running ∧ Ended t below o ∧ lw_Q a s o t
/-- the law's own end, with 1 on the stack, nothing written that was there before, its room as the claim has it -/
theorem lw_ret {p : Program} {l : Launch} {e : Env} {s : State} {m : MethodId} {below : List Frame} {meth : Method} {c : Code} {b : Nat} (hx : p.tables.exec = Jvm.exec) (hb : c.code = code) (hr : meth.sig.returnType = ret) (hlocks : meth.locks = false) {pc : Nat} {H : Heap} {ls : Array Slot} (hdg : decode code pc = .ok (.ireturn, 1)) : W p l e room_1 s m #[Value.ref b] below meth c H [] 600000 7302250 (lw_Z below #[Value.ref b] s) (F0 m pc ls [.int 1]) := by
  intro T hT X
  obtain ⟨fs, hret, hrun, hended, hW, hframe⟩ := X.leave (v := some (.int 1)) (hlocks := hlocks) (fun h => by rw [hr] at h; cases h)
  have hmeth' : T.vm.method? m = some meth := X.method'
  refine ⟨T.setFrames fs, ?_, .returned (some (.int 1)), hrun, hended, rfl, ⟨_, rfl⟩, hW, hframe⟩
  jvm_step X.here [X.here.top, hx, hb, hdg, hmeth', hr, ret, narrow_b1]
  (try refine ⟨rfl, ?_⟩); (try refine ⟨rfl, ?_⟩)
  first | (intro acts; rw [hret _ acts rfl rfl rfl]) | rw [hret _ _ rfl rfl rfl]
  exact Steps.refl _
/-- what holds at the law's entry: the machine, the code, the tables' words (any of lw_tbl by 'hts w (by decide +kernel)'), the script of L ints xs at the cell b, what the Statement gives of the start (any of its parts by flat_of_before) -/
def lw_At (p : Program) (s : State) (m : MethodId) (meth : Method) (c : Code) (b L : Nat) (xs : Nat → Int32) : Prop :=
  p.tables.exec = Jvm.exec ∧ c.code = code ∧ meth.sig.returnType = ret ∧ c.maxLocals = 4 ∧ s.vm.findClass R_law = some m.cls ∧ (∀ w ∈ lw_tbl, w.before #[Value.ref b] s = true) ∧ va_X b L xs s s.heap ∧ b < s.heap.size ∧ meth.locks = false ∧ (Jvm.Cond.and given_1 narrow_1).before #[Value.ref b] s = true
section QLAW
variable {p : Program} {l : Launch} {e : Env} {R : Room} {s : State} {m : MethodId} {args : Array Value} {below : List Frame} {meth : Method} {c : Code} {D : va_G} {cy : Nat → ClassId} {b nL C S : Nat} {adK adV : Nat → Nat} {Qw : State → Prop} {cc : ByteArray} {own nm : String} {rt : Option FieldType} {pc : Nat} {L L' : List (Nat × qV)} {st : List Value} {h : qH} {bs Ls : Nat} {xs : Nat → Int32}
theorem qx_slen (X : qX p s m args meth c D cy b adK adV cc own nL rt nm) (hX : va_X bs Ls xs s s.heap) (hbl : bs < s.heap.size) (hbA : ¬ qA b bs) (d : decode cc pc = .ok (.arraylength, 1)) (k : qW p l e R s m args below meth c D cy b nL C S Qw (pc + 1) L (.int (nI Ls) :: st) h) : qW p l e R s m args below meth c D cy b nL C S Qw pc L (.ref bs :: st) h :=
  fun H locs ls hP hS hl => va_slen X.1 X.2.1 hX hbl hbA hS d (k H locs ls hP hS hl)
theorem qx_sld (X : qX p s m args meth c D cy b adK adV cc own nL rt nm) (hX : va_X bs Ls xs s s.heap) (hbl : bs < s.heap.size) (hbA : ¬ qA b bs) {i : Int32} (hi : vp_in i Ls) (d : decode cc pc = .ok (.iaload, 1)) (k : qW p l e R s m args below meth c D cy b nL C S Qw (pc + 1) L (.int (xs i.toNatClampNeg) :: st) h) : qW p l e R s m args below meth c D cy b nL C S Qw pc L (.int i :: .ref bs :: st) h :=
  fun H locs ls hP hS hl => va_sld X.1 X.2.1 hX hbl hbA hS hi d (k H locs ls hP hS hl)
theorem qx_lawret (X : qX p s m #[Value.ref bs] meth c D cy b adK adV code own nL rt nm) (hsz : s.heap.size = b + 1) {v : Int32} (hC : C ≤ 600000) (hSl : S ≤ 7302250) (hv : v = 1) (hr : rt = ret) (d : decode code pc = .ok (.ireturn, 1)) : qW p l e room_1 s m #[Value.ref bs] below meth c D cy b nL C S (lw_Z below #[Value.ref bs] s) pc L [.int v] h := by
  intro H locs ls hP hS hl
  subst hv
  refine va_forget (fun q hq => ?_) ?_
  · have h1 : b + 1 ≤ q.base := hS.2.2 q hq
    omega
  · refine W.widen (k := 600000) (n := 7302250) hC hSl ?_
    exact lw_ret X.1 X.2.1 (X.2.2.2.2.2.2.2.2.1.trans hr) X.2.2.2.1 d
end QLAW
