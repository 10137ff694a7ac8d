/-! calls by what they answer; arraycopy; arrays of arrays; switches. Written by wip/whole/rows3.py -/
theorem qlk_1 {x c1 o1 df : Int} (h1 : x ≠ c1) : Op.lookupswitch.offset [(c1, o1)] df x = df := by
  rw [Op.lookupswitch.offset_cons, if_neg (fun q => h1 q.symm), Op.lookupswitch.offset_nil]
theorem qlk_2 {x c1 o1 c2 o2 df : Int} (h1 : x ≠ c1) (h2 : x ≠ c2) : Op.lookupswitch.offset [(c1, o1), (c2, o2)] df x = df := by
  rw [Op.lookupswitch.offset_cons, if_neg (fun q => h1 q.symm), Op.lookupswitch.offset_cons, if_neg (fun q => h2 q.symm), Op.lookupswitch.offset_nil]
def qcpok (h : qH) (a0 a1 : Nat) (sp dp n : Int32) : Prop := ∃ n0 n1, qS h a0 = .inr (0, n0) ∧ qS h a1 = .inr (0, n1) ∧ ¬ sp < 0 ∧ ¬ dp < 0 ∧ ¬ n < 0 ∧ sp.toNatClampNeg + n.toNatClampNeg ≤ n0 ∧ dp.toNatClampNeg + n.toNatClampNeg ≤ n1
theorem wi_oinit : Cond.instanceMethod objectInit ∈ qT := qT_1 (i := 28) (by decide +kernel) rfl
theorem wk_oinit : Cond.code objectInit ⟨#[0xb1]⟩ 1 none ∈ qT := qT_1 (i := 29) (by decide +kernel) rfl
theorem ws_mmax : Cond.static Lib.Math.max.name ∈ qT := qT_3 (i := 94) (by decide +kernel) rfl
theorem wk_mmax : Cond.code Lib.Math.max.name Lib.Math.max.code 2 (some .int) ∈ qT := qT_3 (i := 95) (by decide +kernel) rfl
theorem ws_mmin : Cond.static Lib.Math.min.name ∈ qT := qT_3 (i := 97) (by decide +kernel) rfl
theorem wk_mmin : Cond.code Lib.Math.min.name Lib.Math.min.code 2 (some .int) ∈ qT := qT_3 (i := 98) (by decide +kernel) rfl
theorem ws_mabs : Cond.static Lib.Math.abs.name ∈ qT := qT_4 (i := 106) (by decide +kernel) rfl
theorem wk_mabs : Cond.code Lib.Math.abs.name Lib.Math.abs.code 1 (some .int) ∈ qT := qT_4 (i := 107) (by decide +kernel) rfl
theorem wz_Math : Cond.initialized "java/lang/Math" ∈ qT := qT_1 (i := 18) (by decide +kernel) rfl
theorem wz_System : Cond.initialized "java/lang/System" ∈ qT := qT_1 (i := 20) (by decide +kernel) rfl
theorem ws_copy : Cond.static arraycopyName ∈ qT := qT_4 (i := 38) (by decide +kernel) rfl
theorem wv_copy : Cond.native arraycopyName ∈ qT := qT_4 (i := 39) (by decide +kernel) rfl
section QROWS3
variable {p : Program} {l : Launch} {e : Env} {R : Room} {s : State} {m : MethodId} {args : Array Value} {below : List Frame} {meth : Method} {c : Code} {D : va_G} {cy : Nat → ClassId} {b nL C S : Nat} {adK adV : Nat → Nat} {Qw : State → Prop} {cc : ByteArray} {own nm : String} {ret : Option FieldType} {pc : Nat} {L L' : List (Nat × qV)} {st : List Value} {h : qH}
theorem qx_callVI (X : qX p s m args meth c D cy b adK adV cc own nL ret nm) {Q : Int32 → qH → Prop} {y : MethodName} {bytes : ByteArray} {maxL : Nat} {rt : Option FieldType} {n i mc ms : Nat} {rm : Room} {As : List Value} {a ci : Nat} {T : u_T} {N : Nat} {ty : Nat → FieldType} (hM : Met l y (Cond.code y bytes maxL rt :: qT) rm (qPc D cy b adK adV h (qr b a :: As)) (qQc D cy b qrI Q) mc ms (qA b)) (M : qMt y bytes maxL rt n) (w1 : Cond.methodLink own i y ∈ qT) (w2 : Cond.instanceMethod y ∈ qT) (w3 : Cond.selects y.cls y y ∈ qT) (hc : qCls ci y.cls T N ty) (ha : qS h a = .inl ci) (hn : As.length = n) (hrc : rm.cells = mc) (hrs : rm.slots = ms) (hR : rm.frames + 1 ≤ R.frames ∧ 8 + (maxL + 11) + rm.locals ≤ R.locals) (hCS : C + mc ≤ R.cells ∧ S + ms ≤ R.slots) (hst : 2 * st.length ≤ 8) {st0 : List Value} (hst0 : st0 = As.reverse ++ qr b a :: st) (d : decode cc pc = .ok (.invokevirtual i, 3)) (k : ∀ (r : Int32) (h' : qH), Q r h' → qW p l e R s m args below meth c D cy b nL (C + mc) (S + ms) Qw (pc + 3) L (.int r :: st) h') : qW p l e R s m args below meth c D cy b nL C S Qw pc L st0 h :=
  qx_callV (f := qrI) X hM M w1 w2 w3 hc ha hn hrc hrs hR hCS hst hst0 d (fun r h1 q => k r h1 q)
theorem qx_callSI (X : qX p s m args meth c D cy b adK adV cc own nL ret nm) {Q : Int32 → qH → Prop} {y : MethodName} {bytes : ByteArray} {maxL : Nat} {rt : Option FieldType} {n i mc ms : Nat} {rm : Room} {As : List Value} (hM : Met l y (Cond.code y bytes maxL rt :: qT) rm (qPc D cy b adK adV h As) (qQc D cy b qrI Q) mc ms (qA b)) (M : qMt y bytes maxL rt n) (w1 : Cond.methodLink own i y ∈ qT) (w2 : Cond.static y ∈ qT) (hn : As.length = n) (hrc : rm.cells = mc) (hrs : rm.slots = ms) (hR : rm.frames + 1 ≤ R.frames ∧ 8 + (maxL + 11) + rm.locals ≤ R.locals) (hCS : C + mc ≤ R.cells ∧ S + ms ≤ R.slots) (hst : 2 * st.length ≤ 8) {st0 : List Value} (hst0 : st0 = As.reverse ++ st) (d : decode cc pc = .ok (.invokestatic i, 3)) (k : ∀ (r : Int32) (h' : qH), Q r h' → qW p l e R s m args below meth c D cy b nL (C + mc) (S + ms) Qw (pc + 3) L (.int r :: st) h') : qW p l e R s m args below meth c D cy b nL C S Qw pc L st0 h :=
  qx_callS (f := qrI) X hM M w1 w2 hn hrc hrs hR hCS hst hst0 d (fun r h1 q => k r h1 q)
theorem qx_callVJ (X : qX p s m args meth c D cy b adK adV cc own nL ret nm) {Q : Int64 → qH → Prop} {y : MethodName} {bytes : ByteArray} {maxL : Nat} {rt : Option FieldType} {n i mc ms : Nat} {rm : Room} {As : List Value} {a ci : Nat} {T : u_T} {N : Nat} {ty : Nat → FieldType} (hM : Met l y (Cond.code y bytes maxL rt :: qT) rm (qPc D cy b adK adV h (qr b a :: As)) (qQc D cy b qrJ Q) mc ms (qA b)) (M : qMt y bytes maxL rt n) (w1 : Cond.methodLink own i y ∈ qT) (w2 : Cond.instanceMethod y ∈ qT) (w3 : Cond.selects y.cls y y ∈ qT) (hc : qCls ci y.cls T N ty) (ha : qS h a = .inl ci) (hn : As.length = n) (hrc : rm.cells = mc) (hrs : rm.slots = ms) (hR : rm.frames + 1 ≤ R.frames ∧ 8 + (maxL + 11) + rm.locals ≤ R.locals) (hCS : C + mc ≤ R.cells ∧ S + ms ≤ R.slots) (hst : 2 * st.length ≤ 8) {st0 : List Value} (hst0 : st0 = As.reverse ++ qr b a :: st) (d : decode cc pc = .ok (.invokevirtual i, 3)) (k : ∀ (r : Int64) (h' : qH), Q r h' → qW p l e R s m args below meth c D cy b nL (C + mc) (S + ms) Qw (pc + 3) L (.long r :: st) h') : qW p l e R s m args below meth c D cy b nL C S Qw pc L st0 h :=
  qx_callV (f := qrJ) X hM M w1 w2 w3 hc ha hn hrc hrs hR hCS hst hst0 d (fun r h1 q => k r h1 q)
theorem qx_callSJ (X : qX p s m args meth c D cy b adK adV cc own nL ret nm) {Q : Int64 → qH → Prop} {y : MethodName} {bytes : ByteArray} {maxL : Nat} {rt : Option FieldType} {n i mc ms : Nat} {rm : Room} {As : List Value} (hM : Met l y (Cond.code y bytes maxL rt :: qT) rm (qPc D cy b adK adV h As) (qQc D cy b qrJ Q) mc ms (qA b)) (M : qMt y bytes maxL rt n) (w1 : Cond.methodLink own i y ∈ qT) (w2 : Cond.static y ∈ qT) (hn : As.length = n) (hrc : rm.cells = mc) (hrs : rm.slots = ms) (hR : rm.frames + 1 ≤ R.frames ∧ 8 + (maxL + 11) + rm.locals ≤ R.locals) (hCS : C + mc ≤ R.cells ∧ S + ms ≤ R.slots) (hst : 2 * st.length ≤ 8) {st0 : List Value} (hst0 : st0 = As.reverse ++ st) (d : decode cc pc = .ok (.invokestatic i, 3)) (k : ∀ (r : Int64) (h' : qH), Q r h' → qW p l e R s m args below meth c D cy b nL (C + mc) (S + ms) Qw (pc + 3) L (.long r :: st) h') : qW p l e R s m args below meth c D cy b nL C S Qw pc L st0 h :=
  qx_callS (f := qrJ) X hM M w1 w2 hn hrc hrs hR hCS hst hst0 d (fun r h1 q => k r h1 q)
theorem qx_callVR (X : qX p s m args meth c D cy b adK adV cc own nL ret nm) {Q : Nat → qH → Prop} {y : MethodName} {bytes : ByteArray} {maxL : Nat} {rt : Option FieldType} {n i mc ms : Nat} {rm : Room} {As : List Value} {a ci : Nat} {T : u_T} {N : Nat} {ty : Nat → FieldType} (hM : Met l y (Cond.code y bytes maxL rt :: qT) rm (qPc D cy b adK adV h (qr b a :: As)) (qQc D cy b (qrR b) Q) mc ms (qA b)) (M : qMt y bytes maxL rt n) (w1 : Cond.methodLink own i y ∈ qT) (w2 : Cond.instanceMethod y ∈ qT) (w3 : Cond.selects y.cls y y ∈ qT) (hc : qCls ci y.cls T N ty) (ha : qS h a = .inl ci) (hn : As.length = n) (hrc : rm.cells = mc) (hrs : rm.slots = ms) (hR : rm.frames + 1 ≤ R.frames ∧ 8 + (maxL + 11) + rm.locals ≤ R.locals) (hCS : C + mc ≤ R.cells ∧ S + ms ≤ R.slots) (hst : 2 * st.length ≤ 8) {st0 : List Value} (hst0 : st0 = As.reverse ++ qr b a :: st) (d : decode cc pc = .ok (.invokevirtual i, 3)) (k : ∀ (r : Nat) (h' : qH), Q r h' → qW p l e R s m args below meth c D cy b nL (C + mc) (S + ms) Qw (pc + 3) L (qr b r :: st) h') : qW p l e R s m args below meth c D cy b nL C S Qw pc L st0 h :=
  qx_callV (f := (qrR b)) X hM M w1 w2 w3 hc ha hn hrc hrs hR hCS hst hst0 d (fun r h1 q => k r h1 q)
theorem qx_callSR (X : qX p s m args meth c D cy b adK adV cc own nL ret nm) {Q : Nat → qH → Prop} {y : MethodName} {bytes : ByteArray} {maxL : Nat} {rt : Option FieldType} {n i mc ms : Nat} {rm : Room} {As : List Value} (hM : Met l y (Cond.code y bytes maxL rt :: qT) rm (qPc D cy b adK adV h As) (qQc D cy b (qrR b) Q) mc ms (qA b)) (M : qMt y bytes maxL rt n) (w1 : Cond.methodLink own i y ∈ qT) (w2 : Cond.static y ∈ qT) (hn : As.length = n) (hrc : rm.cells = mc) (hrs : rm.slots = ms) (hR : rm.frames + 1 ≤ R.frames ∧ 8 + (maxL + 11) + rm.locals ≤ R.locals) (hCS : C + mc ≤ R.cells ∧ S + ms ≤ R.slots) (hst : 2 * st.length ≤ 8) {st0 : List Value} (hst0 : st0 = As.reverse ++ st) (d : decode cc pc = .ok (.invokestatic i, 3)) (k : ∀ (r : Nat) (h' : qH), Q r h' → qW p l e R s m args below meth c D cy b nL (C + mc) (S + ms) Qw (pc + 3) L (qr b r :: st) h') : qW p l e R s m args below meth c D cy b nL C S Qw pc L st0 h :=
  qx_callS (f := (qrR b)) X hM M w1 w2 hn hrc hrs hR hCS hst hst0 d (fun r h1 q => k r h1 q)
theorem qx_callVV (X : qX p s m args meth c D cy b adK adV cc own nL ret nm) {Q : qH → Prop} {y : MethodName} {bytes : ByteArray} {maxL : Nat} {rt : Option FieldType} {n i mc ms : Nat} {rm : Room} {As : List Value} {a ci : Nat} {T : u_T} {N : Nat} {ty : Nat → FieldType} (hM : Met l y (Cond.code y bytes maxL rt :: qT) rm (qPc D cy b adK adV h (qr b a :: As)) (qQc D cy b qrV (fun (_ : Unit) h => Q h)) mc ms (qA b)) (M : qMt y bytes maxL rt n) (w1 : Cond.methodLink own i y ∈ qT) (w2 : Cond.instanceMethod y ∈ qT) (w3 : Cond.selects y.cls y y ∈ qT) (hc : qCls ci y.cls T N ty) (ha : qS h a = .inl ci) (hn : As.length = n) (hrc : rm.cells = mc) (hrs : rm.slots = ms) (hR : rm.frames + 1 ≤ R.frames ∧ 8 + (maxL + 11) + rm.locals ≤ R.locals) (hCS : C + mc ≤ R.cells ∧ S + ms ≤ R.slots) (hst : 2 * st.length ≤ 8) {st0 : List Value} (hst0 : st0 = As.reverse ++ qr b a :: st) (d : decode cc pc = .ok (.invokevirtual i, 3)) (k : ∀ (h' : qH), Q h' → qW p l e R s m args below meth c D cy b nL (C + mc) (S + ms) Qw (pc + 3) L st h') : qW p l e R s m args below meth c D cy b nL C S Qw pc L st0 h :=
  qx_callV (f := qrV) X hM M w1 w2 w3 hc ha hn hrc hrs hR hCS hst hst0 d (fun r h1 q => k h1 q)
theorem qx_callSV (X : qX p s m args meth c D cy b adK adV cc own nL ret nm) {Q : qH → Prop} {y : MethodName} {bytes : ByteArray} {maxL : Nat} {rt : Option FieldType} {n i mc ms : Nat} {rm : Room} {As : List Value} (hM : Met l y (Cond.code y bytes maxL rt :: qT) rm (qPc D cy b adK adV h As) (qQc D cy b qrV (fun (_ : Unit) h => Q h)) mc ms (qA b)) (M : qMt y bytes maxL rt n) (w1 : Cond.methodLink own i y ∈ qT) (w2 : Cond.static y ∈ qT) (hn : As.length = n) (hrc : rm.cells = mc) (hrs : rm.slots = ms) (hR : rm.frames + 1 ≤ R.frames ∧ 8 + (maxL + 11) + rm.locals ≤ R.locals) (hCS : C + mc ≤ R.cells ∧ S + ms ≤ R.slots) (hst : 2 * st.length ≤ 8) {st0 : List Value} (hst0 : st0 = As.reverse ++ st) (d : decode cc pc = .ok (.invokestatic i, 3)) (k : ∀ (h' : qH), Q h' → qW p l e R s m args below meth c D cy b nL (C + mc) (S + ms) Qw (pc + 3) L st h') : qW p l e R s m args below meth c D cy b nL C S Qw pc L st0 h :=
  qx_callS (f := qrV) X hM M w1 w2 hn hrc hrs hR hCS hst hst0 d (fun r h1 q => k h1 q)
theorem qx_callIV (X : qX p s m args meth c D cy b adK adV cc own nL ret nm) {Q : qH → Prop} {y : MethodName} {bytes : ByteArray} {maxL : Nat} {n i mc ms : Nat} {rm : Room} {As : List Value} {a : Nat} (hM : Met l y (Cond.code y bytes maxL none :: qT) rm (qPc D cy b adK adV h (qr b a :: As)) (qQc D cy b qrV (fun (_ : Unit) h => Q h)) mc ms (qA b)) (M : qMt y bytes maxL none n) (w1 : Cond.methodLink own i y ∈ qT) (w2 : Cond.instanceMethod y ∈ qT) (hy : y.name = "<init>") (ha : 0 < a) (hn : As.length = n) (hrc : rm.cells = mc) (hrs : rm.slots = ms) (hR : rm.frames + 1 ≤ R.frames ∧ 8 + (maxL + 11) + rm.locals ≤ R.locals) (hCS : C + mc ≤ R.cells ∧ S + ms ≤ R.slots) (hst : 2 * st.length ≤ 8) {st0 : List Value} (hst0 : st0 = As.reverse ++ qr b a :: st) (d : decode cc pc = .ok (.invokespecial i, 3)) (k : ∀ (h' : qH), Q h' → qW p l e R s m args below meth c D cy b nL (C + mc) (S + ms) Qw (pc + 3) L st h') : qW p l e R s m args below meth c D cy b nL C S Qw pc L st0 h :=
  qx_callI (f := qrV) X hM M w1 w2 hy ha hn hrc hrs hR hCS hst hst0 d (fun r h1 q => k h1 q)
theorem qx_callINV (X : qX p s m args meth c D cy b adK adV cc own nL ret nm) {Q : qH → Prop} {y : MethodName} {bytes : ByteArray} {maxL : Nat} {n i mc ms : Nat} {rm : Room} {As : List Value} {a : Nat} {host : String} (hM : Met l y (Cond.code y bytes maxL none :: qT) rm (qPc D cy b adK adV h (qr b a :: As)) (qQc D cy b qrV (fun (_ : Unit) h => Q h)) mc ms (qA b)) (M : qMt y bytes maxL none n) (w1 : va_Nw (.methodLinkNest own i y host) s) (w2 : Cond.instanceMethod y ∈ qT) (hy : y.name = "<init>") (ha : 0 < a) (hn : As.length = n) (hrc : rm.cells = mc) (hrs : rm.slots = ms) (hR : rm.frames + 1 ≤ R.frames ∧ 8 + (maxL + 11) + rm.locals ≤ R.locals) (hCS : C + mc ≤ R.cells ∧ S + ms ≤ R.slots) (hst : 2 * st.length ≤ 8) {st0 : List Value} (hst0 : st0 = As.reverse ++ qr b a :: st) (d : decode cc pc = .ok (.invokespecial i, 3)) (k : ∀ (h' : qH), Q h' → qW p l e R s m args below meth c D cy b nL (C + mc) (S + ms) Qw (pc + 3) L st h') : qW p l e R s m args below meth c D cy b nL C S Qw pc L st0 h :=
  qx_callIN (f := qrV) X hM M w1 w2 hy ha hn hrc hrs hR hCS hst hst0 d (fun r h1 q => k h1 q)
theorem qx_copyi (X : qX p s m args meth c D cy b adK adV cc own nL ret nm) {a0 a1 i : Nat} {sp dp n : Int32} (hq : qcpok h a0 a1 sp dp n) (w1 : Cond.methodLink own i arraycopyName ∈ qT) (hf : 1 ≤ R.frames) (hlo : 2 * st.length + (nativeFrameWords "java/lang/System" "arraycopy" 5 + 11) ≤ R.locals) (d : decode cc pc = .ok (.invokestatic i, 3)) (k : qW p l e R s m args below meth c D cy b nL C S Qw (pc + 3) L st (qcp h a1 (va_cpy (qI h a0) (qI h a1) sp.toNatClampNeg dp.toNatClampNeg n.toNatClampNeg))) : qW p l e R s m args below meth c D cy b nL C S Qw pc L (.int n :: .int dp :: qr b a1 :: .int sp :: qr b a0 :: st) h := by
  intro H locs ls hP hS hl
  obtain ⟨n0, n1, s0, s1, h1, h2, h3, h4, h5⟩ := hq
  have p0 := (hP.is_a s0).1
  have p1 := (hP.is_a s1).1
  rw [qr_pos p0, qr_pos p1]
  have nn : ∀ z : Int32, ¬ z < 0 → z.toInt = (z.toNatClampNeg : Int) := by
    intro z hz
    have hz0 : (0 : Int) ≤ z.toInt := by
      have := Int32.not_lt.mp hz
      simpa using Int32.le_iff_toInt_le.mp this
    show z.toInt = ((z.toInt.toNat : Nat) : Int)
    omega
  have hts := X.2.2.2.2.2.1
  have hK := X.2.2.2.2.2.2.1
  intro T hT Xs
  have hc0 : H[b + a0]? = some (vp_cell (cy 0) (n0, .inl (qI h a0))) := hP.arr s0 0 _ rfl
  have hc1 : H[b + a1]? = some (vp_cell (cy 0) (n1, .inl (qI h a1))) := hP.arr s1 0 _ rfl
  obtain ⟨-, k0, hk0, cm0, hkk0⟩ := (hK.2 0 _ rfl).1 n0 (fun j => .int (qI h a0 j))
  obtain ⟨-, k1, hk1, cm1, hkk1⟩ := (hK.2 0 _ rfl).1 n1 (fun j => .int (qI h a1 j))
  have hlv := qst8 (Nat.le_refl (2 * st.length))
  obtain ⟨vm', X', step⟩ := Xs.arraycopy X.1 X.2.2.2.2.1 (hts _ w1) (hts _ wv_copy) (hts _ ws_copy) (hts _ wz_System) (src := b + a0) (dst := b + a1) (cs := vp_cell (cy 0) (n0, .inl (qI h a0))) (cd := vp_cell (cy 0) (n1, .inl (qI h a1))) (srcPos := sp) (destPos := dp) (n := n) (by rw [hT]; exact hc0) (by rw [hT]; exact hc1)
    (fun _ h => by cases h) (fun _ h => by cases h) (fun h => by cases h) (fun h => by cases h) hk0 hk1 hkk0 hkk1 (by simp [qty, refKind]) h1 h2 h3
    (by rw [nn sp h1, nn n h3]; show ¬ _ > ((arrV (cy 0) n0 (fun j => .int (qI h a0 j))).slots.size : Int); rw [arrV_size]; omega)
    (by rw [nn dp h2, nn n h3]; show ¬ _ > ((arrV (cy 0) n1 (fun j => .int (qI h a1 j))).slots.size : Int); rw [arrV_size]; omega)
    (fun vm₁ _ i hi => by
      have e : (vp_cell (cy 0) (n0, .inl (qI h a0))).slots.getD (sp.toNatClampNeg + i) .null = .int (qI h a0 (sp.toNatClampNeg + i)) := by
        show (arrV (cy 0) n0 (fun j => .int (qI h a0 j))).slots.getD _ _ = _
        rw [Array.getD_eq_getD_getElem?, arrV_read _ _ (by omega)]
        rfl
      refine ⟨?_, ?_⟩
      · rw [e]; rfl
      · rw [e]; exact trivial)
    (g := F0 m pc ls (.int n :: .int dp :: .ref (b + a1) :: .int sp :: .ref (b + a0) :: st)) rfl (by rw [X.2.2.1]; exact hl.1) (rest := st) rfl (by rw [X.2.1]; exact d) hf (by show 2 * 0 + _ + _ ≤ _; omega)
  have e1 : copied (vp_cell (cy 0) (n0, .inl (qI h a0))) (vp_cell (cy 0) (n1, .inl (qI h a1))) sp dp n = vp_cell (cy 0) (n1, .inl (va_cpy (qI h a0) (qI h a1) sp.toNatClampNeg dp.toNatClampNeg n.toNatClampNeg)) := va_copied (fun z => .int z) (cy 0) (cy 0) (qI h a0) (qI h a1) h4
  rw [e1] at X' step
  have hll : b + a1 < H.size := (Array.getElem?_eq_some_iff.mp hc1).1
  have hheap : ((T.setVm vm').setCell (b + a1) (vp_cell (cy 0) (n1, .inl (va_cpy (qI h a0) (qI h a1) sp.toNatClampNeg dp.toNatClampNeg n.toNatClampNeg)))).heap = H.setIfInBounds (b + a1) (vp_cell (cy 0) (n1, .inl (va_cpy (qI h a0) (qI h a1) sp.toNatClampNeg dp.toNatClampNeg n.toNatClampNeg))) := by rw [← hT]; rfl
  have oq : ∀ q : Nat, q ≠ b + a1 → (H.setIfInBounds (b + a1) (vp_cell (cy 0) (n1, .inl (va_cpy (qI h a0) (qI h a1) sp.toNatClampNeg dp.toNatClampNeg n.toNatClampNeg))))[q]? = H[q]? := fun q hq => by simp [Array.getElem?_setIfInBounds, Ne.symm hq]
  have hP' : qP D cy b (qcp h a1 (va_cpy (qI h a0) (qI h a1) sp.toNatClampNeg dp.toNatClampNeg n.toNatClampNeg)) (H.setIfInBounds (b + a1) (vp_cell (cy 0) (n1, .inl (va_cpy (qI h a0) (qI h a1) sp.toNatClampNeg dp.toNatClampNeg n.toNatClampNeg)))) := by
    refine hP.set (a := a1) rfl rfl (fun x hx => ⟨if_neg hx, rfl, rfl⟩) (by simp) oq ?_
    rw [qent_a (by show qS h a1 = _; exact s1)]
    have e2 : qar b (qcp h a1 (va_cpy (qI h a0) (qI h a1) sp.toNatClampNeg dp.toNatClampNeg n.toNatClampNeg)) a1 0 = .inl (va_cpy (qI h a0) (qI h a1) sp.toNatClampNeg dp.toNatClampNeg n.toNatClampNeg) := congrArg Sum.inl (if_pos rfl)
    rw [e2]
    show (H.setIfInBounds (b + a1) _)[b + a1]? = some _
    simp [Array.getElem?_setIfInBounds, hll]
  obtain ⟨t, q1, q2⟩ := k _ _ ls hP' ⟨by simp; exact hS.1, fun q g1 g2 => by
      rw [oq q (fun e => g2 (by rw [e]; show b + 1 ≤ b + a1; omega))]
      exact hS.2.1 q g1 g2, fun q hq => by
      rcases List.mem_append.mp hq with h | h
      · exact hS.2.2 q h
      · obtain ⟨z, -, hz⟩ := List.mem_map.mp h
        rw [← hz]
        show b + 1 ≤ b + a1
        omega⟩ hl _ hheap X'
  exact ⟨t, step t q1, q2⟩
theorem qx_pop (X : qX p s m args meth c D cy b adK adV cc own nL ret nm) {va : Value} (hc : va.category = 1) (d : decode cc pc = .ok (.pop, 1)) (k : qW p l e R s m args below meth c D cy b nL C S Qw (pc + 1) L st h) : qW p l e R s m args below meth c D cy b nL C S Qw pc L (va :: st) h :=
  fun H locs ls hP hS hl => lv_pop X.1 X.2.1 d hc (k H locs ls hP hS hl)
theorem qx_aloadA (X : qX p s m args meth c D cy b adK adV cc own nL ret nm) {n : Fin 4} {i x : Nat} (d : decode cc pc = .ok (.aload_n n, 1)) (hi : (n : Nat) = i) (q : Nat) (hq : L[q]? = some (i, .inr (.inr (.inr x)))) (k : qW p l e R s m args below meth c D cy b nL C S Qw (pc + 1) L (.ref x :: st) h) : qW p l e R s m args below meth c D cy b nL C S Qw pc L st h :=
  fun H locs ls hP hS hl => lv_aload_n X.1 X.2.1 d hi (lv_at hl q (qLm_at hq)) (k H locs ls hP hS hl)
theorem qx_gets1 (X : qX p s m args meth c D cy b adK adV cc own nL ret nm) {i : Nat} (w : Cond.fieldLink own i "java/lang/String" "COMPACT_STRINGS" "Z" ∈ qT) (d : decode cc pc = .ok (.getstatic i, 3)) (k : qW p l e R s m args below meth c D cy b nL C S Qw (pc + 3) L (.int 1 :: st) h) : qW p l e R s m args below meth c D cy b nL C S Qw pc L st h :=
  fun H locs ls hP hS hl => va_gets X.1 X.2.1 X.2.2.2.2.2.2.2.1.2.2.2.1 hS X.2.2.2.2.1 (X.2.2.2.2.2.1 _ w) (fun _ q => q) d (k H locs ls hP hS hl)
theorem qx_getsF (X : qX p s m args meth c D cy b adK adV cc own nL ret nm) {i : Nat} (w : Cond.fieldLink own i "jdk/internal/util/Preconditions" "SIOOBE_FORMATTER" "Ljava/util/function/BiFunction;" ∈ qT) (d : decode cc pc = .ok (.getstatic i, 3)) (k : ∀ z : qV, qlg z = false → qW p l e R s m args below meth c D cy b nL C S Qw (pc + 3) L (qval b z :: st) h) : qW p l e R s m args below meth c D cy b nL C S Qw pc L st h := by
  intro H locs ls hP hS hl
  rcases X.2.2.2.2.2.2.2.1.2.2.2.2.1 with hz | ⟨t, hz⟩
  · exact va_gets X.1 X.2.1 hz hS X.2.2.2.2.1 (X.2.2.2.2.2.1 _ w) (fun _ q => q) d (k (.inr (.inr (.inl 0))) rfl H locs ls hP hS hl)
  · exact va_gets X.1 X.2.1 hz hS X.2.2.2.2.1 (X.2.2.2.2.2.1 _ w) (fun _ q => q) d (k (.inr (.inr (.inr t))) rfl H locs ls hP hS hl)
theorem qx_sval (X : qX p s m args meth c D cy b adK adV cc own nL ret nm) {i x : Nat} (hx : x < 2) (w : Cond.fieldLink own i "java/lang/String" "value" "[B" ∈ qT) (d : decode cc pc = .ok (.getfield i, 3)) (k : qW p l e R s m args below meth c D cy b nL C S Qw (pc + 3) L (.ref (adV x) :: st) h) : qW p l e R s m args below meth c D cy b nL C S Qw pc L (.ref (adK x) :: st) h :=
  fun H locs ls hP hS hl => vk_getf X.1 X.2.1 (X.2.2.2.2.2.2.2.1.1.1 _ hx).2.2.1 hS X.2.2.2.2.1 (X.2.2.2.2.2.1 _ w) (fun _ q => q) d (k H locs ls hP hS hl)
theorem qx_scod (X : qX p s m args meth c D cy b adK adV cc own nL ret nm) {i x : Nat} (hx : x < 2) (w : Cond.fieldLink own i "java/lang/String" "coder" "B" ∈ qT) (d : decode cc pc = .ok (.getfield i, 3)) (k : qW p l e R s m args below meth c D cy b nL C S Qw (pc + 3) L (.int 0 :: st) h) : qW p l e R s m args below meth c D cy b nL C S Qw pc L (.ref (adK x) :: st) h :=
  fun H locs ls hP hS hl => vk_getf X.1 X.2.1 (X.2.2.2.2.2.2.2.1.1.1 _ hx).2.1 hS X.2.2.2.2.1 (X.2.2.2.2.2.1 _ w) (fun _ q => q) d (k H locs ls hP hS hl)
theorem qx_vlen (X : qX p s m args meth c D cy b adK adV cc own nL ret nm) {x : Nat} (hx : x < 2) (d : decode cc pc = .ok (.arraylength, 1)) (k : qW p l e R s m args below meth c D cy b nL C S Qw (pc + 1) L (.int (nI (lenJS.getD x 0)) :: st) h) : qW p l e R s m args below meth c D cy b nL C S Qw pc L (.ref (adV x) :: st) h :=
  fun H locs ls hP hS hl => va_tlen X.1 X.2.1 (X.2.2.2.2.2.2.2.1.1.1 _ hx).2.2.2 hS rfl d (k H locs ls hP hS hl)
theorem qx_vld (X : qX p s m args meth c D cy b adK adV cc own nL ret nm) {x : Nat} {i : Int32} (hx : x < 2) (hi : vp_in i (lenJS.getD x 0)) (d : decode cc pc = .ok (.baload, 1)) (k : qW p l e R s m args below meth c D cy b nL C S Qw (pc + 1) L (.int ((bytJS.getD x []).getD i.toNatClampNeg 0) :: st) h) : qW p l e R s m args below meth c D cy b nL C S Qw pc L (.int i :: .ref (adV x) :: st) h :=
  fun H locs ls hP hS hl => va_tb X.1 X.2.1 (X.2.2.2.2.2.2.2.1.1.1 _ hx).2.2.2 hS hi rfl d (k H locs ls hP hS hl)
theorem qx_ldcS0 (X : qX p s m args meth c D cy b adK adV cc "CoatHangers$Tape" nL ret nm)  (d : decode cc pc = .ok (.ldc 33, 2)) (k : qW p l e R s m args below meth c D cy b nL C S Qw (pc + 2) L (.ref (adK 0) :: st) h) : qW p l e R s m args below meth c D cy b nL C S Qw pc L st h :=
  fun H locs ls hP hS hl => va_ldcS X.1 X.2.1 X.2.2.2.2.1 X.2.2.2.2.2.2.2.1.2.1 d (k H locs ls hP hS hl)
theorem qx_ldcS1 (X : qX p s m args meth c D cy b adK adV cc "CoatHangers$Tape" nL ret nm)  (d : decode cc pc = .ok (.ldc 78, 2)) (k : qW p l e R s m args below meth c D cy b nL C S Qw (pc + 2) L (.ref (adK 1) :: st) h) : qW p l e R s m args below meth c D cy b nL C S Qw pc L st h :=
  fun H locs ls hP hS hl => va_ldcS X.1 X.2.1 X.2.2.2.2.1 X.2.2.2.2.2.2.2.1.2.2.1 d (k H locs ls hP hS hl)
theorem qx_nret (X : qX p s m args meth c D cy b adK adV cc own nL ret nm) {mc ms : Nat} {Q : Int32 → qH → Prop} {v : Int32} {ty : FieldType} (hQ : narrow ty (.int v) = .int v ∧ Q v h) (hC : C ≤ mc) (hSl : S ≤ ms) (hr : ret = some ty) (d : decode cc pc = .ok (.ireturn, 1)) : qW p l e R s m args below meth c D cy b nL C S (MQ below (qQc D cy b qrI Q) args s mc ms (qA b)) pc L [.int v] h := by
  intro H locs ls hP hS hl
  have hlocks : meth.locks = false := X.2.2.2.1
  refine W.widen (k := mc) (n := ms) hC hSl ?_
  exact W.zret (v := v) X.1 X.2.1 (X.2.2.2.2.2.2.2.2.1.trans hr) hQ.1 (fun t ht hW => ⟨⟨v, h, rfl, hQ.2, by rw [ht]; exact hP⟩, hS.F ht⟩) hS.2.2 d
theorem qx_callTI (X : qX p s m args meth c D cy b adK adV cc own nL ret nm) {Q : Int32 → qH → Prop} {y : MethodName} {bytes : ByteArray} {maxL : Nat} {rt : Option FieldType} {n i mc ms : Nat} {rm : Room} {As : List Value} {x : Nat} (hM : Met l y (Cond.code y bytes maxL rt :: qT) rm (qPc D cy b adK adV h (.ref (adK x) :: As)) (qQc D cy b qrI Q) mc ms (qA b)) (M : qMt y bytes maxL rt n) (w1 : Cond.methodLink own i y ∈ qT) (w2 : Cond.instanceMethod y ∈ qT) (w3 : Cond.selects y.cls y y ∈ qT) (hy : y.cls = "java/lang/String") (hx : x < 2) (hn : As.length = n) (hrc : rm.cells = mc) (hrs : rm.slots = ms) (hR : rm.frames + 1 ≤ R.frames ∧ 8 + (maxL + 11) + rm.locals ≤ R.locals) (hCS : C + mc ≤ R.cells ∧ S + ms ≤ R.slots) (hst : 2 * st.length ≤ 8) {st0 : List Value} (hst0 : st0 = As.reverse ++ .ref (adK x) :: st) (d : decode cc pc = .ok (.invokevirtual i, 3)) (k : ∀ (r : Int32) (h' : qH), Q r h' → qW p l e R s m args below meth c D cy b nL (C + mc) (S + ms) Qw (pc + 3) L (.int r :: st) h') : qW p l e R s m args below meth c D cy b nL C S Qw pc L st0 h := by
  intro H locs ls hP hS hl
  have hts := X.2.2.2.2.2.1
  rw [hst0]
  have hrv := vk_recv X.2.2.2.2.2.2.2.1.1 hx hS
  rw [← hy] at hrv
  have hrun := va_runV (As := As) (rest := st) (meth := meth) (l := l) (R := R) (below := below) (e := e) (locs := locs) (cells := C) (slots := S) (C := y.cls) (g := F0 m pc ls (As.reverse ++ .ref (adK x) :: st)) ⟨X.1, X.2.1, X.2.2.1, X.2.2.2.2.1, hts⟩ hM ⟨qcallB hts M w1 hrc hrs hR, hts _ w2, hts _ w3⟩ ⟨qPc_blind _ _ _ _ _ _ _, hrv, qpre X hP hS _⟩ rfl hn hl.1 rfl (lv_room (qst8 hst)) d hCS
  exact qcont hrun hS hl (fun r h1 q => k r h1 q)
end QROWS3
