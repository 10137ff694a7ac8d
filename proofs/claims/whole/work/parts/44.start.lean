/-! THE START: from the law's entry to the pure statement: no machine behind this -/
def qH0 : qH := (0, fun _ => .inl 99, fun _ _ => 0, fun _ _ => 0, fun _ _ => 0)
theorem qP0 (D : va_G) (cy : Nat → ClassId) {b : Nat} {H : Heap} (h : H.size = b + 1) : qP D cy b qH0 H := ⟨h, fun a h1 h2 => absurd h1 (by have : a ≤ 0 := h2; omega), fun _ _ => rfl⟩
theorem qarrP {args : Array Value} {s : State} {ty : FieldType} (hp : ∀ C, ty ≠ .object C) (h : (Cond.arrayClass ty).before args s = true) : ∃ cA : ClassId, ArrOfT s cA ty ∧ va_RA s cA ty := by
  obtain ⟨cA, kA, comp, hfind, hk, hkind⟩ := Cond.arrayClass_spec h
  refine ⟨cA, fun n z => ⟨fun k h => (by cases h), kA, hk, comp, hkind⟩, ?_⟩
  cases ty with
  | object C => exact absurd rfl (hp C)
  | _ => exact hfind
theorem qarrO {args : Array Value} {s : State} {C : String} (h : (Cond.arrayOver (.object C)).before args s = true) : ∃ cA : ClassId, ArrOfT s cA (.object C) ∧ va_RA s cA (.object C) := by
  obtain ⟨comp, c, k, h1, h2, h3, h4, h5⟩ := Cond.arrayOver_spec h
  exact ⟨c, fun n z => ⟨fun k h => (by cases h), k, h3, comp, h4⟩, k, comp, h3, h4, h1, h5⟩
theorem qarrA {args : Array Value} {s : State} {t : FieldType} (h : (Cond.arrayOver (.array t)).before args s = true) : ∃ cA : ClassId, ArrOfT s cA (.array t) ∧ va_RA s cA (.array t) := by
  obtain ⟨comp, c, k, h1, h3, h4, h5⟩ := Cond.arrayOver_specA h
  exact ⟨c, fun n z => ⟨fun k h => (by cases h), k, h3, comp, h4⟩, h5⟩
theorem lwt_1 {w : Cond} {i : Nat} (h : tables_1_1[i]? = some w) : w ∈ lw_tbl := List.mem_append_right _ (List.mem_append_left _ (List.mem_of_getElem? h))
theorem lwt_2 {w : Cond} {i : Nat} (h : tables_1_2[i]? = some w) : w ∈ lw_tbl := List.mem_append_right _ (List.mem_append_right _ (List.mem_append_left _ (List.mem_of_getElem? h)))
theorem lwt_3 {w : Cond} {i : Nat} (h : tables_1_3[i]? = some w) : w ∈ lw_tbl := List.mem_append_right _ (List.mem_append_right _ (List.mem_append_right _ (List.mem_append_left _ (List.mem_of_getElem? h))))
theorem lwt_4 {w : Cond} {i : Nat} (h : tables_1_4[i]? = some w) : w ∈ lw_tbl := List.mem_append_right _ (List.mem_append_right _ (List.mem_append_right _ (List.mem_append_right _ (List.mem_append_left _ (List.mem_of_getElem? h)))))
theorem lwt_5 {w : Cond} {i : Nat} (h : tables_1_5[i]? = some w) : w ∈ lw_tbl := List.mem_append_right _ (List.mem_append_right _ (List.mem_append_right _ (List.mem_append_right _ (List.mem_append_right _ (List.mem_append_left _ (List.mem_of_getElem? h))))))
theorem lwt_6 {w : Cond} {i : Nat} (h : tables_1_6[i]? = some w) : w ∈ lw_tbl := List.mem_append_right _ (List.mem_append_right _ (List.mem_append_right _ (List.mem_append_right _ (List.mem_append_right _ (List.mem_append_right _ (List.mem_append_left _ (List.mem_of_getElem? h)))))))
theorem lwt_7 {w : Cond} {i : Nat} (h : tables_1_7[i]? = some w) : w ∈ lw_tbl := List.mem_append_right _ (List.mem_append_right _ (List.mem_append_right _ (List.mem_append_right _ (List.mem_append_right _ (List.mem_append_right _ (List.mem_append_right _ (List.mem_append_left _ (List.mem_of_getElem? h))))))))
theorem lwt_8 {w : Cond} {i : Nat} (h : tables_1_8[i]? = some w) : w ∈ lw_tbl := List.mem_append_right _ (List.mem_append_right _ (List.mem_append_right _ (List.mem_append_right _ (List.mem_append_right _ (List.mem_append_right _ (List.mem_append_right _ (List.mem_append_right _ (List.mem_of_getElem? h))))))))
def qtm (i : Nat) : Term := .string "CoatHangers$Tape" (if i = 0 then 33 else 78)
abbrev qgv : List Cond := flatC (Jvm.Cond.and given_1 narrow_1)
theorem qg_ex : ∀ i, i < 2 → Cond.exactly (qtm i) "java/lang/String" ∈ qgv := by decide +kernel
theorem qg_co : ∀ i, i < 2 → Cond.eq (.field (qtm i) "java/lang/String" "coder" "B") (.int 0) ∈ qgv := by decide +kernel
theorem qg_ar : ∀ i, i < 2 → Cond.arrayOf (.field (qtm i) "java/lang/String" "value" "[B") .byte ∈ qgv := by decide +kernel
theorem qg_le : ∀ i, i < 2 → Cond.eq (.length (.field (qtm i) "java/lang/String" "value" "[B")) (.int (Int32.ofNat (lenJS.getD i 0))) ∈ qgv := by decide +kernel
theorem qg_el : ∀ i, i < 2 → ∀ j, j < lenJS.getD i 0 → Cond.eq (.elem (.field (qtm i) "java/lang/String" "value" "[B") (.int (Int32.ofNat j))) (.int ((bytJS.getD i []).getD j 0)) ∈ qgv := by decide +kernel
theorem qg_ne : ∀ i j, i < 2 → j < 2 → i ≠ j → Cond.not (Cond.eq (qtm i) (qtm j)) ∈ qgv ∨ Cond.not (Cond.eq (qtm j) (qtm i)) ∈ qgv := by
  intro i j hi hj hn
  rcases (show i = 0 ∨ i = 1 by omega) with rfl | rfl <;> rcases (show j = 0 ∨ j = 1 by omega) with rfl | rfl
  · exact absurd rfl hn
  · exact Or.inl (by decide +kernel)
  · exact Or.inr (by decide +kernel)
  · exact absurd rfl hn
theorem qZ0 {args : Array Value} {s : State} {b : Nat} (hsz : s.heap.size = b + 1) (hts : ∀ w ∈ lw_tbl, w.before args s = true) (hgv : (Jvm.Cond.and given_1 narrow_1).before args s = true) : ∃ adK adV, qZ b adK adV s := by
  have hg := flat_of_before _ hgv
  have hA : ∀ a : Nat, a < s.heap.size → ¬ qA b a := fun a ha hq => by have : b + 1 ≤ a := hq; omega
  obtain ⟨adK, adV, hS, hev⟩ := vk_Sof (args := args) (s := s) (N := 2) (tm := qtm) (len := lenJS) (byt := bytJS) (A := qA b) (by decide) (fun i hi => hg _ (qg_ex i hi)) (fun i hi => hg _ (qg_co i hi)) (fun i hi => hg _ (qg_ar i hi)) (fun i hi => hg _ (qg_le i hi)) (fun i hi j hj => hg _ (qg_el i hi j hj)) (fun i j hi hj hn => (qg_ne i j hi hj hn).elim (fun q => Or.inl (hg _ q)) (fun q => Or.inr (hg _ q))) hA
  refine ⟨adK, adV, hS, vk_R.of (hts _ (lwt_1 (i := 36) (by decide +kernel))) (hev 0 (by decide)), vk_R.of (hts _ (lwt_3 (i := 77) (by decide +kernel))) (hev 1 (by decide)), ?_, ?_, ?_, ?_, ?_, ?_⟩
  · exact va_Zof (hts _ (lwt_1 (i := 46) (by decide +kernel))) (hts _ (lwt_1 (i := 3) (by decide +kernel))) (va_eqi (hg _ (by decide +kernel))) hA
  · exact va_Zqof (hts _ (lwt_1 (i := 62) (by decide +kernel))) (hts _ (lwt_1 (i := 5) (by decide +kernel))) (hg _ (by decide +kernel)) hA
  · exact va_AO.of (hts _ (lwt_2 (i := 204) (by decide +kernel)))
  · exact over_moved (Vm.Alike.refl s.vm) (hts _ (lwt_2 (i := 144) (by decide +kernel)))
  · exact va_Nw.of rfl (hts _ (lwt_1 (i := 126) (by decide +kernel)))
  · exact va_Nw.of rfl (hts _ (lwt_1 (i := 235) (by decide +kernel)))
theorem qK0 {args : Array Value} {s : State} (hts : ∀ w ∈ lw_tbl, w.before args s = true) : ∃ (D : va_G) (cy : Nat → ClassId), va_K D qCl (qtys cy) s := by
  have hq : ∀ w ∈ qT, w.before args s = true := fun w hw => hts w (List.mem_filter.mp hw).1
  obtain ⟨c0, i0, k0⟩ := u_known (C := qR0) (T := qTb0) (N := 3) (n := 3) hq qlay0 (hts _ (lwt_1 (i := 125) (by decide +kernel)))
  obtain ⟨c1, i1, k1⟩ := u_known (C := qR1) (T := qTb1) (N := 3) (n := 3) hq qlay1 (hts _ (lwt_2 (i := 122) (by decide +kernel)))
  obtain ⟨c2, i2, k2⟩ := u_known (C := qR2) (T := qTb2) (N := 3) (n := 3) hq qlay2 (hts _ (lwt_2 (i := 198) (by decide +kernel)))
  obtain ⟨c3, i3, k3⟩ := u_known (C := qR3) (T := qTb3) (N := 5) (n := 5) hq qlay3 (hts _ (lwt_2 (i := 138) (by decide +kernel)))
  obtain ⟨c4, i4, k4⟩ := u_known (C := qR4) (T := qTb4) (N := 14) (n := 14) hq qlay4 (hts _ (lwt_1 (i := 226) (by decide +kernel)))
  obtain ⟨c5, i5, k5⟩ := u_known (C := qR5) (T := qTb5) (N := 3) (n := 3) hq qlay5 (hts _ (lwt_2 (i := 106) (by decide +kernel)))
  obtain ⟨c6, i6, k6⟩ := u_known (C := qR6) (T := qTb6) (N := 7) (n := 7) hq qlay6 (hts _ (lwt_2 (i := 56) (by decide +kernel)))
  obtain ⟨c7, i7, k7⟩ := u_known (C := qR7) (T := qTb7) (N := 7) (n := 7) hq qlay7 (hts _ (lwt_1 (i := 31) (by decide +kernel)))
  obtain ⟨c8, i8, k8⟩ := u_known (C := qR8) (T := qTb8) (N := 13) (n := 13) hq qlay8 (hts _ (lwt_1 (i := 119) (by decide +kernel)))
  obtain ⟨c9, i9, k9⟩ := u_known (C := qR9) (T := qTb9) (N := 8) (n := 8) hq qlay9 (hts _ (lwt_2 (i := 162) (by decide +kernel)))
  obtain ⟨c10, i10, k10⟩ := u_known (C := qR10) (T := qTb10) (N := 3) (n := 3) hq qlay10 (hts _ (lwt_1 (i := 234) (by decide +kernel)))
  obtain ⟨c11, i11, k11⟩ := u_known (C := qR11) (T := qTb11) (N := 12) (n := 12) hq qlay11 (hts _ (lwt_1 (i := 23) (by decide +kernel)))
  obtain ⟨c12, i12, k12⟩ := u_known (C := qR12) (T := qTb12) (N := 71) (n := 71) hq qlay12 (hts _ (lwt_6 (i := 21) (by decide +kernel)))
  obtain ⟨a0, r0⟩ := qarrP (ty := .int) (fun _ h => by cases h) (hts _ (lwt_1 (i := 117) (by decide +kernel)))
  obtain ⟨a1, r1⟩ := qarrP (ty := .byte) (fun _ h => by cases h) (hts _ (lwt_1 (i := 115) (by decide +kernel)))
  obtain ⟨a2, r2⟩ := qarrP (ty := .boolean) (fun _ h => by cases h) (hts _ (lwt_2 (i := 196) (by decide +kernel)))
  obtain ⟨a3, r3⟩ := qarrP (ty := .long) (fun _ h => by cases h) (hts _ (lwt_1 (i := 116) (by decide +kernel)))
  obtain ⟨a4, r4⟩ := qarrO (C := "CoatHangers$State") (hts _ (lwt_2 (i := 204) (by decide +kernel)))
  obtain ⟨a5, r5⟩ := qarrA (t := .int) (hts _ (lwt_2 (i := 144) (by decide +kernel)))
  refine ⟨(fun k => if k = 0 then c0 else if k = 1 then c1 else if k = 2 then c2 else if k = 3 then c3 else if k = 4 then c4 else if k = 5 then c5 else if k = 6 then c6 else if k = 7 then c7 else if k = 8 then c8 else if k = 9 then c9 else if k = 10 then c10 else if k = 11 then c11 else c12, fun k => if k = 0 then i0 else if k = 1 then i1 else if k = 2 then i2 else if k = 3 then i3 else if k = 4 then i4 else if k = 5 then i5 else if k = 6 then i6 else if k = 7 then i7 else if k = 8 then i8 else if k = 9 then i9 else if k = 10 then i10 else if k = 11 then i11 else i12), fun k => if k = 0 then a0 else if k = 1 then a1 else if k = 2 then a2 else if k = 3 then a3 else if k = 4 then a4 else a5, ?_, ?_⟩
  · intro k q hq
    match k, hq with
    | 0, hq => cases hq; exact k0
    | 1, hq => cases hq; exact k1
    | 2, hq => cases hq; exact k2
    | 3, hq => cases hq; exact k3
    | 4, hq => cases hq; exact k4
    | 5, hq => cases hq; exact k5
    | 6, hq => cases hq; exact k6
    | 7, hq => cases hq; exact k7
    | 8, hq => cases hq; exact k8
    | 9, hq => cases hq; exact k9
    | 10, hq => cases hq; exact k10
    | 11, hq => cases hq; exact k11
    | 12, hq => cases hq; exact k12
    | k + 13, hq => exact absurd hq (by simp [qCl])
  · intro k q hq
    match k, hq with
    | 0, hq => cases hq; exact r0
    | 1, hq => cases hq; exact r1
    | 2, hq => cases hq; exact r2
    | 3, hq => cases hq; exact r3
    | 4, hq => cases hq; exact r4
    | 5, hq => cases hq; exact r5
    | k + 6, hq => exact absurd hq (by simp [qtys])
set_option maxHeartbeats 4000000 in
/-- the law from its entry, out of the pure statement -/
theorem whole_start_open (hpure : ∀ (bs : Nat) (xs : Nat → Int32) (Ls : Nat), Ls ≤ 3072 → w_law 5000 bs xs Ls qH0 (fun _ _ => True)) {p : Program} {e : Env} {s : State} {m : MethodId} {below : List Frame} {meth : Method} {c : Code} (l : Launch) {b L : Nat} {xs : Nat → Int32} (hL : L ≤ 3072) (C0 : lw_At p s m meth c b L xs) : W p l e room_1 s m #[Value.ref b] below meth c s.heap [] 0 0 (lw_Z below #[Value.ref b] s) (entryFrame m ([Value.ref b] : List Value).toArray 4) := by
  obtain ⟨hx, hb, hr, hml, hown, hts, hX, hbl, hlocks, hgv⟩ := C0
  obtain ⟨b0, hsz⟩ : ∃ b0, s.heap.size = b0 + 1 := ⟨s.heap.size - 1, by omega⟩
  obtain ⟨D, cy, hK⟩ := qK0 hts
  obtain ⟨adK, adV, hZ⟩ := qZ0 hsz hts hgv
  have hbA : ¬ qA b0 b := fun q => by have : b0 + 1 ≤ b := q; omega
  have X : qX p s m #[Value.ref b] meth c D cy b0 adK adV code "CoatHangersLaw" 4 ret meth.name := ⟨hx, hb, hml, hlocks, hown, fun w hw => hts w (List.mem_filter.mp hw).1, hK, hZ, hr, rfl, by omega⟩
  have hl := lv_entry ([.ref b]) (n := 4) (Nat.le_of_ble_eq_true rfl)
  rw [lg_entry_eq]
  generalize (lg_sl ([.ref b]) ++ List.replicate (4 - (lg_sl ([.ref b])).length) Slot.unset).toArray = ls at hl ⊢
  exact t_law X hX hbl hbA hsz 5000 qH0 (fun _ _ => True) (hpure b xs L hL) s.heap [] ls (qP0 D cy hsz) va_S.rf hl
