/-! State.become over the layout, for any two States -/
theorem u_State_become_g (N : Nat) {x0 x1 : Nat} (h0 : zSt x0) (h1 : zSt x1) (_x0 : Nat) (_x1 : Nat) (I : zI) (J : zJ) (Q : zI → zJ → Prop) (Q' : qH → Prop) (hQ : ∀ (I : zI) (J : zJ), Q I J → Q' (zH I J)) (hv : v_State_become N x0 x1 I J Q) : w_State_become N x0 x1 (zH I J) Q' := by
  obtain ⟨a0, a1, a2, a3, a4, a5, a6, b1, b2, b3, b4, b5⟩ := h0
  obtain ⟨c0, c1, c2, c3, c4, c5, c6, d1, d2, d3, d4, d5⟩ := h1
  unfold w_State_become
  unfold v_State_become at hv
  refine ⟨c0, a0, ?_⟩
  obtain ⟨I0, e0⟩ : ∃ z, z = qu I x0 1 (I x1 1) := ⟨_, rfl⟩
  have hv := hv I0 e0
  intro g0 f0
  have f0 : g0 = zH I0 J := by rw [f0, e0]; rfl
  subst f0
  refine ⟨c0, a0, ?_⟩
  obtain ⟨t1, hv⟩ := hv
  rw [show qR (zH I0 J) x1 2 = x1 + 1 from c2, show qR (zH I0 J) x0 2 = x0 + 1 from a2]
  refine ⟨qcpok_mk d1 b1 t1, ?_⟩
  obtain ⟨I1, e1⟩ : ∃ z, z = zcp I0 (x0 + 1) (va_cpy (I0 (x1 + 1)) (I0 (x0 + 1)) ((0 : Int32)).toNatClampNeg ((0 : Int32)).toNatClampNeg ((6 : Int32)).toNatClampNeg) := ⟨_, rfl⟩
  have hv := hv I1 e1
  intro g1 f1
  have f1 : g1 = zH I1 J := by rw [f1, e1]; rfl
  subst f1
  refine ⟨c0, a0, ?_⟩
  obtain ⟨t2, hv⟩ := hv
  rw [show qR (zH I1 J) x1 3 = x1 + 2 from c3, show qR (zH I1 J) x0 3 = x0 + 2 from a3]
  refine ⟨qcpok_mk d2 b2 t2, ?_⟩
  obtain ⟨I2, e2⟩ : ∃ z, z = zcp I1 (x0 + 2) (va_cpy (I1 (x1 + 2)) (I1 (x0 + 2)) ((0 : Int32)).toNatClampNeg ((0 : Int32)).toNatClampNeg ((6 : Int32)).toNatClampNeg) := ⟨_, rfl⟩
  have hv := hv I2 e2
  intro g2 f2
  have f2 : g2 = zH I2 J := by rw [f2, e2]; rfl
  subst f2
  refine ⟨c0, a0, ?_⟩
  obtain ⟨t3, hv⟩ := hv
  rw [show qR (zH I2 J) x1 4 = x1 + 3 from c4, show qR (zH I2 J) x0 4 = x0 + 3 from a4]
  refine ⟨qcpok_mk d3 b3 t3, ?_⟩
  obtain ⟨I3, e3⟩ : ∃ z, z = zcp I2 (x0 + 3) (va_cpy (I2 (x1 + 3)) (I2 (x0 + 3)) ((0 : Int32)).toNatClampNeg ((0 : Int32)).toNatClampNeg ((6 : Int32)).toNatClampNeg) := ⟨_, rfl⟩
  have hv := hv I3 e3
  intro g3 f3
  have f3 : g3 = zH I3 J := by rw [f3, e3]; rfl
  subst f3
  refine ⟨c0, a0, ?_⟩
  obtain ⟨t4, hv⟩ := hv
  rw [show qR (zH I3 J) x1 5 = x1 + 4 from c5, show qR (zH I3 J) x0 5 = x0 + 4 from a5]
  refine ⟨qcpok_mk d4 b4 t4, ?_⟩
  obtain ⟨I4, e4⟩ : ∃ z, z = zcp I3 (x0 + 4) (va_cpy (I3 (x1 + 4)) (I3 (x0 + 4)) ((0 : Int32)).toNatClampNeg ((0 : Int32)).toNatClampNeg ((6 : Int32)).toNatClampNeg) := ⟨_, rfl⟩
  have hv := hv I4 e4
  intro g4 f4
  have f4 : g4 = zH I4 J := by rw [f4, e4]; rfl
  subst f4
  refine ⟨c0, a0, ?_⟩
  obtain ⟨t5, hv⟩ := hv
  rw [show qR (zH I4 J) x1 6 = x1 + 5 from c6, show qR (zH I4 J) x0 6 = x0 + 5 from a6]
  refine ⟨qcpok_mk d5 b5 t5, ?_⟩
  obtain ⟨I5, e5⟩ : ∃ z, z = zcp I4 (x0 + 5) (va_cpy (I4 (x1 + 5)) (I4 (x0 + 5)) ((0 : Int32)).toNatClampNeg ((0 : Int32)).toNatClampNeg ((7 : Int32)).toNatClampNeg) := ⟨_, rfl⟩
  have hv := hv I5 e5
  intro g5 f5
  have f5 : g5 = zH I5 J := by rw [f5, e5]; rfl
  subst f5
  exact hQ _ _ hv
