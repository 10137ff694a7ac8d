/-! the pure statement: out of the two constructors and the law's loop -/
theorem zok_all : zOK Rel := ⟨zok_feed, zok_back, zok_read, zok_place, zok_hanger, zok_person, zok_tells, zok_hang, zok_take, zok_change, zok_straighten, zok_nights, zok_undo, zok_hanging, zok_apart, zok_ways, zok_sets, zok_changes, zok_themselves, zok_crossed, zok_fit, zok_missed, zok_crowded, zok_straight, zok_bill, zok_swap, zok_round, zok_upright, zok_holder, zok_free, zok_day, zok_then, zok_bentIn, zok_year, zok_tell, zok_forget, zok_two, zok_ask, zok_hold, zok_restore, zok_count⟩
theorem qH0_z : qH0 = zHn 0 (fun _ _ => 0) (fun _ _ => 0) (fun _ _ => 0) := by
  unfold qH0 zHn
  refine Prod.ext rfl (Prod.ext (funext fun a => ?_) rfl)
  show .inl 99 = if a ≤ 0 then zS a else .inl 99
  by_cases l : a ≤ 0
  · have : a = 0 := by omega
    subst this
    rw [if_pos l]; rfl
  · rw [if_neg l]
theorem law_pure (bs : Nat) (xs : Nat → Int32) (Ls : Nat) (hL : Ls ≤ 3072) : w_law 5000 bs xs Ls qH0 (fun _ _ => True) := by
  rw [qH0_z]
  have h0 : z3 0 (fun _ _ => 0) (fun _ _ => 0) (fun _ _ => 0) := ⟨fun _ _ _ => rfl, fun _ _ _ => rfl, fun _ _ _ => rfl⟩
  refine k_new (by decide) (by decide) h0 rfl (fun g1 => ⟨by decide, by decide, by decide, k_X g1 (zKp.zero h0) (fun I J R hx r0 => k_new (by decide) (by decide) hx.1 rfl (fun g2 => ⟨by decide, by decide, by decide, k_M hx (fun k => r0 k) g2 (zKp.zero hx.1) (fun I' J' hR => zlaw_loop zok_all hL _ (by decide) (by decide) 5000 0 I' J' (by omega) (by omega) hR)⟩))⟩)
