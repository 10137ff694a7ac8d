/-! the start: Tape, Waits, Reader, Reck, Night, Plan, Told -/
def zch (i : Nat) : Int32 := (((((bytJS.getD 0 []).getD i 0) &&& (255 : Int32))).toUInt32 % 65536).toInt32
theorem zch_nar : ∀ i, i < 120 → (zch i).toUInt32.toUInt16.toUInt32.toInt32 = zch i := by decide +kernel
def zTp : Nat → Nat → Nat → (Nat → Int64) → Nat → Int64
  | 0, _, _, f => f
  | r + 1, a, i, f => if 21 ≤ a then f else if zch i = 32 then zTp r (a + 1) (i + 1) f else zTp r a (i + 1) (fun j => if j = a then f a * 27 + ((zch i - 97) + 1).toInt64 else f j)
theorem zTp_keys : ∀ k, k < 21 → zTp 120 0 0 (fun _ => 0) k = lN (zKeys.getD k 0) := by decide +kernel
theorem k_charAt {i : Nat} (hi : i < 120) {h : qH} {Q : Int32 → qH → Prop} (hq : Q (zch i) h) : w_String_charAt 5000 0 (nI i) h Q := by
  have e : (nI i).toNatClampNeg = i := nI_clamp (by omega)
  have n1 : narrow .char (.int (zch i)) = .int (zch i) := congrArg Value.int (zch_nar i hi)
  refine ⟨by decide, z_n (by decide) ⟨by decide, z_yr rfl ⟨Or.inr rfl, z_n (by decide) ⟨by decide, by decide, fun y _ => z_n (nI_pos (by omega)) (z_y ?_ ⟨by decide, vp_in_nI hi (by decide), ?_⟩)⟩⟩⟩⟩
  · exact nI_lt hi (by decide)
  · rw [e]; exact ⟨n1, n1, hq⟩
section
variable {I : zI} {R : zRf}
theorem k_Tape57 (r2 : R 2 2 = 4) {Q : qH → Prop} : ∀ r i a k (J : zJ), i + r = 120 → a ≤ i → r < k → (∀ J' : zJ, (∀ b l, b ≠ 4 → J' b l = J b l) → (∀ l, J' 4 l = zTp r a i (J 4) l) → Q (zHn 7 I J' R)) → w_Tape_init_57 5000 k 2 (nI a) (nI i) 5 3227 (zHn 7 I J R) Q
  | _, _, _, 0, _, _, _, hk, _ => absurd hk (Nat.not_lt_zero _)
  | 0, i, a, k + 1, J, hi, ha, hk, hq => by
    rw [w_Tape_init_57]; dsimp only
    refine ⟨by decide, by decide, by decide, by decide, by decide, by decide, z_n (by decide) ⟨by decide, rfl, ?_⟩⟩
    have : i = 120 := by omega
    subst this
    exact z_y (by decide) ⟨by decide, by decide, hq J (fun _ _ _ => rfl) (fun _ => rfl)⟩
  | r + 1, i, a, k + 1, J, hi, ha, hk, hq => by
    rw [w_Tape_init_57]; dsimp only; rw [nI_1]
    refine ⟨by decide, by decide, by decide, by decide, by decide, by decide, z_n (by decide) ⟨by decide, rfl, z_n ?_ ?_⟩⟩
    · exact nI_ge (b := 120) (by omega) (by decide)
    · by_cases h21 : 21 ≤ a
      · exact z_y (nI_le (a := 21) h21 (by omega)) ⟨by decide, by decide, hq J (fun _ _ _ => rfl) (fun l => by rw [zTp, if_pos h21])⟩
      · refine z_n (nI_ge (b := 21) (by omega) (by decide)) ⟨by decide, by decide, by decide, k_charAt (by omega) ?_⟩
        by_cases e : zch i = 32
        · refine z_yr e ?_
          rw [nI_1]
          exact k_Tape57 r2 r (i + 1) (a + 1) k J (by omega) (by omega) (by omega) (fun J' o' g' => hq J' o' (fun l => by rw [zTp, if_neg h21, if_pos e]; exact g' l))
        · have ok : ∀ J', qok (zHn 7 I J' R) (R 2 2) 3 (nI a) := fun J' => by rw [r2]; exact hnok (by decide) rfl (vp_in_nI (N := 21) (by omega) (by decide))
          have en : (nI a).toNatClampNeg = a := nI_clamp (by omega)
          refine z_nr e ⟨rfl, ok J, by decide, by decide, ok J, fun h25 e25 => ?_⟩
          have e25 : h25 = zHn 7 I (qu J 4 a (J 4 a * 27 + ((zch i - 97) + 1).toInt64)) R := by rw [e25]; show qsJ _ (R 2 2) _ (J (R 2 2) _ * 27 + _) = _; rw [r2, en]; rfl
          subst e25
          exact k_Tape57 r2 r (i + 1) a k _ (by omega) (by omega) (by omega) (fun J' o' g' => hq J' (fun b l q => by rw [o' b l q, qu_off (Or.inl q)]) (fun l => by
            rw [zTp, if_neg h21, if_neg e, g' l]
            congr 1
            funext j
            by_cases ej : j = a
            · rw [ej, qu_same, if_pos rfl]
            · rw [qu_off (Or.inr ej), if_neg ej]))
end
section
variable {I : zI} {J : zJ} {R : zRf}
theorem k_Tape (h3 : z3 2 I J R) (hk : zKp 2 2 R R []) {Q : qH → Prop} (hq : ∀ (I' : zI) (J' : zJ) (R' : zRf), z3 7 I' J' R' → zPo 2 7 I I' R R' → I' 2 1 = 0 → (∀ k, k < 21 → J' 4 k = lN (zKeys.getD k 0)) → Q (zHn 7 I' J' R')) : w_Tape_init 5000 2 (zHn 2 I J R) Q := by
  refine ⟨by decide, k_alloc (by decide) (by decide) h3 rfl (by decide) rfl (fun g1 => k_setI (by decide) rfl (k_alloc (by decide) (by decide) (g1.i (by decide)) rfl (by decide) rfl (fun g2 => k_alloc (by decide) (by decide) g2 rfl (by decide) rfl (fun g3 => k_alloc (by decide) (by decide) g3 rfl (by decide) rfl (fun g4 => k_alloc (by decide) (by decide) g4 rfl (by decide) rfl (fun g5 => ?_))))))⟩
  have k5 := ((((hk.al (f := 0) (v := 3) h3 (zR0_ok (by decide +kernel))).al (f := 2) (v := 4) (g1.i (a := 2) (k := 1) (v := 0) (by decide)) (zR0_ok (by decide +kernel))).al (f := 4) (v := 5) g2 (zR0_ok (by decide +kernel))).al (f := 5) (v := 6) g3 (zR0_ok (by decide +kernel))).al (f := 6) (v := 7) g4 (zR0_ok (by decide +kernel))
  refine k_Tape57 (k5.1 2) 120 0 0 5000 J (by decide) (by decide) (by decide) (fun J' o' g' => hq _ J' _ ⟨g5.1, fun a k q => ?_, g5.2.2⟩ ⟨fun a k q => qu_off (Or.inl (by omega)), k5.2.1, k5.fin (zRL_ok (by decide +kernel))⟩ qu_same (fun k hk => ?_))
  · rw [o' a k (by omega)]; exact g5.2.1 a k q
  · rw [g' k, show J 4 = fun _ => 0 from funext fun j => h3.2.1 4 j (by decide)]
    exact zTp_keys k hk
theorem k_Waits (h3 : z3 47 I J R) (hk : zKp 47 47 R R []) {Q : qH → Prop} (hq : ∀ R' : zRf, z3 48 I J R' → zPo 47 48 I I R R' → Q (zHn 48 I J R')) : w_Waits_init 5000 47 (zHn 47 I J R) Q := by
  refine ⟨by decide, k_alloc (by decide) (by decide) h3 rfl (by decide) rfl (fun g1 => ⟨by decide, by decide, hq _ g1 ⟨fun _ _ _ => rfl, ?_, ?_⟩⟩)⟩
  · exact (hk.al h3 (zR0_ok (by decide +kernel))).2.1
  · exact (hk.al h3 (zR0_ok (by decide +kernel))).fin (zRL_ok (by decide +kernel))
theorem k_Reck (h3 : z3 61 I J R) (hk : zKp 61 61 R R []) {Q : qH → Prop} (hq : ∀ R' : zRf, z3 63 I J R' → zPo 61 63 I I R R' → Q (zHn 63 I J R')) : w_Reck_init 5000 61 8 (zHn 61 I J R) Q := by
  refine ⟨by decide, k_alloc (by decide) (by decide) h3 rfl (by decide) rfl (fun g1 => k_alloc (by decide) (by decide) g1 rfl (by decide) rfl (fun g2 => k_setR (by decide) rfl ⟨by decide, by decide, hq _ (g2.r (by decide)) ⟨fun _ _ _ => rfl, ?_, ?_⟩⟩))⟩
  · exact ((hk.al h3 (zR0_ok (by decide +kernel))).al g1 (zR0_ok (by decide +kernel))).st.2.1
  · exact ((hk.al h3 (zR0_ok (by decide +kernel))).al g1 (zR0_ok (by decide +kernel))).st.fin (zRL_ok (by decide +kernel))
theorem k_Night (h3 : z3 64 I J R) (hk : zKp 64 64 R R []) {Q : qH → Prop} (hq : ∀ R' : zRf, z3 65 I J R' → zPo 64 65 I I R R' → Q (zHn 65 I J R')) : w_Night_init 5000 64 8 61 (zHn 64 I J R) Q := by
  refine ⟨by decide, k_alloc (by decide) (by decide) h3 rfl (by decide) rfl (fun g1 => k_setR (by decide) rfl (k_setR (by decide) rfl ⟨by decide, by decide, hq _ ((g1.r (by decide)).r (by decide)) ⟨fun _ _ _ => rfl, ?_, ?_⟩⟩))⟩
  · exact (hk.al h3 (zR0_ok (by decide +kernel))).st.st.2.1
  · exact (hk.al h3 (zR0_ok (by decide +kernel))).st.st.fin (zRL_ok (by decide +kernel))
theorem zR_rows {a r b : Nat} (h : (List.range 72).all (fun k => zR a k == if k < r then b + k else 0) = true) (hr : r ≤ 72) : ∀ k, zR a k = if k < r then b + k else 0 := fun k => by
  rcases Nat.lt_or_ge k 72 with z | z
  · exact beq_iff_eq.mp (List.all_eq_true.mp h k (List.mem_range.mpr z))
  · rw [zR_big a z, if_neg (by omega)]
theorem zR0_row {b r : Nat} (h : (List.range r).all (fun j => zR0 (b + j)) = true) : ∀ j k, j < r → zR (b + j) k = 0 := fun j k hj => zR0_ok (List.all_eq_true.mp h j (List.mem_range.mpr hj)) k
theorem k_Plan (h3 : z3 66 I J R) (hk : zKp 66 66 R R []) {Q : qH → Prop} (hq : ∀ R' : zRf, z3 82 I J R' → zPo 66 82 I I R R' → Q (zHn 82 I J R')) : w_Plan_init 5000 66 8 61 (zHn 66 I J R) Q := by
  refine ⟨by decide, k_rows (by decide) (by decide) h3 rfl (by decide +kernel) (by decide) rfl (fun g1 => k_alloc (by decide) (by decide) g1 rfl (by decide) rfl (fun g2 => k_rows (by decide) (by decide) g2 rfl (by decide +kernel) (by decide) rfl (fun g3 => k_setR (by decide) rfl (k_setR (by decide) rfl ⟨by decide, by decide, hq _ ((g3.r (by decide)).r (by decide)) ⟨fun _ _ _ => rfl, ?_, ?_⟩⟩))))⟩
  · exact (((hk.rows (f := 2) (v := 67) (r := 6) h3 (by decide) (zR0_row (by decide +kernel)) (zR_rows (by decide +kernel) (by decide))).al (f := 3) (v := 74) g1 (zR0_ok (by decide +kernel))).rows (f := 4) (v := 75) (r := 7) g2 (by decide) (zR0_row (by decide +kernel)) (zR_rows (by decide +kernel) (by decide))).st.st.2.1
  · exact ((((hk.rows (f := 2) (v := 67) (r := 6) h3 (by decide) (zR0_row (by decide +kernel)) (zR_rows (by decide +kernel) (by decide))).al (f := 3) (v := 74) g1 (zR0_ok (by decide +kernel))).rows (f := 4) (v := 75) (r := 7) g2 (by decide) (zR0_row (by decide +kernel)) (zR_rows (by decide +kernel) (by decide))).st (f := 0) (v := 8)).st (f := 1) (v := 61) |>.fin (zRL_ok (by decide +kernel))
theorem zStk_of {x : Nat} (h : zSt x) (h1 : zRL x [(0, 8), (6, x + 5), (5, x + 4), (4, x + 3), (3, x + 2), (2, x + 1)] = true) (h2 : (List.range 5).all (fun j => zR0 (x + 1 + j)) = true) : zStk x := ⟨h, zRL_ok h1, fun j q1 q2 k => by
  have := zR0_row h2 (j - 1) k (by omega)
  rwa [show x + 1 + (j - 1) = x + j by omega] at this⟩
def zStB (x : Nat) : Bool := zRL x [(0, 8), (6, x + 5), (5, x + 4), (4, x + 3), (3, x + 2), (2, x + 1)] && (List.range 5).all (fun j => zR0 (x + 1 + j))
theorem zStk_b {x : Nat} (h : zSt x) (hb : zStB x = true) : zStk x := by
  unfold zStB at hb
  rw [Bool.and_eq_true] at hb
  exact zStk_of h hb.1 hb.2
theorem zStk_49 : zStk 49 := zStk_b zSt_49 (by decide +kernel)
theorem zStk_55 : zStk 55 := zStk_b zSt_55 (by decide +kernel)
theorem zStk_94 : zStk 94 := zStk_b zSt_94 (by decide +kernel)
theorem zStk_past {i : Nat} (hi : i < 40) : zStk (102 + 6 * i) := zStk_b (zSt_past i hi).2 ((by decide +kernel : ∀ i, i < 40 → zStB (102 + 6 * i) = true) i hi)
theorem zStk_slot {i : Nat} (hi : i < 3) : zStk (343 + 6 * i) := zStk_b (zSt_slot i hi).2 ((by decide +kernel : ∀ i, i < 3 → zStB (343 + 6 * i) = true) i hi)
theorem k_Told (t4 : R 8 4 = 11) (t6 : R 8 6 = 13) (h3 : z3 83 I J R) (hk : zKp 83 83 R R []) {Q : qH → Prop} (hq : ∀ (I' : zI) (R' : zRf), z3 99 I' J R' → zPo 83 99 I I' R R' → I' 83 7 = 0 → Q (zHn 99 I' J R')) : w_Told_init 5000 83 8 64 (zHn 83 I J R) Q := by
  refine ⟨by decide, k_alloc (by decide) (by decide) h3 rfl (by decide) rfl (fun g1 => k_alloc (by decide) (by decide) g1 rfl (by decide) rfl (fun g2 => k_alloc (by decide) (by decide) g2 rfl (by decide) rfl (fun g3 => k_rows (by decide) (by decide) g3 rfl (by decide +kernel) (by decide) rfl (fun g4 => k_setI (by decide) rfl (k_setR (by decide) rfl (k_setR (by decide) rfl ?_))))))⟩
  have k4 := ((((hk.al (f := 3) (v := 84) h3 (zR0_ok (by decide +kernel))).al (f := 4) (v := 85) g1 (zR0_ok (by decide +kernel))).al (f := 5) (v := 86) g2 (zR0_ok (by decide +kernel))).rows (f := 6) (v := 87) (r := 6) g3 (by decide) (zR0_row (by decide +kernel)) (zR_rows (by decide +kernel) (by decide)))
  have k6 := (k4.st (f := 0) (v := 8)).st (f := 1) (v := 64)
  have g6 := ((g4.i (a := 83) (k := 7) (v := 0) (by decide)).r (a := 83) (k := 0) (v := 8) (by decide)).r (a := 83) (k := 1) (v := 64) (by decide)
  generalize eR : qu (qu (qu (zrw _ _ _) _ _ _) _ _ _) _ _ _ = R6 at *
  have k6 : zKp 93 83 R R6 [(1, 64), (0, 8), (6, 87), (5, 86), (4, 85), (3, 84)] := k6
  have g6 : z3 93 (qu I 83 7 0) J R6 := g6
  have f8 : ∀ k, R6 8 k = R 8 k := fun k => k6.2.1 8 k (by decide)
  refine k_new (n := 93) (by decide) (by decide) g6 rfl (fun g7 => ⟨by decide, by decide, by decide, k_State (by decide) zStk_94 (by rw [f8]; exact t4) (by rw [f8]; exact t6) g7 (zKp.zero g6) (fun I7 R7 g8 p8 _ => k_setR (by decide) rfl ⟨by decide, by decide, hq I7 _ (g8.r (by decide)) ⟨fun a k q => ?_, ?_, ?_⟩ ?_⟩)⟩)
  · rw [p8.1 a k (by omega), qu_off (Or.inl (by omega))]
  · exact ((k6.sub (m := 99) (by decide) p8.2.1 p8.2.2).st (f := 2) (v := 94)).2.1
  · exact ((k6.sub (m := 99) (by decide) p8.2.1 p8.2.2).st (f := 2) (v := 94)).fin (zRL_ok (by decide +kernel))
  · rw [p8.1 83 7 (by decide), qu_same]
end
