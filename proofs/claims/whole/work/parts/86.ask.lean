/-! ask -/
def zct (S : Nat × Nat → Nat → Int32) (p v : Nat) : List (Nat × Nat) → Nat
  | [] => 0
  | q :: L => (if S q p = nI v then 1 else 0) + zct S p v L
theorem zct_le (S : Nat × Nat → Nat → Int32) (p v : Nat) : ∀ L, zct S p v L ≤ L.length
  | [] => Nat.le_refl _
  | q :: L => by
    rw [zct]
    have := zct_le S p v L
    show _ ≤ L.length + 1
    by_cases h : S q p = nI v
    · rw [if_pos h]; omega
    · rw [if_neg h]; omega
theorem zct_0 {S : Nat × Nat → Nat → Int32} {p v : Nat} : ∀ {L : List (Nat × Nat)}, (∀ q ∈ L, ¬ S q p = nI v) → zct S p v L = 0
  | [], _ => rfl
  | q :: L, h => by
    rw [zct, if_neg (h q (List.mem_cons_self ..)), zct_0 (fun q' hq' => h q' (List.mem_cons_of_mem _ hq'))]
def zmxw (g : Nat → Nat) : Nat → Nat → Nat → Nat
  | 0, _, m => m
  | r + 1, i, m => zmxw g r (i + 1) (if m < g i then g i else m)
theorem zmxw_app (g : Nat → Nat) : ∀ r q i m, zmxw g (r + q) i m = zmxw g q (i + r) (zmxw g r i m)
  | 0, q, i, m => by rw [Nat.zero_add, Nat.add_zero, zmxw]
  | r + 1, q, i, m => by
    rw [Nat.add_right_comm, zmxw, zmxw, zmxw_app g r q, Nat.add_right_comm, Nat.add_assoc]
theorem zmxw_z {g : Nat → Nat} : ∀ r i m, (∀ j, i ≤ j → j < i + r → g j = 0) → zmxw g r i m = m
  | 0, _, _, _ => rfl
  | r + 1, i, m, h => by
    rw [zmxw, if_neg (by rw [h i (Nat.le_refl _) (by omega)]; omega)]
    exact zmxw_z r (i + 1) m (fun j h1 h2 => h j (by omega) (by omega))
theorem zmxw_le {g : Nat → Nat} {B : Nat} : ∀ r i m, m ≤ B → (∀ j, g j ≤ B) → zmxw g r i m ≤ B
  | 0, _, _, h, _ => h
  | r + 1, i, m, h, hg => by
    rw [zmxw]
    refine zmxw_le r (i + 1) _ ?_ hg
    by_cases h' : m < g i
    · rw [if_pos h']; exact hg i
    · rw [if_neg h']; exact h
def zag (w : Nat → Nat) : Nat → Nat → Option Nat → Option Nat
  | 0, _, b => b
  | r + 1, i, b => zag w r (i + 1) (b.elim (some i) fun j => if w j ≤ w i then some j else some i)
def zfl : List (Nat × Nat) → Int32
  | [] => 0
  | _ :: _ => 1
abbrev frA (I I' : zI) : Prop := ∀ b j, ¬ (88 ≤ b ∧ b ≤ 99) → I' b j = I b j
theorem zK.fA {I I' : zI} {J : zJ} (e : frA I I') : zK I I' J J := zK.of (fun b j q => by
  have := zE_out q
  exact e b j (by omega))
theorem s_clear10 {J : zJ} {p : Nat} (hp : p < 6) {Q : zI → zJ → Prop} {K : Int32 → zI → zJ → Prop} : ∀ r i k (I : zI), i + r = 6 → r < k → (∀ I' : zI, (∀ b j, b ≠ 88 + p → I' b j = I b j) → (∀ v, v < i → I' (88 + p) v = I (88 + p) v) → (∀ v, i ≤ v → v < 6 → I' (88 + p) v = 0) → K (nI p) I' J) → v_Told_clearTally_10 5000 k (nI p) (nI i) I J Q K
  | _, _, 0, _, _, hk, _ => absurd hk (Nat.not_lt_zero _)
  | 0, i, k + 1, I, hi, hk, hq => z_y (nI_le (a := 6) (by omega) (by omega)) (hq I (fun _ _ _ => rfl) (fun _ _ => rfl) (fun v h1 h2 => absurd h1 (by omega)))
  | r + 1, i, k + 1, I, hi, hk, hq => by
    rw [v_Told_clearTally_10]; dsimp only; rw [nI_clamp (by omega), nI_clamp (by omega), nI_1]
    refine z_n (nI_ge (b := 6) (by omega) (by decide)) ⟨vp_in_nI (by omega) (by decide), vp_in_nI (by omega) (by decide), fun I5 e5 => ?_⟩
    refine s_clear10 hp r (i + 1) k I5 (by omega) (by omega) (fun I' o' g' f' => hq I' (fun b j q => by rw [o' b j q, e5, qu_off (Or.inl q)]) (fun v hv => by rw [g' v (by omega), e5, qu_off (Or.inr (by omega))]) (fun v h1 h2 => ?_))
    by_cases hv : v = i
    · subst hv; rw [g' v (by omega), e5, qu_same]
    · exact f' v (by omega) h2
theorem s_clear2 {J : zJ} {Q : zI → zJ → Prop} : ∀ r i k (I : zI), i + r = 6 → r < k → (∀ p v, p < i → v < 6 → I (88 + p) v = 0) → (∀ I' : zI, (∀ b j, ¬ (88 ≤ b ∧ b ≤ 93) → I' b j = I b j) → (∀ p v, p < 6 → v < 6 → I' (88 + p) v = 0) → Q I' J) → v_Told_clearTally_2 5000 k (nI i) I J Q
  | _, _, 0, _, _, hk, _, _ => absurd hk (Nat.not_lt_zero _)
  | 0, i, k + 1, I, hi, hk, h0, hq => z_y (nI_le (a := 6) (by omega) (by omega)) (hq I (fun _ _ _ => rfl) (fun p v hp hv => h0 p v (by omega) hv))
  | r + 1, i, k + 1, I, hi, hk, h0, hq => by
    rw [v_Told_clearTally_2]
    refine z_n (nI_ge (b := 6) (by omega) (by decide)) (s_clear10 (by omega) 6 0 5000 I (by omega) (by omega) (fun I1 o1 _ f1 => ?_))
    rw [nI_1]
    refine s_clear2 r (i + 1) k I1 (by omega) (by omega) (fun p v hp hv => ?_) (fun I' o' f' => hq I' (fun b j q => by rw [o' b j q, o1 b j (by omega)]) f')
    by_cases h : p = i
    · subst h; exact f1 v (Nat.zero_le _) hv
    · rw [o1 _ _ (by omega)]; exact h0 p v (by omega) hv
theorem s_clear {I : zI} {J : zJ} {Q : zI → zJ → Prop} (hq : ∀ I' : zI, (∀ b j, ¬ (88 ≤ b ∧ b ≤ 93) → I' b j = I b j) → (∀ p v, p < 6 → v < 6 → I' (88 + p) v = 0) → Q I' J) : v_Told_clearTally 5000 I J Q := s_clear2 6 0 5000 I (by omega) (by omega) (fun p v hp => absurd hp (Nat.not_lt_zero _)) hq
theorem s_addTo {J : zJ} {n : Nat} {S : Nat → Int32} (hn : n ≤ 6) (hS : ∀ p, p < n → zin (S p) n) {Q : zI → zJ → Prop} : ∀ r i k (I : zI), I 8 3 = nI n → (∀ p, p < n → I 97 p = S p) → i + r = n → r < k → (∀ I' : zI, (∀ b j, ¬ (88 ≤ b ∧ b ≤ 93) → I' b j = I b j) → (∀ p v, p < i → I' (88 + p) v = I (88 + p) v) → (∀ p v, i ≤ p → p < n → v < 6 → I' (88 + p) v = if S p = nI v then I (88 + p) v + 1 else I (88 + p) v) → Q I' J) → v_Told_addToTally_2 5000 k (nI i) I J Q
  | _, _, 0, _, _, _, _, hk, _ => absurd hk (Nat.not_lt_zero _)
  | 0, i, k + 1, I, h8, h97, hi, hk, hq => by
    rw [v_Told_addToTally_2]; dsimp only; rw [h8]
    exact z_y (nI_le (by omega) (by omega)) (hq I (fun _ _ _ => rfl) (fun _ _ _ => rfl) (fun p v h1 h2 => absurd h1 (by omega)))
  | r + 1, i, k + 1, I, h8, h97, hi, hk, hq => by
    obtain ⟨w, hw, ew⟩ := hS i (by omega)
    rw [v_Told_addToTally_2]; dsimp only; rw [h8, nI_clamp (by omega), h97 i (by omega), ew, nI_clamp (by omega), nI_1]
    refine z_n (nI_ge (by omega) (by omega)) ⟨vp_in_nI (by omega) (by decide), vp_in_nI (by omega) (by decide), vp_in_nI (by omega) (by decide), fun I6 e6 => ?_⟩
    have o6 : ∀ b j, ¬ (b = 88 + i ∧ j = w) → I6 b j = I b j := fun b j q => by rw [e6, qu_off (by omega)]
    refine s_addTo hn hS r (i + 1) k I6 (by rw [o6 _ _ (by omega)]; exact h8) (fun p hp => by rw [o6 _ _ (by omega)]; exact h97 p hp) (by omega) (by omega) (fun I' o' g' f' => hq I' (fun b j q => by rw [o' b j q, o6 b j (by omega)]) (fun p v hp => by rw [g' p v (by omega), o6 _ _ (by omega)]) (fun p v h1 h2 h3 => ?_))
    by_cases h : p = i
    · subst h
      rw [g' p v (by omega), ew]
      by_cases hv : v = w
      · subst hv
        rw [e6, qu_same, if_pos rfl]
      · rw [o6 _ _ (by omega), if_neg (fun z => hv ((nI_eq (by omega) (by omega)).mp z).symm)]
    · rw [f' p v (by omega) h2 h3, o6 _ _ (by omega)]
section
variable {t : zX} {live kk td : Nat} {s : zT} {who slf so : Nat → Int32}
abbrev zSq (t : zX) (s : zT) (q : Nat × Nat) : Nat → Int32 := zSn t (zswap s q.1 q.2)
def zTa (I : zI) (t : zX) (s : zT) (L : List (Nat × Nat)) : Prop := ∀ p v, p < xP t → v < 6 → I (88 + p) v = nI (zct (zSq t s) p v L)
theorem s_whom27 {J : zJ} {p : Nat} (hkk : kk ≤ td) (hp : p < xP t) {Q : Int32 → zI → zJ → Prop} {K : Int32 → Int32 → Int32 → zI → zJ → Prop} : ∀ r i k (L : List (Nat × Nat)) (I : zI), zQ I t live s → zTd I who slf so td (xP t) → zTa I t s L → i + r = xP t → r < k → (∀ I' : zI, frA I I' → zTa I' t s (zF2 (zpr t s who slf so kk) p r i L) → K (nI kk) (zfl (zF2 (zpr t s who slf so kk) p r i L)) (nI p) I' J) → v_Told_whomToAsk_27 5000 k 49 (nI kk) (zfl L) (nI p) (nI i) I J Q K
  | _, _, 0, _, _, _, _, _, _, hk, _ => absurd hk (Nat.not_lt_zero _)
  | 0, i, k + 1, L, I, hQ, hT, hA, hi, hk, hq => by
    have hP := hQ.1.1.2.1
    rw [v_Told_whomToAsk_27]; dsimp only; rw [hQ.1.2.1.2.1]
    exact z_y (nI_le (by omega) (by omega)) (hq I (fun _ _ _ => rfl) hA)
  | r + 1, i, k + 1, L, I, hQ, hT, hA, hi, hk, hq => by
    have hP := hQ.1.1.2.1
    rw [v_Told_whomToAsk_27]; dsimp only; rw [hQ.1.2.1.2.1]
    rw [zF2] at hq
    refine z_n (nI_ge (by omega) (by omega)) (s_canBe hQ hT hkk hp (by omega) (fun e I3 o3 => z_y z_00 ?_) (fun e I3 o3 f3 => z_n z_10 ?_))
    · rw [if_neg (by rw [e]; decide)] at hq
      rw [nI_1]
      exact s_whom27 hkk hp r (i + 1) k L I3 (hQ.kept (J := J) (J' := J) (zK.t2 o3)) (hT.kept (J := J) (J' := J) (zK.t2 o3)) (fun p v h1 h2 => by rw [o3 _ _ (by omega)]; exact hA p v h1 h2) (by omega) (by omega) (fun I' o' => hq I' (fun b j q => by rw [o' b j q, o3 b j (by omega)]))
    · rw [if_pos e] at hq
      have hQ3 := hQ.kept (J := J) (J' := J) (zK.t2 o3)
      have hT3 := hT.kept (J := J) (J' := J) (zK.t2 o3)
      refine s_addTo (n := xP t) (S := zSn t (zswap s p i)) hP (zSn_wf hQ.1.1 (hQ.1.2.2.1.swap hp (by omega))).1 (xP t) 0 5000 I3 hQ3.1.2.1.2.1 f3 (by omega) (by omega) (fun I5 o5 _ f5 => ?_)
      have k5 : zK I3 I5 J J := zK.fA (fun b j q => o5 b j (by omega))
      rw [nI_1]
      refine s_whom27 hkk hp r (i + 1) k ((p, i) :: L) I5 (hQ3.kept k5) (hT3.kept k5) (fun p' v h1 h2 => ?_) (by omega) (by omega) (fun I' o' => hq I' (fun b j q => by rw [o' b j q, o5 b j (by omega), o3 b j (by omega)]))
      rw [f5 p' v (Nat.zero_le _) h1 h2, o3 _ _ (by omega), hA p' v h1 h2, zct]
      by_cases h : zSn t (zswap s p i) p' = nI v
      · rw [if_pos h, if_pos h, nI_1, Nat.add_comm]
      · rw [if_neg h, if_neg h, Nat.zero_add]
def zwst (t : zX) (s : zT) (L : List (Nat × Nat)) (p : Nat) : Nat := zmxw (fun v => zct (zSq t s) p v L) (xP t) 0 0
theorem s_least24 {I : zI} {J : zJ} {L : List (Nat × Nat)} {p : Nat} {x1 x2 : Int32} (hQ : zQ I t live s) (hA : zTa I t s L) (hL : L.length ≤ 36) (hp : p < xP t) {Q : Int32 → zI → zJ → Prop} {K : Int32 → Int32 → Int32 → Int32 → zI → zJ → Prop} : ∀ r i k m, m ≤ 36 → i + r = xP t → r < k → K x1 x2 (nI p) (nI (zmxw (fun v => zct (zSq t s) p v L) r i m)) I J → v_Told_leastAtWorst_24 5000 k x1 x2 (nI p) (nI m) (nI i) I J Q K
  | _, _, 0, _, _, _, hk, _ => absurd hk (Nat.not_lt_zero _)
  | 0, i, k + 1, m, hm, hi, hk, hq => by
    have hP := hQ.1.1.2.1
    rw [v_Told_leastAtWorst_24]; dsimp only; rw [hQ.1.2.1.2.1]
    exact z_y (nI_le (by omega) (by omega)) hq
  | r + 1, i, k + 1, m, hm, hi, hk, hq => by
    have hP := hQ.1.1.2.1
    have hc := zct_le (zSq t s) p i L
    rw [v_Told_leastAtWorst_24]; dsimp only; rw [hQ.1.2.1.2.1, nI_clamp (by omega), nI_clamp (by omega), hA p i hp (by omega), nI_1]
    rw [zmxw] at hq
    refine z_n (nI_ge (by omega) (by omega)) ⟨vp_in_nI (by omega) (by decide), vp_in_nI (by omega) (by decide), fun y ey => ?_⟩
    by_cases h : m < zct (zSq t s) p i L
    · rw [if_pos h] at hq
      rw [if_pos (nI_lt h (by omega))] at ey
      rw [ey]
      exact s_least24 hQ hA hL hp r (i + 1) k _ (by omega) (by omega) (by omega) hq
    · rw [if_neg h] at hq
      rw [if_neg (nI_nlt (by omega) (by omega))] at ey
      rw [ey]
      exact s_least24 hQ hA hL hp r (i + 1) k _ (by omega) (by omega) (by omega) hq
theorem zwst_le {L : List (Nat × Nat)} (hL : L.length ≤ 36) (p : Nat) : zwst t s L p ≤ 36 := zmxw_le _ _ _ (Nat.zero_le _) (fun j => Nat.le_trans (zct_le _ _ _ _) hL)
theorem s_least7 {I : zI} {J : zJ} {L : List (Nat × Nat)} (hQ : zQ I t live s) (hA : zTa I t s L) (hL : L.length ≤ 36) {Q : Int32 → zI → zJ → Prop} : ∀ r i k (b : Option Nat) (x : Int32), (∀ j, b = some j → j < i ∧ x = nI (zwst t s L j)) → i + r = xP t → r < k → Q (zol (zag (zwst t s L) r i b)) I J → v_Told_leastAtWorst_7 5000 k (zol b) x (nI i) I J Q
  | _, _, 0, _, _, _, _, hk, _ => absurd hk (Nat.not_lt_zero _)
  | 0, i, k + 1, b, x, hb, hi, hk, hq => by
    have hP := hQ.1.1.2.1
    rw [v_Told_leastAtWorst_7]; dsimp only; rw [hQ.1.2.1.2.1]
    exact z_y (nI_le (by omega) (by omega)) hq
  | r + 1, i, k + 1, b, x, hb, hi, hk, hq => by
    have hP := hQ.1.1.2.1
    rw [v_Told_leastAtWorst_7]; dsimp only; rw [hQ.1.2.1.2.1]
    rw [zag] at hq
    refine z_n (nI_ge (by omega) (by omega)) (s_least24 hQ hA hL (by omega) (xP t) 0 5000 0 (by omega) (by omega) (by omega) ?_)
    have hi36 := zwst_le (t := t) (s := s) hL i
    rw [nI_1, show zmxw (fun v => zct (zSq t s) i v L) (xP t) 0 0 = zwst t s L i from rfl]
    cases b with
    | none => exact z_y rfl (s_least7 hQ hA hL r (i + 1) k (some i) _ (fun j e => by cases e; exact ⟨Nat.lt_succ_self _, rfl⟩) (by omega) (by omega) hq)
    | some j =>
      obtain ⟨hj, ex⟩ := hb j rfl
      have hj36 := zwst_le (t := t) (s := s) hL j
      refine z_n (z_ne2 (n := j) (by omega)) ?_
      rw [ex]
      by_cases h : zwst t s L j ≤ zwst t s L i
      · have hq : Q (zol (zag (zwst t s L) r (i + 1) (some j))) I J := by
          have := hq
          simp only [Option.elim, h, if_true] at this
          exact this
        exact z_y (nI_le h (by omega)) (s_least7 hQ hA hL r (i + 1) k (some j) _ (fun j' e => by cases e; exact ⟨by omega, rfl⟩) (by omega) (by omega) hq)
      · have hq : Q (zol (zag (zwst t s L) r (i + 1) (some i))) I J := by
          have := hq
          simp only [Option.elim, h, if_false] at this
          exact this
        exact z_n (nI_ge (by omega) (by omega)) (s_least7 hQ hA hL r (i + 1) k (some i) _ (fun j' e => by cases e; exact ⟨Nat.lt_succ_self _, rfl⟩) (by omega) (by omega) hq)
def zask (t : zX) (s : zT) (L : List (Nat × Nat)) : Int32 := if L = [] then -2 else zol (zag (zwst t s L) (xP t) 0 none)
theorem s_whom9 {J : zJ} (hkk : kk ≤ td) {Q : Int32 → zI → zJ → Prop} : ∀ r i k (L : List (Nat × Nat)) (I : zI), zQ I t live s → zTd I who slf so td (xP t) → zTa I t s L → i + r = xP t → r < k → (zF1 (zpr t s who slf so kk) r i L).length ≤ 36 → (∀ I' : zI, frA I I' → Q (zask t s (zF1 (zpr t s who slf so kk) r i L)) I' J) → v_Told_whomToAsk_9 5000 k 49 (nI kk) (zfl L) (nI i) I J Q
  | _, _, 0, _, _, _, _, _, _, hk, _, _ => absurd hk (Nat.not_lt_zero _)
  | 0, i, k + 1, L, I, hQ, hT, hA, hi, hk, hl, hq => by
    have hP := hQ.1.1.2.1
    rw [v_Told_whomToAsk_9]; dsimp only; rw [hQ.1.2.1.2.1]
    have hq := hq I (fun _ _ _ => rfl)
    rw [zF1] at hq hl
    unfold zask at hq
    refine z_y (nI_le (by omega) (by omega)) ?_
    cases L with
    | nil =>
      rw [if_pos rfl] at hq
      exact z_y rfl hq
    | cons q L =>
      rw [if_neg (by intro z; cases z)] at hq
      exact z_n z_10 (s_least7 hQ hA hl (xP t) 0 5000 none 0 (fun j e => by cases e) (by omega) (by omega) hq)
  | r + 1, i, k + 1, L, I, hQ, hT, hA, hi, hk, hl, hq => by
    have hP := hQ.1.1.2.1
    rw [v_Told_whomToAsk_9]; dsimp only; rw [hQ.1.2.1.2.1]
    rw [zF1] at hq hl
    refine z_n (nI_ge (by omega) (by omega)) (fun y ey => ?_)
    rw [nI_1] at ey
    rw [ey]
    refine s_whom27 (live := live) hkk (by omega) r (i + 1) 5000 L I hQ hT hA (by omega) (by omega) (fun I1 o1 hA1 => ?_)
    rw [nI_1]
    exact s_whom9 hkk r (i + 1) k _ I1 (hQ.kept (J := J) (J' := J) (zK.fA o1)) (hT.kept (J := J) (J' := J) (zK.fA o1)) hA1 (by omega) (by omega) hl (fun I' o' => hq I' (fun b j q => by rw [o' b j q, o1 b j q]))
/-- the reference -/
theorem s_M_worst16 {I : zI} {J : zJ} {a v : Nat} {x2 : Int32} (hP : xP t ≤ 6) (hM : zPM I t s who slf so kk 36) (ha : a < xP t) {Q : Int32 → zI → zJ → Prop} {K : Int32 → Int32 → Int32 → Int32 → zI → zJ → Prop} : ∀ r P k (L : List (Nat × Nat)), P + r = 36 → r < k → K (nI a) x2 (nI v) (nI (zct (zSq t s) a v (zFM (zpr t s who slf so kk) (xP t) r P L))) I J → v_M_worstOf_16 5000 k (nI a) x2 (nI v) (nI (zct (zSq t s) a v L)) (nI P) I J Q K
  | _, _, 0, _, _, hk, _ => absurd hk (Nat.not_lt_zero _)
  | 0, P, k + 1, L, hi, hk, hq => z_y (nI_le (a := 36) (by omega) (by omega)) hq
  | r + 1, P, k + 1, L, hi, hk, hq => by
    obtain ⟨h6, h7⟩ := hM P (by omega)
    rw [v_M_worstOf_16]; dsimp only; rw [nI_clamp (by omega), h6, z_m6, nI_clamp (n := 6 * P + a) (by omega), nI_1, nI_1]
    rw [zFM_s] at hq
    refine z_n (nI_ge (b := 36) (by omega) (by decide)) ⟨vp_in_nI (by omega) (by decide), ?_⟩
    cases hb : zpM (zpr t s who slf so kk) (xP t) P with
    | false =>
      rw [hb, if_neg (by decide)] at hq
      exact z_y rfl (s_M_worst16 hP hM ha r (P + 1) k L (by omega) (by omega) hq)
    | true =>
      rw [hb, if_pos rfl] at hq
      refine z_n z_10 ⟨vp_in_nI (by omega) (by decide), ?_⟩
      rw [h7 hb a ha]
      have ec : zct (zSq t s) a v ((P / 6, P % 6) :: L) = (if zSn t (zswap s (P / 6) (P % 6)) a = nI v then 1 else 0) + zct (zSq t s) a v L := rfl
      have go := s_M_worst16 (x2 := x2) (v := v) (Q := Q) hP hM ha r (P + 1) k ((P / 6, P % 6) :: L) (by omega) (by omega) hq
      rw [ec] at go
      refine ⟨fun q => ?_, fun q => ?_⟩
      · rw [if_neg q, Nat.zero_add] at go; exact go
      · rw [if_pos q, Nat.add_comm] at go; exact go
theorem s_M_worst4 {I : zI} {J : zJ} {a : Nat} (hP : xP t ≤ 6) (hM : zPM I t s who slf so kk 36) (ha : a < xP t) {Q : Int32 → zI → zJ → Prop} : ∀ r v k m, m ≤ 36 → v + r = 6 → r < k → Q (nI (zmxw (fun v => zct (zSq t s) a v (zFM (zpr t s who slf so kk) (xP t) 36 0 [])) r v m)) I J → v_M_worstOf_4 5000 k (nI a) (nI m) (nI v) I J Q
  | _, _, 0, _, _, _, hk, _ => absurd hk (Nat.not_lt_zero _)
  | 0, v, k + 1, m, hm, hi, hk, hq => z_y (nI_le (a := 6) (by omega) (by omega)) hq
  | r + 1, v, k + 1, m, hm, hi, hk, hq => by
    obtain ⟨X, eX, hX⟩ := zFM_app (zpr t s who slf so kk) (xP t) 36 0 []
    have hlen : (zFM (zpr t s who slf so kk) (xP t) 36 0 []).length ≤ 36 := by rw [eX, List.append_nil]; exact hX
    have hc := zct_le (zSq t s) a v (zFM (zpr t s who slf so kk) (xP t) 36 0 [])
    rw [v_M_worstOf_4]
    rw [zmxw] at hq
    refine z_n (nI_ge (b := 6) (by omega) (by decide)) (s_M_worst16 (who := who) (slf := slf) (so := so) (kk := kk) (s := s) hP hM ha 36 0 5000 [] (by omega) (by omega) ?_)
    rw [nI_1]
    by_cases h : m < zct (zSq t s) a v (zFM (zpr t s who slf so kk) (xP t) 36 0 [])
    · rw [if_pos h] at hq
      exact z_n (nI_ge h (by omega)) (s_M_worst4 hP hM ha r (v + 1) k _ (by omega) (by omega) (by omega) hq)
    · rw [if_neg h] at hq
      exact z_y (nI_le (by omega) (by omega)) (s_M_worst4 hP hM ha r (v + 1) k _ (by omega) (by omega) (by omega) hq)
theorem zFM_mem (pr : Nat → Nat → Bool) (n : Nat) : ∀ r P L, ∀ q ∈ zFM pr n r P L, q ∈ L ∨ (q.1 < n ∧ q.2 < n)
  | 0, _, L, q, h => Or.inl h
  | r + 1, P, L, q, h => by
    rw [zFM_s] at h
    rcases zFM_mem pr n r (P + 1) _ q h with z | z
    · by_cases hb : zpM pr n P = true
      · rw [if_pos hb] at z
        rcases List.mem_cons.mp z with e | e
        · refine Or.inr ?_
          unfold zpM at hb
          by_cases h1 : P / 6 < P % 6
          · rw [if_pos h1] at hb
            by_cases h2 : P % 6 < n
            · rw [e]; exact ⟨Nat.lt_trans h1 h2, h2⟩
            · rw [if_neg h2] at hb; cases hb
          · rw [if_neg h1] at hb; cases hb
        · exact Or.inl e
      · rw [if_neg hb] at z; exact Or.inl z
    · exact Or.inr z
theorem zwst_6 (hx : zX_ok t) (hw : zW (xH t) (xP t) s) {L : List (Nat × Nat)} (hL : ∀ q ∈ L, q.1 < xP t ∧ q.2 < xP t) {a : Nat} (ha : a < xP t) : zmxw (fun v => zct (zSq t s) a v L) 6 0 0 = zwst t s L a := by
  have hP := hx.2.1
  unfold zwst
  rw [show 6 = xP t + (6 - xP t) by omega, zmxw_app, Nat.zero_add]
  exact zmxw_z _ _ _ (fun j h1 h2 => zct_0 (fun q hq e => by
    obtain ⟨g1, g2⟩ := hL q hq
    obtain ⟨w, hw', ew⟩ := (zSn_wf hx (hw.swap g1 g2)).1 a ha
    have := (nI_eq (by omega) (by omega)).mp (ew.symm.trans e)
    omega))
theorem s_M_ask26 {I : zI} {J : zJ} {L : List (Nat × Nat)} (hX : zX_ok t) (hTm : mT I t live) (hw : zW (xH t) (xP t) s) (hM : zPM I t s who slf so kk 36) (eL : L = zFM (zpr t s who slf so kk) (xP t) 36 0 []) (hne : ¬ L = []) (hlen : L.length ≤ 36) {Q : Int32 → zI → zJ → Prop} : ∀ r i k (b : Option Nat), (∀ j, b = some j → j < i) → i + r = xP t → r < k → Q (zol (zag (zwst t s L) r i b)) I J → v_M_ask_26 5000 k (nI L.length) (zol b) (nI i) I J Q
  | _, _, 0, _, _, _, hk, _ => absurd hk (Nat.not_lt_zero _)
  | 0, i, k + 1, b, hb, hi, hk, hq => by
    have hP := hX.2.1
    have hl := hTm.1
    rw [v_M_ask_26]; dsimp only; rw [hTm.2.1, nI_clamp (by omega), hTm.2.2.2.1]
    exact ⟨vp_in_nI hl (by decide), z_y (nI_le (by omega) (by omega)) hq⟩
  | r + 1, i, k + 1, b, hb, hi, hk, hq => by
    have hP := hX.2.1
    have hl := hTm.1
    have hpos : 0 < L.length := List.length_pos_iff.mpr hne
    have hmem : ∀ q ∈ L, q.1 < xP t ∧ q.2 < xP t := fun q hq => by
      rw [eL] at hq
      exact (zFM_mem _ _ _ _ _ q hq).resolve_left (fun z => by cases z)
    rw [v_M_ask_26]; dsimp only; rw [hTm.2.1, nI_clamp (by omega), hTm.2.2.2.1]
    rw [zag] at hq
    refine ⟨vp_in_nI hl (by decide), z_n (nI_ge (by omega) (by omega)) (z_n (nI_nle hpos (by omega)) ?_)⟩
    rw [nI_1]
    cases b with
    | none => exact z_y z_neg2 (s_M_ask26 hX hTm hw hM eL hne hlen r (i + 1) k (some i) (fun j e => by cases e; exact Nat.lt_succ_self _) (by omega) (by omega) hq)
    | some j =>
      have hj := hb j rfl
      have worst : ∀ (a : Nat) (Q' : Int32 → zI → zJ → Prop), a < xP t → Q' (nI (zwst t s L a)) I J → v_M_worstOf 5000 (nI a) I J Q' := fun a Q' ha hq' => by
        refine s_M_worst4 (who := who) (slf := slf) (so := so) (kk := kk) (s := s) hP hM ha 6 0 5000 0 (by omega) (by omega) (by omega) ?_
        rw [← eL, zwst_6 hX hw hmem ha]
        exact hq'
      have hi36 := zwst_le (t := t) (s := s) hlen i
      have hj36 := zwst_le (t := t) (s := s) hlen j
      refine z_n (nI_pos (n := j) (by omega)) (worst i _ (by omega) (worst j _ (by omega) ?_))
      by_cases h : zwst t s L j ≤ zwst t s L i
      · have hq : Q (zol (zag (zwst t s L) r (i + 1) (some j))) I J := by
          have := hq
          simp only [Option.elim, h, if_true] at this
          exact this
        exact z_y (nI_le h (by omega)) (s_M_ask26 hX hTm hw hM eL hne hlen r (i + 1) k (some j) (fun j' e => by cases e; omega) (by omega) (by omega) hq)
      · have hq : Q (zol (zag (zwst t s L) r (i + 1) (some i))) I J := by
          have := hq
          simp only [Option.elim, h, if_false] at this
          exact this
        exact z_n (nI_ge (by omega) (by omega)) (s_M_ask26 hX hTm hw hM eL hne hlen r (i + 1) k (some i) (fun j' e => by cases e; omega) (by omega) (by omega) hq)
end
theorem zok_ask : zOK_ask Rel := fun a0 => zok_q (vX := v_X_ask 5000 a0) (vM := v_M_ask 5000 a0) (fun I J hR t live s hQ => by
  have hP := hQ.1.1.2.1
  obtain ⟨who, slf, so, td, hT⟩ := hR.td hQ
  have h20 := hT.2.2.1
  by_cases hz : zin a0 (td + 1)
  · obtain ⟨kk, hkk, rfl⟩ := hz
    have hkk : kk ≤ td := by omega
    obtain ⟨X, eX, hX⟩ := zFM_app (zpr t s who slf so kk) (xP t) 36 0 []
    have hlen : (zFM (zpr t s who slf so kk) (xP t) 36 0 []).length ≤ 36 := by rw [eX, List.append_nil]; exact hX
    refine ⟨zask t s (zFM (zpr t s who slf so kk) (xP t) 36 0 []), fun Q hq => z_kn1 hT.1 h20 hkk (z_n z_10 (s_clear (fun I1 o1 f1 => ?_))), fun I1 Q k1 hQ1 hq => ?_⟩
    · have k1 : zK I I1 J J := zK.fA (fun b j q => o1 b j (by omega))
      rw [zF_eq _ hP] at hq hlen
      exact s_whom9 hkk (xP t) 0 5000 [] I1 (hQ.kept k1) (hT.kept k1) (fun p v hp hv => f1 p v (by omega) hv) (by omega) (by omega) hlen (fun I' o' => hq I' (k1.trans (zK.fA o')))
    · unfold v_M_ask
      rw [(hT.kept k1).2.1]
      refine z_in1 (n := td + 1) (nI_pred td) (by omega) (by omega) (z_nr z_10 (s_M_fp4 hkk 36 0 5000 [] I1 hQ1 (hT.kept k1) (zPM_0 I1) (by omega) (by omega) (fun I6 k6 h6 => ?_)))
      have hQ6 := hQ1.kept k6
      have hl := hQ6.2.1.1
      have hq := hq I6 k6
      unfold zask at hq
      by_cases hne : zFM (zpr t s who slf so kk) (xP t) 36 0 [] = []
      · rw [if_pos hne] at hq
        rw [hne]
        rw [v_M_ask_26]; dsimp only; rw [hQ6.2.1.2.1, nI_clamp (by omega), hQ6.2.1.2.2.2.1]
        exact ⟨vp_in_nI hl (by decide), fun _ => hq, fun _ => z_y (by decide) hq⟩
      · rw [if_neg hne] at hq
        exact s_M_ask26 (live := live) hQ.1.1 hQ6.2.1 hQ.1.2.2.1 h6 rfl hne hlen (xP t) 0 5000 none (fun j e => by cases e) (by omega) (by omega) hq
  · refine ⟨-1, fun Q hq => z_kn0 hT.1 h20 hz (z_y z_00 (hq I zK.rfl)), fun I1 Q k1 hQ1 hq => ?_⟩
    unfold v_M_ask
    rw [(hT.kept k1).2.1]
    exact z_in0 (n := td + 1) (nI_pred td) (by omega) hz (z_yr z_00 (hq I1 zK.rfl)))
