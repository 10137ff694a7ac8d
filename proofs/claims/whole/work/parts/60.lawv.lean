/-! THE LAW OUT OF ONE STATEMENT A CALL: written by wip/whole/lawv.py. Rel is the relation between the class' cells and the reference's that every call keeps; zOK_m Rel: m answers alike on both, and keeps Rel -/
def zOK_feed (Rel : zI → zJ → Prop) : Prop := ∀ (a0 : Int32) (a1 : Int32) (a2 : Int32) (a3 : Int32) (a4 : Int32) (I : zI) (J : zJ) (K : zI → zJ → Prop), Rel I J → (∀ I J, Rel I J → K I J) → v_X_feed 5000 a0 a1 a2 a3 a4 I J (fun r I1 J1 => v_M_feed 5000 a0 a1 a2 a3 a4 I1 J1 (fun r2 I2 J2 => r = r2 ∧ K I2 J2))
def zOK_back (Rel : zI → zJ → Prop) : Prop := ∀ (a0 : Int32) (I : zI) (J : zJ) (K : zI → zJ → Prop), Rel I J → (∀ I J, Rel I J → K I J) → v_X_back 5000 a0 I J (fun r I1 J1 => v_M_back 5000 a0 I1 J1 (fun r2 I2 J2 => r = r2 ∧ K I2 J2))
def zOK_read (Rel : zI → zJ → Prop) : Prop := ∀  (I : zI) (J : zJ) (K : zI → zJ → Prop), Rel I J → (∀ I J, Rel I J → K I J) → v_X_read 5000  I J (fun r I1 J1 => v_M_read 5000  I1 J1 (fun r2 I2 J2 => r = r2 ∧ K I2 J2))
def zOK_place (Rel : zI → zJ → Prop) : Prop := ∀  (I : zI) (J : zJ) (K : zI → zJ → Prop), Rel I J → (∀ I J, Rel I J → K I J) → v_X_place 5000  I J (fun r I1 J1 => v_M_place 5000  I1 J1 (fun r2 I2 J2 => r = r2 ∧ K I2 J2))
def zOK_hanger (Rel : zI → zJ → Prop) : Prop := ∀ (a0 : Int32) (a1 : Int32) (I : zI) (J : zJ) (K : zI → zJ → Prop), Rel I J → (∀ I J, Rel I J → K I J) → v_X_hanger 5000 a0 a1 I J (fun r I1 J1 => v_M_hanger 5000 a0 a1 I1 J1 (fun r2 I2 J2 => r = r2 ∧ K I2 J2))
def zOK_person (Rel : zI → zJ → Prop) : Prop := ∀ (a0 : Int32) (a1 : Int32) (I : zI) (J : zJ) (K : zI → zJ → Prop), Rel I J → (∀ I J, Rel I J → K I J) → v_X_person 5000 a0 a1 I J (fun r I1 J1 => v_M_person 5000 a0 a1 I1 J1 (fun r2 I2 J2 => r = r2 ∧ K I2 J2))
def zOK_tells (Rel : zI → zJ → Prop) : Prop := ∀ (a0 : Int32) (a1 : Int32) (I : zI) (J : zJ) (K : zI → zJ → Prop), Rel I J → (∀ I J, Rel I J → K I J) → v_X_tells 5000 a0 a1 I J (fun r I1 J1 => v_M_tells 5000 a0 a1 I1 J1 (fun r2 I2 J2 => r = r2 ∧ K I2 J2))
def zOK_hang (Rel : zI → zJ → Prop) : Prop := ∀ (a0 : Int32) (a1 : Int32) (I : zI) (J : zJ) (K : zI → zJ → Prop), Rel I J → (∀ I J, Rel I J → K I J) → v_X_hang 5000 a0 a1 I J (fun r I1 J1 => v_M_hang 5000 a0 a1 I1 J1 (fun r2 I2 J2 => r = r2 ∧ K I2 J2))
def zOK_take (Rel : zI → zJ → Prop) : Prop := ∀ (a0 : Int32) (I : zI) (J : zJ) (K : zI → zJ → Prop), Rel I J → (∀ I J, Rel I J → K I J) → v_X_take 5000 a0 I J (fun r I1 J1 => v_M_take 5000 a0 I1 J1 (fun r2 I2 J2 => r = r2 ∧ K I2 J2))
def zOK_change (Rel : zI → zJ → Prop) : Prop := ∀ (a0 : Int32) (a1 : Int32) (I : zI) (J : zJ) (K : zI → zJ → Prop), Rel I J → (∀ I J, Rel I J → K I J) → v_X_change 5000 a0 a1 I J (fun r I1 J1 => v_M_change 5000 a0 a1 I1 J1 (fun r2 I2 J2 => r = r2 ∧ K I2 J2))
def zOK_straighten (Rel : zI → zJ → Prop) : Prop := ∀ (a0 : Int32) (I : zI) (J : zJ) (K : zI → zJ → Prop), Rel I J → (∀ I J, Rel I J → K I J) → v_X_straighten 5000 a0 I J (fun r I1 J1 => v_M_straighten 5000 a0 I1 J1 (fun r2 I2 J2 => r = r2 ∧ K I2 J2))
def zOK_nights (Rel : zI → zJ → Prop) : Prop := ∀ (a0 : Int32) (I : zI) (J : zJ) (K : zI → zJ → Prop), Rel I J → (∀ I J, Rel I J → K I J) → v_X_nights 5000 a0 I J (fun r I1 J1 => v_M_nights 5000 a0 I1 J1 (fun r2 I2 J2 => r = r2 ∧ K I2 J2))
def zOK_undo (Rel : zI → zJ → Prop) : Prop := ∀  (I : zI) (J : zJ) (K : zI → zJ → Prop), Rel I J → (∀ I J, Rel I J → K I J) → v_X_undo 5000  I J (fun r I1 J1 => v_M_undo 5000  I1 J1 (fun r2 I2 J2 => r = r2 ∧ K I2 J2))
def zOK_hanging (Rel : zI → zJ → Prop) : Prop := ∀ (a0 : Int32) (I : zI) (J : zJ) (K : zI → zJ → Prop), Rel I J → (∀ I J, Rel I J → K I J) → v_X_hanging 5000 a0 I J (fun r I1 J1 => v_M_hanging 5000 a0 I1 J1 (fun r2 I2 J2 => r = r2 ∧ K I2 J2))
def zOK_apart (Rel : zI → zJ → Prop) : Prop := ∀ (a0 : Int32) (I : zI) (J : zJ) (K : zI → zJ → Prop), Rel I J → (∀ I J, Rel I J → K I J) → v_X_apart 5000 a0 I J (fun r I1 J1 => v_M_apart 5000 a0 I1 J1 (fun r2 I2 J2 => r = r2 ∧ K I2 J2))
def zOK_ways (Rel : zI → zJ → Prop) : Prop := ∀ (a0 : Int32) (I : zI) (J : zJ) (K : zI → zJ → Prop), Rel I J → (∀ I J, Rel I J → K I J) → v_X_ways 5000 a0 I J (fun r I1 J1 => v_M_ways 5000 a0 I1 J1 (fun r2 I2 J2 => r = r2 ∧ K I2 J2))
def zOK_sets (Rel : zI → zJ → Prop) : Prop := ∀  (I : zI) (J : zJ) (K : zI → zJ → Prop), Rel I J → (∀ I J, Rel I J → K I J) → v_X_sets 5000  I J (fun r I1 J1 => v_M_sets 5000  I1 J1 (fun r2 I2 J2 => r = r2 ∧ K I2 J2))
def zOK_changes (Rel : zI → zJ → Prop) : Prop := ∀  (I : zI) (J : zJ) (K : zI → zJ → Prop), Rel I J → (∀ I J, Rel I J → K I J) → v_X_changes 5000  I J (fun r I1 J1 => v_M_changes 5000  I1 J1 (fun r2 I2 J2 => r = r2 ∧ K I2 J2))
def zOK_themselves (Rel : zI → zJ → Prop) : Prop := ∀  (I : zI) (J : zJ) (K : zI → zJ → Prop), Rel I J → (∀ I J, Rel I J → K I J) → v_X_themselves 5000  I J (fun r I1 J1 => v_M_themselves 5000  I1 J1 (fun r2 I2 J2 => r = r2 ∧ K I2 J2))
def zOK_crossed (Rel : zI → zJ → Prop) : Prop := ∀ (a0 : Int32) (I : zI) (J : zJ) (K : zI → zJ → Prop), Rel I J → (∀ I J, Rel I J → K I J) → v_X_crossed 5000 a0 I J (fun r I1 J1 => v_M_crossed 5000 a0 I1 J1 (fun r2 I2 J2 => r = r2 ∧ K I2 J2))
def zOK_fit (Rel : zI → zJ → Prop) : Prop := ∀ (a0 : Int32) (a1 : Int32) (I : zI) (J : zJ) (K : zI → zJ → Prop), Rel I J → (∀ I J, Rel I J → K I J) → v_X_fit 5000 a0 a1 I J (fun r I1 J1 => v_M_fit 5000 a0 a1 I1 J1 (fun r2 I2 J2 => r = r2 ∧ K I2 J2))
def zOK_missed (Rel : zI → zJ → Prop) : Prop := ∀ (a0 : Int32) (I : zI) (J : zJ) (K : zI → zJ → Prop), Rel I J → (∀ I J, Rel I J → K I J) → v_X_missed 5000 a0 I J (fun r I1 J1 => v_M_missed 5000 a0 I1 J1 (fun r2 I2 J2 => r = r2 ∧ K I2 J2))
def zOK_crowded (Rel : zI → zJ → Prop) : Prop := ∀ (a0 : Int32) (I : zI) (J : zJ) (K : zI → zJ → Prop), Rel I J → (∀ I J, Rel I J → K I J) → v_X_crowded 5000 a0 I J (fun r I1 J1 => v_M_crowded 5000 a0 I1 J1 (fun r2 I2 J2 => r = r2 ∧ K I2 J2))
def zOK_straight (Rel : zI → zJ → Prop) : Prop := ∀  (I : zI) (J : zJ) (K : zI → zJ → Prop), Rel I J → (∀ I J, Rel I J → K I J) → v_X_straight 5000  I J (fun r I1 J1 => v_M_straight 5000  I1 J1 (fun r2 I2 J2 => r = r2 ∧ K I2 J2))
def zOK_bill (Rel : zI → zJ → Prop) : Prop := ∀ (a0 : Int32) (I : zI) (J : zJ) (K : zI → zJ → Prop), Rel I J → (∀ I J, Rel I J → K I J) → v_X_bill 5000 a0 I J (fun r I1 J1 => v_M_bill 5000 a0 I1 J1 (fun r2 I2 J2 => r = r2 ∧ K I2 J2))
def zOK_swap (Rel : zI → zJ → Prop) : Prop := ∀ (a0 : Int32) (I : zI) (J : zJ) (K : zI → zJ → Prop), Rel I J → (∀ I J, Rel I J → K I J) → v_X_swap 5000 a0 I J (fun r I1 J1 => v_M_swap 5000 a0 I1 J1 (fun r2 I2 J2 => r = r2 ∧ K I2 J2))
def zOK_round (Rel : zI → zJ → Prop) : Prop := ∀  (I : zI) (J : zJ) (K : zI → zJ → Prop), Rel I J → (∀ I J, Rel I J → K I J) → v_X_round 5000  I J (fun r I1 J1 => v_M_round 5000  I1 J1 (fun r2 I2 J2 => r = r2 ∧ K I2 J2))
def zOK_upright (Rel : zI → zJ → Prop) : Prop := ∀ (a0 : Int32) (a1 : Int32) (I : zI) (J : zJ) (K : zI → zJ → Prop), Rel I J → (∀ I J, Rel I J → K I J) → v_X_upright 5000 a0 a1 I J (fun r I1 J1 => v_M_upright 5000 a0 a1 I1 J1 (fun r2 I2 J2 => r = r2 ∧ K I2 J2))
def zOK_holder (Rel : zI → zJ → Prop) : Prop := ∀ (a0 : Int32) (I : zI) (J : zJ) (K : zI → zJ → Prop), Rel I J → (∀ I J, Rel I J → K I J) → v_X_holder 5000 a0 I J (fun r I1 J1 => v_M_holder 5000 a0 I1 J1 (fun r2 I2 J2 => r = r2 ∧ K I2 J2))
def zOK_free (Rel : zI → zJ → Prop) : Prop := ∀ (a0 : Int32) (I : zI) (J : zJ) (K : zI → zJ → Prop), Rel I J → (∀ I J, Rel I J → K I J) → v_X_free 5000 a0 I J (fun r I1 J1 => v_M_free 5000 a0 I1 J1 (fun r2 I2 J2 => r = r2 ∧ K I2 J2))
def zOK_day (Rel : zI → zJ → Prop) : Prop := ∀ (a0 : Int32) (I : zI) (J : zJ) (K : zI → zJ → Prop), Rel I J → (∀ I J, Rel I J → K I J) → v_X_day 5000 a0 I J (fun r I1 J1 => v_M_day 5000 a0 I1 J1 (fun r2 I2 J2 => r = r2 ∧ K I2 J2))
def zOK_then (Rel : zI → zJ → Prop) : Prop := ∀ (a0 : Int32) (a1 : Int32) (a2 : Int32) (I : zI) (J : zJ) (K : zI → zJ → Prop), Rel I J → (∀ I J, Rel I J → K I J) → v_X_then 5000 a0 a1 a2 I J (fun r I1 J1 => v_M_then 5000 a0 a1 a2 I1 J1 (fun r2 I2 J2 => r = r2 ∧ K I2 J2))
def zOK_bentIn (Rel : zI → zJ → Prop) : Prop := ∀ (a0 : Int32) (a1 : Int32) (I : zI) (J : zJ) (K : zI → zJ → Prop), Rel I J → (∀ I J, Rel I J → K I J) → v_X_bentIn 5000 a0 a1 I J (fun r I1 J1 => v_M_bentIn 5000 a0 a1 I1 J1 (fun r2 I2 J2 => r = r2 ∧ K I2 J2))
def zOK_year (Rel : zI → zJ → Prop) : Prop := ∀ (a0 : Int32) (a1 : Int32) (a2 : Int32) (I : zI) (J : zJ) (K : zI → zJ → Prop), Rel I J → (∀ I J, Rel I J → K I J) → v_X_year 5000 a0 a1 a2 I J (fun r I1 J1 => v_M_year 5000 a0 a1 a2 I1 J1 (fun r2 I2 J2 => r = r2 ∧ K I2 J2))
def zOK_tell (Rel : zI → zJ → Prop) : Prop := ∀ (a0 : Int32) (a1 : Int32) (a2 : Int32) (I : zI) (J : zJ) (K : zI → zJ → Prop), qzb a2 → Rel I J → (∀ I J, Rel I J → K I J) → v_X_tell 5000 a0 a1 a2 I J (fun r I1 J1 => v_M_tell 5000 a0 a1 a2 I1 J1 (fun r2 I2 J2 => r = r2 ∧ K I2 J2))
def zOK_forget (Rel : zI → zJ → Prop) : Prop := ∀  (I : zI) (J : zJ) (K : zI → zJ → Prop), Rel I J → (∀ I J, Rel I J → K I J) → v_X_forget 5000  I J (fun r I1 J1 => v_M_forget 5000  I1 J1 (fun r2 I2 J2 => r = r2 ∧ K I2 J2))
def zOK_two (Rel : zI → zJ → Prop) : Prop := ∀ (a0 : Int32) (a1 : Int32) (I : zI) (J : zJ) (K : zI → zJ → Prop), Rel I J → (∀ I J, Rel I J → K I J) → v_X_two 5000 a0 a1 I J (fun r I1 J1 => v_M_two 5000 a0 a1 I1 J1 (fun r2 I2 J2 => r = r2 ∧ K I2 J2))
def zOK_ask (Rel : zI → zJ → Prop) : Prop := ∀ (a0 : Int32) (I : zI) (J : zJ) (K : zI → zJ → Prop), Rel I J → (∀ I J, Rel I J → K I J) → v_X_ask 5000 a0 I J (fun r I1 J1 => v_M_ask 5000 a0 I1 J1 (fun r2 I2 J2 => r = r2 ∧ K I2 J2))
def zOK_hold (Rel : zI → zJ → Prop) : Prop := ∀ (a0 : Int32) (I : zI) (J : zJ) (K : zI → zJ → Prop), Rel I J → (∀ I J, Rel I J → K I J) → v_X_hold 5000 a0 I J (fun r I1 J1 => v_M_hold 5000 a0 I1 J1 (fun r2 I2 J2 => r = r2 ∧ K I2 J2))
def zOK_restore (Rel : zI → zJ → Prop) : Prop := ∀ (a0 : Int32) (I : zI) (J : zJ) (K : zI → zJ → Prop), Rel I J → (∀ I J, Rel I J → K I J) → v_X_restore 5000 a0 I J (fun r I1 J1 => v_M_restore 5000 a0 I1 J1 (fun r2 I2 J2 => r = r2 ∧ K I2 J2))
def zOK_count (Rel : zI → zJ → Prop) : Prop := ∀ (a0 : Int32) (I : zI) (J : zJ) (K : zI → zJ → Prop), Rel I J → (∀ I J, Rel I J → K I J) → v_X_count 5000 a0 I J (fun r I1 J1 => v_M_count 5000 a0 I1 J1 (fun r2 I2 J2 => r = r2 ∧ K I2 J2))
def zOK (Rel : zI → zJ → Prop) : Prop := zOK_feed Rel ∧ zOK_back Rel ∧ zOK_read Rel ∧ zOK_place Rel ∧ zOK_hanger Rel ∧ zOK_person Rel ∧ zOK_tells Rel ∧ zOK_hang Rel ∧ zOK_take Rel ∧ zOK_change Rel ∧ zOK_straighten Rel ∧ zOK_nights Rel ∧ zOK_undo Rel ∧ zOK_hanging Rel ∧ zOK_apart Rel ∧ zOK_ways Rel ∧ zOK_sets Rel ∧ zOK_changes Rel ∧ zOK_themselves Rel ∧ zOK_crossed Rel ∧ zOK_fit Rel ∧ zOK_missed Rel ∧ zOK_crowded Rel ∧ zOK_straight Rel ∧ zOK_bill Rel ∧ zOK_swap Rel ∧ zOK_round Rel ∧ zOK_upright Rel ∧ zOK_holder Rel ∧ zOK_free Rel ∧ zOK_day Rel ∧ zOK_then Rel ∧ zOK_bentIn Rel ∧ zOK_year Rel ∧ zOK_tell Rel ∧ zOK_forget Rel ∧ zOK_two Rel ∧ zOK_ask Rel ∧ zOK_hold Rel ∧ zOK_restore Rel ∧ zOK_count Rel
theorem z_more {Ls i : Nat} (hL : Ls ≤ 3072) (hi : i ≤ Ls) (h : ¬ nI Ls - 6 < nI i) : i + 6 ≤ Ls := by
  rcases Nat.lt_or_ge Ls (i + 6) with q | q
  · exfalso
    apply h
    rw [Int32.lt_iff_toInt_lt]
    have e1 : (nI Ls - nI 6).toInt = (Ls : Int) - (6 : Nat) := pk_sub_toInt (by omega) (by decide)
    have e2 : (nI i).toInt = (i : Int) := nI_toInt (by omega)
    have e3 : (nI Ls - 6).toInt = (nI Ls - nI 6).toInt := rfl
    omega
  · exact q
theorem z_at {Ls i j : Nat} (hL : Ls ≤ 3072) (h : i + 6 ≤ Ls) (hj : j < 6) : vp_in (nI i + nI j) Ls := by
  rw [nI_add]
  exact vp_in_nI (by omega) (by omega)
set_option maxRecDepth 20000 in
set_option maxHeartbeats 4000000 in
theorem zlaw_loop {Rel : zI → zJ → Prop} (hz : zOK Rel) {bs Ls : Nat} {xs : Nat → Int32} (hL : Ls ≤ 3072) (Q : Int32 → qH → Prop) {C S : Nat} (hC : C ≤ 600000) (hS : S ≤ 7302250) : ∀ (k i : Nat) (I : zI) (J : zJ), i ≤ Ls → Ls + 1 ≤ i + 6 * k → Rel I J → w_law_18 xs Ls 5000 k bs 1 361 (nI i) C S (zH I J) Q := by
  obtain ⟨hfeed, hback, hread, hplace, hhanger, hperson, htells, hhang, htake, hchange, hstraighten, hnights, hundo, hhanging, hapart, hways, hsets, hchanges, hthemselves, hcrossed, hfit, hmissed, hcrowded, hstraight, hbill, hswap, hround, hupright, hholder, hfree, hday, hthen, hbentIn, hyear, htell, hforget, htwo, hask, hhold, hrestore, hcount⟩ := hz
  intro k
  induction k with
  | zero => intro i I J h1 h2; exact absurd h2 (by omega)
  | succ k ih =>
    intro i I J hi hk hR
    rw [w_law_18]
    refine ⟨fun _ => ⟨hC, hS, rfl⟩, fun hc => ?_⟩
    have hm := z_more hL hi hc
    have h0 : vp_in (nI i) Ls := vp_in_nI (by omega) (by omega)
    have p1 : vp_in (nI i + 1) Ls := z_at (j := 1) hL hm (by decide)
    have p2 : vp_in (nI i + 2) Ls := z_at (j := 2) hL hm (by decide)
    have p3 : vp_in (nI i + 3) Ls := z_at (j := 3) hL hm (by decide)
    have p4 : vp_in (nI i + 4) Ls := z_at (j := 4) hL hm (by decide)
    have p5 : vp_in (nI i + 5) Ls := z_at (j := 5) hL hm (by decide)
    have hn : nI i + 6 = nI (i + 6) := nI_add i 6
    have go : ∀ (I2 : zI) (J2 : zJ), Rel I2 J2 → w_law_18 xs Ls 5000 k bs 1 361 (nI i + 6) C S (zH I2 J2) Q := fun I2 J2 h => by rw [hn]; exact ih (i + 6) I2 J2 hm (by omega) h
    refine ⟨h0, fun y ey => ?_⟩
    refine ⟨fun _ => ?_, fun _ => ?_⟩
    · refine ⟨p1, p2, p3, p4, p5, rfl, hC, hS, ?_⟩
      refine u_X_feed 5000 (xs (nI i + 1).toNatClampNeg) (xs (nI i + 2).toNatClampNeg) (xs (nI i + 3).toNatClampNeg) (xs (nI i + 4).toNatClampNeg) (xs (nI i + 5).toNatClampNeg) I J _ _ (fun r I1 J1 hv => ?_) (hfeed (xs (nI i + 1).toNatClampNeg) (xs (nI i + 2).toNatClampNeg) (xs (nI i + 3).toNatClampNeg) (xs (nI i + 4).toNatClampNeg) (xs (nI i + 5).toNatClampNeg) I J _ hR (fun I J h => h))
      refine ⟨rfl, hC, hS, ?_⟩
      refine u_M_feed 5000 (xs (nI i + 1).toNatClampNeg) (xs (nI i + 2).toNatClampNeg) (xs (nI i + 3).toNatClampNeg) (xs (nI i + 4).toNatClampNeg) (xs (nI i + 5).toNatClampNeg) I1 J1 _ _ (fun r2 I2 J2 hv => ?_) hv
      exact ⟨fun _ => go I2 J2 hv.2, fun q => absurd hv.1 q⟩
    refine ⟨fun _ => ?_, fun _ => ?_⟩
    · refine ⟨p1, rfl, hC, hS, ?_⟩
      refine u_X_back 5000 (xs (nI i + 1).toNatClampNeg) I J _ _ (fun r I1 J1 hv => ?_) (hback (xs (nI i + 1).toNatClampNeg) I J _ hR (fun I J h => h))
      refine ⟨rfl, hC, hS, ?_⟩
      refine u_M_back 5000 (xs (nI i + 1).toNatClampNeg) I1 J1 _ _ (fun r2 I2 J2 hv => ?_) hv
      exact ⟨fun _ => go I2 J2 hv.2, fun q => absurd hv.1 q⟩
    refine ⟨fun _ => ?_, fun _ => ?_⟩
    · refine ⟨rfl, hC, hS, ?_⟩
      refine u_X_read 5000 (by decide)  I J _ _ (fun r I1 J1 hv => ?_) (hread  I J _ hR (fun I J h => h))
      refine ⟨rfl, hC, hS, ?_⟩
      refine u_M_read 5000  I1 J1 _ _ (fun r2 I2 J2 hv => ?_) hv
      exact ⟨fun _ => go I2 J2 hv.2, fun q => absurd hv.1 q⟩
    refine ⟨fun _ => ?_, fun _ => ?_⟩
    · refine ⟨rfl, hC, hS, ?_⟩
      refine u_X_place 5000  I J _ _ (fun r I1 J1 hv => ?_) (hplace  I J _ hR (fun I J h => h))
      refine ⟨rfl, hC, hS, ?_⟩
      refine u_M_place 5000  I1 J1 _ _ (fun r2 I2 J2 hv => ?_) hv
      exact ⟨fun _ => go I2 J2 hv.2, fun q => absurd hv.1 q⟩
    refine ⟨fun _ => ?_, fun _ => ?_⟩
    · refine ⟨p1, p2, rfl, hC, hS, ?_⟩
      refine u_X_hanger 5000 (xs (nI i + 1).toNatClampNeg) (xs (nI i + 2).toNatClampNeg) I J _ _ (fun r I1 J1 hv => ?_) (hhanger (xs (nI i + 1).toNatClampNeg) (xs (nI i + 2).toNatClampNeg) I J _ hR (fun I J h => h))
      refine ⟨rfl, hC, hS, ?_⟩
      refine u_M_hanger 5000 (xs (nI i + 1).toNatClampNeg) (xs (nI i + 2).toNatClampNeg) I1 J1 _ _ (fun r2 I2 J2 hv => ?_) hv
      exact ⟨fun _ => go I2 J2 hv.2, fun q => absurd hv.1 q⟩
    refine ⟨fun _ => ?_, fun _ => ?_⟩
    · refine ⟨p1, p2, rfl, hC, hS, ?_⟩
      refine u_X_person 5000 (xs (nI i + 1).toNatClampNeg) (xs (nI i + 2).toNatClampNeg) I J _ _ (fun r I1 J1 hv => ?_) (hperson (xs (nI i + 1).toNatClampNeg) (xs (nI i + 2).toNatClampNeg) I J _ hR (fun I J h => h))
      refine ⟨rfl, hC, hS, ?_⟩
      refine u_M_person 5000 (xs (nI i + 1).toNatClampNeg) (xs (nI i + 2).toNatClampNeg) I1 J1 _ _ (fun r2 I2 J2 hv => ?_) hv
      exact ⟨fun _ => go I2 J2 hv.2, fun q => absurd hv.1 q⟩
    refine ⟨fun _ => ?_, fun _ => ?_⟩
    · refine ⟨p1, p2, rfl, hC, hS, ?_⟩
      refine u_X_tells 5000 (xs (nI i + 1).toNatClampNeg) (xs (nI i + 2).toNatClampNeg) I J _ _ (fun r I1 J1 hv => ?_) (htells (xs (nI i + 1).toNatClampNeg) (xs (nI i + 2).toNatClampNeg) I J _ hR (fun I J h => h))
      refine ⟨rfl, hC, hS, ?_⟩
      refine u_M_tells 5000 (xs (nI i + 1).toNatClampNeg) (xs (nI i + 2).toNatClampNeg) I1 J1 _ _ (fun r2 I2 J2 hv => ?_) hv
      exact ⟨fun _ => go I2 J2 hv.2, fun q => absurd hv.1 q⟩
    refine ⟨fun _ => ?_, fun _ => ?_⟩
    · refine ⟨p1, p2, rfl, hC, hS, ?_⟩
      refine u_X_hang 5000 (xs (nI i + 1).toNatClampNeg) (xs (nI i + 2).toNatClampNeg) I J _ _ (fun r I1 J1 hv => ?_) (hhang (xs (nI i + 1).toNatClampNeg) (xs (nI i + 2).toNatClampNeg) I J _ hR (fun I J h => h))
      refine ⟨rfl, hC, hS, ?_⟩
      refine u_M_hang 5000 (xs (nI i + 1).toNatClampNeg) (xs (nI i + 2).toNatClampNeg) I1 J1 _ _ (fun r2 I2 J2 hv => ?_) hv
      exact ⟨fun _ => go I2 J2 hv.2, fun q => absurd hv.1 q⟩
    refine ⟨fun _ => ?_, fun _ => ?_⟩
    · refine ⟨p1, rfl, hC, hS, ?_⟩
      refine u_X_take 5000 (xs (nI i + 1).toNatClampNeg) I J _ _ (fun r I1 J1 hv => ?_) (htake (xs (nI i + 1).toNatClampNeg) I J _ hR (fun I J h => h))
      refine ⟨rfl, hC, hS, ?_⟩
      refine u_M_take 5000 (xs (nI i + 1).toNatClampNeg) I1 J1 _ _ (fun r2 I2 J2 hv => ?_) hv
      exact ⟨fun _ => go I2 J2 hv.2, fun q => absurd hv.1 q⟩
    refine ⟨fun _ => ?_, fun _ => ?_⟩
    · refine ⟨p1, p2, rfl, hC, hS, ?_⟩
      refine u_X_change 5000 (xs (nI i + 1).toNatClampNeg) (xs (nI i + 2).toNatClampNeg) I J _ _ (fun r I1 J1 hv => ?_) (hchange (xs (nI i + 1).toNatClampNeg) (xs (nI i + 2).toNatClampNeg) I J _ hR (fun I J h => h))
      refine ⟨rfl, hC, hS, ?_⟩
      refine u_M_change 5000 (xs (nI i + 1).toNatClampNeg) (xs (nI i + 2).toNatClampNeg) I1 J1 _ _ (fun r2 I2 J2 hv => ?_) hv
      exact ⟨fun _ => go I2 J2 hv.2, fun q => absurd hv.1 q⟩
    refine ⟨fun _ => ?_, fun _ => ?_⟩
    · refine ⟨p1, rfl, hC, hS, ?_⟩
      refine u_X_straighten 5000 (xs (nI i + 1).toNatClampNeg) I J _ _ (fun r I1 J1 hv => ?_) (hstraighten (xs (nI i + 1).toNatClampNeg) I J _ hR (fun I J h => h))
      refine ⟨rfl, hC, hS, ?_⟩
      refine u_M_straighten 5000 (xs (nI i + 1).toNatClampNeg) I1 J1 _ _ (fun r2 I2 J2 hv => ?_) hv
      exact ⟨fun _ => go I2 J2 hv.2, fun q => absurd hv.1 q⟩
    refine ⟨fun _ => ?_, fun _ => ?_⟩
    · refine ⟨p1, rfl, hC, hS, ?_⟩
      refine u_X_nights 5000 (xs (nI i + 1).toNatClampNeg) I J _ _ (fun r I1 J1 hv => ?_) (hnights (xs (nI i + 1).toNatClampNeg) I J _ hR (fun I J h => h))
      refine ⟨rfl, hC, hS, ?_⟩
      refine u_M_nights 5000 (xs (nI i + 1).toNatClampNeg) I1 J1 _ _ (fun r2 I2 J2 hv => ?_) hv
      exact ⟨fun _ => go I2 J2 hv.2, fun q => absurd hv.1 q⟩
    refine ⟨fun _ => ?_, fun _ => ?_⟩
    · refine ⟨rfl, hC, hS, ?_⟩
      refine u_X_undo 5000  I J _ _ (fun r I1 J1 hv => ?_) (hundo  I J _ hR (fun I J h => h))
      refine ⟨rfl, hC, hS, ?_⟩
      refine u_M_undo 5000  I1 J1 _ _ (fun r2 I2 J2 hv => ?_) hv
      exact ⟨fun _ => go I2 J2 hv.2, fun q => absurd hv.1 q⟩
    refine ⟨fun _ => ?_, fun _ => ?_⟩
    · refine ⟨p1, rfl, hC, hS, ?_⟩
      refine u_X_hanging 5000 (xs (nI i + 1).toNatClampNeg) I J _ _ (fun r I1 J1 hv => ?_) (hhanging (xs (nI i + 1).toNatClampNeg) I J _ hR (fun I J h => h))
      refine ⟨rfl, hC, hS, ?_⟩
      refine u_M_hanging 5000 (xs (nI i + 1).toNatClampNeg) I1 J1 _ _ (fun r2 I2 J2 hv => ?_) hv
      exact ⟨fun _ => go I2 J2 hv.2, fun q => absurd hv.1 q⟩
    refine ⟨fun _ => ?_, fun _ => ?_⟩
    · refine ⟨p1, rfl, hC, hS, ?_⟩
      refine u_X_apart 5000 (xs (nI i + 1).toNatClampNeg) I J _ _ (fun r I1 J1 hv => ?_) (hapart (xs (nI i + 1).toNatClampNeg) I J _ hR (fun I J h => h))
      refine ⟨rfl, hC, hS, ?_⟩
      refine u_M_apart 5000 (xs (nI i + 1).toNatClampNeg) I1 J1 _ _ (fun r2 I2 J2 hv => ?_) hv
      exact ⟨fun _ => go I2 J2 hv.2, fun q => absurd hv.1 q⟩
    refine ⟨fun _ => ?_, fun _ => ?_⟩
    · refine ⟨p1, rfl, hC, hS, ?_⟩
      refine u_X_ways 5000 (xs (nI i + 1).toNatClampNeg) I J _ _ (fun r I1 J1 hv => ?_) (hways (xs (nI i + 1).toNatClampNeg) I J _ hR (fun I J h => h))
      refine ⟨rfl, hC, hS, ?_⟩
      refine u_M_ways 5000 (xs (nI i + 1).toNatClampNeg) I1 J1 _ _ (fun r2 I2 J2 hv => ?_) hv
      exact ⟨fun _ => go I2 J2 hv.2, fun q => absurd hv.1 q⟩
    refine ⟨fun _ => ?_, fun _ => ?_⟩
    · refine ⟨rfl, hC, hS, ?_⟩
      refine u_X_sets 5000  I J _ _ (fun r I1 J1 hv => ?_) (hsets  I J _ hR (fun I J h => h))
      refine ⟨rfl, hC, hS, ?_⟩
      refine u_M_sets 5000  I1 J1 _ _ (fun r2 I2 J2 hv => ?_) hv
      exact ⟨fun _ => go I2 J2 hv.2, fun q => absurd hv.1 q⟩
    refine ⟨fun _ => ?_, fun _ => ?_⟩
    · refine ⟨rfl, hC, hS, ?_⟩
      refine u_X_changes 5000  I J _ _ (fun r I1 J1 hv => ?_) (hchanges  I J _ hR (fun I J h => h))
      refine ⟨rfl, hC, hS, ?_⟩
      refine u_M_changes 5000  I1 J1 _ _ (fun r2 I2 J2 hv => ?_) hv
      exact ⟨fun _ => go I2 J2 hv.2, fun q => absurd hv.1 q⟩
    refine ⟨fun _ => ?_, fun _ => ?_⟩
    · refine ⟨rfl, hC, hS, ?_⟩
      refine u_X_themselves 5000  I J _ _ (fun r I1 J1 hv => ?_) (hthemselves  I J _ hR (fun I J h => h))
      refine ⟨rfl, hC, hS, ?_⟩
      refine u_M_themselves 5000  I1 J1 _ _ (fun r2 I2 J2 hv => ?_) hv
      exact ⟨fun _ => go I2 J2 hv.2, fun q => absurd hv.1 q⟩
    refine ⟨fun _ => ?_, fun _ => ?_⟩
    · refine ⟨p1, rfl, hC, hS, ?_⟩
      refine u_X_crossed 5000 (xs (nI i + 1).toNatClampNeg) I J _ _ (fun r I1 J1 hv => ?_) (hcrossed (xs (nI i + 1).toNatClampNeg) I J _ hR (fun I J h => h))
      refine ⟨rfl, hC, hS, ?_⟩
      refine u_M_crossed 5000 (xs (nI i + 1).toNatClampNeg) I1 J1 _ _ (fun r2 I2 J2 hv => ?_) hv
      exact ⟨fun _ => go I2 J2 hv.2, fun q => absurd hv.1 q⟩
    refine ⟨fun _ => ?_, fun _ => ?_⟩
    · refine ⟨p1, p2, rfl, hC, hS, ?_⟩
      refine u_X_fit 5000 (xs (nI i + 1).toNatClampNeg) (xs (nI i + 2).toNatClampNeg) I J _ _ (fun r I1 J1 hv => ?_) (hfit (xs (nI i + 1).toNatClampNeg) (xs (nI i + 2).toNatClampNeg) I J _ hR (fun I J h => h))
      refine ⟨rfl, hC, hS, ?_⟩
      refine u_M_fit 5000 (xs (nI i + 1).toNatClampNeg) (xs (nI i + 2).toNatClampNeg) I1 J1 _ _ (fun r2 I2 J2 hv => ?_) hv
      exact ⟨fun _ => go I2 J2 hv.2, fun q => absurd hv.1 q⟩
    refine ⟨fun _ => ?_, fun _ => ?_⟩
    · refine ⟨p1, rfl, hC, hS, ?_⟩
      refine u_X_missed 5000 (xs (nI i + 1).toNatClampNeg) I J _ _ (fun r I1 J1 hv => ?_) (hmissed (xs (nI i + 1).toNatClampNeg) I J _ hR (fun I J h => h))
      refine ⟨rfl, hC, hS, ?_⟩
      refine u_M_missed 5000 (xs (nI i + 1).toNatClampNeg) I1 J1 _ _ (fun r2 I2 J2 hv => ?_) hv
      exact ⟨fun _ => go I2 J2 hv.2, fun q => absurd hv.1 q⟩
    refine ⟨fun _ => ?_, fun _ => ?_⟩
    · refine ⟨p1, rfl, hC, hS, ?_⟩
      refine u_X_crowded 5000 (xs (nI i + 1).toNatClampNeg) I J _ _ (fun r I1 J1 hv => ?_) (hcrowded (xs (nI i + 1).toNatClampNeg) I J _ hR (fun I J h => h))
      refine ⟨rfl, hC, hS, ?_⟩
      refine u_M_crowded 5000 (xs (nI i + 1).toNatClampNeg) I1 J1 _ _ (fun r2 I2 J2 hv => ?_) hv
      exact ⟨fun _ => go I2 J2 hv.2, fun q => absurd hv.1 q⟩
    refine ⟨fun _ => ?_, fun _ => ?_⟩
    · refine ⟨rfl, hC, hS, ?_⟩
      refine u_X_straight 5000  I J _ _ (fun r I1 J1 hv => ?_) (hstraight  I J _ hR (fun I J h => h))
      refine ⟨rfl, hC, hS, ?_⟩
      refine u_M_straight 5000  I1 J1 _ _ (fun r2 I2 J2 hv => ?_) hv
      exact ⟨fun _ => go I2 J2 hv.2, fun q => absurd hv.1 q⟩
    refine ⟨fun _ => ?_, fun _ => ?_⟩
    · refine ⟨p1, rfl, hC, hS, ?_⟩
      refine u_X_bill 5000 (xs (nI i + 1).toNatClampNeg) I J _ _ (fun r I1 J1 hv => ?_) (hbill (xs (nI i + 1).toNatClampNeg) I J _ hR (fun I J h => h))
      refine ⟨rfl, hC, hS, ?_⟩
      refine u_M_bill 5000 (xs (nI i + 1).toNatClampNeg) I1 J1 _ _ (fun r2 I2 J2 hv => ?_) hv
      exact ⟨fun _ => go I2 J2 hv.2, fun q => absurd hv.1 q⟩
    refine ⟨fun _ => ?_, fun _ => ?_⟩
    · refine ⟨p1, rfl, hC, hS, ?_⟩
      refine u_X_swap 5000 (xs (nI i + 1).toNatClampNeg) I J _ _ (fun r I1 J1 hv => ?_) (hswap (xs (nI i + 1).toNatClampNeg) I J _ hR (fun I J h => h))
      refine ⟨rfl, hC, hS, ?_⟩
      refine u_M_swap 5000 (xs (nI i + 1).toNatClampNeg) I1 J1 _ _ (fun r2 I2 J2 hv => ?_) hv
      exact ⟨fun _ => go I2 J2 hv.2, fun q => absurd hv.1 q⟩
    refine ⟨fun _ => ?_, fun _ => ?_⟩
    · refine ⟨rfl, hC, hS, ?_⟩
      refine u_X_round 5000  I J _ _ (fun r I1 J1 hv => ?_) (hround  I J _ hR (fun I J h => h))
      refine ⟨rfl, hC, hS, ?_⟩
      refine u_M_round 5000  I1 J1 _ _ (fun r2 I2 J2 hv => ?_) hv
      exact ⟨fun _ => go I2 J2 hv.2, fun q => absurd hv.1 q⟩
    refine ⟨fun _ => ?_, fun _ => ?_⟩
    · refine ⟨p1, p2, rfl, hC, hS, ?_⟩
      refine u_X_upright 5000 (xs (nI i + 1).toNatClampNeg) (xs (nI i + 2).toNatClampNeg) I J _ _ (fun r I1 J1 hv => ?_) (hupright (xs (nI i + 1).toNatClampNeg) (xs (nI i + 2).toNatClampNeg) I J _ hR (fun I J h => h))
      refine ⟨rfl, hC, hS, ?_⟩
      refine u_M_upright 5000 (xs (nI i + 1).toNatClampNeg) (xs (nI i + 2).toNatClampNeg) I1 J1 _ _ (fun r2 I2 J2 hv => ?_) hv
      exact ⟨fun _ => go I2 J2 hv.2, fun q => absurd hv.1 q⟩
    refine ⟨fun _ => ?_, fun _ => ?_⟩
    · refine ⟨p1, rfl, hC, hS, ?_⟩
      refine u_X_holder 5000 (xs (nI i + 1).toNatClampNeg) I J _ _ (fun r I1 J1 hv => ?_) (hholder (xs (nI i + 1).toNatClampNeg) I J _ hR (fun I J h => h))
      refine ⟨rfl, hC, hS, ?_⟩
      refine u_M_holder 5000 (xs (nI i + 1).toNatClampNeg) I1 J1 _ _ (fun r2 I2 J2 hv => ?_) hv
      exact ⟨fun _ => go I2 J2 hv.2, fun q => absurd hv.1 q⟩
    refine ⟨fun _ => ?_, fun _ => ?_⟩
    · refine ⟨p1, rfl, hC, hS, ?_⟩
      refine u_X_free 5000 (xs (nI i + 1).toNatClampNeg) I J _ _ (fun r I1 J1 hv => ?_) (hfree (xs (nI i + 1).toNatClampNeg) I J _ hR (fun I J h => h))
      refine ⟨rfl, hC, hS, ?_⟩
      refine u_M_free 5000 (xs (nI i + 1).toNatClampNeg) I1 J1 _ _ (fun r2 I2 J2 hv => ?_) hv
      exact ⟨fun _ => go I2 J2 hv.2, fun q => absurd hv.1 q⟩
    refine ⟨fun _ => ?_, fun _ => ?_⟩
    · refine ⟨p1, rfl, hC, hS, ?_⟩
      refine u_X_day 5000 (xs (nI i + 1).toNatClampNeg) I J _ _ (fun r I1 J1 hv => ?_) (hday (xs (nI i + 1).toNatClampNeg) I J _ hR (fun I J h => h))
      refine ⟨rfl, hC, hS, ?_⟩
      refine u_M_day 5000 (xs (nI i + 1).toNatClampNeg) I1 J1 _ _ (fun r2 I2 J2 hv => ?_) hv
      exact ⟨fun _ => go I2 J2 hv.2, fun q => absurd hv.1 q⟩
    refine ⟨fun _ => ?_, fun _ => ?_⟩
    · refine ⟨p1, p2, p3, rfl, hC, hS, ?_⟩
      refine u_X_then 5000 (xs (nI i + 1).toNatClampNeg) (xs (nI i + 2).toNatClampNeg) (xs (nI i + 3).toNatClampNeg) I J _ _ (fun r I1 J1 hv => ?_) (hthen (xs (nI i + 1).toNatClampNeg) (xs (nI i + 2).toNatClampNeg) (xs (nI i + 3).toNatClampNeg) I J _ hR (fun I J h => h))
      refine ⟨rfl, hC, hS, ?_⟩
      refine u_M_then 5000 (xs (nI i + 1).toNatClampNeg) (xs (nI i + 2).toNatClampNeg) (xs (nI i + 3).toNatClampNeg) I1 J1 _ _ (fun r2 I2 J2 hv => ?_) hv
      exact ⟨fun _ => go I2 J2 hv.2, fun q => absurd hv.1 q⟩
    refine ⟨fun _ => ?_, fun _ => ?_⟩
    · refine ⟨p1, p2, rfl, hC, hS, ?_⟩
      refine u_X_bentIn 5000 (xs (nI i + 1).toNatClampNeg) (xs (nI i + 2).toNatClampNeg) I J _ _ (fun r I1 J1 hv => ?_) (hbentIn (xs (nI i + 1).toNatClampNeg) (xs (nI i + 2).toNatClampNeg) I J _ hR (fun I J h => h))
      refine ⟨rfl, hC, hS, ?_⟩
      refine u_M_bentIn 5000 (xs (nI i + 1).toNatClampNeg) (xs (nI i + 2).toNatClampNeg) I1 J1 _ _ (fun r2 I2 J2 hv => ?_) hv
      exact ⟨fun _ => go I2 J2 hv.2, fun q => absurd hv.1 q⟩
    refine ⟨fun _ => ?_, fun _ => ?_⟩
    · refine ⟨p1, p2, p3, rfl, hC, hS, ?_⟩
      refine u_X_year 5000 (xs (nI i + 1).toNatClampNeg) (xs (nI i + 2).toNatClampNeg) (xs (nI i + 3).toNatClampNeg) I J _ _ (fun r I1 J1 hv => ?_) (hyear (xs (nI i + 1).toNatClampNeg) (xs (nI i + 2).toNatClampNeg) (xs (nI i + 3).toNatClampNeg) I J _ hR (fun I J h => h))
      refine ⟨rfl, hC, hS, ?_⟩
      refine u_M_year 5000 (xs (nI i + 1).toNatClampNeg) (xs (nI i + 2).toNatClampNeg) (xs (nI i + 3).toNatClampNeg) I1 J1 _ _ (fun r2 I2 J2 hv => ?_) hv
      exact ⟨fun _ => go I2 J2 hv.2, fun q => absurd hv.1 q⟩
    refine ⟨fun _ => ?_, fun _ => ?_⟩
    · refine ⟨p1, p2, p3, ?_⟩
      refine ⟨fun q0 => ?_, fun q0 => ?_⟩
      · unfold w_law_1098
        refine ⟨rfl, hC, hS, ?_⟩
        refine u_X_tell 5000 (xs (nI i + 1).toNatClampNeg) (xs (nI i + 2).toNatClampNeg) 0 I J _ _ (fun r I1 J1 hv => ?_) (htell (xs (nI i + 1).toNatClampNeg) (xs (nI i + 2).toNatClampNeg) 0 I J _ (Or.inl rfl) hR (fun I J h => h))
        refine ⟨p1, p2, p3, fun q1 => ?_, fun q1 => ?_⟩
        · refine ⟨rfl, hC, hS, ?_⟩
          refine u_M_tell 5000 (xs (nI i + 1).toNatClampNeg) (xs (nI i + 2).toNatClampNeg) 0 I1 J1 _ _ (fun r2 I2 J2 hv => ?_) hv
          exact ⟨fun _ => go I2 J2 hv.2, fun q => absurd hv.1 q⟩
        · exact absurd q0 q1
      · unfold w_law_1098
        refine ⟨rfl, hC, hS, ?_⟩
        refine u_X_tell 5000 (xs (nI i + 1).toNatClampNeg) (xs (nI i + 2).toNatClampNeg) 1 I J _ _ (fun r I1 J1 hv => ?_) (htell (xs (nI i + 1).toNatClampNeg) (xs (nI i + 2).toNatClampNeg) 1 I J _ (Or.inr rfl) hR (fun I J h => h))
        refine ⟨p1, p2, p3, fun q1 => ?_, fun q1 => ?_⟩
        · exact absurd q1 q0
        · refine ⟨rfl, hC, hS, ?_⟩
          refine u_M_tell 5000 (xs (nI i + 1).toNatClampNeg) (xs (nI i + 2).toNatClampNeg) 1 I1 J1 _ _ (fun r2 I2 J2 hv => ?_) hv
          exact ⟨fun _ => go I2 J2 hv.2, fun q => absurd hv.1 q⟩
    refine ⟨fun _ => ?_, fun _ => ?_⟩
    · refine ⟨rfl, hC, hS, ?_⟩
      refine u_X_forget 5000  I J _ _ (fun r I1 J1 hv => ?_) (hforget  I J _ hR (fun I J h => h))
      refine ⟨rfl, hC, hS, ?_⟩
      refine u_M_forget 5000  I1 J1 _ _ (fun r2 I2 J2 hv => ?_) hv
      exact ⟨fun _ => go I2 J2 hv.2, fun q => absurd hv.1 q⟩
    refine ⟨fun _ => ?_, fun _ => ?_⟩
    · refine ⟨p1, p2, rfl, hC, hS, ?_⟩
      refine u_X_two 5000 (xs (nI i + 1).toNatClampNeg) (xs (nI i + 2).toNatClampNeg) I J _ _ (fun r I1 J1 hv => ?_) (htwo (xs (nI i + 1).toNatClampNeg) (xs (nI i + 2).toNatClampNeg) I J _ hR (fun I J h => h))
      refine ⟨rfl, hC, hS, ?_⟩
      refine u_M_two 5000 (xs (nI i + 1).toNatClampNeg) (xs (nI i + 2).toNatClampNeg) I1 J1 _ _ (fun r2 I2 J2 hv => ?_) hv
      exact ⟨fun _ => go I2 J2 hv.2, fun q => absurd hv.1 q⟩
    refine ⟨fun _ => ?_, fun _ => ?_⟩
    · refine ⟨p1, rfl, hC, hS, ?_⟩
      refine u_X_ask 5000 (xs (nI i + 1).toNatClampNeg) I J _ _ (fun r I1 J1 hv => ?_) (hask (xs (nI i + 1).toNatClampNeg) I J _ hR (fun I J h => h))
      refine ⟨rfl, hC, hS, ?_⟩
      refine u_M_ask 5000 (xs (nI i + 1).toNatClampNeg) I1 J1 _ _ (fun r2 I2 J2 hv => ?_) hv
      exact ⟨fun _ => go I2 J2 hv.2, fun q => absurd hv.1 q⟩
    refine ⟨fun _ => ?_, fun _ => ?_⟩
    · refine ⟨p1, rfl, hC, hS, ?_⟩
      refine u_X_hold 5000 (xs (nI i + 1).toNatClampNeg) I J _ _ (fun r I1 J1 hv => ?_) (hhold (xs (nI i + 1).toNatClampNeg) I J _ hR (fun I J h => h))
      refine ⟨rfl, hC, hS, ?_⟩
      refine u_M_hold 5000 (xs (nI i + 1).toNatClampNeg) I1 J1 _ _ (fun r2 I2 J2 hv => ?_) hv
      exact ⟨fun _ => go I2 J2 hv.2, fun q => absurd hv.1 q⟩
    refine ⟨fun _ => ?_, fun _ => ?_⟩
    · refine ⟨p1, rfl, hC, hS, ?_⟩
      refine u_X_restore 5000 (xs (nI i + 1).toNatClampNeg) I J _ _ (fun r I1 J1 hv => ?_) (hrestore (xs (nI i + 1).toNatClampNeg) I J _ hR (fun I J h => h))
      refine ⟨rfl, hC, hS, ?_⟩
      refine u_M_restore 5000 (xs (nI i + 1).toNatClampNeg) I1 J1 _ _ (fun r2 I2 J2 hv => ?_) hv
      exact ⟨fun _ => go I2 J2 hv.2, fun q => absurd hv.1 q⟩
    refine ⟨fun _ => ?_, fun _ => ?_⟩
    · refine ⟨p1, rfl, hC, hS, ?_⟩
      refine u_X_count 5000 (xs (nI i + 1).toNatClampNeg) I J _ _ (fun r I1 J1 hv => ?_) (hcount (xs (nI i + 1).toNatClampNeg) I J _ hR (fun I J h => h))
      refine ⟨rfl, hC, hS, ?_⟩
      refine u_M_count 5000 (xs (nI i + 1).toNatClampNeg) I1 J1 _ _ (fun r2 I2 J2 hv => ?_) hv
      exact ⟨fun _ => go I2 J2 hv.2, fun q => absurd hv.1 q⟩
    exact go I J hR
