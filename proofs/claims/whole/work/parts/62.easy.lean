/-! first calls: place, forget, back, tell; who is a person, a hanger -/
theorem zok_place : zOK_place Rel := by
  intro I J K hR hK
  have e : I 26 13 = I 361 17 := by
    obtain ⟨n, nH, nP, live, u, x, t, m, h1, h2, h3⟩ := id hR
    exact h2
  exact ⟨e, hK _ _ hR⟩
theorem zin_n {x : Int32} {n : Nat} (hn : n < 2 ^ 31) (h : ¬ zin x n) : x < 0 ∨ (¬ x < 0 ∧ nI n ≤ x) := by
  rcases pk_ix x hn with q | q | q
  · exact Or.inl q
  · by_cases z : x < 0
    · exact Or.inl z
    · exact Or.inr ⟨z, q⟩
  · exact absurd q h
theorem zok_forget : zOK_forget Rel := by
  intro I J K hR hK
  obtain ⟨n, nH, nP, live, u, x, t, m, h1, h2, h3, h4, h5, h6, h7, h8⟩ := id hR
  intro y ey I2 e2 y2 ey2 I3 e3
  subst ey e2 ey2 e3
  refine ⟨?_, hK _ _ ?_⟩
  · show I 83 7 = qu I 83 7 0 361 63
    rw [qu_off (by decide), h6.2.1, h6.2.2.1]
  · obtain ⟨I9, e9⟩ : ∃ z, z = qu (qu I 83 7 0) 361 63 0 := ⟨_, rfl⟩
    have o : ∀ a k, (a ≠ 83 ∨ k ≠ 7) → (a ≠ 361 ∨ k ≠ 63) → I9 a k = I a k := fun a k q1 q2 => by rw [e9, qu_off q2, qu_off q1]
    rw [← e9]
    refine ⟨n, nH, nP, live, u, x, 0, m, h1.kept (fun a k q => o a k (by omega) (by omega)), ?_, h3.kept (fun a k q => o a k (by omega) (by omega)), rNow.kept (fun a k q => o a k (by omega) (by omega)) h4, h5.kept (fun a k q => o a k (by omega) (by omega)), ?_, h7.kept (fun a k q => o a k (by omega) (by omega)), h8⟩
    · rw [o 26 13 (by decide) (by decide), o 361 17 (by decide) (by decide)]; exact h2
    · refine ⟨by decide, ?_, ?_, fun i hi => absurd hi (by omega)⟩
      · rw [e9, qu_off (by decide), qu_same]; rfl
      · rw [e9, qu_same]; rfl
