theorem ib_01 (x : Int32) : x = 0 ∨ x = 1 ∨ (¬ x = 0 ∧ ¬ x = 1) := by
  by_cases h : x = 0
  · exact Or.inl h
  · by_cases h2 : x = 1
    · exact Or.inr (Or.inl h2)
    · exact Or.inr (Or.inr ⟨h, h2⟩)
theorem ib_can {n q : Int32} (c1 : ¬ n < 1) (c2 : ¬ 12 < n) (c3 : ¬ q < 0) (c4 : q < n) : ∃ N Q : Nat, N < 12 ∧ Q < N + 1 ∧ n = nI (N + 1) ∧ q = nI Q := by
  obtain ⟨N, hN, e⟩ := ib_12 c1 c2
  obtain ⟨Q, hQ, e2⟩ := nI_of c3
  subst e; subst e2
  exact ⟨N, Q, hN, (nI_ltI (by omega) (by omega)).mp c4, rfl, rfl⟩
