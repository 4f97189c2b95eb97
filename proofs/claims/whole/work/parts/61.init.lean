theorem s0_at : ([0, 1, 2, 3, 4] : List Nat).all (fun k => decide (s0_init (67 * k + 0) = lay 1672 0) && decide (s0_init (67 * k + 1) = lay 1672 1) && decide (s0_init (67 * k + 2) = lay 1672 2) && decide (s0_init (67 * k + 3) = lay 1672 3) && decide (s0_init (67 * k + 4) = 0) && decide (s0_init (67 * k + 5) = 0) && decide (s0_init (67 * k + 6) = 0)) = true := by decide +kernel
theorem pile_init : PileR (fun _ => 1672) (fun _ => 0) (fun _ => 0) (fun _ => 0) (fun _ _ => 0) s0_init := by
  intro k hk
  have hm : k ∈ ([0, 1, 2, 3, 4] : List Nat) := by rcases (show k = 0 ∨ k = 1 ∨ k = 2 ∨ k = 3 ∨ k = 4 by omega) with rfl | rfl | rfl | rfl | rfl <;> decide
  have h := List.all_eq_true.mp s0_at k hm
  simp only [Bool.and_eq_true, decide_eq_true_eq] at h
  obtain ⟨⟨⟨⟨⟨⟨h0, h1⟩, h2⟩, h3⟩, h4⟩, h5⟩, h6⟩ := h
  refine ⟨flat_lie, fun p hp => ?_, ⟨0, by decide, rfl, h4, fun j hj => absurd hj (Nat.not_lt_zero _)⟩, ⟨0, by decide, rfl, h5⟩, h6⟩
  rcases (show p = 0 ∨ p = 1 ∨ p = 2 ∨ p = 3 by omega) with rfl | rfl | rfl | rfl
  · exact h0
  · exact h1
  · exact h2
  · exact h3
theorem rel_init : RelW (fun _ => 1672) (fun _ => 0) (fun _ => 0) (fun _ => 0) (fun _ _ => 0) (fun _ => 1672) (fun _ => 0) (fun _ => 0) (fun _ => 0) (fun _ _ => 0) (fun _ _ => 1672) (fun _ _ => 0) (fun _ _ => 0) (fun _ _ => 0) (fun _ _ _ => 0) 0 0 (fun _ => 0) (fun _ => 0) (fun _ => 0) (fun _ => 0) 0 0 0 0 0 s0_init (fun _ => 0) (fun _ => 0) (fun _ => 0) := by
  exact ⟨pile_init, ⟨0, by decide, rfl, rfl, fun q => absurd q (by decide)⟩, ⟨0, by decide, rfl, rfl, fun j hj => absurd hj (Nat.not_lt_zero _)⟩, ⟨0, by decide, rfl, rfl, fun j hj => absurd hj (Nat.not_lt_zero _)⟩, Or.inl ⟨rfl, fun _ _ => rfl⟩⟩
