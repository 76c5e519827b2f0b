/-! ===== PURE: the tapes at the start ===== -/
theorem init_tp : RTp uX0 uM0 := by
  intro t ht
  have h : t = 0 ∨ t = 1 ∨ t = 2 ∨ t = 3 ∨ t = 4 ∨ t = 5 := by omega
  rcases h with rfl | rfl | rfl | rfl | rfl | rfl <;> exact Or.inl ⟨by decide +kernel, by decide +kernel, by decide +kernel, by decide +kernel⟩
