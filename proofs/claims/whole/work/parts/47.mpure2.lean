/-! ===== pure: sums of weight 12, squares by longs ===== -/
set_option maxRecDepth 100000 in
theorem inv691 : invM 691 = 246021 := by unfold invM; decide +kernel
theorem smc_pos : ∀ k, (k = 4 ∨ k = 6 ∨ k = 8 ∨ k = 10 ∨ k = 12 ∨ k = 14) → 0 < smc k ∧ smc k < 1000003 := by
  rintro k (rfl | rfl | rfl | rfl | rfl | rfl) <;> (unfold smc; simp only [inv691]; decide)
theorem smc_12 : smc 12 = 65520 * invM 691 % 1000003 := rfl
