
theorem lowE : ∀ B, B < 7 → 0 < B → ∀ A, A < 121 → k_X6_lowest (nI A) (nI B) 0 = k_X7_lowest (nI A) (nI B) 0 ∧ (k_X6_lowest (nI A) (nI B) 0).isSome = true := by decide +kernel
theorem lowE1 : ∀ B, B < 7 → 0 < B → ∀ A, A < 121 → k_X6_lowest (nI A) (nI B) 1 = k_X7_lowest (nI A) (nI B) 1 ∧ (k_X6_lowest (nI A) (nI B) 1).isSome = true := by decide +kernel
