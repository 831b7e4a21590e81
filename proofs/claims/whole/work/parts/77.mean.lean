/-! ===== the mean and its bits ===== -/
set_option maxRecDepth 100000 in
theorem mean_bits : ∀ n, n < 1177 → n64b (FP.ddiv (FP.i2d (nI n)) 4611686018427387904) = true ∧ fX8_bitsOfHalf (nI n) = some (FP.ddiv (FP.i2d (nI n)) 4611686018427387904).toInt64 := by decide +kernel
