/-! the decoded code is the claim's -/
theorem mz_okS0_12 : ∀ k, k < 48 → mz_at 0 (1187 + k) = true := by decide +kernel
theorem mz_okS0_13 : ∀ k, k < 47 → mz_at 0 (1235 + k) = true := by decide +kernel
theorem mz_okS0_14 : ∀ k, k < 44 → mz_at 0 (1282 + k) = true := by decide +kernel
theorem mz_okS0_15 : ∀ k, k < 45 → mz_at 0 (1326 + k) = true := by decide +kernel
theorem mz_okS0_16 : ∀ k, k < 43 → mz_at 0 (1371 + k) = true := by decide +kernel
theorem mz_okS0_17 : ∀ k, k < 40 → mz_at 0 (1414 + k) = true := by decide +kernel
theorem mz_okS0_18 : ∀ k, k < 40 → mz_at 0 (1454 + k) = true := by decide +kernel
theorem mz_okS0_19 : ∀ k, k < 38 → mz_at 0 (1494 + k) = true := by decide +kernel
theorem mz_okS0_20 : ∀ k, k < 42 → mz_at 0 (1532 + k) = true := by decide +kernel
theorem mz_okS0_21 : ∀ k, k < 38 → mz_at 0 (1574 + k) = true := by decide +kernel
theorem mz_okS0_22 : ∀ k, k < 35 → mz_at 0 (1612 + k) = true := by decide +kernel
theorem mz_okS0_23 : ∀ k, k < 41 → mz_at 0 (1647 + k) = true := by decide +kernel
