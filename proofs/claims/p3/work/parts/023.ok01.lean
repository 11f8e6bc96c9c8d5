/-! the decoded code is the claim's -/
theorem mz_okS0_12 : ∀ k, k < 49 → mz_at 0 (1180 + k) = true := by decide +kernel
theorem mz_okS0_13 : ∀ k, k < 48 → mz_at 0 (1229 + k) = true := by decide +kernel
theorem mz_okS0_14 : ∀ k, k < 45 → mz_at 0 (1277 + k) = true := by decide +kernel
theorem mz_okS0_15 : ∀ k, k < 42 → mz_at 0 (1322 + k) = true := by decide +kernel
theorem mz_okS0_16 : ∀ k, k < 43 → mz_at 0 (1364 + k) = true := by decide +kernel
theorem mz_okS0_17 : ∀ k, k < 43 → mz_at 0 (1407 + k) = true := by decide +kernel
theorem mz_okS0_18 : ∀ k, k < 40 → mz_at 0 (1450 + k) = true := by decide +kernel
theorem mz_okS0_19 : ∀ k, k < 41 → mz_at 0 (1490 + k) = true := by decide +kernel
theorem mz_okS0_20 : ∀ k, k < 41 → mz_at 0 (1531 + k) = true := by decide +kernel
theorem mz_okS0_21 : ∀ k, k < 36 → mz_at 0 (1572 + k) = true := by decide +kernel
theorem mz_okS0_22 : ∀ k, k < 38 → mz_at 0 (1608 + k) = true := by decide +kernel
theorem mz_okS0_23 : ∀ k, k < 40 → mz_at 0 (1646 + k) = true := by decide +kernel
