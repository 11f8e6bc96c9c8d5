/-! the decoded code is the claim's -/
theorem mz_okS0_0 : ∀ k, k < 343 → mz_at 0 (0 + k) = true := by decide +kernel
theorem mz_okS0_1 : ∀ k, k < 131 → mz_at 0 (343 + k) = true := by decide +kernel
theorem mz_okS0_2 : ∀ k, k < 109 → mz_at 0 (474 + k) = true := by decide +kernel
theorem mz_okS0_3 : ∀ k, k < 95 → mz_at 0 (583 + k) = true := by decide +kernel
theorem mz_okS0_4 : ∀ k, k < 81 → mz_at 0 (678 + k) = true := by decide +kernel
theorem mz_okS0_5 : ∀ k, k < 74 → mz_at 0 (759 + k) = true := by decide +kernel
theorem mz_okS0_6 : ∀ k, k < 70 → mz_at 0 (833 + k) = true := by decide +kernel
theorem mz_okS0_7 : ∀ k, k < 59 → mz_at 0 (903 + k) = true := by decide +kernel
theorem mz_okS0_8 : ∀ k, k < 61 → mz_at 0 (962 + k) = true := by decide +kernel
theorem mz_okS0_9 : ∀ k, k < 57 → mz_at 0 (1023 + k) = true := by decide +kernel
theorem mz_okS0_10 : ∀ k, k < 50 → mz_at 0 (1080 + k) = true := by decide +kernel
theorem mz_okS0_11 : ∀ k, k < 50 → mz_at 0 (1130 + k) = true := by decide +kernel
