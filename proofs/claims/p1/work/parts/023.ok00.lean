/-! the decoded code is the claim's -/
theorem mz_okS0_0 : ∀ k, k < 343 → mz_at 0 (0 + k) = true := by decide +kernel
theorem mz_okS0_1 : ∀ k, k < 132 → mz_at 0 (343 + k) = true := by decide +kernel
theorem mz_okS0_2 : ∀ k, k < 108 → mz_at 0 (475 + k) = true := by decide +kernel
theorem mz_okS0_3 : ∀ k, k < 95 → mz_at 0 (583 + k) = true := by decide +kernel
theorem mz_okS0_4 : ∀ k, k < 86 → mz_at 0 (678 + k) = true := by decide +kernel
theorem mz_okS0_5 : ∀ k, k < 72 → mz_at 0 (764 + k) = true := by decide +kernel
theorem mz_okS0_6 : ∀ k, k < 69 → mz_at 0 (836 + k) = true := by decide +kernel
theorem mz_okS0_7 : ∀ k, k < 64 → mz_at 0 (905 + k) = true := by decide +kernel
theorem mz_okS0_8 : ∀ k, k < 57 → mz_at 0 (969 + k) = true := by decide +kernel
theorem mz_okS0_9 : ∀ k, k < 55 → mz_at 0 (1026 + k) = true := by decide +kernel
theorem mz_okS0_10 : ∀ k, k < 54 → mz_at 0 (1081 + k) = true := by decide +kernel
theorem mz_okS0_11 : ∀ k, k < 52 → mz_at 0 (1135 + k) = true := by decide +kernel
