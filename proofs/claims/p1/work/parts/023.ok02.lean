/-! the decoded code is the claim's -/
theorem mz_okS0_24 : ∀ k, k < 37 → mz_at 0 (1688 + k) = true := by decide +kernel
theorem mz_okS0_25 : ∀ k, k < 34 → mz_at 0 (1725 + k) = true := by decide +kernel
theorem mz_okS0_26 : ∀ k, k < 36 → mz_at 0 (1759 + k) = true := by decide +kernel
theorem mz_okS0_27 : ∀ k, k < 34 → mz_at 0 (1795 + k) = true := by decide +kernel
theorem mz_okS0_28 : ∀ k, k < 35 → mz_at 0 (1829 + k) = true := by decide +kernel
theorem mz_okS0_29 : ∀ k, k < 41 → mz_at 0 (1864 + k) = true := by decide +kernel
theorem mz_okS0_30 : ∀ k, k < 9 → mz_at 0 (1905 + k) = true := by decide +kernel
theorem mz_okG0 : ∀ m, m < 8 → mz_ok (1 + m) = true := by decide +kernel
theorem mz_okG1 : ∀ m, m < 10 → mz_ok (9 + m) = true := by decide +kernel
theorem mz_okG2 : ∀ m, m < 11 → mz_ok (19 + m) = true := by decide +kernel
theorem mz_okG3 : ∀ m, m < 7 → mz_ok (30 + m) = true := by decide +kernel
theorem mz_okG4 : ∀ m, m < 4 → mz_ok (37 + m) = true := by decide +kernel
