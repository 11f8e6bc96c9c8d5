/-! the decoded code is the claim's -/
theorem mz_okS0_24 : ∀ k, k < 35 → mz_at 0 (1686 + k) = true := by decide +kernel
theorem mz_okS0_25 : ∀ k, k < 36 → mz_at 0 (1721 + k) = true := by decide +kernel
theorem mz_okS0_26 : ∀ k, k < 33 → mz_at 0 (1757 + k) = true := by decide +kernel
theorem mz_okS0_27 : ∀ k, k < 39 → mz_at 0 (1790 + k) = true := by decide +kernel
theorem mz_okS0_28 : ∀ k, k < 37 → mz_at 0 (1829 + k) = true := by decide +kernel
theorem mz_okS0_29 : ∀ k, k < 20 → mz_at 0 (1866 + k) = true := by decide +kernel
theorem mz_okG0 : ∀ m, m < 8 → mz_ok (1 + m) = true := by decide +kernel
theorem mz_okG1 : ∀ m, m < 10 → mz_ok (9 + m) = true := by decide +kernel
theorem mz_okG2 : ∀ m, m < 11 → mz_ok (19 + m) = true := by decide +kernel
theorem mz_okG3 : ∀ m, m < 7 → mz_ok (30 + m) = true := by decide +kernel
theorem mz_okG4 : ∀ m, m < 4 → mz_ok (37 + m) = true := by decide +kernel
theorem mz_okG5 : ∀ m, m < 11 → mz_ok (41 + m) = true := by decide +kernel
