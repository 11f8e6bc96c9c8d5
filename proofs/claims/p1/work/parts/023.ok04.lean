/-! the decoded code is the claim's -/
theorem mz_okG17 : ∀ m, m < 6 → mz_ok (122 + m) = true := by decide +kernel
theorem mz_okG18 : ∀ m, m < 7 → mz_ok (128 + m) = true := by decide +kernel
theorem mz_okG19 : ∀ m, m < 11 → mz_ok (135 + m) = true := by decide +kernel
theorem mz_okS146_0 : ∀ k, k < 353 → mz_at 146 (0 + k) = true := by decide +kernel
theorem mz_okS146_1 : ∀ k, k < 170 → mz_at 146 (353 + k) = true := by decide +kernel
theorem mz_okS146_2 : ∀ k, k < 15 → mz_at 146 (523 + k) = true := by decide +kernel
theorem mz_okG20 : ∀ m, m < 9 → mz_ok (147 + m) = true := by decide +kernel
theorem mz_okG21 : ∀ m, m < 11 → mz_ok (156 + m) = true := by decide +kernel
theorem mz_okG22 : ∀ m, m < 3 → mz_ok (167 + m) = true := by decide +kernel
theorem mz_okG23 : ∀ m, m < 5 → mz_ok (170 + m) = true := by decide +kernel
theorem mz_okG24 : ∀ m, m < 8 → mz_ok (175 + m) = true := by decide +kernel
theorem mz_okG25 : ∀ m, m < 3 → mz_ok (183 + m) = true := by decide +kernel
