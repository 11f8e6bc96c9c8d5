/-! the decoded code is the claim's -/
theorem mz_okG18 : ∀ m, m < 7 → mz_ok (128 + m) = true := by decide +kernel
theorem mz_okG19 : ∀ m, m < 10 → mz_ok (135 + m) = true := by decide +kernel
theorem mz_okS145_0 : ∀ k, k < 353 → mz_at 145 (0 + k) = true := by decide +kernel
theorem mz_okS145_1 : ∀ k, k < 170 → mz_at 145 (353 + k) = true := by decide +kernel
theorem mz_okS145_2 : ∀ k, k < 15 → mz_at 145 (523 + k) = true := by decide +kernel
theorem mz_okG20 : ∀ m, m < 9 → mz_ok (146 + m) = true := by decide +kernel
theorem mz_okG21 : ∀ m, m < 11 → mz_ok (155 + m) = true := by decide +kernel
theorem mz_okG22 : ∀ m, m < 3 → mz_ok (166 + m) = true := by decide +kernel
theorem mz_okG23 : ∀ m, m < 5 → mz_ok (169 + m) = true := by decide +kernel
theorem mz_okG24 : ∀ m, m < 8 → mz_ok (174 + m) = true := by decide +kernel
theorem mz_okG25 : ∀ m, m < 3 → mz_ok (182 + m) = true := by decide +kernel
theorem mz_okG26 : ∀ m, m < 3 → mz_ok (185 + m) = true := by decide +kernel
