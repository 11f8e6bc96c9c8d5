/-! the decoded code is the claim's -/
theorem mz_okG26 : ∀ m, m < 3 → mz_ok (186 + m) = true := by decide +kernel
theorem mz_okG27 : ∀ m, m < 3 → mz_ok (189 + m) = true := by decide +kernel
theorem mz_okG28 : ∀ m, m < 4 → mz_ok (192 + m) = true := by decide +kernel
theorem mz_okG29 : ∀ m, m < 1 → mz_ok (196 + m) = true := by decide +kernel
theorem mz_okS197_0 : ∀ k, k < 329 → mz_at 197 (0 + k) = true := by decide +kernel
theorem mz_okS197_1 : ∀ k, k < 33 → mz_at 197 (329 + k) = true := by decide +kernel
theorem mz_okG30 : ∀ m, m < 4 → mz_ok (198 + m) = true := by decide +kernel
theorem mz_okG31 : ∀ m, m < 7 → mz_ok (202 + m) = true := by decide +kernel
theorem mz_okG32 : ∀ m, m < 2 → mz_ok (209 + m) = true := by decide +kernel
theorem mz_okG33 : ∀ m, m < 5 → mz_ok (211 + m) = true := by decide +kernel
theorem mz_okG34 : ∀ m, m < 7 → mz_ok (216 + m) = true := by decide +kernel
theorem mz_okG35 : ∀ m, m < 3 → mz_ok (223 + m) = true := by decide +kernel
