/-! the decoded code is the claim's -/
theorem mz_okG27 : ∀ m, m < 3 → mz_ok (188 + m) = true := by decide +kernel
theorem mz_okG28 : ∀ m, m < 4 → mz_ok (191 + m) = true := by decide +kernel
theorem mz_okG29 : ∀ m, m < 1 → mz_ok (195 + m) = true := by decide +kernel
theorem mz_okS196_0 : ∀ k, k < 329 → mz_at 196 (0 + k) = true := by decide +kernel
theorem mz_okS196_1 : ∀ k, k < 33 → mz_at 196 (329 + k) = true := by decide +kernel
theorem mz_okG30 : ∀ m, m < 4 → mz_ok (197 + m) = true := by decide +kernel
theorem mz_okG31 : ∀ m, m < 7 → mz_ok (201 + m) = true := by decide +kernel
theorem mz_okG32 : ∀ m, m < 2 → mz_ok (208 + m) = true := by decide +kernel
theorem mz_okG33 : ∀ m, m < 5 → mz_ok (210 + m) = true := by decide +kernel
theorem mz_okG34 : ∀ m, m < 7 → mz_ok (215 + m) = true := by decide +kernel
theorem mz_okG35 : ∀ m, m < 3 → mz_ok (222 + m) = true := by decide +kernel
theorem mz_okG36 : ∀ m, m < 4 → mz_ok (225 + m) = true := by decide +kernel
