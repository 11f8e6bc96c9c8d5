/-! the decoded code is the claim's -/
theorem mz_okG37 : ∀ m, m < 4 → mz_ok (229 + m) = true := by decide +kernel
theorem mz_okG38 : ∀ m, m < 4 → mz_ok (233 + m) = true := by decide +kernel
theorem mz_okG39 : ∀ m, m < 4 → mz_ok (237 + m) = true := by decide +kernel
theorem mz_okG40 : ∀ m, m < 4 → mz_ok (241 + m) = true := by decide +kernel
theorem mz_okG41 : ∀ m, m < 3 → mz_ok (245 + m) = true := by decide +kernel
theorem mz_okG42 : ∀ m, m < 2 → mz_ok (248 + m) = true := by decide +kernel
