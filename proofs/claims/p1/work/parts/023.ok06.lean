/-! the decoded code is the claim's -/
theorem mz_okG36 : ∀ m, m < 4 → mz_ok (226 + m) = true := by decide +kernel
theorem mz_okG37 : ∀ m, m < 4 → mz_ok (230 + m) = true := by decide +kernel
theorem mz_okG38 : ∀ m, m < 4 → mz_ok (234 + m) = true := by decide +kernel
theorem mz_okG39 : ∀ m, m < 4 → mz_ok (238 + m) = true := by decide +kernel
theorem mz_okG40 : ∀ m, m < 4 → mz_ok (242 + m) = true := by decide +kernel
theorem mz_okG41 : ∀ m, m < 3 → mz_ok (246 + m) = true := by decide +kernel
theorem mz_okG42 : ∀ m, m < 2 → mz_ok (249 + m) = true := by decide +kernel
