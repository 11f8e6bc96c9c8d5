/-! the decoded code is the claim's -/
theorem mz_okG6 : ∀ m, m < 10 → mz_ok (52 + m) = true := by decide +kernel
theorem mz_okG7 : ∀ m, m < 6 → mz_ok (62 + m) = true := by decide +kernel
theorem mz_okG8 : ∀ m, m < 8 → mz_ok (68 + m) = true := by decide +kernel
theorem mz_okG9 : ∀ m, m < 8 → mz_ok (76 + m) = true := by decide +kernel
theorem mz_okG10 : ∀ m, m < 11 → mz_ok (84 + m) = true := by decide +kernel
theorem mz_okG11 : ∀ m, m < 3 → mz_ok (95 + m) = true := by decide +kernel
theorem mz_okG12 : ∀ m, m < 4 → mz_ok (98 + m) = true := by decide +kernel
theorem mz_okG13 : ∀ m, m < 6 → mz_ok (102 + m) = true := by decide +kernel
theorem mz_okG14 : ∀ m, m < 6 → mz_ok (108 + m) = true := by decide +kernel
theorem mz_okG15 : ∀ m, m < 4 → mz_ok (114 + m) = true := by decide +kernel
theorem mz_okG16 : ∀ m, m < 4 → mz_ok (118 + m) = true := by decide +kernel
theorem mz_okG17 : ∀ m, m < 6 → mz_ok (122 + m) = true := by decide +kernel
