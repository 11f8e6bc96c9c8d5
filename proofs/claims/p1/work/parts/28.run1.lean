/-! the runs, by the kernel -/
theorem mz_ra : mf (mz_x [33]) 3000 30 (mz_env (-2147483648) (2147483647)) [] 0 0 [(0, .float 0)] [] (mz_K1 [172, 209, 282, 319, 380, 429, 1906]) = true := by decide +kernel
theorem mz_rb : mf (mz_x [33]) 3000 30 (mz_env (-2147483648) (2147483647)) [] 0 0 [(0, .float 0)] [] (mz_K1 [641]) = true := by decide +kernel
theorem mz_rc : mf (mz_x [33]) 3000 30 (mz_env (-2147483648) (2147483647)) [] 0 0 [(0, .float 0)] [] (mz_K1 [746, 795, 856, 893]) = true := by decide +kernel
theorem mz_rd : mf (mz_x [33]) 3000 30 (mz_env (-2147483648) (2147483647)) [] 0 0 [(0, .float 0)] [] (mz_K1 [930, 1003, 1104, 1177]) = true := by decide +kernel
theorem mz_re : mf (mz_x [33]) 3000 30 (mz_env (-2147483648) (2147483647)) [] 0 0 [(0, .float 0)] [] (mz_K1 [1337, 1410, 1471, 1558]) = true := by decide +kernel
theorem mz_rf : mf (mz_x [33]) 3000 30 (mz_env (-2147483648) (2147483647)) [] 0 0 [(0, .float 0)] [] (mz_K1 [1595]) = true := by decide +kernel
theorem mz_rh : mf (mz_x [33]) 3000 30 (mz_env (-2147483648) (2147483647)) [] 0 0 [(0, .float 0)] [] (mz_K1 [1681, 1718, 1767]) = true := by decide +kernel
theorem mz_ri : mf (mz_x [33]) 3000 30 (mz_env (-2147483648) (2147483647)) [] 0 0 [(0, .float 0)] [] (mz_K1 [1881]) = true := by decide +kernel
theorem mz_rj : mf (mz_x [33]) 3000 30 (mz_env (-2147483648) (2147483647)) [] 0 0 [(0, .float 0)] [] (mz_K1 [1828]) = true := by decide +kernel
theorem mz_r8 : mf (mz_x [33]) 3000 30 (mz_env (-2147483648) 2147483647) [] 0 0 [(0, .float 0)] [] mz_K8 = true := by decide +kernel
theorem mz_r6 : mf (mz_x [33]) 3000 30 (mz_env (-2147483648) 2147483647) [] 0 0 [(0, .float 0)] [] mz_K6 = true := by decide +kernel
