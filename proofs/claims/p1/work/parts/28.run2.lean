/-! the runs of put and night, by script[1] -/
theorem mz_rput0 : mf (mz_x [33]) 3000 30 (mz_env (-2147483648) (-1)) [] 0 0 [(0, .float 0)] [] (mz_K1 [1264]) = true := by decide +kernel
theorem mz_rput1 : mf (mz_x [33]) 3000 30 (mz_env (0) (1)) [] 0 0 [(0, .float 0)] [] (mz_K1 [1264]) = true := by decide +kernel
theorem mz_rput2 : mf (mz_x [33]) 3000 30 (mz_env (2) (3)) [] 0 0 [(0, .float 0)] [] (mz_K1 [1264]) = true := by decide +kernel
theorem mz_rput3 : mf (mz_x [33]) 3000 30 (mz_env (4) (5)) [] 0 0 [(0, .float 0)] [] (mz_K1 [1264]) = true := by decide +kernel
theorem mz_rput4 : mf (mz_x [33]) 3000 30 (mz_env (6) (2147483647)) [] 0 0 [(0, .float 0)] [] (mz_K1 [1264]) = true := by decide +kernel
theorem mz_rnight0 : mf (mz_x [33]) 3000 30 (mz_env (-2147483648) (-1)) [] 0 0 [(0, .float 0)] [] (mz_K1 [1656]) = true := by decide +kernel
theorem mz_rnight1 : mf (mz_x [33]) 3000 30 (mz_env (0) (0)) [] 0 0 [(0, .float 0)] [] (mz_K1 [1656]) = true := by decide +kernel
theorem mz_rnight2 : mf (mz_x [33]) 3000 30 (mz_env (1) (1)) [] 0 0 [(0, .float 0)] [] (mz_K1 [1656]) = true := by decide +kernel
theorem mz_rnight3 : mf (mz_x [33]) 3000 30 (mz_env (2) (2)) [] 0 0 [(0, .float 0)] [] (mz_K1 [1656]) = true := by decide +kernel
theorem mz_rnight4 : mf (mz_x [33]) 3000 30 (mz_env (3) (3)) [] 0 0 [(0, .float 0)] [] (mz_K1 [1656]) = true := by decide +kernel
theorem mz_rnight5 : mf (mz_x [33]) 3000 30 (mz_env (4) (2147483647)) [] 0 0 [(0, .float 0)] [] (mz_K1 [1656]) = true := by decide +kernel
