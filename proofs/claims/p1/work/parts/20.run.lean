/-! the law's run on a fresh object -/
section MZR
noncomputable def mz_x (ex : List Nat) : mf_P := fun m pc => bif Nat.beq m 0 && ex.any (fun x => Nat.beq x pc) then none else mz_pg m pc
def mz_env : mx_E := [(-2147483648, 2147483647), (-2147483648, 2147483647), (-2147483648, 2147483647), (-2147483648, 2147483647), (-2147483648, 2147483647), (-2147483648, 2147483647), (-2147483648, 2147483647), (-2147483648, 2147483647), (0, 8)]
noncomputable def mz_Kend : mf_K := fun _ _ pc _ st => match mz_pg 0 pc, st with
  | some (.ireturn, _), [.int x] => decide (x = 1)
  | _, _ => false
noncomputable def mz_K1 (ops : List Nat) : mf_K := fun env h pc ls st => bif Nat.beq pc 40 then ops.all (fun lb => mf mz_pg 20000 30 env h 0 lb ls [] mz_Kend) else mz_Kend env h pc ls st
theorem mz_tre : mf (mz_x [40]) 3000 30 mz_env [] 0 0 [(0, .float 0)] [] (mz_K1 [1264]) = true := by decide +kernel
theorem mz_tre2 : mf (mz_x [40]) 3000 30 mz_env [] 0 0 [(0, .float 0)] [] (mz_K1 [1337, 1410, 1471, 1558]) = true := by decide +kernel
theorem mz_trf : mf (mz_x [40]) 3000 30 mz_env [] 0 0 [(0, .float 0)] [] (mz_K1 [1595]) = true := by decide +kernel
theorem mz_trg : mf (mz_x [40]) 3000 30 mz_env [] 0 0 [(0, .float 0)] [] (mz_K1 [1656]) = true := by decide +kernel
theorem mz_tri : mf (mz_x [40]) 3000 30 mz_env [] 0 0 [(0, .float 0)] [] (mz_K1 [1881]) = true := by decide +kernel
theorem mz_trj : mf (mz_x [40]) 3000 30 mz_env [] 0 0 [(0, .float 0)] [] (mz_K1 [1828]) = true := by decide +kernel
end MZR
