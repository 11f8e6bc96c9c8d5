/-! rules: longs, exactly where they stay within bounds -/
section MPT
variable {l : Launch} {rho : Nat → Int32} {d m pc : Nat} {ls : List my_V} {r : List my_V} {h : my_H} {Q : my_H → my_V → Prop} {a b w : Nat}
theorem my_jE {x : Int} (h1 : -9223372036854775808 ≤ x) (h2 : x ≤ 9223372036854775807) : (Int64.ofInt x).toInt = x := my_toInt64 ⟨h1, h2⟩
theorem w_laddE {x y : Int} (hpg : mz_pg m pc = some (.ladd, a, b, w)) (k : ∀ z : Int, my_in (1, z) → (-9223372036854775808 ≤ x + y → x + y ≤ 9223372036854775807 → z = x + y) → wp l rho d m (pc + 1) ls ((1, z) :: r) h Q) : wp l rho d m pc ls ((1, y) :: (1, x) :: r) h Q := by
  have hf := my_fullJ (Int64.ofInt x + Int64.ofInt y)
  refine w_st hpg (st' := (1, (Int64.ofInt x + Int64.ofInt y).toInt) :: r) (fun a2 => ⟨a2.c.2.c.2.p hf, fun L => ?_⟩) (k _ hf (fun h1 h2 => ?_))
  · show (mx_b2L .ladd (((1, y) :: (1, x) :: r : List my_V).map my_val)).map (fun q => (L, q)) = _
    exact my_b2L (by simp only [mx_arL, Int64.ofInt_toInt])
  · rw [← Int64.ofInt_add]; exact my_jE h1 h2
theorem w_lsubE {x y : Int} (hpg : mz_pg m pc = some (.lsub, a, b, w)) (k : ∀ z : Int, my_in (1, z) → (-9223372036854775808 ≤ x - y → x - y ≤ 9223372036854775807 → z = x - y) → wp l rho d m (pc + 1) ls ((1, z) :: r) h Q) : wp l rho d m pc ls ((1, y) :: (1, x) :: r) h Q := by
  have hf := my_fullJ (Int64.ofInt x - Int64.ofInt y)
  refine w_st hpg (st' := (1, (Int64.ofInt x - Int64.ofInt y).toInt) :: r) (fun a2 => ⟨a2.c.2.c.2.p hf, fun L => ?_⟩) (k _ hf (fun h1 h2 => ?_))
  · show (mx_b2L .lsub (((1, y) :: (1, x) :: r : List my_V).map my_val)).map (fun q => (L, q)) = _
    exact my_b2L (by simp only [mx_arL, Int64.ofInt_toInt])
  · rw [← Int64.ofInt_sub]; exact my_jE h1 h2
theorem w_lmulE {x y : Int} (hpg : mz_pg m pc = some (.lmul, a, b, w)) (k : ∀ z : Int, my_in (1, z) → (-9223372036854775808 ≤ x * y → x * y ≤ 9223372036854775807 → z = x * y) → wp l rho d m (pc + 1) ls ((1, z) :: r) h Q) : wp l rho d m pc ls ((1, y) :: (1, x) :: r) h Q := by
  have hf := my_fullJ (Int64.ofInt x * Int64.ofInt y)
  refine w_st hpg (st' := (1, (Int64.ofInt x * Int64.ofInt y).toInt) :: r) (fun a2 => ⟨a2.c.2.c.2.p hf, fun L => ?_⟩) (k _ hf (fun h1 h2 => ?_))
  · show (mx_b2L .lmul (((1, y) :: (1, x) :: r : List my_V).map my_val)).map (fun q => (L, q)) = _
    exact my_b2L (by simp only [mx_arL, Int64.ofInt_toInt])
  · rw [← Int64.ofInt_mul]; exact my_jE h1 h2
end MPT
