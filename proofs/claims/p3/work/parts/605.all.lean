/-! ranges that the heap keeps, in the law's own walk -/
section MRD
theorem lw_all {p : Program} {l : Launch} {e : Env} {s : State} {m : MethodId} {below : List Frame} {meth : Method} {c : Code} {b : Nat} {D : va_G} {tys : List (ClassId × FieldType)} {sg : Nat → Nat} {rho : Nat → Int32} {pc : Nat} {ls st : List my_V} {h : my_H} {kn ρ κ n : Nat} {lo hi x : Int} (hx : my_is ρ x) (hD : my_rd ρ = .inl (κ, n, [(0, lo, hi)])) (k : (∀ j : Int, 0 ≤ j → j < n → lo ≤ h x j ∧ h x j ≤ hi) → lwp p l e s m below meth c b D tys sg rho pc ls st h kn) : lwp p l e s m below meth c b D tys sg rho pc ls st h kn := by
  intro a1 a2 L H Hh locs cells slots sl stk ws hFr hk b1 b2 b4 b5 hI
  refine k (fun j j0 jn => ?_) a1 a2 L H Hh locs cells slots sl stk ws hFr hk b1 b2 b4 b5 hI
  obtain ⟨dd, us, -, q⟩ := my_HR.arr b2 hx hD
  obtain ⟨-, q1⟩ := q j.toNat (0, lo, hi) (by omega) (by simp [Nat.mod_one])
  rw [Int.toNat_of_nonneg j0] at q1
  exact ⟨q1.1, q1.2.1⟩
end MRD
