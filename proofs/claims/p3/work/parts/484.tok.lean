/-! rules: longs, exactly; sayings of the reference: tokens -/
section MPL
variable {l : Launch} {rho : Nat → Int32} {d m pc : Nat} {ls : List my_V} {r : List my_V} {h : my_H} {Q : my_H → my_V → Prop} {a b w : Nat}
theorem my_toInt64 {x : Int} (h : my_in (1, x)) : (Int64.ofInt x).toInt = x := by
  obtain ⟨h1, h2⟩ := h
  exact Int64.toInt_ofInt_of_le (by omega) (by omega)
theorem w_l2iE {x : Int} (hpg : mz_pg m pc = some (.l2i, a, b, w)) (k : ∀ z : Int, -2147483648 ≤ z → z ≤ 2147483647 → (-2147483648 ≤ x → x ≤ 2147483647 → z = x) → wp l rho d m (pc + 1) ls ((0, z) :: r) h Q) : wp l rho d m pc ls ((1, x) :: r) h Q := by
  intro a1 a2
  have hx := my_toInt64 a2.c.1
  refine w_st (st' := (0, (Int64.ofInt x).toInt32.toInt) :: r) hpg (fun a2 => ⟨a2.c.2.p (my_fullI _), fun L => by simp only [mx_s1, List.map_cons, my_val, Int32.ofInt_toInt]⟩) (k _ (my_full1 _) (my_full2 _) (fun h1 h2 => ?_)) a1 a2
  rw [Int64.toInt_toInt32, hx, Int.bmod_eq_of_le (by omega) (by omega)]
theorem my_lcmpE {x y : Int} (hx : my_in (1, x)) (hy : my_in (1, y)) : (x < y → (lg_cmp (Int64.ofInt x) (Int64.ofInt y)).toInt = -1) ∧ (x = y → (lg_cmp (Int64.ofInt x) (Int64.ofInt y)).toInt = 0) ∧ (y < x → (lg_cmp (Int64.ofInt x) (Int64.ofInt y)).toInt = 1) := by
  have ex := my_toInt64 hx
  have ey := my_toInt64 hy
  have hlt : (Int64.ofInt x < Int64.ofInt y) ↔ x < y := by rw [Int64.lt_iff_toInt_lt, ex, ey]
  have hgt : (Int64.ofInt y < Int64.ofInt x) ↔ y < x := by rw [Int64.lt_iff_toInt_lt, ex, ey]
  have heq : (Int64.ofInt x = Int64.ofInt y) ↔ x = y := by rw [← Int64.toInt_inj, ex, ey]
  refine ⟨fun q => ?_, fun q => ?_, fun q => ?_⟩
  · have h1 := hlt.mpr q
    have h2 : ¬ Int64.ofInt x = Int64.ofInt y := fun e => by have := heq.mp e; omega
    have h3 : ¬ Int64.ofInt y < Int64.ofInt x := fun e => by have := hgt.mp e; omega
    unfold lg_cmp
    simp [h2, h3]
    try decide
  · subst q
    unfold lg_cmp
    simp
  · have h1 : ¬ Int64.ofInt x < Int64.ofInt y := fun e => by have := hlt.mp e; omega
    have h2 : ¬ Int64.ofInt x = Int64.ofInt y := fun e => by have := heq.mp e; omega
    have h3 := hgt.mpr q
    unfold lg_cmp
    simp [h2, h3]
    try decide
theorem w_lcmpE {x y : Int} (hpg : mz_pg m pc = some (.lcmp, a, b, w)) (k : ∀ z : Int, -1 ≤ z → z ≤ 1 → (x < y → z = -1) ∧ (x = y → z = 0) ∧ (y < x → z = 1) → wp l rho d m (pc + 1) ls ((0, z) :: r) h Q) : wp l rho d m pc ls ((1, y) :: (1, x) :: r) h Q := fun a1 a2 =>
  w_st (st' := (0, (lg_cmp (Int64.ofInt x) (Int64.ofInt y)).toInt) :: r) hpg (fun a2 => ⟨a2.c.2.c.2.p (my_fullI _), fun L => by simp only [mx_s1, List.map_cons, my_val, Int32.ofInt_toInt]⟩) (k _ (my_lcmp _ _).1 (my_lcmp _ _).2 (my_lcmpE a2.c.2.c.1 a2.c.1)) a1 a2
end MPL
section MPM
def Tok (h : my_H) : Prop := ∃ n : Int, 0 ≤ n ∧ n ≤ 1000 ∧ 0 ≤ h 151 7 ∧ h 151 7 ≤ n ∧ h 153 n = 0 ∧ ∀ i : Int, 0 ≤ i → i < n → h 153 i ≠ 0 ∧ (h 153 i = 2 → 0 ≤ h 155 i ∧ h 155 i ≤ 999)
theorem pis_151 : my_is 10 151 := by unfold my_is; decide +kernel
theorem pis_153 : my_is 52 153 := by unfold my_is; decide +kernel
theorem pis_155 : my_is 54 155 := by unfold my_is; decide +kernel
theorem Tok_ag {h h' : my_H} (g : my_ag [(10, 7), (52, -1), (54, -1)] h h') (p : Tok h) : Tok h' := by
  have e1 : h' 151 7 = h 151 7 := g.at pis_151 rfl
  have e2 : ∀ j : Int, h' 153 j = h 153 j := fun j => g.at pis_153 rfl
  have e3 : ∀ j : Int, h' 155 j = h 155 j := fun j => g.at pis_155 rfl
  obtain ⟨n, q1, q2, q3, q4, q5, q6⟩ := p
  refine ⟨n, q1, q2, by omega, by omega, by rw [e2]; exact q5, fun i a b => ?_⟩
  rw [e2, e3]
  exact q6 i a b
theorem Tok_at {h : my_H} (p : Tok h) : 0 ≤ h 151 7 ∧ h 151 7 ≤ 1000 ∧ (h 153 (h 151 7) ≠ 0 → h 151 7 ≤ 999) ∧ (h 153 (h 151 7) = 2 → 0 ≤ h 155 (h 151 7) ∧ h 155 (h 151 7) ≤ 999) := by
  obtain ⟨n, q1, q2, q3, q4, q5, q6⟩ := p
  refine ⟨q3, by omega, fun hn => ?_, fun h2 => ?_⟩
  · by_cases e : h 151 7 = n
    · rw [e] at hn; exact absurd q5 hn
    · omega
  · by_cases e : h 151 7 = n
    · rw [e, q5] at h2; exact absurd h2 (by decide)
    · exact (q6 _ q3 (by omega)).2 h2
theorem Tok_inc {h h' : my_H} {v : Int} (p : Tok h) (hn : h 153 (h 151 7) ≠ 0) (hv : v = h 151 7 + 1) (e : h' = my_up h 151 7 v) : Tok h' := by
  have e1 : h' 151 7 = v := my_up_self e
  have e2 : ∀ j : Int, h' 153 j = h 153 j := fun j => my_up_ne e (by omega)
  have e3 : ∀ j : Int, h' 155 j = h 155 j := fun j => my_up_ne e (by omega)
  obtain ⟨n, q1, q2, q3, q4, q5, q6⟩ := p
  refine ⟨n, q1, q2, by omega, ?_, by rw [e2]; exact q5, fun i a b => ?_⟩
  · have : h 151 7 ≠ n := fun q => hn (by rw [q]; exact q5)
    omega
  · rw [e2, e3]
    exact q6 i a b
end MPM
section MPO
theorem Tok_set {h h' : my_H} {v : Int} (p : Tok h) (hv : v = h 151 7) (e : h' = my_up h 151 7 v) : Tok h' := by
  have e1 : h' 151 7 = v := my_up_self e
  have e2 : ∀ j : Int, h' 153 j = h 153 j := fun j => my_up_ne e (by omega)
  have e3 : ∀ j : Int, h' 155 j = h 155 j := fun j => my_up_ne e (by omega)
  obtain ⟨n, q1, q2, q3, q4, q5, q6⟩ := p
  refine ⟨n, q1, q2, by omega, by omega, by rw [e2]; exact q5, fun i a b => ?_⟩
  rw [e2, e3]
  exact q6 i a b
/-- the tokens as far as they are cut -/
def Tkn (h : my_H) (n : Int) : Prop := ∀ i : Int, 0 ≤ i → i < n → h 153 i ≠ 0 ∧ (h 153 i = 2 → 0 ≤ h 155 i ∧ h 155 i ≤ 999)
theorem Tkn_ag {h h' : my_H} {n : Int} (g : my_ag [(52, -1), (54, -1)] h h') (p : Tkn h n) : Tkn h' n := by
  intro i a b
  rw [g.at pis_153 rfl, g.at pis_155 rfl]
  exact p i a b
end MPO
