/-! sayings of the reference: the ways that were found -/
section MPX
def Wys (h : my_H) : Prop := ∀ n : Int, 0 ≤ n → n < h 151 48 → (h 190 n = 1 → 0 ≤ h 191 n ∧ 0 ≤ h 192 n ∧ 0 ≤ h 193 n ∧ 0 ≤ h 194 n) ∧ (2 ≤ h 190 n → 0 ≤ h 191 n ∧ 0 ≤ h 192 n)
theorem wis_190 : my_is 89 190 := by unfold my_is; decide +kernel
theorem wis_191 : my_is 90 191 := by unfold my_is; decide +kernel
theorem wis_192 : my_is 91 192 := by unfold my_is; decide +kernel
theorem wis_193 : my_is 92 193 := by unfold my_is; decide +kernel
theorem wis_194 : my_is 93 194 := by unfold my_is; decide +kernel
theorem Wys_ag {h h' : my_H} (g : my_ag [(10, 48), (89, -1), (90, -1), (91, -1), (92, -1), (93, -1)] h h') (p : Wys h) : Wys h' := by
  intro n a b
  rw [g.at (j := 48) pis_151 rfl] at b
  rw [g.at wis_190 rfl, g.at wis_191 rfl, g.at wis_192 rfl, g.at wis_193 rfl, g.at wis_194 rfl]
  exact p n a b
/-- one way more -/
theorem Wys_add {h h1 h2 h3 h4 h5 h6 : my_H} {n k w y c v m : Int} (p : Wys h) (e0 : n = h 151 48) (e1 : h1 = my_up h 190 n k) (e2 : h2 = my_up h1 191 n w) (e3 : h3 = my_up h2 192 n y) (e4 : h4 = my_up h3 193 n c) (e5 : h5 = my_up h4 194 n v) (e6 : h6 = my_up h5 151 48 m) (em : m = n + 1) (k1 : k = 1 → 0 ≤ w ∧ 0 ≤ y ∧ 0 ≤ c ∧ 0 ≤ v) (k2 : 2 ≤ k → 0 ≤ w ∧ 0 ≤ y) : Wys h6 := by
  subst e1 e2 e3 e4 e5 e6
  intro i a b
  simp only [my_up, true_and, and_true, and_self, if_true] at b ⊢
  by_cases hi : i = n
  · subst hi
    simp only [if_true] 
    repeat (first | rw [if_neg (by omega)] | rw [if_pos (by omega)])
    exact ⟨k1, k2⟩
  · have q := p i a (by omega)
    repeat (first | rw [if_neg (by omega)] | rw [if_pos (by omega)])
    exact q
end MPX
