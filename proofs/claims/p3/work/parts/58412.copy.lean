/-! cells that are copied into a view -/
section ZQQ
def CcI (h g : my_H) (v r f t c : Int) : Prop := (∀ i : Int, 0 ≤ i → i < c → g (v + 1) (t + i) = h (r + 1) (f + i)) ∧ ∀ j : Int, ¬ (t ≤ j ∧ j < t + c) → ¬ (t + 8 ≤ j ∧ j < t + 8 + c) → g (v + 1) j = h (v + 1) j
theorem CcI_0 {h : my_H} {v r f t : Int} : CcI h h v r f t 0 := ⟨fun i a b => by omega, fun j _ _ => rfl⟩
theorem CcI_s {h g g1 g2 : my_H} {v r f t c a b k : Int} (p : CcI h g v r f t c) (c0 : 0 ≤ c) (c8 : c < 8) (e1 : g1 = my_up g (v + 1) (t + c) a) (ea : a = h (r + 1) (f + c)) (e2 : g2 = my_up g1 (v + 1) k b) (hk : k = t + 8 + c) : CcI h g2 v r f t (c + 1) := by
  obtain ⟨p1, p2⟩ := p
  refine ⟨fun i i0 i1 => ?_, fun j y z => ?_⟩
  · by_cases q : i = c
    · subst q
      rw [my_up_ne (x := v + 1) (i := t + i) e2 (by omega), my_up_self e1, ea]
    · rw [my_up_ne e2 (by omega), my_up_ne e1 (by omega)]
      exact p1 i i0 (by omega)
  · rw [my_up_ne e2 (by omega), my_up_ne e1 (by omega)]
    exact p2 j (by omega) (by omega)
end ZQQ
