/-! the reference: two states are alike; the class: two walls are the same -/
section ZTR
def AkJ (h : my_H) (s t k : Int) : Prop := ∀ j : Int, 0 ≤ j → j < 4 * k → zqMS h t j = zqMS h s j
def AkK (h : my_H) (s t k c : Int) : Prop := h 162 (60 * t + k) = h 162 (60 * s + k) ∧ (h 162 (60 * s + k) = 1 → ∀ d : Int, 0 ≤ d → d < c → h 163 (4 * (60 * t + k) + d) = h 163 (4 * (60 * s + k) + d))
section
variable {h : my_H} {s t k c : Int}
theorem AkJ_0 : AkJ h s t 0 := fun j a b => absurd b (by omega)
theorem AkK_0 (e : h 162 (60 * t + k) = h 162 (60 * s + k)) : AkK h s t k 0 := ⟨e, fun _ d a b => absurd b (by omega)⟩
theorem AkK_s (p : AkK h s t k c) (e : h 163 (4 * (60 * s + k) + c) = h 163 (4 * (60 * t + k) + c)) : AkK h s t k (c + 1) := ⟨p.1, fun q d a b => by
  by_cases z : d = c
  · rw [z]; exact e.symm
  · exact p.2 q d a (by omega)⟩
theorem AkJ_s (k0 : 0 ≤ k) (p : AkJ h s t k) (q : AkK h s t k c) (r : 4 ≤ c ∨ h 162 (60 * s + k) ≠ 1) : AkJ h s t (k + 1) := fun j a b => by
  by_cases z : j < 4 * k
  · exact p j a z
  · unfold zqMS
    rw [show j / 4 = k by omega, q.1]
    by_cases y : h 162 (60 * s + k) = 1
    · rw [if_pos y, if_pos y]
      have e := q.2 y (j - 4 * k) (by omega) (by omega)
      rw [show 4 * (60 * t + k) + (j - 4 * k) = 240 * t + j by omega, show 4 * (60 * s + k) + (j - 4 * k) = 240 * s + j by omega] at e
      exact e
    · rw [if_neg y, if_neg y]
theorem Ak_n1 (T : MTy h) (s0 : 0 ≤ s) (s15 : s ≤ 15) (t0 : 0 ≤ t) (t15 : t ≤ 15) (k0 : 0 ≤ k) (k59 : k < 60) (e : h 162 (60 * s + k) ≠ h 162 (60 * t + k)) : ¬ zqAg (zqMS h s) (zqMS h t) := fun z => by
  have q := z (4 * k) (by omega) (by omega)
  have a := T.2.1 (60 * s + k) (by omega) (by omega)
  have b := T.2.1 (60 * t + k) (by omega) (by omega)
  have c := T.1 (240 * s + 4 * k) (by omega) (by omega)
  have d := T.1 (240 * t + 4 * k) (by omega) (by omega)
  unfold zqMS at q
  rw [show 4 * k / 4 = k by omega] at q
  by_cases y : h 162 (60 * t + k) = 1
  · rw [if_pos y, if_neg (by omega), if_pos (by omega)] at q
    omega
  · rw [if_neg y, if_pos (by omega), if_pos (by omega)] at q
    omega
theorem Ak_n2 (k0 : 0 ≤ k) (k59 : k < 60) (c0 : 0 ≤ c) (c3 : c ≤ 3) (p : AkK h s t k c) (y : h 162 (60 * s + k) = 1) (e : h 163 (4 * (60 * s + k) + c) ≠ h 163 (4 * (60 * t + k) + c)) : ¬ zqAg (zqMS h s) (zqMS h t) := fun z => by
  have q := z (4 * k + c) (by omega) (by omega)
  unfold zqMS at q
  rw [show (4 * k + c) / 4 = k by omega, if_pos y, if_pos (p.1.trans y), show 240 * t + (4 * k + c) = 4 * (60 * t + k) + c by omega, show 240 * s + (4 * k + c) = 4 * (60 * s + k) + c by omega] at q
  exact e q.symm
theorem Ak_e (p : AkJ h s t 60) : zqAg (zqMS h s) (zqMS h t) := fun j a b => p j a (by omega)
end
end ZTR
