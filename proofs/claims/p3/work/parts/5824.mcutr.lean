/-! the reference's cut: its loop over the three words -/
section MTQ
def cuA (h g : my_H) : Prop := (g 151 8 = 0 → g 151 7 = sN (sm h) (h 151 7) ∧ sK (sm h) (h 151 7) = 2 ∧ sV (sm h) (h 151 7) < h 151 27) ∧ (g 151 8 ≠ 0 → (sK (sm h) (h 151 7) ≠ 2 ∧ g 151 8 = 1 + 16 * sP (sm h) (h 151 7)) ∨ (sK (sm h) (h 151 7) = 2 ∧ h 151 27 ≤ sV (sm h) (h 151 7) ∧ g 151 8 = 4 + 16 * sP (sm h) (h 151 7)))
def cuB (h g : my_H) (k j : Int) : Prop := g 151 8 = 0 → (k = -1 ∧ (0 < j → sW (sm h) (g 151 7) ≠ 615403) ∧ (1 < j → sW (sm h) (g 151 7) ≠ 352) ∧ (2 < j → sW (sm h) (g 151 7) ≠ 679695)) ∨ (0 ≤ k ∧ (sW (sm h) (g 151 7) = 615403 ∨ sW (sm h) (g 151 7) = 352 ∨ sW (sm h) (g 151 7) = 679695))
theorem cuA_0 {h g : my_H} (z : g 151 8 = 0) (e : g 151 7 = sN (sm h) (h 151 7)) (k : sK (sm h) (h 151 7) = 2) (v : sV (sm h) (h 151 7) < h 151 27) : cuA h g := ⟨fun _ => ⟨e, k, v⟩, fun q => absurd z q⟩
theorem cuA_f {h g : my_H} (z : g 151 8 ≠ 0) (p : (sK (sm h) (h 151 7) ≠ 2 ∧ g 151 8 = 1 + 16 * sP (sm h) (h 151 7)) ∨ (sK (sm h) (h 151 7) = 2 ∧ h 151 27 ≤ sV (sm h) (h 151 7) ∧ g 151 8 = 4 + 16 * sP (sm h) (h 151 7))) : cuA h g := ⟨fun q => absurd q z, fun _ => p⟩
theorem cuB_0 {h g : my_H} {k j : Int} (hk : k = -1) (hj : j = 0) : cuB h g k j := fun _ => Or.inl ⟨hk, fun q => by omega, fun q => by omega, fun q => by omega⟩
theorem cuB_y {h g : my_H} {k j j' : Int} (h0 : 0 ≤ j) (h2 : j ≤ 2) (hk : k = j) (hj : j' = j + 1) (w : sW (sm h) (g 151 7) = wm (4 + j)) : cuB h g k j' := by
  intro _
  have q := wm_cut h0 h2
  exact Or.inr ⟨by omega, by omega⟩
theorem cuB_n {h g : my_H} {k j j' : Int} (p : cuB h g k j) (h0 : 0 ≤ j) (h2 : j ≤ 2) (hj : j' = j + 1) (w : g 151 8 = 0 → sW (sm h) (g 151 7) ≠ wm (4 + j)) : cuB h g k j' := by
  intro z
  have q := wm_cut h0 h2
  have w' := w z
  rcases p z with ⟨p1, p2, p3, p4⟩ | p
  · exact Or.inl ⟨p1, fun r => by omega, fun r => by omega, fun r => by omega⟩
  · exact Or.inr p
theorem cut_xf {h g : my_H} {φ y : Int} (A : cuA h g) (z : g 151 8 ≠ 0) (e : φ = g 151 8) : cutM (sm h) (h 151 7) (h 151 27) φ y := by
  unfold cutM
  rcases A.2 z with q | q
  · exact Or.inl ⟨q.1, by omega⟩
  · exact Or.inr (Or.inl ⟨q.1, q.2.1, by omega⟩)
theorem cut_x1 {h g : my_H} {k φ y : Int} (A : cuA h g) (B : cuB h g k 3) (z : g 151 8 = 0) (hk : k < 0) (e : φ = 1 + 16 * sP (sm h) (g 151 7)) : cutM (sm h) (h 151 7) (h 151 27) φ y := by
  unfold cutM
  obtain ⟨a1, a2, a3⟩ := A.1 z
  rcases B z with ⟨b1, b2, b3, b4⟩ | b
  · rw [a1] at b2 b3 b4 e
    exact Or.inr (Or.inr ⟨a2, a3, Or.inl ⟨b2 (by omega), b3 (by omega), b4 (by omega), e⟩⟩)
  · omega
theorem cut_ok {h g : my_H} {k φ y : Int} (A : cuA h g) (B : cuB h g k 3) (z : g 151 8 = 0) (hk : 0 ≤ k) (p : rNum (sm h) (sN (sm h) (g 151 7)) 200 φ (φ = 0 ∧ y = sN (sm h) (sN (sm h) (g 151 7)))) : cutM (sm h) (h 151 7) (h 151 27) φ y := by
  unfold cutM
  obtain ⟨a1, a2, a3⟩ := A.1 z
  rcases B z with b | ⟨-, b⟩
  · omega
  · rw [a1] at b p
    exact Or.inr (Or.inr ⟨a2, a3, Or.inr ⟨b, p⟩⟩)
end MTQ
