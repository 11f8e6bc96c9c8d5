/-! the row that comes -/
section ZSB
theorem pix_6z {x : Int} (hx : my_is 4 x) : my_is 37 (x + 6) := my_isOff (δ := 6) hx (by decide +kernel)
theorem pix_7z {x : Int} (hx : my_is 4 x) : my_is 38 (x + 7) := my_isOff (δ := 7) hx (by decide +kernel)
theorem pis_93 : my_is 23 93 := by unfold my_is; decide +kernel
/-- what column c of the row that comes holds -/
def FrP (g : my_H) (L c v : Int) : Prop := (∃ y : Int, 0 ≤ y ∧ y < g L 4 ∧ g (L + 6) y = 4 * g L 2 + c ∧ (∀ k : Int, 0 ≤ k → k < y → g (L + 6) k ≠ 4 * g L 2 + c) ∧ v = g 93 y) ∨ ((∀ k : Int, 0 ≤ k → k < g L 4 → g (L + 6) k ≠ 4 * g L 2 + c) ∧ v = g (L + 7) c)
theorem FrP_fr {h g : my_H} {L c v : Int} (f : my_fr [(30, -1), (31, -1), (41, -1)] h g) (t : my_is 4 L) (p : FrP g L c v) : FrP h L c v := by
  have e4 : g L 4 = h L 4 := my_fr.at f t rfl
  have e2 : g L 2 = h L 2 := my_fr.at f t rfl
  have e6 : ∀ j : Int, g (L + 6) j = h (L + 6) j := fun j => my_fr.at f (pix_6z t) rfl
  have e7 : ∀ j : Int, g (L + 7) j = h (L + 7) j := fun j => my_fr.at f (pix_7z t) rfl
  have e93 : ∀ j : Int, g 93 j = h 93 j := fun j => my_fr.at f pis_93 rfl
  rcases p with ⟨y, y0, y1, y2, y3, y4⟩ | ⟨y3, y4⟩
  · refine Or.inl ⟨y, y0, by omega, by rw [← e6, ← e2]; exact y2, fun k a b => by rw [← e6, ← e2]; exact y3 k a b, by rw [← e93]; exact y4⟩
  · exact Or.inr ⟨fun k a b => by rw [← e6, ← e2]; exact y3 k a (by omega), by rw [← e7]; exact y4⟩
def FrI (h g : my_H) (L n : Int) : Prop := ∀ c : Int, 0 ≤ c → c < n → FrP h L c (g 110 c)
theorem FrI_0 {h g : my_H} {L : Int} : FrI h g L 0 := fun c a b => by omega
theorem FrI_s {h g g' : my_H} {L n v : Int} (p : FrI h g L n) (q : FrP h L n v) (e : g' = my_up g 110 n v) : FrI h g' L (n + 1) := fun c a b => by
  by_cases z : c = n
  · rw [z, my_up_self e]; exact q
  · rw [my_up_ne e (by omega)]; exact p c a (by omega)
/-- the row was added -/
def RcY (h g : my_H) (L : Int) : Prop := FrI h g L 4 ∧ h 97 (h L 2) < 10 ∧ h 96 (80 * h L 2 + 4 * g 110 0) = -1 ∧ (∀ j : Int, g 96 j = if 80 * h L 2 + 4 * g 110 0 ≤ j ∧ j < 80 * h L 2 + 4 * g 110 0 + 4 then g 110 (j - (80 * h L 2 + 4 * g 110 0)) else h 96 j) ∧ ∀ j : Int, g 97 j = if j = h L 2 then h 97 j + 1 else h 97 j
/-- it can't be -/
def RcN (h g : my_H) (L : Int) : Prop := FrI h g L 4 ∧ (10 ≤ h 97 (h L 2) ∨ h 96 (80 * h L 2 + 4 * g 110 0) ≠ -1) ∧ (∀ j : Int, g 96 j = h 96 j) ∧ ∀ j : Int, g 97 j = h 97 j
theorem RcN_mk {h g : my_H} {L : Int} (fr : FrI h g L 4) (a96 : ∀ j : Int, g 96 j = h 96 j) (a97 : ∀ j : Int, g 97 j = h 97 j) (x : 10 ≤ g 97 (h L 2) ∨ g 96 (80 * h L 2 + 4 * g 110 0) ≠ -1) : RcN h g L :=
  ⟨fr, x.elim (fun q => Or.inl (by rw [← a97]; exact q)) (fun q => Or.inr (by rw [← a96]; exact q)), a96, a97⟩
theorem RcY_mk {h g g2 g3 : my_H} {L b k v : Int} (fr : FrI h g L 4) (a96 : ∀ j : Int, g 96 j = h 96 j) (a97 : ∀ j : Int, g 97 j = h 97 j) (s : g 97 (h L 2) < 10) (m : g 96 (80 * h L 2 + 4 * g 110 0) = -1) (e2 : g2 = my_cp g 110 0 96 k 4) (hk : k = 80 * h L 2 + 4 * g 110 0) (e3 : g3 = my_up g2 97 b v) (hb : b = h L 2) (hv : v = g 97 (h L 2) + 1) : RcY h g3 L := by
  have o : ∀ j : Int, g3 110 j = g 110 j := fun j => (my_up_ne e3 (by omega)).trans (my_cp_ne e2 (by omega))
  refine ⟨fun c a b => by rw [o]; exact fr c a b, by rw [← a97]; exact s, by rw [o, ← a96]; exact m, fun j => ?_, fun j => ?_⟩
  · rw [o, my_up_ne e3 (by omega)]
    by_cases z : 80 * h L 2 + 4 * g 110 0 ≤ j ∧ j < 80 * h L 2 + 4 * g 110 0 + 4
    · rw [if_pos z, o, my_cp_in e2 (by omega) (by omega)]
      congr 1
      omega
    · rw [if_neg z, ← a96]
      rcases (by omega : j < k ∨ k + 4 ≤ j) with y | y
      · exact my_cp_ne e2 (by omega)
      · exact my_cp_ne e2 (by omega)
  · by_cases z : j = h L 2
    · rw [if_pos z, z, ← hb, my_up_self e3, hv, ← a97, hb]
    · rw [if_neg z, my_up_ne e3 (by omega), ← a97]
      exact my_cp_ne e2 (by omega)
end ZSB
