/-! the reference's shown rows as a list -/
section ZQP
/-- a shown row of m columns: what sorts it, and its values -/
def zqN (h : my_H) (m : Int) (i : Nat) : Int × zqR := (h 181 (i : Int), fun j => if 0 ≤ j ∧ j < m then h 182 (8 * (i : Int) + j) else 0)
theorem zqN_cg {h g : my_H} {m : Int} {i k : Nat} (m8 : m ≤ 8) (e1 : g 181 (k : Int) = h 181 (i : Int)) (e2 : ∀ j : Int, 0 ≤ j → j < 8 → g 182 (8 * (k : Int) + j) = h 182 (8 * (i : Int) + j)) : zqN g m k = zqN h m i := by
  unfold zqN
  rw [e1]
  refine Prod.ext rfl (funext fun j => ?_)
  show (if 0 ≤ j ∧ j < m then g 182 (8 * (k : Int) + j) else 0) = (if 0 ≤ j ∧ j < m then h 182 (8 * (i : Int) + j) else 0)
  by_cases q : 0 ≤ j ∧ j < m
  · rw [if_pos q, if_pos q, e2 j q.1 (by omega)]
  · rw [if_neg q, if_neg q]
/-- a row alone has changed (its tag stays) -/
def OneN (h g : my_H) (i : Int) : Prop := (∀ j : Int, g 181 j = h 181 j) ∧ ∀ j : Int, (j < 8 * i ∨ 8 * i + 8 ≤ j) → g 182 j = h 182 j
/-- row i has come to place k -/
def ShfN (h g : my_H) (i k : Int) : Prop := g 181 k = h 181 i ∧ (∀ j : Int, 0 ≤ j → j < 8 → g 182 (8 * k + j) = h 182 (8 * i + j)) ∧ (∀ j : Int, j ≠ k → g 181 j = h 181 j) ∧ ∀ j : Int, (j < 8 * k ∨ 8 * k + 8 ≤ j) → g 182 j = h 182 j
def FmN (h g : my_H) (m m' : Int) (f : Int × zqR → Option (Int × zqR)) (kept row : Int) : Prop := 0 ≤ kept ∧ kept ≤ row ∧ (∀ j : Int, row ≤ j → g 181 j = h 181 j) ∧ (∀ j : Int, 8 * row ≤ j → g 182 j = h 182 j) ∧ zqL (zqN g m') kept.toNat = (zqL (zqN h m) row.toNat).filterMap f
theorem FmN_0 {h g : my_H} {m m' : Int} {f : Int × zqR → Option (Int × zqR)} (e1 : ∀ j : Int, g 181 j = h 181 j) (e2 : ∀ j : Int, g 182 j = h 182 j) : FmN h g m m' f 0 0 :=
  ⟨Int.le_refl 0, Int.le_refl 0, fun j _ => e1 j, fun j _ => e2 j, rfl⟩
theorem FmN_row {h g : my_H} {m m' kept row : Int} {f : Int × zqR → Option (Int × zqR)} (m8 : m ≤ 8) (p : FmN h g m m' f kept row) : zqN g m row.toNat = zqN h m row.toNat := by
  obtain ⟨p1, p2, p3, p4, p5⟩ := p
  exact zqN_cg m8 (p3 _ (by omega)) (fun j a b => p4 _ (by omega))
theorem FmN_no {h g g1 : my_H} {m m' kept row : Int} {f : Int × zqR → Option (Int × zqR)} (p : FmN h g m m' f kept row) (e1 : ∀ j : Int, g1 181 j = g 181 j) (e2 : ∀ j : Int, g1 182 j = g 182 j) (m8 : m' ≤ 8) (q : f (zqN h m row.toNat) = none) : FmN h g1 m m' f kept (row + 1) := by
  obtain ⟨p1, p2, p3, p4, p5⟩ := p
  refine ⟨p1, by omega, fun j a => (e1 j).trans (p3 j (by omega)), fun j a => (e2 j).trans (p4 j (by omega)), ?_⟩
  rw [show (row + 1).toNat = row.toNat + 1 by omega, zqL, List.filterMap_cons, q]
  exact (zqL_cg (fun i _ => zqN_cg m8 (e1 _) (fun j _ _ => e2 _))).trans p5
/-- what isLeft made of the row comes to its place -/
theorem FmN_yes {h g g1 g2 : my_H} {m m' kept row : Int} {f : Int × zqR → Option (Int × zqR)} (m8 : m' ≤ 8) (p : FmN h g m m' f kept row) (O : OneN g g1 row) (q : f (zqN h m row.toNat) = some (zqN g1 m' row.toNat)) (s : ShfN g1 g2 row kept) : FmN h g2 m m' f (kept + 1) (row + 1) := by
  obtain ⟨p1, p2, p3, p4, p5⟩ := p
  obtain ⟨s1, s2, s3, s4⟩ := s
  obtain ⟨o1, o2⟩ := O
  refine ⟨by omega, by omega, fun j a => ?_, fun j a => ?_, ?_⟩
  · rw [s3 j (by omega), o1]; exact p3 j (by omega)
  · rw [s4 j (by omega), o2 j (by omega)]; exact p4 j (by omega)
  · rw [show (row + 1).toNat = row.toNat + 1 by omega, show (kept + 1).toNat = kept.toNat + 1 by omega, zqL, zqL, List.filterMap_cons, q]
    have e1 : zqN g2 m' kept.toNat = zqN g1 m' row.toNat := zqN_cg m8 (by rw [Int.toNat_of_nonneg p1, Int.toNat_of_nonneg (by omega)]; exact s1) (fun j a b => by rw [Int.toNat_of_nonneg p1, Int.toNat_of_nonneg (by omega)]; exact s2 j a b)
    rw [e1, ← p5]
    refine congrArg _ (zqL_cg (fun i hi => zqN_cg m8 ?_ (fun j a b => ?_)))
    · rw [s3 _ (by omega), o1]
    · rw [s4 _ (by omega), o2 _ (by omega)]
/-- the reference's state as the class lays it -/
def zqMS (h : my_H) (s : Int) : Int → Int := fun j => if h 162 (60 * s + j / 4) = 1 then h 163 (240 * s + j) else if j % 4 = 0 then -1 else 0
theorem zqMS_has {h : my_H} {s w k : Int} (v0 : 0 ≤ h 163 (240 * s + (80 * w + 4 * k))) : zqMS h s (80 * w + 4 * k) ≠ -1 ↔ h 162 (60 * s + 20 * w + k) = 1 := by
  unfold zqMS
  rw [show 60 * s + (80 * w + 4 * k) / 4 = 60 * s + 20 * w + k by omega]
  by_cases q : h 162 (60 * s + 20 * w + k) = 1
  · rw [if_pos q]
    exact ⟨fun _ => q, fun _ => by omega⟩
  · rw [if_neg q, if_pos (by omega)]
    exact ⟨fun z => absurd rfl z, fun z => absurd z q⟩
theorem zqMS_at {h : my_H} {s w k c : Int} (c0 : 0 ≤ c) (c3 : c ≤ 3) (q : h 162 (60 * s + 20 * w + k) = 1) : zqMS h s (80 * w + 4 * k + c) = h 163 (240 * s + (80 * w + 4 * k + c)) := by
  unfold zqMS
  rw [show 60 * s + (80 * w + 4 * k + c) / 4 = 60 * s + 20 * w + k by omega, if_pos q]
end ZQP
