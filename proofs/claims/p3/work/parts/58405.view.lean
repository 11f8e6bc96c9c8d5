/-! the class's views as lists of rows -/
section ZQF
/-- a view's row of m columns: what sorts it, and its values -/
def zqE (h : my_H) (v m : Int) (i : Nat) : Int × zqR := (h (v + 1) (17 * (i : Int) + 16), fun j => if 0 ≤ j ∧ j < m then h (v + 1) (17 * (i : Int) + j) else 0)
theorem zqE_cg {h g : my_H} {v m : Int} {i : Nat} (m0 : m ≤ 16) (e : ∀ j : Int, 17 * (i : Int) ≤ j → j < 17 * (i : Int) + 17 → g (v + 1) j = h (v + 1) j) : zqE g v m i = zqE h v m i := by
  unfold zqE
  rw [e _ (by omega) (by omega)]
  refine Prod.ext rfl (funext fun j => ?_)
  show (if 0 ≤ j ∧ j < m then g (v + 1) (17 * (i : Int) + j) else 0) = (if 0 ≤ j ∧ j < m then h (v + 1) (17 * (i : Int) + j) else 0)
  by_cases q : 0 ≤ j ∧ j < m
  · rw [if_pos q, if_pos q, e _ (by omega) (by omega)]
  · rw [if_neg q, if_neg q]
/-- another place, the same row -/
theorem zqE_mv {h g : my_H} {v m : Int} {i k : Nat} (m0 : m ≤ 16) (e : ∀ j : Int, 0 ≤ j → j < 17 → g (v + 1) (17 * (k : Int) + j) = h (v + 1) (17 * (i : Int) + j)) : zqE g v m k = zqE h v m i := by
  unfold zqE
  rw [e 16 (by omega) (by omega)]
  refine Prod.ext rfl (funext fun j => ?_)
  show (if 0 ≤ j ∧ j < m then g (v + 1) (17 * (k : Int) + j) else 0) = (if 0 ≤ j ∧ j < m then h (v + 1) (17 * (i : Int) + j) else 0)
  by_cases q : 0 ≤ j ∧ j < m
  · rw [if_pos q, if_pos q, e _ (by omega) (by omega)]
  · rw [if_neg q, if_neg q]
/-- rows are gone through, some are left: the first so many hold what was made of those before row -/
def FmI (h g : my_H) (v m m' : Int) (f : Int × zqR → Option (Int × zqR)) (kept row : Int) : Prop := 0 ≤ kept ∧ kept ≤ row ∧ (∀ j : Int, 17 * row ≤ j → j < 187 → g (v + 1) j = h (v + 1) j) ∧ zqL (zqE g v m') kept.toNat = (zqL (zqE h v m) row.toNat).filterMap f
theorem FmI_0 {h g : my_H} {v m m' : Int} {f : Int × zqR → Option (Int × zqR)} (e : ∀ j : Int, g (v + 1) j = h (v + 1) j) : FmI h g v m m' f 0 0 :=
  ⟨Int.le_refl 0, Int.le_refl 0, fun j _ _ => e j, rfl⟩
theorem FmI_row {h g : my_H} {v m m' kept row : Int} {f : Int × zqR → Option (Int × zqR)} (m0 : m ≤ 16) (r10 : row ≤ 10) (p : FmI h g v m m' f kept row) : zqE g v m row.toNat = zqE h v m row.toNat := by
  obtain ⟨p1, p2, p3, p4⟩ := p
  exact zqE_cg m0 (fun j a b => p3 j (by omega) (by omega))
theorem FmI_no {h g : my_H} {v m m' kept row : Int} {f : Int × zqR → Option (Int × zqR)} (p : FmI h g v m m' f kept row) (q : f (zqE h v m row.toNat) = none) : FmI h g v m m' f kept (row + 1) := by
  obtain ⟨p1, p2, p3, p4⟩ := p
  refine ⟨p1, by omega, fun j a b => p3 j (by omega) b, ?_⟩
  rw [show (row + 1).toNat = row.toNat + 1 by omega, zqL, List.filterMap_cons, q]
  exact p4
theorem FmI_yes {h g g' : my_H} {v m m' kept row : Int} {f : Int × zqR → Option (Int × zqR)} (m0 : m' ≤ 16) (p : FmI h g v m m' f kept row) (q : f (zqE h v m row.toNat) = some (zqE g' v m' kept.toNat)) (e1 : ∀ j : Int, 0 ≤ j → j < 17 * kept → g' (v + 1) j = g (v + 1) j) (e2 : ∀ j : Int, 17 * (row + 1) ≤ j → j < 187 → g' (v + 1) j = g (v + 1) j) : FmI h g' v m m' f (kept + 1) (row + 1) := by
  obtain ⟨p1, p2, p3, p4⟩ := p
  refine ⟨by omega, by omega, fun j a b => (e2 j a b).trans (p3 j (by omega) b), ?_⟩
  rw [show (row + 1).toNat = row.toNat + 1 by omega, show (kept + 1).toNat = kept.toNat + 1 by omega, zqL, zqL, List.filterMap_cons, q, ← p4, zqL_cg (f := zqE g' v m') (g := zqE g v m') (fun i hi => zqE_cg m0 (fun j a b => e1 j (by omega) (by omega)))]
/-- a cut: the row stays where it is -/
theorem CutI_s {h g : my_H} {v m kept row : Int} {p0 : zqP} (m0 : m ≤ 16) (r10 : row ≤ 10) (k3 : p0.1 ≠ 3) (k4 : p0.1 ≠ 4) (c0 : 0 ≤ p0.2.1) (c1 : p0.2.1 < m) (p : FmI h g v m m (zqO2 (fun _ => 0) m p0) kept row) (ps : zqPass p0.1 (g (v + 1) (17 * row + p0.2.1)) p0.2.2.1) (ek : kept = row) : FmI h g v m m (zqO2 (fun _ => 0) m p0) (kept + 1) (row + 1) := by
  have er := FmI_row m0 r10 p
  refine FmI_yes m0 p ?_ (fun j _ _ => rfl) (fun j _ _ => rfl)
  rw [← er, ek]
  have ev : (zqE g v m row.toNat).2 p0.2.1 = g (v + 1) (17 * row + p0.2.1) := by
    have r0 := p.1
    have r1 := p.2.1
    show (if 0 ≤ p0.2.1 ∧ p0.2.1 < m then g (v + 1) (17 * (row.toNat : Int) + p0.2.1) else 0) = _
    rw [if_pos ⟨c0, c1⟩, Int.toNat_of_nonneg (by omega)]
  unfold zqO2 zqO
  rw [if_neg k3, if_neg k4, ev, if_pos ps]
  rfl
theorem CutI_m {h g g' : my_H} {v m kept row : Int} {p0 : zqP} (m0 : m ≤ 16) (r10 : row ≤ 10) (k3 : p0.1 ≠ 3) (k4 : p0.1 ≠ 4) (c0 : 0 ≤ p0.2.1) (c1 : p0.2.1 < m) (p : FmI h g v m m (zqO2 (fun _ => 0) m p0) kept row) (ps : zqPass p0.1 (g (v + 1) (17 * row + p0.2.1)) p0.2.2.1) (ek : kept ≠ row) (e : g' = my_cp g (v + 1) (row * 17) (v + 1) (kept * 17) 17) : FmI h g' v m m (zqO2 (fun _ => 0) m p0) (kept + 1) (row + 1) := by
  have er := FmI_row m0 r10 p
  have r0 := p.1
  have r1 := p.2.1
  have ev : (zqE g v m row.toNat).2 p0.2.1 = g (v + 1) (17 * row + p0.2.1) := by
    show (if 0 ≤ p0.2.1 ∧ p0.2.1 < m then g (v + 1) (17 * (row.toNat : Int) + p0.2.1) else 0) = _
    rw [if_pos ⟨c0, c1⟩, Int.toNat_of_nonneg (by omega)]
  refine FmI_yes m0 p ?_ (fun j a b => my_cp_ne e (by omega)) (fun j a b => my_cp_ne e (by omega))
  rw [← er]
  have em : zqE g' v m kept.toNat = zqE g v m row.toNat := zqE_mv m0 (fun j a b => by
    rw [Int.toNat_of_nonneg r0, Int.toNat_of_nonneg (by omega), my_cp_in e (by omega) (by omega)]
    congr 1
    omega)
  rw [em]
  unfold zqO2 zqO
  rw [if_neg k3, if_neg k4, ev, if_pos ps]
  rfl
theorem CutI_n {h g : my_H} {v m kept row : Int} {p0 : zqP} (m0 : m ≤ 16) (r10 : row ≤ 10) (k3 : p0.1 ≠ 3) (k4 : p0.1 ≠ 4) (c0 : 0 ≤ p0.2.1) (c1 : p0.2.1 < m) (p : FmI h g v m m (zqO2 (fun _ => 0) m p0) kept row) (ps : ¬ zqPass p0.1 (g (v + 1) (17 * row + p0.2.1)) p0.2.2.1) : FmI h g v m m (zqO2 (fun _ => 0) m p0) kept (row + 1) := by
  have er := FmI_row m0 r10 p
  have r0 := p.1
  have r1 := p.2.1
  have ev : (zqE g v m row.toNat).2 p0.2.1 = g (v + 1) (17 * row + p0.2.1) := by
    show (if 0 ≤ p0.2.1 ∧ p0.2.1 < m then g (v + 1) (17 * (row.toNat : Int) + p0.2.1) else 0) = _
    rw [if_pos ⟨c0, c1⟩, Int.toNat_of_nonneg (by omega)]
  refine FmI_no p ?_
  rw [← er]
  unfold zqO2 zqO
  rw [if_neg k3, if_neg k4, ev, if_neg ps]
  rfl
/-- what is made by a pane that leaves a row's state alone doesn't look at the walls -/
theorem zqO2_S {S : Int → Int} {m : Int} {p0 : zqP} (k4 : p0.1 ≠ 4) : zqO2 (fun _ => 0) m p0 = zqO2 S m p0 := by
  funext e
  unfold zqO2 zqO
  by_cases k3 : p0.1 = 3
  · rw [if_pos k3, if_pos k3]
  · rw [if_neg k3, if_neg k3, if_neg k4, if_neg k4]
end ZQF
