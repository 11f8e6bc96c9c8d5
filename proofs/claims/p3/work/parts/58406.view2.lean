/-! the class's views: few, join, sums, the order -/
section ZQM
/-- a row is being rewritten out of the one held behind all others -/
def FewI (h g : my_H) (v m n : Int) (φ : Int → Int) (row col : Int) : Prop := 0 ≤ row ∧ (∀ j : Int, 17 * (row + 1) ≤ j → j < 187 → g (v + 1) j = h (v + 1) j) ∧ zqL (zqE g v n) row.toNat = (zqL (zqE h v m) row.toNat).filterMap (zqO2 (fun _ => 0) m (3, 0, 0, n, φ)) ∧ (∀ j : Int, 0 ≤ j → j < 17 → g (v + 1) (187 + j) = h (v + 1) (17 * row + j)) ∧ (∀ j : Int, 0 ≤ j → j < col → g (v + 1) (17 * row + j) = h (v + 1) (17 * row + φ j)) ∧ g (v + 1) (17 * row + 16) = h (v + 1) (17 * row + 16)
abbrev FewR (h g : my_H) (v m n : Int) (φ : Int → Int) (row : Int) : Prop := FmI h g v m n (zqO2 (fun _ => 0) m (3, 0, 0, n, φ)) row row
theorem FewI_0 {h g g' : my_H} {v m n row : Int} {φ : Int → Int} (n0 : n ≤ 8) (r10 : row ≤ 10) (p : FewR h g v m n φ row) (e : g' = my_cp g (v + 1) (row * 17) (v + 1) (11 * 17) 17) : FewI h g' v m n φ row 0 := by
  obtain ⟨p1, p2, p3, p4⟩ := p
  have ne : ∀ j : Int, j < 187 → g' (v + 1) j = g (v + 1) j := fun j a => my_cp_ne e (by omega)
  refine ⟨p1, fun j a b => (ne j b).trans (p3 j (by omega) b), ?_, fun j a b => ?_, fun j a b => by omega, ?_⟩
  · rw [← p4]
    exact zqL_cg (fun i hi => zqE_cg (by omega) (fun j a b => ne j (by omega)))
  · rw [my_cp_in e (by omega) (by omega), show row * 17 + (187 + j - 11 * 17) = 17 * row + j by omega]
    exact p3 _ (by omega) (by omega)
  · exact (ne _ (by omega)).trans (p3 _ (by omega) (by omega))
/-- a column of it, and where it comes from -/
theorem FewI_s {h g g1 g2 : my_H} {v m n row col a b k : Int} {φ : Int → Int} (r10 : row ≤ 10) (c0 : 0 ≤ col) (c8 : col < 8) (n0 : n ≤ 8) (f0 : 0 ≤ φ col) (f7 : φ col ≤ 7) (p : FewI h g v m n φ row col) (e1 : g1 = my_up g (v + 1) (row * 17 + col) a) (ea : a = g (v + 1) (187 + φ col)) (e2 : g2 = my_up g1 (v + 1) k b) (hk : k = row * 17 + 8 + col) : FewI h g2 v m n φ row (col + 1) := by
  obtain ⟨p1, p2, p3, p4, p5, p6⟩ := p
  have ne : ∀ j : Int, j ≠ 17 * row + col → j ≠ 17 * row + 8 + col → g2 (v + 1) j = g (v + 1) j := fun j y z => (my_up_ne e2 (by omega)).trans (my_up_ne e1 (by omega))
  refine ⟨p1, fun j y z => (ne j (by omega) (by omega)).trans (p2 j y z), ?_, fun j y z => (ne _ (by omega) (by omega)).trans (p4 j y z), fun j y z => ?_, (ne _ (by omega) (by omega)).trans p6⟩
  · rw [← p3]
    exact zqL_cg (fun i hi => zqE_cg (by omega) (fun j y z => ne j (by omega) (by omega)))
  · by_cases q : j = col
    · subst q
      rw [show 17 * row + j = row * 17 + j by omega, my_up_ne (x := v + 1) (i := row * 17 + j) e2 (by omega), my_up_self e1, ea, p4 _ f0 (by omega)]
    · exact (ne _ (by omega) (by omega)).trans (p5 j y (by omega))
theorem FewI_e {h g : my_H} {v m n row col : Int} {φ : Int → Int} (hφ : ∀ j : Int, 0 ≤ j → j < n → 0 ≤ φ j ∧ φ j < m) (hc : n ≤ col) (p : FewI h g v m n φ row col) : FewR h g v m n φ (row + 1) := by
  obtain ⟨p1, p2, p3, p4, p5, p6⟩ := p
  refine ⟨by omega, by omega, p2, ?_⟩
  rw [show (row + 1).toNat = row.toNat + 1 by omega, zqL, zqL, List.filterMap_cons, ← p3]
  have e : zqO2 (fun _ => 0) m (3, 0, 0, n, φ) (zqE h v m row.toNat) = some (zqE g v n row.toNat) := by
    unfold zqO2 zqO
    rw [if_pos rfl]
    refine congrArg some (Prod.ext ?_ (funext fun j => ?_))
    · show h (v + 1) (17 * (row.toNat : Int) + 16) = g (v + 1) (17 * (row.toNat : Int) + 16)
      rw [Int.toNat_of_nonneg p1, p6]
    · show zqFew n φ _ j = (if 0 ≤ j ∧ j < n then g (v + 1) (17 * (row.toNat : Int) + j) else 0)
      unfold zqFew
      by_cases q : 0 ≤ j ∧ j < n
      · obtain ⟨f0, f1⟩ := hφ j q.1 q.2
        rw [if_pos q, if_pos q, Int.toNat_of_nonneg p1, p5 j q.1 (by omega)]
        show (if 0 ≤ φ j ∧ φ j < m then h (v + 1) (17 * (row.toNat : Int) + φ j) else 0) = _
        rw [if_pos ⟨f0, f1⟩, Int.toNat_of_nonneg p1]
      · rw [if_neg q, if_neg q]
  rw [e]
/-- a row that a join leaves, with what it gets -/
theorem JoinI_y {h g g1 g2 : my_H} {S : Int → Int} {v m n w by' kept row key : Int} {φ : Int → Int} (m0 : m + n ≤ 9) (n1 : 1 ≤ n) (m1 : 0 ≤ m) (r10 : row ≤ 10) (b0 : 0 ≤ by') (b1 : by' < m) (p : FmI h g v m (m + n - 1) (zqO2 S m (4, by', w, n, φ)) kept row) (ek : key = g (v + 1) (17 * row + by')) (hs : zqHas S w key)
    (e1 : ∀ j : Int, 0 ≤ j → j < 17 → g1 (v + 1) (17 * kept + j) = g (v + 1) (17 * row + j)) (e1n : ∀ j : Int, (j < 17 * kept ∨ 17 * kept + 17 ≤ j) → g1 (v + 1) j = g (v + 1) j)
    (e2 : ∀ i : Int, 0 ≤ i → i < n - 1 → g2 (v + 1) (kept * 17 + m + i) = S (80 * w + 4 * key + 1 + i)) (e2n : ∀ j : Int, ¬ (kept * 17 + m ≤ j ∧ j < kept * 17 + m + (n - 1)) → ¬ (kept * 17 + m + 8 ≤ j ∧ j < kept * 17 + m + 8 + (n - 1)) → g2 (v + 1) j = g1 (v + 1) j) : FmI h g2 v m (m + n - 1) (zqO2 S m (4, by', w, n, φ)) (kept + 1) (row + 1) := by
  have er := FmI_row (m := m) (by omega) r10 ⟨p.1, p.2.1, p.2.2.1, p.2.2.2⟩
  have r0 := p.1
  have r1 := p.2.1
  have rw0 : 0 ≤ row := by omega
  refine FmI_yes (by omega) p ?_ (fun j a b => (e2n j (by omega) (by omega)).trans (e1n j (by omega))) (fun j a b => (e2n j (by omega) (by omega)).trans (e1n j (by omega)))
  have ev : (zqE h v m row.toNat).2 by' = key := by
    rw [ek]
    show (if 0 ≤ by' ∧ by' < m then h (v + 1) (17 * (row.toNat : Int) + by') else 0) = _
    rw [if_pos ⟨b0, b1⟩, Int.toNat_of_nonneg rw0]
    exact (p.2.2.1 _ (by omega) (by omega)).symm
  unfold zqO2 zqO
  rw [if_neg (by show ¬ (4 : Int) = 3; decide), if_pos (by rfl)]
  show Option.map _ (if zqHas S w ((zqE h v m row.toNat).2 by') then some (zqJn S m w n (zqE h v m row.toNat).2 ((zqE h v m row.toNat).2 by')) else none) = _
  rw [ev, if_pos hs]
  refine congrArg some (Prod.ext ?_ (funext fun j => ?_))
  · show h (v + 1) (17 * (row.toNat : Int) + 16) = g2 (v + 1) (17 * (kept.toNat : Int) + 16)
    rw [Int.toNat_of_nonneg r0, Int.toNat_of_nonneg rw0, e2n _ (by omega) (by omega), e1 16 (by omega) (by omega)]
    exact (p.2.2.1 _ (by omega) (by omega)).symm
  · show zqJn S m w n _ key j = (if 0 ≤ j ∧ j < m + n - 1 then g2 (v + 1) (17 * (kept.toNat : Int) + j) else 0)
    unfold zqJn
    by_cases q : m ≤ j ∧ j < m + n - 1
    · rw [if_pos q, if_pos ⟨by omega, q.2⟩, Int.toNat_of_nonneg r0]
      have := e2 (j - m) (by omega) (by omega)
      rw [show kept * 17 + m + (j - m) = 17 * kept + j by omega] at this
      rw [this]
      congr 1
      omega
    · rw [if_neg q]
      show (if 0 ≤ j ∧ j < m then h (v + 1) (17 * (row.toNat : Int) + j) else 0) = _
      by_cases z : 0 ≤ j ∧ j < m
      · rw [if_pos z, if_pos ⟨z.1, by omega⟩, Int.toNat_of_nonneg r0, Int.toNat_of_nonneg rw0, e2n _ (by omega) (by omega), e1 j z.1 (by omega)]
        exact (p.2.2.1 _ (by omega) (by omega)).symm
      · rw [if_neg z, if_neg (by omega)]
theorem JoinI_n {h g : my_H} {S : Int → Int} {v m n w by' kept row key : Int} {φ : Int → Int} (r10 : row ≤ 10) (b0 : 0 ≤ by') (b1 : by' < m) (p : FmI h g v m (m + n - 1) (zqO2 S m (4, by', w, n, φ)) kept row) (ek : key = g (v + 1) (17 * row + by')) (hm : by' ≤ 15) (hs : ¬ zqHas S w key) : FmI h g v m (m + n - 1) (zqO2 S m (4, by', w, n, φ)) kept (row + 1) := by
  have r0 := p.1
  have r1 := p.2.1
  have rw0 : 0 ≤ row := by omega
  refine FmI_no p ?_
  have ev : (zqE h v m row.toNat).2 by' = key := by
    rw [ek]
    show (if 0 ≤ by' ∧ by' < m then h (v + 1) (17 * (row.toNat : Int) + by') else 0) = _
    rw [if_pos ⟨b0, b1⟩, Int.toNat_of_nonneg rw0]
    exact (p.2.2.1 _ (by omega) (by omega)).symm
  unfold zqO2 zqO
  rw [if_neg (by show ¬ (4 : Int) = 3; decide), if_pos (by rfl)]
  show Option.map _ (if zqHas S w ((zqE h v m row.toNat).2 by') then some (zqJn S m w n (zqE h v m row.toNat).2 ((zqE h v m row.toNat).2 by')) else none) = _
  rw [ev, if_neg hs]
  rfl
end ZQM
section ZQN
/-- one goes down to a place, those between go up -/
theorem zqL_rot {α : Type} {f : Nat → α} {row n : Nat} (hr : row < n) : ∀ (d to : Nat) (f' : Nat → α), to + d = row → (∀ i : Nat, i < n → f' i = if i = to then f row else if to < i ∧ i ≤ row then f (i - 1) else f i) → (zqL f' n).Perm (zqL f n)
  | 0, to, f', e, h => by
    refine List.Perm.of_eq (zqL_cg (fun i hi => ?_))
    rw [h i hi]
    by_cases q : i = to
    · rw [if_pos q, q]; congr 1; omega
    · rw [if_neg q, if_neg (by omega)]
  | d + 1, to, f', e, h => by
    have ih := zqL_rot (f := f) hr d (to + 1) (fun i => if i = to + 1 then f row else if to + 1 < i ∧ i ≤ row then f (i - 1) else f i) (by omega) (fun i _ => rfl)
    refine (zqL_swap (f := fun i => if i = to + 1 then f row else if to + 1 < i ∧ i ≤ row then f (i - 1) else f i) (g := f') (p := to) (q := to + 1) (by omega) (by omega) (by omega) ?_ ?_ (fun i hi a b => ?_)).trans ih
    · rw [h to (by omega), if_pos rfl]
      show f row = if to + 1 = to + 1 then f row else _
      rw [if_pos rfl]
    · rw [h (to + 1) (by omega), if_neg (by omega), if_pos (by omega)]
      show f (to + 1 - 1) = if to = to + 1 then _ else if to + 1 < to ∧ to ≤ row then _ else f to
      rw [if_neg (by omega), if_neg (by omega)]
      congr 1
    · rw [h i hi, if_neg a]
      show _ = if i = to + 1 then _ else if to + 1 < i ∧ i ≤ row then f (i - 1) else f i
      rw [if_neg b]
      by_cases q : to < i ∧ i ≤ row
      · rw [if_pos q, if_pos (by omega)]
      · rw [if_neg q, if_neg (by omega)]
/-- rows 0 to row are in order, all are there -/
def SrtI (h g : my_H) (v m n row : Int) : Prop := (zqL (zqE g v m) n.toNat).Perm (zqL (zqE h v m) n.toNat) ∧ zqS zqle (fun i => (zqE g v m i).2) row.toNat
/-- the row at hand comes before those from to on -/
def SrtT (g : my_H) (v m row to : Int) : Prop := ∀ i : Nat, to ≤ i → (i : Int) < row → zqle (zqE g v m row.toNat).2 (zqE g v m i).2
theorem SrtT_0 {g : my_H} {v m row : Int} : SrtT g v m row row := fun i a b => by omega
theorem SrtT_s {g : my_H} {v m row to : Int} (t0 : 0 < to) (p : SrtT g v m row to) (q : zqle (zqE g v m row.toNat).2 (zqE g v m (to - 1).toNat).2) : SrtT g v m row (to - 1) := fun i a b => by
  by_cases z : (i : Int) = to - 1
  · rw [show i = (to - 1).toNat by omega]; exact q
  · exact p i (by omega) b
/-- rows between move up by one; the row at hand is held -/
def SrtB (g g' : my_H) (v row b : Int) : Prop := (∀ j : Int, 0 ≤ j → j < 17 → g' (v + 1) (187 + j) = g (v + 1) (17 * row + j)) ∧ ∀ r j : Int, 0 ≤ r → r < 11 → 0 ≤ j → j < 17 → g' (v + 1) (17 * r + j) = g (v + 1) (17 * (if b < r ∧ r ≤ row then r - 1 else r) + j)
theorem SrtB_0 {g g' : my_H} {v row : Int} (r10 : row ≤ 10) (r0 : 0 ≤ row) (e : g' = my_cp g (v + 1) (row * 17) (v + 1) (11 * 17) 17) : SrtB g g' v row row := by
  refine ⟨fun j a b => ?_, fun r j r0 r1 a b => ?_⟩
  · rw [my_cp_in e (by omega) (by omega)]; congr 1; omega
  · rw [my_cp_ne e (by omega), if_neg (by omega)]
theorem SrtB_s {g g' g2 : my_H} {v row b : Int} (b0 : 0 < b) (b1 : b ≤ row) (r10 : row ≤ 10) (p : SrtB g g' v row b) (e : g2 = my_cp g' (v + 1) ((b - 1) * 17) (v + 1) (b * 17) 17) : SrtB g g2 v row (b - 1) := by
  obtain ⟨p1, p2⟩ := p
  refine ⟨fun j x y => (my_cp_ne e (by omega)).trans (p1 j x y), fun r j r0 r1 x y => ?_⟩
  by_cases z : r = b
  · subst z
    rw [my_cp_in e (by omega) (by omega), show (r - 1) * 17 + (17 * r + j - r * 17) = 17 * (r - 1) + j by omega, p2 (r - 1) j (by omega) (by omega) x y, if_neg (by omega), if_pos (by omega)]
  · rw [my_cp_ne e (by omega), p2 r j r0 r1 x y]
    by_cases q : b < r ∧ r ≤ row
    · rw [if_pos q, if_pos (by omega)]
    · rw [if_neg q, if_neg (by omega)]
/-- it comes to its place -/
theorem SrtI_m {h g g' g2 : my_H} {v m n row to : Int} (m0 : m ≤ 16) (t0 : 0 ≤ to) (tr : to < row) (rn : row < n) (n11 : n ≤ 11) (p : SrtI h g v m n row) (T : SrtT g v m row to) (L : to = 0 ∨ zqle (zqE g v m (to - 1).toNat).2 (zqE g v m row.toNat).2) (B : SrtB g g' v row to) (e : g2 = my_cp g' (v + 1) (11 * 17) (v + 1) (to * 17) 17) : SrtI h g2 v m n (row + 1) := by
  obtain ⟨p1, p2⟩ := p
  obtain ⟨B1, B2⟩ := B
  have at' : ∀ i : Nat, (i : Int) < 11 → zqE g2 v m i = if (i : Int) = to then zqE g v m row.toNat else if to < (i : Int) ∧ (i : Int) ≤ row then zqE g v m (i - 1) else zqE g v m i := by
    intro i hi
    by_cases z : (i : Int) = to
    · rw [if_pos z]
      refine zqE_mv m0 (fun j x y => ?_)
      rw [my_cp_in e (by omega) (by omega), show 11 * 17 + (17 * (i : Int) + j - to * 17) = 187 + j by omega, B1 j x y, Int.toNat_of_nonneg (by omega)]
    · rw [if_neg z]
      have hh : ∀ j : Int, 0 ≤ j → j < 17 → g2 (v + 1) (17 * (i : Int) + j) = g (v + 1) (17 * (if to < (i : Int) ∧ (i : Int) ≤ row then (i : Int) - 1 else (i : Int)) + j) := fun j x y => by
        rw [my_cp_ne e (by omega), B2 i j (by omega) hi x y]
      by_cases q : to < (i : Int) ∧ (i : Int) ≤ row
      · rw [if_pos q]
        refine zqE_mv m0 (fun j x y => ?_)
        rw [hh j x y, if_pos q]
        congr 1
        omega
      · rw [if_neg q]
        refine zqE_mv m0 (fun j x y => ?_)
        rw [hh j x y, if_neg q]
  constructor
  · refine (zqL_rot (f := zqE g v m) (row := row.toNat) (n := n.toNat) (by omega) (row.toNat - to.toNat) to.toNat (zqE g2 v m) (by omega) (fun i hi => ?_)).trans p1
    rw [at' i (by omega)]
    by_cases z : (i : Int) = to
    · rw [if_pos z, if_pos (by omega)]
    · rw [if_neg z, if_neg (show ¬ i = to.toNat by omega)]
      by_cases q : to < (i : Int) ∧ (i : Int) ≤ row
      · rw [if_pos q, if_pos (show to.toNat < i ∧ i ≤ row.toNat by omega)]
      · rw [if_neg q, if_neg (show ¬ (to.toNat < i ∧ i ≤ row.toNat) by omega)]
  · have low : ∀ i : Nat, (i : Int) < to → zqle (zqE g v m i).2 (zqE g v m row.toNat).2 := fun i hi => by
      rcases L with L | L
      · omega
      · by_cases z : (i : Int) = to - 1
        · rw [show i = (to - 1).toNat by omega]; exact L
        · exact zqle_tr (p2 i (to - 1).toNat (by omega) (by omega)) L
    intro i j hij hj
    show zqle (zqE g2 v m i).2 (zqE g2 v m j).2
    rw [at' i (by omega), at' j (by omega)]
    by_cases zi : (i : Int) = to
    · rw [if_pos zi, if_neg (by omega), if_pos (by omega)]
      exact T (j - 1) (by omega) (by omega)
    · rw [if_neg zi]
      by_cases zj : (j : Int) = to
      · rw [if_pos zj, if_neg (by omega)]
        exact low i (by omega)
      · rw [if_neg zj]
        by_cases qi : to < (i : Int) ∧ (i : Int) ≤ row
        · rw [if_pos qi, if_pos (by omega)]
          exact p2 (i - 1) (j - 1) (by omega) (by omega)
        · rw [if_neg qi]
          by_cases qj : to < (j : Int) ∧ (j : Int) ≤ row
          · rw [if_pos qj]
            exact p2 i (j - 1) (by omega) (by omega)
          · rw [if_neg qj]
            exact p2 i j hij (by omega)
/-- it stands where it should -/
theorem SrtI_n {h g : my_H} {v m n row : Int} (r0 : 0 ≤ row) (p : SrtI h g v m n row) (L : row = 0 ∨ zqle (zqE g v m (row - 1).toNat).2 (zqE g v m row.toNat).2) : SrtI h g v m n (row + 1) := by
  obtain ⟨p1, p2⟩ := p
  refine ⟨p1, fun i j hij hj => ?_⟩
  by_cases z : j = row.toNat
  · subst z
    rcases L with L | L
    · omega
    · by_cases y : i = (row - 1).toNat
      · rw [y]; exact L
      · exact zqle_tr (p2 i (row - 1).toNat (by omega) (by omega)) L
  · exact p2 i j hij (by omega)
end ZQN
