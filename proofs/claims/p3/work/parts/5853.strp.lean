/-! the reference's reader: what it lays -/
section ZVK
/-- all cells of panes of the draft, but pane p's, are as they were -/
def Pz (p : Int) (h g : my_H) : Prop := (∀ q : Int, q ≠ p → g 168 q = h 168 q ∧ g 169 q = h 169 q ∧ g 170 q = h 170 q ∧ g 171 q = h 171 q) ∧ ∀ j : Int, (j < 8 * p ∨ 8 * p + 8 ≤ j) → g 172 j = h 172 j
theorem Pz_rf {p : Int} {h : my_H} : Pz p h h := ⟨fun _ _ => ⟨rfl, rfl, rfl, rfl⟩, fun _ _ => rfl⟩
theorem Pz_tr {p : Int} {h g g' : my_H} (a : Pz p h g) (b : Pz p g g') : Pz p h g' := by
  refine ⟨fun q n => ?_, fun j o => (b.2 j o).trans (a.2 j o)⟩
  obtain ⟨a1, a2, a3, a4⟩ := a.1 q n
  obtain ⟨b1, b2, b3, b4⟩ := b.1 q n
  exact ⟨b1.trans a1, b2.trans a2, b3.trans a3, b4.trans a4⟩
abbrev MzF : List (Nat × Int) := [(67, -1), (68, -1), (69, -1), (70, -1), (71, -1)]
theorem Pz_ag {p : Int} {h g g' : my_H} (a : my_ag MzF g g') (z : Pz p h g) : Pz p h g' :=
  Pz_tr z ⟨fun _ _ => ⟨a.at mis_168 rfl, a.at mis_169 rfl, a.at mis_170 rfl, a.at mis_171 rfl⟩, fun _ _ => a.at mis_172 rfl⟩
theorem Pz_u {p : Int} {h g g' : my_H} {w a i v : Int} (hw : w ≤ 5) (ha : a = 168 ∨ a = 169 ∨ a = 170 ∨ a = 171) (hi : i = p) (e : g' = my_up g a i v) (z : Pz p h g) : Pz p h g' := by
  have ne : ∀ x j : Int, ¬ (x = a ∧ j = i) → g' x j = g x j := fun x j q => my_up_ne e q
  exact Pz_tr z ⟨fun q n => ⟨ne _ _ (by omega), ne _ _ (by omega), ne _ _ (by omega), ne _ _ (by omega)⟩, fun j _ => ne _ _ (by omega)⟩
theorem Pz_v {p : Int} {h g g' : my_H} {w a i v : Int} (hw : w ≤ 5) (ha : a = 172) (hi : 8 * p ≤ i ∧ i < 8 * p + 8) (e : g' = my_up g a i v) (z : Pz p h g) : Pz p h g' := by
  have ne : ∀ x j : Int, ¬ (x = a ∧ j = i) → g' x j = g x j := fun x j q => my_up_ne e q
  exact Pz_tr z ⟨fun q n => ⟨ne _ _ (by omega), ne _ _ (by omega), ne _ _ (by omega), ne _ _ (by omega)⟩, fun j _ => ne _ _ (by omega)⟩
/-- pane p is laid -/
def PmI (p : Int) (h h' : my_H) (k a b c : Int) : Prop := Pz p h h' ∧ h' 168 p = k ∧ (k = 5 → h' 170 p = a ∧ h' 169 p = b) ∧ (k ≠ 5 → k ≠ 3 → h' 169 p = a ∧ h' 170 p = b) ∧ (k = 3 → h' 171 p = c)
theorem PmI_5 {p a b : Int} {h h' : my_H} (z : Pz p h h') (k : h' 168 p = 5) (ea : h' 170 p = a) (eb : h' 169 p = b) : PmI p h h' 5 a b 0 := ⟨z, k, fun _ => ⟨ea, eb⟩, fun q => absurd rfl q, fun q => absurd q (by decide)⟩
theorem PmI_4 {p a b c : Int} {h h' : my_H} (z : Pz p h h') (k : h' 168 p = 4) (ea : h' 169 p = a) (eb : h' 170 p = b) : PmI p h h' 4 a b c := ⟨z, k, fun q => absurd q (by decide), fun _ _ => ⟨ea, eb⟩, fun q => absurd q (by decide)⟩
theorem PmI_c {p k a b : Int} {h h' : my_H} (z : Pz p h h') (k2 : k ≤ 2) (ek : h' 168 p = k) (ea : h' 169 p = a) (eb : h' 170 p = b) : PmI p h h' k a b 0 := ⟨z, ek, fun q => by omega, fun _ _ => ⟨ea, eb⟩, fun q => by omega⟩
theorem PmI_3 {p c : Int} {h h' : my_H} (z : Pz p h h') (k : h' 168 p = 3) (ec : h' 171 p = c) : PmI p h h' 3 0 0 c := ⟨z, k, fun q => absurd q (by decide), fun _ q => absurd rfl q, fun _ => ec⟩
theorem PmI_z {p k a b c : Int} {h g h' : my_H} (z : my_ag MzF h g) (q : PmI p g h' k a b c) : PmI p h h' k a b c := ⟨Pz_tr (Pz_ag z Pz_rf) q.1, q.2⟩
theorem PmI_ag {p k a b c : Int} {h g g' : my_H} (z : my_ag MzF g g') (q : PmI p h g k a b c) : PmI p h g' k a b c := by
  obtain ⟨q1, q2, q3, q4, q5⟩ := q
  have e168 : g' 168 p = g 168 p := z.at mis_168 rfl
  have e169 : g' 169 p = g 169 p := z.at mis_169 rfl
  have e170 : g' 170 p = g 170 p := z.at mis_170 rfl
  have e171 : g' 171 p = g 171 p := z.at mis_171 rfl
  exact ⟨Pz_ag z q1, by rw [e168]; exact q2, by rw [e169, e170]; exact q3, by rw [e169, e170]; exact q4, by rw [e171]; exact q5⟩
/-- which cut it is, so far -/
def CuX (h g : my_H) (k : Int) : Prop := g 151 8 = 0 → k = -1 ∨ (k = 0 ∧ sW (sm h) (g 151 7) = 615403) ∨ (k = 1 ∧ sW (sm h) (g 151 7) = 352) ∨ (k = 2 ∧ sW (sm h) (g 151 7) = 679695)
theorem CuX_0 {h g : my_H} {k : Int} (e : k = -1) : CuX h g k := fun _ => Or.inl e
theorem CuX_y {h g : my_H} {k j : Int} (h0 : 0 ≤ j) (h2 : j ≤ 2) (hk : k = j) (w : sW (sm h) (g 151 7) = wm (4 + j)) : CuX h g k := by
  intro _
  have q := wm_cut h0 h2
  omega
theorem CutV_mk {h g : my_H} {k a b : Int} (A : cuA h g) (z : g 151 8 = 0) (C : CuX h g k) (k0 : 0 ≤ k) (ea : a = sV (sm h) (h 151 7)) (eb : b = sV (sm h) (sN (sm h) (g 151 7))) : CutV (sm h) (h 151 7) k a b := by
  obtain ⟨a1, -, -⟩ := A.1 z
  have c := C z
  rw [a1] at c eb
  exact ⟨by omega, ea, eb⟩
theorem CuX_k {h g : my_H} {k : Int} (C : CuX h g k) (z : g 151 8 = 0) : k ≤ 2 := by
  have c := C z
  omega
/-- numbers of a few -/
def FewN (σ : tst) (x c : Int) (f : Int → Int) : Prop := ∀ j : Int, 0 ≤ j → j < c → f j = sV σ (zsN σ x j.toNat)
def FjI (p : Int) (h g : my_H) (n : Int) : Prop := FewN (sm h) (h 151 7) n (fun j => g 172 (8 * p + j)) ∧ g 151 7 = zsN (sm h) (h 151 7) n.toNat
theorem FjI_0 {p n : Int} {h g : my_H} (e : g 151 7 = h 151 7) (en : n = 0) : FjI p h g n := by
  subst en
  exact ⟨fun j a b => by omega, e⟩
theorem FjI_s {p n m v : Int} {h g g' : my_H} (q : FjI p h g n) (f : ∀ j : Int, j ≠ 8 * p + n → g' 172 j = g 172 j) (k : g' 172 (8 * p + n) = v) (hv : sV (sm h) (g 151 7) = v) (e7 : g' 151 7 = sN (sm h) (g 151 7)) (hm : m = n + 1) (n0 : 0 ≤ n) : FjI p h g' m := by
  obtain ⟨q1, q2⟩ := q
  refine ⟨fun j a b => ?_, ?_⟩
  · show g' 172 (8 * p + j) = _
    by_cases e : j = n
    · rw [e, k, ← hv, q2]
    · rw [f _ (by omega)]
      exact q1 j a (by omega)
  · rw [e7, q2, hm, show (n + 1).toNat = n.toNat + 1 by omega]
    rfl
theorem FewN_cg {σ : tst} {x c c' : Int} {f f' : Int → Int} (e : ∀ j : Int, f' j = f j) (ec : c' = c) (q : FewN σ x c f) : FewN σ x c' f' := by
  subst ec
  intro j a b
  rw [e]
  exact q j a b
end ZVK
section ZVL
/-- a pane is read into the draft -/
def PmJ (h g : my_H) : Prop := ∃ k a b c : Int, PmI (36 + h 167 6) h g k a b c ∧
  ((sW (sm h) (h 151 7) = 4904 ∧ c = 0 ∧ CutV (sm h) (sN (sm h) (h 151 7)) k a b) ∨ (sW (sm h) (h 151 7) = 8422 ∧ k = 3 ∧ FewN (sm h) (sN (sm h) (h 151 7)) c (fun j => g 172 (8 * (36 + h 167 6) + j))) ∨
   (sW (sm h) (h 151 7) = 527412 ∧ k = 4 ∧ JoinV (sm h) (h 157) (sN (sm h) (h 151 7)) a b c) ∨ (sW (sm h) (h 151 7) = 26801 ∧ k = 5 ∧ SumV (sm h) (sN (sm h) (h 151 7)) a b))
theorem PmJ_ag {h g g' : my_H} (z : my_ag MzF g g') (q : PmJ h g) : PmJ h g' := by
  obtain ⟨k, a, b, c, q1, q2⟩ := q
  refine ⟨k, a, b, c, PmI_ag z q1, ?_⟩
  rcases q2 with q | ⟨w, e, q⟩ | q | q
  · exact Or.inl q
  · exact Or.inr (Or.inl ⟨w, e, FewN_cg (fun j => z.at mis_172 rfl) rfl q⟩)
  · exact Or.inr (Or.inr (Or.inl q))
  · exact Or.inr (Or.inr (Or.inr q))
theorem PmJ_c {h g g' : my_H} {p : Int} (w : sW (sm h) (h 151 7) = 4904) (hp : p = 36 + h 167 6) (z : my_ag MzF h g) (q : ∃ k a b : Int, CutV (sm h) (sN (sm h) (h 151 7)) k a b ∧ PmI p g g' k a b 0) : PmJ h g' := by
  subst hp
  obtain ⟨k, a, b, q1, q2⟩ := q
  exact ⟨k, a, b, 0, PmI_z z q2, Or.inl ⟨w, rfl, q1⟩⟩
theorem PmJ_f {h g g' : my_H} {p : Int} (w : sW (sm h) (h 151 7) = 8422) (hp : p = 36 + h 167 6) (z : my_ag MzF h g) (q : FewN (sm h) (sN (sm h) (h 151 7)) (g' 171 p) (fun j => g' 172 (8 * p + j)) ∧ PmI p g g' 3 0 0 (g' 171 p)) : PmJ h g' := by
  subst hp
  exact ⟨3, 0, 0, _, PmI_z z q.2, Or.inr (Or.inl ⟨w, rfl, q.1⟩)⟩
theorem PmJ_j {h g g' : my_H} {p : Int} (w : sW (sm h) (h 151 7) = 527412) (hp : p = 36 + h 167 6) (z : my_ag MzF h g) (e : g 157 = h 157) (q : ∃ a b c : Int, JoinV (sm h) (g 157) (sN (sm h) (h 151 7)) a b c ∧ PmI p g g' 4 a b c) : PmJ h g' := by
  subst hp
  rw [e] at q
  obtain ⟨a, b, c, q1, q2⟩ := q
  exact ⟨4, a, b, c, PmI_z z q2, Or.inr (Or.inr (Or.inl ⟨w, rfl, q1⟩))⟩
theorem PmJ_s {h g g' : my_H} {p : Int} (w : sW (sm h) (h 151 7) = 26801) (hp : p = 36 + h 167 6) (z : my_ag MzF h g) (q : ∃ a b : Int, SumV (sm h) (sN (sm h) (h 151 7)) a b ∧ PmI p g g' 5 a b 0) : PmJ h g' := by
  subst hp
  obtain ⟨a, b, q1, q2⟩ := q
  exact ⟨5, a, b, 0, PmI_z z q2, Or.inr (Or.inr (Or.inr ⟨w, rfl, q1⟩))⟩
/-- a pane, or a fill, is read into the draft -/
def PmQ (h g : my_H) : Prop := (sW (sm h) (h 151 7) = 316695 ∧ my_ag MzF h g ∧ g 167 6 = h 167 6 ∧ ∀ j : Int, g 173 j = if j = 24 + sV (sm h) (sN (sm h) (h 151 7)) then sV (sm h) (sN (sm h) (sN (sm h) (h 151 7))) else h 173 j) ∨
  (sW (sm h) (h 151 7) ≠ 316695 ∧ PmJ h g ∧ g 167 6 = h 167 6 + 1 ∧ (∀ j : Int, g 173 j = h 173 j) ∧ (sW (sm h) (h 151 7) = 8422 → g 171 (36 + h 167 6) = g 151 27))
theorem PmQ_f {h g1 g2 g' : my_H} {i v : Int} (w : sW (sm h) (h 151 7) = 316695) (z : my_ag MzF h g') (e6 : g' 167 6 = h 167 6) (r : ∀ j : Int, g' 173 j = g2 173 j) (u : g2 = my_up g1 173 i v) (ff : ∀ j : Int, g1 173 j = h 173 j) (hi : i = 24 + sV (sm h) (sN (sm h) (h 151 7))) (hv : v = sV (sm h) (sN (sm h) (sN (sm h) (h 151 7)))) : PmQ h g' := by
  refine Or.inl ⟨w, z, e6, fun j => ?_⟩
  rw [r]
  by_cases e : j = 24 + sV (sm h) (sN (sm h) (h 151 7))
  · rw [if_pos e, e, ← hi, my_up_self u, hv]
  · rw [if_neg e, my_up_ne u (by omega), ff]
theorem PmQ_p {h g : my_H} (w : sW (sm h) (h 151 7) ≠ 316695) (q : PmJ h g) (e6 : g 167 6 = h 167 6 + 1) (r : ∀ j : Int, g 173 j = h 173 j) (c : sW (sm h) (h 151 7) = 8422 → g 171 (36 + h 167 6) = g 151 27) : PmQ h g := Or.inr ⟨w, q, e6, r, c⟩
/-- the pane that was laid is the pane that was read -/
theorem mPk_pn {h g : my_H} (q : PmJ h g) (c : sW (sm h) (h 151 7) = 8422 → g 171 (36 + h 167 6) = g 151 27) (e57 : g 157 = h 157) : PEq (mPk g (36 + h 167 6)) (pnP (sm h) (h 157) (sW (sm h) (h 151 7)) (sN (sm h) (h 151 7)) (g 151 27)) := by
  obtain ⟨k, a, b, d, ⟨-, p1, p2, p3, p4⟩, q⟩ := q
  have mk5 : k = 5 → PEq (mPk g (36 + h 167 6)) (5, a, b, 0, fun _ => 0) := fun e => by
    unfold mPk
    rw [if_pos (by omega)]
    obtain ⟨x, y⟩ := p2 e
    exact ⟨rfl, fun z => absurd z (by show ¬ (5 : Int) = 3; decide), fun _ => ⟨x, y⟩, fun z => absurd z (by show ¬ (5 : Int) = 4; decide)⟩
  have mkn : k ≠ 5 → k ≠ 3 → PEq (mPk g (36 + h 167 6)) (k, a, b, (if k = 4 then h 157 b else 0), fun _ => 0) := fun e e3 => by
    unfold mPk
    rw [if_neg (by omega), p1, e57]
    obtain ⟨x, y⟩ := p3 e e3
    refine ⟨rfl, fun z => absurd z e3, fun _ => ⟨x, y⟩, fun z => ?_⟩
    have z' : k = 4 := z
    show (if k = 4 then h 157 (g 170 (36 + h 167 6)) else g 171 (36 + h 167 6)) = if k = 4 then h 157 b else 0
    rw [if_pos z', if_pos z', y]
  rcases q with ⟨w, ed, v⟩ | ⟨w, ek, v⟩ | ⟨w, ek, v⟩ | ⟨w, ek, v⟩
  · have v' := v
    obtain ⟨v1, v2, v3⟩ := v'
    refine (mkn (by omega) (by omega)).tr ?_
    obtain ⟨m1, m2, -, -⟩ := PnM_cut (cl := h 157) (c1 := g 151 27) (f := fun _ => 0) w v
    obtain ⟨m3, m4⟩ := m2 (by omega)
    exact ⟨m1.symm, fun z => by have z' : k = 3 := z; omega, fun _ => ⟨m3.symm, m4.symm⟩, fun z => by have z' : k = 4 := z; omega⟩
  · have ed : d = g 151 27 := by rw [← c w, p4 ek]
    have e1 : pnP (sm h) (h 157) (sW (sm h) (h 151 7)) (sN (sm h) (h 151 7)) (g 151 27) = (3, 0, 0, g 151 27, fun j => if 0 ≤ j ∧ j < g 151 27 then sV (sm h) (zsN (sm h) (sN (sm h) (h 151 7)) j.toNat) else 0) := by
      unfold pnP
      rw [if_neg (by omega), if_pos w]
    have e2 : mPk g (36 + h 167 6) = (3, g 169 (36 + h 167 6), g 170 (36 + h 167 6), g 171 (36 + h 167 6), fun j => g 172 (8 * (36 + h 167 6) + j)) := by
      unfold mPk
      rw [if_neg (by omega), if_neg (by omega), p1, ek]
    have cw := c w
    rw [e1, e2]
    refine ⟨rfl, fun _ => ⟨cw, fun j x y => ?_⟩, fun z => absurd rfl z, fun z => absurd z (by show ¬ (3 : Int) = 4; decide)⟩
    have y' : j < g 171 (36 + h 167 6) := y
    show g 172 (8 * (36 + h 167 6) + j) = if 0 ≤ j ∧ j < g 151 27 then sV (sm h) (zsN (sm h) (sN (sm h) (h 151 7)) j.toNat) else 0
    rw [if_pos ⟨x, by omega⟩]
    exact v j x (by omega)
  · have v' := v
    obtain ⟨v1, v2, v3⟩ := v'
    refine (mkn (by omega) (by omega)).tr ?_
    obtain ⟨m1, m2, m5, -⟩ := PnM_join (c1 := g 151 27) (f := fun _ => 0) w v
    obtain ⟨m3, m4⟩ := m2 (by decide)
    rw [ek, if_pos rfl]
    exact ⟨m1.symm, fun z => absurd z (by show ¬ (4 : Int) = 3; decide), fun _ => ⟨m3.symm, m4.symm⟩, fun _ => by rw [m5 (by omega), v3, v1]⟩
  · refine (mk5 ek).tr ?_
    obtain ⟨m1, m2, -, -⟩ := PnM_sum (cl := h 157) (c1 := g 151 27) (f := fun _ => 0) w v
    obtain ⟨m3, m4⟩ := m2 (by decide)
    exact ⟨m1.symm, fun z => absurd z (by show ¬ (5 : Int) = 3; decide), fun _ => ⟨m3.symm, m4.symm⟩, fun z => absurd z (by show ¬ (5 : Int) = 4; decide)⟩
end ZVL
section ZVM
/-- fills of windows are as they were -/
def Kf (h g : my_H) : Prop := ∀ j : Int, j < 24 → g 173 j = h 173 j
theorem Kf_rf {h : my_H} : Kf h h := fun _ _ => rfl
theorem Kf_tr {h g g' : my_H} (p : Kf h g) (q : Kf g g') : Kf h g' := fun j a => (q j a).trans (p j a)
theorem Kf_ag {h g g' : my_H} (a : my_ag [(72, -1)] g g') (p : Kf h g) : Kf h g' := Kf_tr p (fun _ _ => a.at pis_173 rfl)
theorem Kf_u {h g g' : my_H} {w a i v : Int} (hw : w ≤ 5) (ha : a = 173) (hi : 24 ≤ i) (e : g' = my_up g a i v) (p : Kf h g) : Kf h g' := Kf_tr p (fun j b => my_up_ne e (by omega))
theorem AgM_ag {h g g' : my_H} (a : my_ag MzF g g') (p : my_ag MzF h g) : my_ag MzF h g' := p.tr a
def Ff (h g : my_H) : Prop := ∀ j : Int, g 173 j = h 173 j
theorem Ff_rf {h : my_H} : Ff h h := fun _ => rfl
theorem Ff_ag {h g g' : my_H} (a : my_ag [(72, -1)] g g') (p : Ff h g) : Ff h g' := fun j => (a.at pis_173 rfl).trans (p j)
/-- fills are none so far -/
theorem FlI_s {g g1 g2 g' : my_H} {n m i v : Int} (p : ∀ c : Int, 0 ≤ c → c < n → g 173 (24 + c) = -1) (b : ∀ j : Int, g1 173 j = g 173 j) (u : g2 = my_up g1 173 i v) (r : ∀ j : Int, g' 173 j = g2 173 j) (hi : i = 24 + n) (hv : v = -1) (hm : m = n + 1) : ∀ c : Int, 0 ≤ c → c < m → g' 173 (24 + c) = -1 := by
  intro c a d
  rw [r]
  by_cases e : c = n
  · rw [e, ← hi, my_up_self u, hv]
  · rw [my_up_ne u (by omega), b]
    exact p c a (by omega)
theorem mPk_old {x g : my_H} {p q : Int} (e8 : g 168 p = x 168 q) (e9 : g 169 p = x 169 q) (e0 : g 170 p = x 170 q) (e1 : g 171 p = x 171 q) (e2 : ∀ j : Int, 0 ≤ j → j < 8 → g 172 (8 * p + j) = x 172 (8 * q + j)) (e57 : g 157 = x 157) (c : x 168 q = 3 → x 171 q ≤ 8) : PEq (mPk g p) (mPk x q) := by
  unfold mPk
  rw [e8, e9, e0, e1, e57]
  by_cases k5 : x 168 q = 5
  · rw [if_pos k5, if_pos k5]
    exact ⟨rfl, fun z => absurd z (by show ¬ (5 : Int) = 3; decide), fun _ => ⟨rfl, rfl⟩, fun _ => rfl⟩
  · rw [if_neg k5, if_neg k5]
    refine ⟨rfl, fun z => ⟨rfl, fun j a b => ?_⟩, fun _ => ⟨rfl, rfl⟩, fun _ => rfl⟩
    have z' : x 168 q = 3 := z
    have b' : j < (if x 168 q = 4 then x 157 (x 170 q) else x 171 q) := b
    rw [if_neg (by omega)] at b'
    exact e2 j a (by have := c z'; omega)
theorem mPs_old {x g : my_H} {w v N : Int} (e57 : g 157 = x 157) (e : ∀ i : Int, 0 ≤ i → i < N → g 168 (6 * w + i) = x 168 (6 * v + i) ∧ g 169 (6 * w + i) = x 169 (6 * v + i) ∧ g 170 (6 * w + i) = x 170 (6 * v + i) ∧ g 171 (6 * w + i) = x 171 (6 * v + i) ∧ (∀ j : Int, 0 ≤ j → j < 8 → g 172 (8 * (6 * w + i) + j) = x 172 (8 * (6 * v + i) + j)) ∧ (x 168 (6 * v + i) = 3 → x 171 (6 * v + i) ≤ 8)) : ∀ n : Nat, (n : Int) ≤ N → PEqL (mPs g w n) (mPs x v n)
  | 0, _ => trivial
  | n + 1, a => by
    obtain ⟨e8, e9, e0, e1, e2, c⟩ := e (n : Int) (by omega) (by omega)
    exact ⟨mPk_old e8 e9 e0 e1 e2 e57 c, mPs_old e57 e n (by omega)⟩
theorem PmJ_3 {h g : my_H} (q : PmJ h g) (z : g 168 (36 + h 167 6) = 3) : sW (sm h) (h 151 7) = 8422 := by
  obtain ⟨k, a, b, c, ⟨-, p1, -⟩, q⟩ := q
  rcases q with ⟨w, -, v, -⟩ | ⟨w, -⟩ | ⟨w, e, -⟩ | ⟨w, e, -⟩
  · omega
  · exact w
  · omega
  · omega
/-- the draft, so far read -/
def RmS (h g : my_H) (w : Int) : Prop := g 166 6 = sV (sm g) (sN (sm g) (sN (sm g) 0)) ∧ 0 ≤ g 167 6 ∧ (∀ i : Int, 0 ≤ i → i < g 167 6 → g 168 (6 * 6 + i) = 3 → g 171 (6 * 6 + i) ≤ 8) ∧ ∀ W B : Int → Int, MwW h W → BwB h B → ∃ (y0 c0 : Int) (k : Nat) (P : List zqP) (F : Int → Int),
  overR (sm g) (h 157) (h 164) W B w 0 0 y0 c0 (h 157 (g 151 33)) (ovo g 6) ∧ stQ (sm g) (h 157) (h 157 (g 151 33)) y0 c0 k (g 151 7) (g 151 27) (g 167 6) P F ∧ PEqL (mPs g 6 (g 167 6).toNat) P ∧ ∀ c : Int, 0 ≤ c → c ≤ 3 → g 173 (24 + c) = F c
theorem RmS_0 {h x g : my_H} {w φ : Int} (O : ∀ W B : Int → Int, MwW x W → BwB x B → overR (sm x) (x 157) (x 164) W B w (x 151 7) φ (g 151 7) (g 151 27) (g 157 (g 151 33)) (ovo g 6)) (K : Ko h x) (e1 : ∀ j : Int, x 157 j = h 157 j) (e2 : ∀ j : Int, g 157 j = h 157 j) (e3 : ∀ j : Int, x 164 j = h 164 j) (t : ∀ k : Int, 0 ≤ k → k ≤ 6 → 0 ≤ h 167 k ∧ h 167 k ≤ 6) (z : φ = 0) (a0 : x 151 7 = 0) (es : sm g = sm x) (p6 : g 167 6 = 0) (n6 : g 166 6 = sV (sm x) (sN (sm x) (sN (sm x) (x 151 7)))) (fl : ∀ c : Int, 0 ≤ c → c ≤ 3 → g 173 (24 + c) = -1) : RmS h g w := by
  subst z
  refine ⟨by rw [n6, a0, es], by omega, fun i a b => by omega, fun W B hW hB => ?_⟩
  have o := O W B (MwW_ko K e1 t hW) (BwB_ko K e1 hB)
  rw [a0, e2, show x 157 = h 157 from funext e1, show x 164 = h 164 from funext e3, ← es] at o
  refine ⟨_, _, 0, [], fun _ => -1, o, ⟨rfl, rfl, p6, rfl, rfl⟩, ?_, fl⟩
  rw [p6]
  trivial
theorem RmS_s {h x g : my_H} {w φ : Int} (I : RmS h x w) (k0 : sK (sm x) (x 151 7) ≠ 0) (p : paneR (sm x) (x 157) (x 157 (x 151 33)) (x 151 7) (x 151 27) (x 167 6) φ (g 151 7) (g 151 27) (g 167 6)) (e1 : ∀ j : Int, x 157 j = h 157 j) (z : φ = 0) (es : sm g = sm x) (e33 : g 151 33 = x 151 33) (eo : ovo g 6 = ovo x 6) (Q : PmQ x g) (e2 : ∀ j : Int, g 157 j = h 157 j) (e66 : g 166 6 = x 166 6) (c8 : g 151 27 ≤ 8) : RmS h g w := by
  subst z
  have f1 : x 157 = h 157 := funext e1
  have f2 : g 157 = x 157 := (funext e2).trans f1.symm
  rw [e1, f1] at p
  obtain ⟨i1, i2, i3, I⟩ := I
  unfold RmS
  rw [es, e66, e33, eo]
  rcases Q with ⟨w0, ag, e6, f⟩ | ⟨w0, J, e6, f, c⟩
  · have a8 : ∀ i : Int, g 168 i = x 168 i := fun i => ag.at mis_168 rfl
    have a1 : ∀ i : Int, g 171 i = x 171 i := fun i => ag.at mis_171 rfl
    rw [e6] at p ⊢
    refine ⟨i1, i2, fun i a b z => by rw [a1]; exact i3 i a b (by rw [← a8]; exact z), fun W B hW hB => ?_⟩
    obtain ⟨y0, c0, k, P, F, r1, r2, r3, r4⟩ := I W B hW hB
    refine ⟨y0, c0, k + 1, P, zyU F (sV (sm x) (sN (sm x) (x 151 7))) (sV (sm x) (sN (sm x) (sN (sm x) (x 151 7)))), r1, ⟨x 151 7, x 151 27, x 167 6, P, F, r2, k0, p, Or.inl ⟨w0, rfl, rfl⟩⟩, ?_, fun c c0 c3 => ?_⟩
    · refine PEqL.tr (mPs_old f2 (N := x 167 6) (fun i a b => ⟨a8 _, ag.at mis_169 rfl, ag.at mis_170 rfl, a1 _, fun j _ _ => ag.at mis_172 rfl, i3 i a b⟩) _ (by omega)) r3
    · rw [f]
      unfold zyU
      by_cases e : c = sV (sm x) (sN (sm x) (x 151 7))
      · rw [if_pos (by omega), if_pos e]
      · rw [if_neg (by omega), if_neg e]
        exact r4 c c0 c3
  · have J' := J
    obtain ⟨k', a', b', c', ⟨⟨z1, z2⟩, -⟩, -⟩ := J'
    rw [e6] at p ⊢
    refine ⟨i1, by omega, fun i a b z => ?_, fun W B hW hB => ?_⟩
    · by_cases e : i = x 167 6
      · rw [e, show (6 * 6 + x 167 6 : Int) = 36 + x 167 6 by omega] at z ⊢
        rw [c (PmJ_3 J z)]
        exact c8
      · obtain ⟨q8, -, -, q1⟩ := z1 (6 * 6 + i) (by omega)
        rw [q1]
        exact i3 i a (by omega) (by rw [← q8]; exact z)
    · obtain ⟨y0, c0, k, P, F, r1, r2, r3, r4⟩ := I W B hW hB
      refine ⟨y0, c0, k + 1, pnP (sm x) (h 157) (sW (sm x) (x 151 7)) (sN (sm x) (x 151 7)) (g 151 27) :: P, F, r1, ⟨x 151 7, x 151 27, x 167 6, P, F, r2, k0, p, Or.inr ⟨w0, rfl, rfl⟩⟩, ?_, fun c c0 c3 => by rw [f]; exact r4 c c0 c3⟩
      rw [show (x 167 6 + 1).toNat = (x 167 6).toNat + 1 by omega]
      have m := mPk_pn J c f2
      rw [f1] at m
      refine ⟨?_, PEqL.tr (mPs_old f2 (N := x 167 6) (fun i a b => ?_) _ (by omega)) r3⟩
      · rw [show (6 * 6 + ((x 167 6).toNat : Int)) = 36 + x 167 6 by omega]
        exact m
      · obtain ⟨q8, q9, q0, q1⟩ := z1 (6 * 6 + i) (by omega)
        exact ⟨q8, q9, q0, q1, fun j j0 j8 => z2 _ (by omega), i3 i a b⟩
/-- the draft becomes window w, its fills too -/
def KeepG (h g : my_H) (w : Int) : Prop := KeepF h g w ∧ Cpy h g 173 (4 * w) 4 24
/-- what was told of window w -/
def NwM (h h' : my_H) (w : Int) : Prop := ∀ W B : Int → Int, MwW h W → BwB h B → ∃ (y0 c0 b c o : Int) (k : Nat) (x : Int) (P : List zqP) (F : Int → Int),
  overR (sm h') (h 157) (h 164) W B w 0 0 y0 c0 b o ∧ stQ (sm h') (h 157) b y0 c0 k x c (h' 167 w) P F ∧ sK (sm h') x = 0 ∧ PEqL (mPs h' w (h' 167 w).toNat) P ∧ (0 ≤ h' 167 w ∧ h' 167 w ≤ 6) ∧ h' 164 w = 1 ∧ (∀ c : Int, 0 ≤ c → c ≤ 3 → h' 173 (4 * w + c) = F c) ∧ h' 166 w = sV (sm h') (sN (sm h') (sN (sm h') 0)) ∧ o = ovo h' w ∧ b = (if h' 165 w = 1 then h 157 (h' 166 w) else B (h' 166 w)) ∧ ∀ i : Int, 0 ≤ i → i < h' 167 w → h' 168 (6 * w + i) = 3 → h' 171 (6 * w + i) ≤ 8
/-- all that is told of other windows is as it was -/
def LoM (h h' : my_H) (w : Int) : Prop := (∀ k : Int, k ≤ 5 → k ≠ w → h' 164 k = h 164 k ∧ h' 165 k = h 165 k ∧ h' 166 k = h 166 k ∧ h' 167 k = h 167 k) ∧ (∀ i : Int, i < 36 → (i < 6 * w ∨ 6 * w + 6 ≤ i) → h' 168 i = h 168 i ∧ h' 169 i = h 169 i ∧ h' 170 i = h 170 i ∧ h' 171 i = h 171 i) ∧ (∀ i : Int, i < 288 → (i < 48 * w ∨ 48 * w + 48 ≤ i) → h' 172 i = h 172 i) ∧ ∀ i : Int, i < 24 → (i < 4 * w ∨ 4 * w + 4 ≤ i) → h' 173 i = h 173 i
theorem Cpy_out {h g : my_H} {a lo n src j : Int} (p : Cpy h g a lo n src) (o : j < lo ∨ lo + n ≤ j) : g a j = h a j := by
  rw [p j, if_neg (by omega)]
theorem Cpy_in {h g : my_H} {a lo n src i : Int} (p : Cpy h g a lo n src) (i0 : 0 ≤ i) (i1 : i < n) : g a (lo + i) = h a (src + i) := by
  rw [p, if_pos (by omega), show lo + i - lo + src = src + i by omega]
theorem LoM_mk {h x h' : my_H} {w : Int} (K : KeepG x h' w) (ko : Ko h x) (kf : Kf h x) : LoM h h' w := by
  obtain ⟨⟨p4, p5, p6, p7, c8, c9, c0, c1, c2⟩, c3⟩ := K
  refine ⟨fun k k5 kw => ?_, fun i a o => ?_, fun i a o => ?_, fun i a o => ?_⟩
  · obtain ⟨o1, o2, o3, o4⟩ := ko.1 k k5
    rw [p4 k, p5 k, p6 k, p7 k, if_neg kw, if_neg kw, if_neg kw, if_neg kw]
    exact ⟨o1, o2, o3, o4⟩
  · obtain ⟨o1, o2, o3, o4⟩ := ko.2.1 i a
    rw [Cpy_out c8 o, Cpy_out c9 o, Cpy_out c0 o, Cpy_out c1 o]
    exact ⟨o1, o2, o3, o4⟩
  · rw [Cpy_out c2 o]
    exact ko.2.2 i a
  · rw [Cpy_out c3 o]
    exact kf i a
theorem NwM_mk {h x h' : my_H} {w : Int} (I : RmS h x w) (k0 : sK (sm x) (x 151 7) = 0) (K : KeepG x h' w) (es : sm h' = sm x) (bs : ∀ B : Int → Int, BwB h B → h 157 (x 151 33) = if x 165 6 = 1 then h 157 (x 166 6) else B (x 166 6)) (e57 : ∀ j : Int, h' 157 j = x 157 j) (t6 : x 167 6 ≤ 6) : NwM h h' w := by
  obtain ⟨i1, i2, i3, I⟩ := I
  obtain ⟨⟨p4, p5, p6, p7, c8, c9, c0, c1, c2⟩, c3⟩ := K
  have q4 : h' 164 w = 1 := by rw [p4 w, if_pos rfl]
  have q5 : h' 165 w = x 165 6 := by rw [p5 w, if_pos rfl]
  have q6 : h' 166 w = x 166 6 := by rw [p6 w, if_pos rfl]
  have q7 : h' 167 w = x 167 6 := by rw [p7 w, if_pos rfl]
  intro W B hW hB
  obtain ⟨y0, z0, k, P, F, r1, r2, r3, r4⟩ := I W B hW hB
  unfold ovo
  rw [es, q4, q5, q6, q7]
  refine ⟨y0, z0, _, x 151 27, _, k, x 151 7, P, F, r1, r2, k0, ?_, ⟨i2, t6⟩, rfl, fun c a b => ?_, i1, rfl, bs B hB, fun i a b => ?_⟩
  · refine PEqL.tr (mPs_old (funext e57) (N := x 167 6) (fun i a b => ?_) _ (by omega)) r3
    refine ⟨Cpy_in c8 a (by omega), Cpy_in c9 a (by omega), Cpy_in c0 a (by omega), Cpy_in c1 a (by omega), fun j j0 j8 => ?_, i3 i a b⟩
    rw [show 8 * (6 * w + i) + j = 48 * w + (8 * i + j) by omega, Cpy_in c2 (by omega) (by omega), show 8 * (6 * 6 + i) + j = 288 + (8 * i + j) by omega]
  · rw [Cpy_in c3 a (by omega)]
    exact r4 c a b
  · rw [Cpy_in c8 a (by omega), Cpy_in c1 a (by omega)]
    exact i3 i a b
end ZVM
