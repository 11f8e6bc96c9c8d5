/-! what class and reference read of the same tape is the same -/
section MTP
theorem read_eq {h h1 h2 : my_H} {w φ φ' c b o c' b' o' n : Int} (w5 : w ≤ 5) (Q : Ceq h) (T : Teq h) (N : Wnq h) (e57 : ∀ j : Int, h1 157 j = h 157 j) (e64 : ∀ j : Int, h1 164 j = h 164 j) (et : tm_of h1 = tm_of h) (mt : Mt (tm_of h1) h2 n) (pc : readR (cs h) (h 2) (cT h) (cW h) (cB h) w (tS (tp_of h) 0) φ c b o) (pm : readR (sm h2) (h1 157) (h1 164) (cW h) (cB h) w 0 φ' c' b' o') : φ = φ' ∧ 0 ≤ φ ∧ (φ = 0 → c = c' ∧ b = b' ∧ o = o') := by
  rw [et, ← show tp_of h = tm_of h from T] at mt
  have ps : tS (tp_of h) 0 = sP (sm h2) 0 := mt.2.2.1.symm
  rw [ps] at pc
  refine read2 w5 (fun v a b => ?_) (fun v a b => ⟨?_, fun _ => ⟨rfl, rfl⟩⟩) (Mt_bis mt) (Int.le_refl 0) mt.1 pc pm
  · rw [e57]; exact Q v a b
  · rw [e64]; exact N.2.1 v a b
theorem MwW_1 {h h1 : my_H} (g : my_ag [(56, -1), (63, -1), (64, -1), (65, -1), (66, -1), (67, -1), (69, -1), (70, -1)] h h1) (N : Wnq h) : MwW h1 (cW h) ∧ BwB h1 (cB h) := by
  refine ⟨MwW_cg (Msm.of g) N.2.2.2.1, fun k a b c => ?_⟩
  rw [g.at (j := k) mis_164 rfl] at c
  rw [g.at (j := k) mis_165 rfl, g.at (j := k) mis_166 rfl, g.at (j := h 166 k) mis_157 rfl]
  exact N.2.2.2.2 k a b c
/-- under another one: both say so, or none -/
theorem under_eq {h h1 : my_H} {w : Int} (N : Wnq h) (e4 : ∀ j : Int, h1 164 j = h 164 j) (e5 : ∀ j : Int, h1 165 j = h 165 j) (e6 : ∀ j : Int, h1 166 j = h 166 j) (w0 : 0 ≤ w) : (∃ v : Int, 0 ≤ v ∧ v ≤ 5 ∧ h (h 27 v) 0 = 1 ∧ h (h 27 v) 1 = w) ↔ (∃ k : Int, 0 ≤ k ∧ k ≤ 5 ∧ h1 164 k = 1 ∧ h1 165 k = 0 ∧ h1 166 k = w) := by
  obtain ⟨p1, p2, p3, p4, p5⟩ := N
  constructor
  · rintro ⟨v, a, b, c, d⟩
    rw [p2 v a b] at c
    have q := p3 v a b c
    rw [d] at q
    obtain ⟨⟨o1, -⟩, -⟩ := p4 v a b c
    unfold ovo at q
    by_cases z : h 165 v = 1
    · rw [if_pos z] at q; omega
    · rw [if_neg z] at q
      exact ⟨v, a, b, by rw [e4]; exact c, by rw [e5]; omega, by rw [e6]; exact q.symm⟩
  · rintro ⟨v, a, b, c, d, f⟩
    rw [e4] at c
    rw [e5] at d
    rw [e6] at f
    refine ⟨v, a, b, by rw [p2 v a b]; exact c, ?_⟩
    rw [p3 v a b c]
    unfold ovo
    rw [if_neg (by omega)]
    exact f
/-- window w is told anew in both -/
theorem Wnq_new {h h1 g h2 : my_H} {w c b o : Int} (N : Wnq h) (L : Ln h1) (w0 : 0 ≤ w) (w5 : w ≤ 5) (nl : NewL h h1 w c b o) (nu : ∀ k : Int, 0 ≤ k → k ≤ 5 → h1 164 k = 1 → h1 165 k = 0 → h1 166 k ≠ w)
    (gm : my_ag [(56, -1), (63, -1), (64, -1), (65, -1), (66, -1), (67, -1), (69, -1), (70, -1)] h h1) (t : ∀ k : Int, 0 ≤ k → k ≤ 6 → 0 ≤ h1 167 k ∧ h1 167 k ≤ 6) (F : KeepF g h2 w) (M : Mq g w) (K : Ko h1 g) (e57 : ∀ j : Int, g 157 j = h1 157 j)
    (gc : my_ag [(22, -1), (4, 0), (4, 1), (4, 3), (4, 4), (56, -1)] h1 h2) (ec : c = g 151 27) (eb : b = h1 157 (g 151 33)) (eo : o = ovo g 6) (bs : ∀ B : Int → Int, BwB h1 B → h1 157 (g 151 33) = if g 165 6 = 1 then h1 157 (g 166 6) else B (g 166 6)) : Wnq h2 := by
  obtain ⟨m1, m2⟩ := MwW_1 gm N
  obtain ⟨p1, p2, p3, -, -⟩ := N
  obtain ⟨⟨n1, n2, n3, n4⟩, nv⟩ := nl
  have c27 : ∀ v : Int, h2 27 v = h1 27 v := fun v => gc.at pis_27 rfl
  have cis : ∀ v : Int, 0 ≤ v → v ≤ 5 → my_is 4 (h1 27 v) := fun v a b => L.2.2.1 v a b
  have f0 : ∀ v : Int, 0 ≤ v → v ≤ 5 → h2 (h1 27 v) 0 = h1 (h1 27 v) 0 := fun v a b => gc.at (cis v a b) rfl
  have f1 : ∀ v : Int, 0 ≤ v → v ≤ 5 → h2 (h1 27 v) 1 = h1 (h1 27 v) 1 := fun v a b => gc.at (cis v a b) rfl
  have f3 : ∀ v : Int, 0 ≤ v → v ≤ 5 → h2 (h1 27 v) 3 = h1 (h1 27 v) 3 := fun v a b => gc.at (cis v a b) rfl
  have f4 : ∀ v : Int, 0 ≤ v → v ≤ 5 → h2 (h1 27 v) 4 = h1 (h1 27 v) 4 := fun v a b => gc.at (cis v a b) rfl
  have d57 : ∀ j : Int, h2 157 j = h1 157 j := fun j => gc.at mis_157 rfl
  have g4 : ∀ j : Int, h1 164 j = h 164 j := fun j => gm.at mis_164 rfl
  have g5 : ∀ j : Int, h1 165 j = h 165 j := fun j => gm.at mis_165 rfl
  have g6 : ∀ j : Int, h1 166 j = h 166 j := fun j => gm.at mis_166 rfl
  have Wg : MwW g (cW h) := MwW_ko K e57 t m1
  have gu : ∀ k : Int, 0 ≤ k → k ≤ 5 → g 164 k = 1 → g 165 k = 0 → g 166 k ≠ w := fun k a b u v => by
    obtain ⟨k1, k2, k3, -⟩ := K.1 k b
    rw [k1] at u
    rw [k2] at v
    rw [k3]
    exact nu k a b u v
  have W2 := MwW_keep M Wg w0 w5 gu (fun j => (d57 j).trans (e57 j).symm) F
  obtain ⟨F4, F5, F6, -⟩ := F
  have h4w : h2 164 w = 1 := by rw [F4, if_pos rfl]
  have h4v : ∀ v : Int, v ≤ 5 → v ≠ w → h2 164 v = h 164 v := fun v b q => by rw [F4, if_neg q, (K.1 v b).1, g4]
  have h5v : ∀ v : Int, v ≤ 5 → v ≠ w → h2 165 v = h 165 v := fun v b q => by rw [F5, if_neg q, (K.1 v b).2.1, g5]
  have h6v : ∀ v : Int, v ≤ 5 → v ≠ w → h2 166 v = h 166 v := fun v b q => by rw [F6, if_neg q, (K.1 v b).2.2.1, g6]
  have h5w : h2 165 w = g 165 6 := by rw [F5, if_pos rfl]
  have h6w : h2 166 w = g 166 6 := by rw [F6, if_pos rfl]
  have eW : ∀ v : Int, 0 ≤ v → v ≤ 5 → (if v = w then g 151 27 else cW h v) = cW h2 v := fun v a b' => by
    by_cases q : v = w
    · subst q
      rw [if_pos rfl]
      unfold cW
      rw [c27, f4 v a b', n2, ec]
    · obtain ⟨k1, k2, k3, k4, k5⟩ := nv v a b' q
      rw [if_neg q]
      unfold cW
      rw [c27, f4 v a b', k1, k5]
  have eBv : ∀ v : Int, 0 ≤ v → v ≤ 5 → v ≠ w → cB h2 v = cB h v := fun v a b' q => by
    obtain ⟨k1, k2, k3, k4, k5⟩ := nv v a b' q
    unfold cB
    rw [c27, f3 v a b', k1, k4]
  have eBw : cB h2 w = b := by
    unfold cB
    rw [c27, f3 w w0 w5, n3]
  have M2 := MwW_ext eW W2
  obtain ⟨⟨W0, -, D, -, -⟩, -⟩ := M
  obtain ⟨d1, d2, d3, d4, -⟩ := D
  refine ⟨fun v a b' => by rw [c27]; exact cis v a b', fun v a b' => ?_, fun v a b' u => ?_, M2, fun k a b' u => ?_⟩
  · rw [c27, f0 v a b']
    by_cases q : v = w
    · rw [q, h4w]; exact n1
    · obtain ⟨k1, k2, k3, k4, k5⟩ := nv v a b' q
      rw [h4v v b' q, k1, k2]
      exact p2 v a b'
  · rw [c27, f1 v a b']
    by_cases q : v = w
    · subst q
      unfold ovo
      rw [h5w, h6w, n4, eo]
      rfl
    · obtain ⟨k1, k2, k3, k4, k5⟩ := nv v a b' q
      rw [h4v v b' q] at u
      unfold ovo
      rw [h5v v b' q, h6v v b' q, k1, k3]
      exact p3 v a b' u
  · by_cases q : k = w
    · subst q
      rw [h5w, h6w, d57, eBw, eb, bs _ m2]
      by_cases z : g 165 6 = 1
      · rw [if_pos z, if_pos z]
      · rw [if_neg z, if_neg z]
        have zz := d4 (by omega)
        exact (eBv _ d2 (by omega) (by omega)).symm
    · rw [h4v k b' q] at u
      have uu : h1 164 k = 1 := by rw [g4]; exact u
      have r := m2 k a b' uu
      rw [h5v k b' q, h6v k b' q, eBv k a b' q, r, g5, g6, d57]
      by_cases z : h 165 k = 1
      · rw [if_pos z, if_pos z]
      · rw [if_neg z, if_neg z]
        obtain ⟨⟨o1, o2, o3, o4, -⟩, -⟩ := m1 k a b' uu
        have z0 : h1 165 k = 0 := by have := g5 k; omega
        have zn := nu k a b' uu z0
        have zl := (o4 z0).1
        rw [g6] at zn zl o2
        exact (eBv _ o2 (by omega) zn).symm
end MTP
