/-! sayings of the reference: the window that is being read -/
section MPU
theorem P6_ag {h h1 h2 : my_H} (g : my_ag [(66, -1)] h1 h2) (p : h1 167 6 = h 167 6) : h2 167 6 = h 167 6 := by
  rw [g.at mis_167 rfl]; exact p
/-- cells of the pane that is being read, which isn't counted yet, may change -/
theorem mwf_far {h h' : my_H} {w c : Int} : ∀ n : Nat, (∀ j : Int, 6 * w ≤ j → j < 6 * w + n → h' 168 j = h 168 j ∧ h' 170 j = h 170 j ∧ h' 171 j = h 171 j) → (∀ j : Int, h' 157 j = h 157 j) → mwf h' w c n = mwf h w c n
  | 0, _, _ => rfl
  | n + 1, g, g1 => by
    obtain ⟨a, b, d⟩ := g (6 * w + n) (by omega) (by omega)
    rw [mwf, mwf, mwf_far n (fun j a b => g j a (by omega)) g1]
    unfold ms
    rw [a, b, d, g1]
theorem mok_far {h h' : my_H} {w c : Int} {n : Nat} (g : ∀ j : Int, 6 * w ≤ j → j < 6 * w + n → h' 168 j = h 168 j ∧ h' 170 j = h 170 j ∧ h' 171 j = h 171 j) (g1 : ∀ j : Int, h' 157 j = h 157 j) (p : mok h w c n) : mok h' w c n := by
  intro k hk
  obtain ⟨a, b, d⟩ := g (6 * w + k) (by omega) (by omega)
  rw [a, b, g1, mwf_far k (fun j u v => g j u (by omega)) g1]
  exact p k hk
/-- a window rests on its own cells -/
theorem Mo_far {h h' : my_H} {W : Int → Int} {k lim : Int} (p : Mo h W k lim) (e5 : h' 165 k = h 165 k) (e6 : h' 166 k = h 166 k) (e7 : h' 167 k = h 167 k) (e4 : h' 164 (h 166 k) = h 164 (h 166 k)) (g1 : ∀ j : Int, h' 157 j = h 157 j) (g : ∀ j : Int, 6 * k ≤ j → j < 6 * k + (h 167 k).toNat → h' 168 j = h 168 j ∧ h' 170 j = h 170 j ∧ h' 171 j = h 171 j) : Mo h' W k lim ∧ mst h' W k = mst h W k ∧ mwf h' k (mst h W k) (h 167 k).toNat = mwf h k (mst h W k) (h 167 k).toNat := by
  obtain ⟨p1, p2, p3, p4, p5⟩ := p
  have es : mst h' W k = mst h W k := by
    unfold mst
    rw [e5, e6, g1]
  refine ⟨⟨by rw [e5]; exact p1, by rw [e6]; exact p2, by rw [e5, e6, g1]; exact p3, by rw [e5, e6, e4]; exact p4, ?_⟩, es, mwf_far _ g g1⟩
  rw [es, e7]
  exact mok_far g g1 p5
theorem Md_far {h h' : my_H} {w : Int} (hw : w ≤ 5) (hp : 0 ≤ h 167 6 ∧ ∀ k : Int, 0 ≤ k → k ≤ 5 → h 167 k ≤ 6) (p : Md h w) (e4 : ∀ j : Int, h' 164 j = h 164 j) (e5 : ∀ j : Int, h' 165 j = h 165 j) (e6 : ∀ j : Int, h' 166 j = h 166 j) (e7 : ∀ j : Int, h' 167 j = h 167 j) (e1 : ∀ j : Int, h' 157 j = h 157 j) (e27 : h' 151 27 = h 151 27) (g : ∀ j : Int, j < 36 + h 167 6 → h' 168 j = h 168 j ∧ h' 170 j = h 170 j ∧ h' 171 j = h 171 j) : Md h' w := by
  obtain ⟨W, q, q2, q3⟩ := p
  refine ⟨W, fun k a b c => ?_, ?_⟩
  · rw [e4] at c
    obtain ⟨r1, r2⟩ := q k a b c
    have hk := hp.2 k a b
    obtain ⟨s1, s2, s3⟩ := Mo_far r1 (e5 k) (e6 k) (e7 k) (e4 _) e1 (fun j u v => g j (by omega))
    exact ⟨s1, by rw [s2, e7, s3]; exact r2⟩
  · obtain ⟨s1, s2, s3⟩ := Mo_far q2 (e5 6) (e6 6) (e7 6) (e4 _) e1 (fun j u v => g j (by omega))
    exact ⟨s1, by rw [s2, e7, s3, e27]; exact q3⟩
end MPU
