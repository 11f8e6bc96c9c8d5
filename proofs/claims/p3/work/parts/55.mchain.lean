/-! sayings of the reference: the chain of windows, the lowest first -/
section MPQ
/-- a window that the chain may begin with: told, or the one that is being read -/
def Fp (h : my_H) (w : Int) : Prop := (w ≤ 5 → h 164 w = 1) ∧ (w = 6 → (h 165 6 = 0 ∨ h 165 6 = 1) ∧ 0 ≤ h 166 6 ∧ (h 165 6 = 1 → h 166 6 ≤ 2 ∧ 1 ≤ h 157 (h 166 6)) ∧ (h 165 6 = 0 → h 166 6 ≤ 4 ∧ h 164 (h 166 6) = 1))
def Fc (h g : my_H) (c w w0 : Int) : Prop := (c = 0 → w = w0) ∧ (0 < c → w ≤ 5 - c ∧ -1 ≤ w ∧ (0 ≤ w → h 165 (g 177 0) = 0 ∧ h 166 (g 177 0) = w ∧ h 164 w = 1) ∧ (w = -1 → h 165 (g 177 0) = 1 ∧ g 151 33 = h 166 (g 177 0))) ∧ (∀ j : Int, 0 < j → j < c → h 165 (g 177 j) = 0 ∧ h 166 (g 177 j) = g 177 (j - 1)) ∧ (0 < c → g 177 (c - 1) = w0) ∧ (∀ j : Int, 0 ≤ j → j + 1 < c → g 177 j ≤ 5 ∧ h 164 (g 177 j) = 1) ∧ (∀ j : Int, 0 ≤ j → j < c → 0 ≤ g 177 j ∧ g 177 j ≤ 6)
theorem Fc_0 {h g : my_H} {w0 : Int} : Fc h g 0 w0 w0 :=
  ⟨fun _ => rfl, fun q => absurd q (by omega), fun j a b => absurd a (by omega), fun q => absurd q (by omega), fun j a b => absurd a (by omega), fun j a b => absurd a (by omega)⟩
/-- what a window that is told rests on, for the chain -/
theorem Mw.over {h : my_H} {w : Int} (p : Mw h) (a : 0 ≤ w) (b : w ≤ 5) (t : h 164 w = 1) : (h 165 w = 0 ∨ h 165 w = 1) ∧ 0 ≤ h 166 w ∧ (h 165 w = 1 → h 166 w ≤ 2 ∧ 1 ≤ h 157 (h 166 w)) ∧ (h 165 w = 0 → h 166 w < w ∧ h 164 (h 166 w) = 1) := by
  obtain ⟨W, q⟩ := p
  obtain ⟨⟨q1, q2, q3, q4, -⟩, -⟩ := q w a b t
  exact ⟨q1, q2, q3, q4⟩
theorem Fc_s {h g g' : my_H} {c w w0 w' : Int} (M : Mw h) (F0 : Fp h w0) (h06 : w0 ≤ 6) (p : Fc h g c w w0) (hc : 0 ≤ c) (hw : 0 ≤ w) (e0 : g' 177 0 = w) (ej : ∀ j : Int, 0 < j → j ≤ c → g' 177 j = g 177 (j - 1)) (ew : w' = if h 165 w = 1 then -1 else h 166 w) (eb : h 165 w = 1 → g' 151 33 = h 166 w) : Fc h g' (c + 1) w' w0 := by
  obtain ⟨p1, p2, p3, p4, p5, p6⟩ := p
  -- the window that comes
  have key : w ≤ 6 ∧ (w ≤ 5 → h 164 w = 1) ∧ (h 165 w = 0 ∨ h 165 w = 1) ∧ 0 ≤ h 166 w ∧ (h 165 w = 0 → h 166 w ≤ 4 - c ∧ h 164 (h 166 w) = 1) ∧ (0 < c → w ≤ 5) := by
    by_cases hz : c = 0
    · have e := p1 hz
      subst e
      by_cases h5 : w ≤ 5
      · have t := F0.1 h5
        obtain ⟨o1, o2, o3, o4⟩ := M.over hw h5 t
        exact ⟨by omega, fun _ => t, o1, o2, fun q => ⟨by have := (o4 q).1; omega, (o4 q).2⟩, fun q => by omega⟩
      · have e6 : w = 6 := by omega
        subst e6
        obtain ⟨o1, o2, o3, o4⟩ := F0.2 rfl
        exact ⟨by omega, fun q => absurd q (by omega), o1, o2, fun q => ⟨by have := (o4 q).1; omega, (o4 q).2⟩, fun q => by omega⟩
    · obtain ⟨r1, r2, r3, r4⟩ := p2 (by omega)
      obtain ⟨s1, s2, s3⟩ := r3 hw
      obtain ⟨o1, o2, o3, o4⟩ := M.over hw (by omega) s3
      exact ⟨by omega, fun _ => s3, o1, o2, fun q => ⟨by have := (o4 q).1; omega, (o4 q).2⟩, fun _ => by omega⟩
  obtain ⟨k1, k2, k3, k4, k5, k6⟩ := key
  refine ⟨fun q => by omega, fun _ => ?_, fun j a b => ?_, fun _ => ?_, fun j a b => ?_, fun j a b => ?_⟩
  · rw [e0]
    by_cases hq : h 165 w = 1
    · rw [if_pos hq] at ew
      subst ew
      refine ⟨?_, by omega, fun q => absurd q (by omega), fun _ => ⟨hq, eb hq⟩⟩
      by_cases hz : c = 0
      · omega
      · have := (p2 (by omega)).1; omega
    · rw [if_neg hq] at ew
      have h0 : h 165 w = 0 := by omega
      have := k5 h0
      subst ew
      exact ⟨by omega, by omega, fun _ => ⟨h0, rfl, this.2⟩, fun q => absurd q (by omega)⟩
  · rw [ej j a (by omega)]
    by_cases hj : j = 1
    · subst hj
      rw [show (1 : Int) - 1 = 0 from rfl, e0]
      obtain ⟨r1, r2, r3, r4⟩ := p2 (by omega)
      exact ⟨(r3 hw).1, (r3 hw).2.1⟩
    · rw [ej (j - 1) (by omega) (by omega)]
      exact p3 (j - 1) (by omega) (by omega)
  · by_cases hz : c = 0
    · rw [hz, show (0 : Int) + 1 - 1 = 0 from rfl, e0]
      exact p1 hz
    · rw [show c + 1 - 1 = c by omega, ej c (by omega) (by omega)]
      exact p4 (by omega)
  · by_cases hj : j = 0
    · subst hj
      rw [e0]
      exact ⟨k6 (by omega), k2 (k6 (by omega))⟩
    · rw [ej j (by omega) (by omega)]
      exact p5 (j - 1) (by omega) (by omega)
  · by_cases hj : j = 0
    · subst hj
      rw [e0]
      exact ⟨hw, k1⟩
    · rw [ej j (by omega) (by omega)]
      exact p6 (j - 1) (by omega) (by omega)
theorem Fc_cg {h g g' : my_H} {c w w0 : Int} (e : ∀ j : Int, g' 177 j = g 177 j) (eb : g' 151 33 = g 151 33) (p : Fc h g c w w0) : Fc h g' c w w0 := by
  obtain ⟨p1, p2, p3, p4, p5, p6⟩ := p
  refine ⟨p1, ?_, fun j => ?_, ?_, fun j => ?_, fun j => ?_⟩
  · rw [e, eb]; exact p2
  · rw [e, e]; exact p3 j
  · rw [e]; exact p4
  · rw [e]; exact p5 j
  · rw [e]; exact p6 j
end MPQ
section MPR
theorem Fc_base {h g : my_H} {c w w0 : Int} (M : Mw h) (F0 : Fp h w0) (h06 : w0 ≤ 6) (p : Fc h g c w w0) (hc : 0 ≤ c) (hw : 0 ≤ w) : (h 165 w = 1 → 0 ≤ h 166 w ∧ h 166 w ≤ 2) := by
  intro q
  by_cases hz : c = 0
  · have e := p.1 hz
    subst e
    by_cases h5 : w ≤ 5
    · obtain ⟨o1, o2, o3, o4⟩ := M.over hw h5 (F0.1 h5)
      exact ⟨o2, (o3 q).1⟩
    · have e6 : w = 6 := by omega
      subst e6
      obtain ⟨o1, o2, o3, o4⟩ := F0.2 rfl
      exact ⟨o2, (o3 q).1⟩
  · obtain ⟨r1, r2, r3, r4⟩ := p.2.1 (by omega)
    obtain ⟨o1, o2, o3, o4⟩ := M.over hw (by omega) (r3 hw).2.2
    exact ⟨o2, (o3 q).1⟩
end MPR
section MPS
theorem Fc_next {h g : my_H} {W : Int → Int} {c x1 j : Int} (M : MwW h W) (p : Fc h g c (-1) x1) (a : 0 ≤ j) (b : j + 1 < c) : mst h W (g 177 (j + 1)) = mwf h (g 177 j) (mst h W (g 177 j)) (h 167 (g 177 j)).toNat := by
  obtain ⟨q1, q2⟩ := p.2.2.2.2.1 j a b
  obtain ⟨r1, r2⟩ := p.2.2.1 (j + 1) (by omega) b
  rw [show j + 1 - 1 = j by omega] at r2
  have q3 := p.2.2.2.2.2 j a (by omega)
  rw [(M _ q3.1 q1 q2).2]
  unfold mst
  rw [if_neg (by omega), r2]
theorem Fc_first {h g : my_H} {W : Int → Int} {c x1 : Int} (p : Fc h g c (-1) x1) (hc : 0 < c) : mst h W (g 177 0) = h 157 (g 151 33) := by
  obtain ⟨-, -, -, r4⟩ := p.2.1 hc
  obtain ⟨s1, s2⟩ := r4 rfl
  unfold mst
  rw [if_pos s1, s2]
theorem Fc_last {h g : my_H} {c x1 : Int} (p : Fc h g c (-1) x1) (hc : 0 < c) : g 177 (c - 1) = x1 := p.2.2.2.1 hc
theorem Fc_mok {h g : my_H} {W : Int → Int} {c x1 j : Int} (M : MwW h W) (h6 : x1 = 6 → h 167 6 = 0) (hx : x1 ≤ 5 → h 164 x1 = 1) (p : Fc h g c (-1) x1) (a : 0 ≤ j) (b : j < c) : mok h (g 177 j) (mst h W (g 177 j)) (h 167 (g 177 j)).toNat := by
  have q3 := p.2.2.2.2.2 j a b
  by_cases hj : j + 1 < c
  · obtain ⟨q1, q2⟩ := p.2.2.2.2.1 j a hj
    exact (M _ q3.1 q1 q2).1.2.2.2.2
  · have e := p.2.2.2.1 (by omega)
    rw [show c - 1 = j by omega] at e
    rw [e] at q3 ⊢
    by_cases h5 : x1 ≤ 5
    · exact (M _ q3.1 h5 (hx h5)).1.2.2.2.2
    · have e6 : x1 = 6 := by omega
      subst e6
      rw [h6 rfl]
      intro k hk
      exact absurd hk (Nat.not_lt_zero k)
theorem mok_at {h : my_H} {w c n s : Int} (p : mok h w c n.toNat) (h0 : 0 ≤ s) (h1 : s < n) : (h 168 (6 * w + s) = 4 → 0 ≤ h 170 (6 * w + s) ∧ h 170 (6 * w + s) ≤ 2 ∧ 1 ≤ h 157 (h 170 (6 * w + s)) ∧ mwf h w c s.toNat + h 157 (h 170 (6 * w + s)) ≤ 9) ∧ (h 168 (6 * w + s) = 5 → h 170 (6 * w + s) ≤ 7) := by
  have := p s.toNat (by omega)
  rwa [Int.toNat_of_nonneg h0] at this
theorem mwf_at {h : my_H} {w c s : Int} (h0 : 0 ≤ s) : mwf h w c (s + 1).toNat = ms h (6 * w + s) (mwf h w c s.toNat) := by
  rw [show (s + 1).toNat = s.toNat + 1 by omega, mwf, Int.toNat_of_nonneg h0]
end MPS
