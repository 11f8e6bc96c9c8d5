/-! sayings of the reference: windows -/
section MPN
def ms (h : my_H) (p c : Int) : Int := if h 168 p = 5 then 2 else if h 168 p = 4 then c + h 157 (h 170 p) - 1 else if h 168 p = 3 then h 171 p else c
def mwf (h : my_H) (w c : Int) : Nat → Int
  | 0 => c
  | n + 1 => ms h (6 * w + n) (mwf h w c n)
def mok (h : my_H) (w c : Int) (n : Nat) : Prop := ∀ k : Nat, k < n → (h 168 (6 * w + k) = 4 → 0 ≤ h 170 (6 * w + k) ∧ h 170 (6 * w + k) ≤ 2 ∧ 1 ≤ h 157 (h 170 (6 * w + k)) ∧ mwf h w c k + h 157 (h 170 (6 * w + k)) ≤ 9) ∧ (h 168 (6 * w + k) = 5 → h 170 (6 * w + k) ≤ 7)
/-- where a window starts, in columns, by the widths W of those below -/
def mst (h : my_H) (W : Int → Int) (k : Int) : Int := if h 165 k = 1 then h 157 (h 166 k) else W (h 166 k)
/-- a window, told or drafted, under lim -/
def Mo (h : my_H) (W : Int → Int) (k lim : Int) : Prop := (h 165 k = 0 ∨ h 165 k = 1) ∧ 0 ≤ h 166 k ∧ (h 165 k = 1 → h 166 k ≤ 2 ∧ 1 ≤ h 157 (h 166 k)) ∧ (h 165 k = 0 → h 166 k < lim ∧ h 164 (h 166 k) = 1) ∧ mok h k (mst h W k) (h 167 k).toNat
def MwW (h : my_H) (W : Int → Int) : Prop := ∀ k : Int, 0 ≤ k → k ≤ 5 → h 164 k = 1 → Mo h W k k ∧ mwf h k (mst h W k) (h 167 k).toNat = W k
def Mw (h : my_H) : Prop := ∃ W : Int → Int, MwW h W
/-- the windows, and the one that is being read, w columns wide so far -/
def Md (h : my_H) (w : Int) : Prop := ∃ W : Int → Int, MwW h W ∧ Mo h W 6 w ∧ mwf h 6 (mst h W 6) (h 167 6).toNat = h 151 27
abbrev MwF : List (Nat × Int) := [(56, -1), (63, -1), (64, -1), (65, -1), (66, -1), (67, -1), (69, -1), (70, -1)]
abbrev MdF : List (Nat × Int) := [(56, -1), (63, -1), (64, -1), (65, -1), (66, -1), (67, -1), (69, -1), (70, -1), (10, 27)]
theorem mis_157 : my_is 56 157 := by unfold my_is; decide +kernel
theorem mis_164 : my_is 63 164 := by unfold my_is; decide +kernel
theorem mis_165 : my_is 64 165 := by unfold my_is; decide +kernel
theorem mis_166 : my_is 65 166 := by unfold my_is; decide +kernel
theorem mis_167 : my_is 66 167 := by unfold my_is; decide +kernel
theorem mis_168 : my_is 67 168 := by unfold my_is; decide +kernel
theorem mis_170 : my_is 69 170 := by unfold my_is; decide +kernel
theorem mis_171 : my_is 70 171 := by unfold my_is; decide +kernel
/-- what windows rest on is the same -/
def Msm (h h' : my_H) : Prop := (∀ j : Int, h' 157 j = h 157 j) ∧ (∀ j : Int, h' 164 j = h 164 j) ∧ (∀ j : Int, h' 165 j = h 165 j) ∧ (∀ j : Int, h' 166 j = h 166 j) ∧ (∀ j : Int, h' 167 j = h 167 j) ∧ (∀ j : Int, h' 168 j = h 168 j) ∧ (∀ j : Int, h' 170 j = h 170 j) ∧ (∀ j : Int, h' 171 j = h 171 j)
theorem Msm.of {h h' : my_H} (g : my_ag MwF h h') : Msm h h' := ⟨fun _ => g.at mis_157 rfl, fun _ => g.at mis_164 rfl, fun _ => g.at mis_165 rfl, fun _ => g.at mis_166 rfl, fun _ => g.at mis_167 rfl, fun _ => g.at mis_168 rfl, fun _ => g.at mis_170 rfl, fun _ => g.at mis_171 rfl⟩
theorem ms_cg {h h' : my_H} (g : Msm h h') (p c : Int) : ms h' p c = ms h p c := by
  obtain ⟨g1, g2, g3, g4, g5, g6, g7, g8⟩ := g
  unfold ms
  rw [g6, g7, g1, g8]
theorem mwf_cg {h h' : my_H} (g : Msm h h') (w c : Int) : ∀ n : Nat, mwf h' w c n = mwf h w c n
  | 0 => rfl
  | n + 1 => by rw [mwf, mwf, mwf_cg g w c n, ms_cg g]
theorem mok_cg {h h' : my_H} (g : Msm h h') {w c : Int} {n : Nat} (p : mok h w c n) : mok h' w c n := by
  intro k hk
  rw [mwf_cg g]
  obtain ⟨g1, g2, g3, g4, g5, g6, g7, g8⟩ := g
  rw [g6, g7, g1]
  exact p k hk
theorem mst_cg {h h' : my_H} (g : Msm h h') (W : Int → Int) (k : Int) : mst h' W k = mst h W k := by
  obtain ⟨g1, g2, g3, g4, g5, g6, g7, g8⟩ := g
  unfold mst
  rw [g3, g4, g1]
theorem Mo_cg {h h' : my_H} (g : Msm h h') {W : Int → Int} {k lim : Int} (p : Mo h W k lim) : Mo h' W k lim := by
  obtain ⟨p1, p2, p3, p4, p5⟩ := p
  unfold Mo
  rw [mst_cg g]
  refine ⟨?_, ?_, ?_, ?_, ?_⟩
  · rw [g.2.2.1]; exact p1
  · rw [g.2.2.2.1]; exact p2
  · rw [g.2.2.1, g.2.2.2.1, g.1]; exact p3
  · rw [g.2.2.1, g.2.2.2.1, g.2.1]; exact p4
  · rw [g.2.2.2.2.1]; exact mok_cg g p5
theorem MwW_cg {h h' : my_H} (g : Msm h h') {W : Int → Int} (p : MwW h W) : MwW h' W := by
  intro k a b c
  rw [g.2.1] at c
  obtain ⟨q1, q2⟩ := p k a b c
  exact ⟨Mo_cg g q1, by rw [mst_cg g, mwf_cg g, g.2.2.2.2.1]; exact q2⟩
theorem Mw_ag {h h' : my_H} (g : my_ag MwF h h') (p : Mw h) : Mw h' := by
  obtain ⟨W, q⟩ := p
  exact ⟨W, MwW_cg (Msm.of g) q⟩
theorem Md_ag {h h' : my_H} {w : Int} (g : my_ag MdF h h') (p : Md h w) : Md h' w := by
  obtain ⟨W, q, q2, q3⟩ := p
  have g' := Msm.of (g.mo (G := MwF) rfl)
  refine ⟨W, MwW_cg g' q, Mo_cg g' q2, ?_⟩
  rw [mst_cg g', mwf_cg g', g'.2.2.2.2.1, g.at (j := 27) pis_151 rfl]
  exact q3
theorem Md.mw {h : my_H} {w : Int} (p : Md h w) : Mw h := by
  obtain ⟨W, q, -⟩ := p
  exact ⟨W, q⟩
/-- the chain of windows as the reference lays it: the lowest first -/
def Mc (h g : my_H) (n w : Int) : Prop := (∀ j : Int, 0 ≤ j → j < n → 0 ≤ g 177 j ∧ g 177 j ≤ 6 ∧ (j + 1 < n → g 177 j ≤ 5) ∧ (g 177 j ≤ 5 → h 164 (g 177 j) = 1) ∧ (0 < j → h 165 (g 177 j) = 0 ∧ h 166 (g 177 j) = g 177 (j - 1))) ∧ (0 < n → g 177 (n - 1) = w)
end MPN
