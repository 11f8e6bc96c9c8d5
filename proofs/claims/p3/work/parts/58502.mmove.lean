/-! the reference: what is told stays; a change of one cell -/
section ZTB
abbrev LmF : List (Nat × Int) := [(56, -1), (63, -1), (64, -1), (65, -1), (66, -1), (67, -1), (68, -1), (69, -1), (70, -1), (71, -1), (72, -1)]
theorem pis_164 : my_is 63 164 := by unfold my_is; decide +kernel
theorem pis_165 : my_is 64 165 := by unfold my_is; decide +kernel
theorem pis_166 : my_is 65 166 := by unfold my_is; decide +kernel
theorem pis_167 : my_is 66 167 := by unfold my_is; decide +kernel
theorem pis_168 : my_is 67 168 := by unfold my_is; decide +kernel
theorem pis_169 : my_is 68 169 := by unfold my_is; decide +kernel
theorem pis_170 : my_is 69 170 := by unfold my_is; decide +kernel
theorem pis_171 : my_is 70 171 := by unfold my_is; decide +kernel
theorem pis_172 : my_is 71 172 := by unfold my_is; decide +kernel
theorem pis_173 : my_is 72 173 := by unfold my_is; decide +kernel
theorem mPs_cg {h g : my_H} {w : Int} (e : ∀ p : Int, mPk g p = mPk h p) : ∀ n : Nat, mPs g w n = mPs h w n
  | 0 => rfl
  | n + 1 => by
    show mPk g _ :: mPs g w n = mPk h _ :: mPs h w n
    rw [e, mPs_cg e n]
theorem Lm_e {h g : my_H} (a : my_ag LmF h g) : (∀ w : Int, mCW g w = mCW h w ∧ mBs g w = mBs h w ∧ MWd g w = MWd h w) ∧ (∀ j : Int, g 157 j = h 157 j) ∧ (∀ j : Int, g 164 j = h 164 j) ∧ ∀ j : Int, g 173 j = h 173 j := by
  have e157 : ∀ j : Int, g 157 j = h 157 j := fun j => a.at pis_157 rfl
  have e165 : ∀ j : Int, g 165 j = h 165 j := fun j => a.at pis_165 rfl
  have e166 : ∀ j : Int, g 166 j = h 166 j := fun j => a.at pis_166 rfl
  have e167 : ∀ j : Int, g 167 j = h 167 j := fun j => a.at pis_167 rfl
  have ep : ∀ p : Int, mPk g p = mPk h p := fun p => (mPk_eq e157 (fun j => a.at pis_168 rfl) (fun j => a.at pis_169 rfl) (fun j => a.at pis_170 rfl) (fun j => a.at pis_171 rfl) (fun j => a.at pis_172 rfl)).1
  have go : ∀ (f : Nat) (w : Int), mCf g f w = mCf h f w ∧ mBf g f w = mBf h f w := by
    intro f
    induction f with
    | zero => exact fun w => ⟨rfl, rfl⟩
    | succ f ih =>
      intro w
      unfold mCf mBf
      rw [e165, e166, e167, mPs_cg ep, (ih (h 166 w)).1, (ih (h 166 w)).2]
      exact ⟨rfl, rfl⟩
  refine ⟨fun w => ?_, e157, fun j => a.at pis_164 rfl, fun j => a.at pis_173 rfl⟩
  have c := (go 6 w).1
  have b := (go 6 w).2
  refine ⟨c, b, ?_⟩
  unfold MWd mCW mBs
  rw [c, b, e157]
theorem LmW_ag {h g : my_H} (a : my_ag LmF h g) (p : LmW h) : LmW g := fun w w0 w5 t => by
  obtain ⟨e, e157, e164, -⟩ := Lm_e a
  rw [e164] at t
  rw [(e w).1, (e w).2.1, e157]
  exact p w w0 w5 t
/-- what is wanted of a state of a heap -/
def IsP (h : my_H) (s w : Int) : Prop := (zqRun (zqMS h s) (h 157 (mBs h w)) ((zqLd (zqMS h s) (mBs h w) (h 157 (mBs h w)) 20).map Prod.snd) (mCW h w)).Perm (WLm h (MWd h w))
theorem IsP_m {h g : my_H} {s w : Int} {S' : Int → Int} (a : my_ag LmF h g) (ms : zqMS g s = S') (e46 : g 151 46 = h 151 46) (e189 : ∀ j : Int, g 189 j = h 189 j) : IsP g s w ↔ (zqRun S' (h 157 (mBs h w)) ((zqLd S' (mBs h w) (h 157 (mBs h w)) 20).map Prod.snd) (mCW h w)).Perm (WLm h (MWd h w)) := by
  obtain ⟨e, e157, -⟩ := Lm_e a
  unfold IsP
  rw [ms, (e w).1, (e w).2.1, (e w).2.2, e157, (WLm_cg e46 e189).1]
theorem WSm_m {h g : my_H} {w : Int} (a : my_ag LmF h g) (e46 : g 151 46 = h 151 46) (e189 : ∀ j : Int, g 189 j = h 189 j) (p : WSm h (MWd h w)) : WSm g (MWd g w) := by
  rw [((Lm_e a).1 w).2.2]
  exact (WLm_cg e46 e189).2 p
theorem IsE {g : my_H} {r y : Int} {p : Prop} (iw : (Eqr g (g 151 37) → p) ∧ (Dif g → ¬ p)) (a1 : y = 1 → Eqr g r) (a0 : y = 0 → Dif g) (y0 : 0 ≤ y) (y1 : y ≤ 1) (hr : y = 1 → g 151 37 ≤ r) : y = 1 ↔ p := by
  constructor
  · intro z
    have q := a1 z
    exact iw.1 ⟨q.1, fun i c a b => q.2 i c a (by have := hr z; omega)⟩
  · intro z
    by_cases q : y = 1
    · exact q
    · exact absurd z (iw.2 (a0 (by omega)))
theorem Rs_163 {h g g1 : my_H} {x i v : Int} (e : ∀ j : Int, j ≠ x → g 163 j = h 163 j) (u : g1 = my_up g 163 i v) (hi : i = x) (hv : v = h 163 x) : ∀ j : Int, g1 163 j = h 163 j := fun j => by
  by_cases z : j = x
  · rw [z, ← hi, my_up_self u, hv, hi]
  · rw [my_up_ne u (by omega)]; exact e j z
end ZTB
