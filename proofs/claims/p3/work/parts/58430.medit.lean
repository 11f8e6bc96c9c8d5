/-! the reference: an edit that can be opened -/
section ZSE
theorem VmI_len {g : my_H} {b m : Int} {S : Int → Int} {P : List zqP} (p : VmI g S b m P) : g 151 37 = ((zqRun S m ((zqLd S b m 20).map Prod.snd) P).length : Int) := by
  obtain ⟨v1, v2, v3, v4, v5⟩ := p
  have q := v4.length_eq
  rw [List.length_map, zqL_len] at q
  omega
def MdOk (h : my_H) (s w e i j v : Int) : Prop := (0 ≤ e ∧ e ≤ 2) ∧ (0 ≤ w ∧ w ≤ 5 ∧ h 164 w ≠ 0) ∧ (e ≠ 2 → 0 ≤ i ∧ i < ((zqRun (zqMS h s) (h 157 (mBs h w)) ((zqLd (zqMS h s) (mBs h w) (h 157 (mBs h w)) 20).map Prod.snd) (mCW h w)).length : Int)) ∧ (e = 0 → 0 ≤ j ∧ j < zqW (h 157 (mBs h w)) (mCW h w) ∧ 0 ≤ v ∧ v ≤ 199)
end ZSE
