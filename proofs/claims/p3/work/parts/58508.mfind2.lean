/-! the reference: all ways are found, steps for the walk -/
section ZTH
theorem zqAg.tr {S T U : Int → Int} (p : zqAg S T) (q : zqAg T U) : zqAg S U := fun j a b => (q j a b).trans (p j a b)
theorem Fw1_to {h g : my_H} {s w x x' : Int} (p : Fw1 h g s w x) (e : x = x') : Fw1 h g s w x' := by rw [← e]; exact p
theorem FwA_mk {h g1 g : my_H} {s w e i j v : Int} (V : VmI g1 (zqMS h s) (mBs h w) (h 157 (mBs h w)) (mCW h w)) (vs : VmS g1) (p : ((zqL (zqN (wv (g1 151 27) g) (g1 151 27)) (g 151 46).toNat).map Prod.snd).Perm (EdLm g1 e i j v (g1 188))) (q : zqS zqle (fun i => (zqN (wv (g1 151 27) g) (g1 151 27) i).2) (g 151 46).toNat) (e188 : ∀ j : Int, g1 188 j = h 188 j) (n46 : 0 ≤ g 151 46) : FwA h g s w e i j v := by
  have v1 : g1 151 27 = MWd h w := V.1
  have v4 := V.2.2.2.1
  have vs' := vs
  unfold VmS at vs'
  rw [← V.1, zqL_map] at v4
  refine ⟨⟨fun k => (zqN g1 (g1 151 27) k).2, (g1 151 37).toNat, vs', v4, ?_⟩, ?_⟩
  · rw [← V.1, ← v1, ← show g1 188 = h 188 from funext e188]
    exact p
  · unfold WSm
    rw [← v1]
    exact ⟨q, n46⟩
theorem mFf_bd {h : my_H} {c : Int} (c0 : 0 ≤ c) (c3 : c ≤ 3) (kF : ∀ j : Int, 0 ≤ j → j < 28 → h 173 j ≤ 19) (kP : ∀ j : Int, 0 ≤ j → j < 7 → 0 ≤ h 166 j ∧ h 166 j ≤ 6) : ∀ (f : Nat) (w : Int), 0 ≤ w → w ≤ 6 → 0 ≤ mFf h c f w ∧ mFf h c f w ≤ 19
  | 0, _, _, _ => ⟨Int.le_refl 0, by show (0 : Int) ≤ 19; omega⟩
  | f + 1, w, w0, w6 => by
    have k := kF (4 * w + c) (by omega) (by omega)
    have q := kP w w0 (by omega)
    rw [mFf]
    split
    · exact ⟨by assumption, k⟩
    · split
      · omega
      · exact mFf_bd c0 c3 kF kP f (h 166 w) q.1 q.2
theorem cmM_bd {h : my_H} {w c : Int} (w0 : 0 ≤ w) (w5 : w ≤ 5) (L : LmW h) (t : h 164 w = 1) (kD : ∀ j : Int, 0 ≤ j → j < 8 → 0 ≤ h 188 j ∧ h 188 j ≤ 19) (kF : ∀ j : Int, 0 ≤ j → j < 28 → h 173 j ≤ 19) (kP : ∀ j : Int, 0 ≤ j → j < 7 → 0 ≤ h 166 j ∧ h 166 j ≤ 6) (c0 : 0 ≤ c) (c3 : c ≤ 3) : 0 ≤ cmM h w c ∧ cmM h w c ≤ 19 := by
  have w8 := LmW_8 L w0 w5 t
  unfold cmM zqCm
  have go : ∀ n : Nat, (n : Int) ≤ 8 → zqFo (zqOg (mBs h w) (h 157 (mBs h w)) (mCW h w)) (4 * mBs h w + c) (h 188) n = none ∨ ∃ y : Int, 0 ≤ y ∧ y < n ∧ zqFo (zqOg (mBs h w) (h 157 (mBs h w)) (mCW h w)) (4 * mBs h w + c) (h 188) n = some (h 188 y) := by
    intro n
    induction n with
    | zero => exact fun _ => Or.inl rfl
    | succ n ih =>
      intro hn
      rcases ih (by omega) with z | ⟨y, y0, y1, z⟩
      · rw [zqFo, z]
        by_cases q : zqOg (mBs h w) (h 157 (mBs h w)) (mCW h w) (n : Int) = 4 * mBs h w + c
        · exact Or.inr ⟨n, by omega, by omega, if_pos q⟩
        · exact Or.inl (if_neg q)
      · exact Or.inr ⟨y, y0, by omega, by rw [zqFo, z]⟩
  rcases go (MWd h w).toNat (by omega) with z | ⟨y, y0, y1, z⟩
  · rw [z]
    show 0 ≤ mFu h w c ∧ mFu h w c ≤ 19
    unfold mFu
    split
    · exact mFf_bd c0 c3 kF kP 6 w w0 (by omega)
    · omega
  · rw [z]; exact kD y y0 (by omega)
/-- cells of other states than the trial's stay -/
def Ot8 (h g : my_H) : Prop := (∀ j : Int, (j < 480 ∨ 540 ≤ j) → g 162 j = h 162 j) ∧ ∀ j : Int, (j < 1920 ∨ 2160 ≤ j) → g 163 j = h 163 j
theorem Ot8.cg {h g g1 : my_H} (p : Ot8 h g) (e2 : ∀ j : Int, (j < 480 ∨ 540 ≤ j) → g1 162 j = g 162 j) (e3 : ∀ j : Int, (j < 1920 ∨ 2160 ≤ j) → g1 163 j = g 163 j) : Ot8 h g1 := ⟨fun j a => (e2 j a).trans (p.1 j a), fun j a => (e3 j a).trans (p.2 j a)⟩
theorem Ot8_cp {h g g1 : my_H} {s : Int} (c2 : ∀ j : Int, g 162 j = h 162 j) (c3 : ∀ j : Int, g 163 j = h 163 j) (p : Cp g g1 s 8) (q : CpI g g1 s 8 240) : Ot8 h g1 :=
  ⟨fun j a => (p.2 j (by omega)).trans (c2 j), fun j a => (q.2.1 j (by omega)).trans (c3 j)⟩
theorem Ot8_ly {h g g1 : my_H} {b k a0 a1 a2 a3 : Int} (p : Ot8 h g) (l : LyP g g1 (60 * 8 + 20 * b + k) a0 a1 a2 a3) (b0 : 0 ≤ b) (b2 : b ≤ 2) (k0 : 0 ≤ k) (k9 : k ≤ 19) : Ot8 h g1 := by
  obtain ⟨-, p2, -, -, -, -, p7⟩ := l
  exact p.cg (fun j a => p2 j (by omega)) (fun j a => p7 j (by omega))
end ZTH
