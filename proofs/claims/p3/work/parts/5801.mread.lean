/-! sayings of the reference: reading a pane -/
section MPY
def Mr (h : my_H) (w : Int) : Prop := Md h w ∧ ∀ k : Int, 0 ≤ k → k ≤ 6 → 0 ≤ h 167 k ∧ h 167 k ≤ 6
theorem Mr_ag {h h' : my_H} {w : Int} (g : my_ag MdF h h') (p : Mr h w) : Mr h' w :=
  ⟨Md_ag g p.1, fun k a b => by rw [g.at mis_167 rfl]; exact p.2 k a b⟩
theorem Mr_u {h h' : my_H} {w a i v : Int} (hw : w ≤ 5) (ha : a = 168 ∨ a = 170 ∨ a = 171) (hi : i = 36 + h 167 6) (e : h' = my_up h a i v) (p : Mr h w) : Mr h' w := by
  have ne : ∀ x j : Int, x ≠ 168 → x ≠ 170 → x ≠ 171 → h' x j = h x j := fun x j a1 a2 a3 => my_up_ne e (by omega)
  refine ⟨Md_far hw ⟨(p.2 6 (by omega) (by omega)).1, fun k a b => (p.2 k a (by omega)).2⟩ p.1 (fun j => ne _ _ (by decide) (by decide) (by decide)) (fun j => ne _ _ (by decide) (by decide) (by decide)) (fun j => ne _ _ (by decide) (by decide) (by decide)) (fun j => ne _ _ (by decide) (by decide) (by decide)) (fun j => ne _ _ (by decide) (by decide) (by decide)) (ne _ _ (by decide) (by decide) (by decide)) (fun j hj => ⟨my_up_ne e (by omega), my_up_ne e (by omega), my_up_ne e (by omega)⟩), fun k a b => by rw [ne _ _ (by decide) (by decide) (by decide)]; exact p.2 k a b⟩
def PaneOk (h : my_H) (p : Int) : Prop := (h 168 p = 4 → 0 ≤ h 170 p ∧ h 170 p ≤ 2 ∧ 1 ≤ h 157 (h 170 p) ∧ h 151 27 + h 157 (h 170 p) ≤ 9) ∧ (h 168 p = 5 → h 170 p ≤ 7)
/-- the pane that was read counts -/
theorem Mr_add {h h1 h2 : my_H} {w p v : Int} (q : Mr h w) (hp : p = 36 + h 167 6) (ok : PaneOk h p) (g : my_ag MwF h h1) (e27 : h1 151 27 = ms h p (h 151 27)) (e : h2 = my_up h1 167 6 v) (hv : v = h1 167 6 + 1) (h6 : h 167 6 ≤ 5) : Mr h2 w := by
  have g1 := Msm.of g
  obtain ⟨⟨W, M, D, F⟩, t⟩ := q
  have n0 := (t 6 (by omega) (by omega)).1
  have e7 : h1 167 6 = h 167 6 := g.at mis_167 rfl
  have ne : ∀ x j : Int, ¬ (x = 167 ∧ j = 6) → h2 x j = h1 x j := fun x j hx => my_up_ne e hx
  have e76 : h2 167 6 = h 167 6 + 1 := by rw [my_up_self e]; omega
  -- all but the counted panes of 6 is as in h
  have s157 : ∀ j : Int, h2 157 j = h 157 j := fun j => by rw [ne 157 j (by omega)]; exact g1.1 j
  have s164 : ∀ j : Int, h2 164 j = h 164 j := fun j => by rw [ne 164 j (by omega)]; exact g1.2.1 j
  have s165 : ∀ j : Int, h2 165 j = h 165 j := fun j => by rw [ne 165 j (by omega)]; exact g1.2.2.1 j
  have s166 : ∀ j : Int, h2 166 j = h 166 j := fun j => by rw [ne 166 j (by omega)]; exact g1.2.2.2.1 j
  have s167 : ∀ j : Int, j ≠ 6 → h2 167 j = h 167 j := fun j hj => by rw [ne 167 j (by omega)]; exact g1.2.2.2.2.1 j
  have s168 : ∀ j : Int, h2 168 j = h 168 j := fun j => by rw [ne 168 j (by omega)]; exact g1.2.2.2.2.2.1 j
  have s170 : ∀ j : Int, h2 170 j = h 170 j := fun j => by rw [ne 170 j (by omega)]; exact g1.2.2.2.2.2.2.1 j
  have s171 : ∀ j : Int, h2 171 j = h 171 j := fun j => by rw [ne 171 j (by omega)]; exact g1.2.2.2.2.2.2.2 j
  have sms : ∀ j c : Int, ms h2 j c = ms h j c := fun j c => by unfold ms; rw [s168, s170, s157, s171]
  have swf : ∀ (k c : Int) (n : Nat), mwf h2 k c n = mwf h k c n := fun k c n => mwf_far n (fun j _ _ => ⟨s168 j, s170 j, s171 j⟩) s157
  have sst : ∀ k : Int, mst h2 W k = mst h W k := fun k => by unfold mst; rw [s165, s166, s157]
  have en : (h2 167 6).toNat = (h 167 6).toNat + 1 := by omega
  have ecn : (((h 167 6).toNat : Nat) : Int) = h 167 6 := Int.toNat_of_nonneg n0
  have ep : 6 * (6 : Int) + ((h 167 6).toNat : Int) = p := by omega
  refine ⟨⟨W, fun k a b c => ?_, ?_, ?_⟩, fun k a b => ?_⟩
  · rw [s164] at c
    obtain ⟨r1, r2⟩ := M k a b c
    obtain ⟨u1, u2, u3⟩ := Mo_far r1 (s165 k) (s166 k) (s167 k (by omega)) (s164 _) s157 (fun j _ _ => ⟨s168 j, s170 j, s171 j⟩)
    exact ⟨u1, by rw [u2, s167 k (by omega), u3]; exact r2⟩
  · obtain ⟨d1, d2, d3, d4, d5⟩ := D
    refine ⟨by rw [s165]; exact d1, by rw [s166]; exact d2, by rw [s165, s166, s157]; exact d3, by rw [s165, s166, s164]; exact d4, ?_⟩
    rw [sst, en]
    intro j hj
    by_cases hjn : j < (h 167 6).toNat
    · exact (mok_far (fun i _ _ => ⟨s168 i, s170 i, s171 i⟩) s157 d5) j hjn
    · have : j = (h 167 6).toNat := by omega
      subst this
      rw [ep, s168, s170, s157, swf, F]
      exact ok
  · rw [sst, en, mwf, swf, F, ep, sms, ne 151 27 (by omega), e27]
  · by_cases hk : k = 6
    · subst hk
      rw [e76]
      omega
    · rw [s167 k hk]
      exact t k a b
end MPY
section MPZ
variable {l : Launch} {rho : Nat → Int32} {d m pc : Nat} {ls : List my_V} {r : List my_V} {h : my_H} {Q : my_H → my_V → Prop} {a b w : Nat}
theorem w_iastU {ρ n : Nat} {lo x i y : Int} (hpg : mz_pg m pc = some (.iastore, a, b, w)) (hx : my_is ρ x) (hD : my_rd ρ = .inl (0, n, [(0, lo, 2147483647)])) (h0 : 0 ≤ i) (hn : i < n) (hl : lo ≤ y) (k : ∀ h', h' = my_up h x i y → wp l rho d m (pc + 1) ls r h' Q) : wp l rho d m pc ls ((0, y) :: (0, i) :: (2, x) :: r) h Q := fun a1 a2 => by
  have hy : -2147483648 ≤ y ∧ y ≤ 2147483647 := a2.c.1
  exact w_iast hpg hx hD h0 hn hl hy.2 k a1 a2
end MPZ
