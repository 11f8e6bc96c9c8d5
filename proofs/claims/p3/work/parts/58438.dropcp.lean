/-! a row goes from a trial, the trial is as the walls again: steps for the walks -/
section ZSL
def DrQ (h g : my_H) (x w k n : Int) : Prop := ∀ j : Int, g (x + 1) j = if j = 80 * w + 4 * k then -1 else if 80 * w + 4 * k < j ∧ j < 80 * w + 4 * k + n then 0 else h (x + 1) j
theorem DrQ_0 {h g : my_H} {x w k i : Int} (u : g = my_up h (x + 1) i (-1)) (hi : i = 80 * w + 4 * k) : DrQ h g x w k 1 := fun j => by
  by_cases z : j = 80 * w + 4 * k
  · rw [if_pos z, z, ← hi]; exact my_up_self u
  · rw [if_neg z, if_neg (by omega)]; exact my_up_ne u (by omega)
theorem DrQ_s {h g g1 : my_H} {x w k n i : Int} (n1 : 1 ≤ n) (p : DrQ h g x w k n) (u : g1 = my_up g (x + 1) i 0) (hi : i = 80 * w + 4 * k + n) : DrQ h g1 x w k (n + 1) := fun j => by
  by_cases z : j = 80 * w + 4 * k + n
  · rw [if_neg (by omega), if_pos (by omega), z, ← hi]; exact my_up_self u
  · rw [my_up_ne u (by omega), p j]
    by_cases y : j = 80 * w + 4 * k
    · rw [if_pos y, if_pos y]
    · rw [if_neg y, if_neg y]
      by_cases q : 80 * w + 4 * k < j ∧ j < 80 * w + 4 * k + n
      · rw [if_pos q, if_pos (by omega)]
      · rw [if_neg q, if_neg (by omega)]
theorem DrQ_e {h g g1 : my_H} {x w k n b v : Int} (p : DrQ h g x w k n) (hn : n = 4) (u : g1 = my_up g (x + 2) b v) : ∀ j : Int, g1 (x + 1) j = zqDrop (h (x + 1)) w k j := fun j => by
  rw [my_up_ne u (by omega), p j, hn]
  rfl
theorem DrQ_z {h g g1 : my_H} {x b v w : Int} (s : ∀ j : Int, g (x + 2) j = h (x + 2) j) (u : g1 = my_up g (x + 2) b v) (hb : b = w) (h10 : 0 ≤ h (x + 2) w ∧ h (x + 2) w ≤ 10) (hv : (0 ≤ g (x + 2) b ∧ g (x + 2) b ≤ 10) → v = g (x + 2) b - 1) : ∀ j : Int, g1 (x + 2) j = if j = w then h (x + 2) j - 1 else h (x + 2) j := fun j => by
  by_cases z : j = w
  · have sb := s b
    rw [if_pos z, z, ← hb, my_up_self u, hv (by rw [sb, hb]; exact h10), sb]
  · rw [if_neg z, my_up_ne u (by omega), s]
theorem Hs_i {S : Int → Int} {w k v : Int} (k0 : 0 ≤ k) (k9 : k ≤ 19) (c : S (80 * w + 4 * k) = v) : (v ≠ -1 → zqHas S ((20 * w + k) / 20) ((20 * w + k) % 20)) ∧ (v = -1 → ¬ zqHas S ((20 * w + k) / 20) ((20 * w + k) % 20)) := by
  rw [show (20 * w + k) / 20 = w by omega, show (20 * w + k) % 20 = k by omega]
  exact ⟨fun z => ⟨k0, k9, by rw [c]; exact z⟩, fun z y => y.2.2 (c.trans z)⟩
theorem Cf_96 {h g1 g2 : my_H} {x : Int} (c : g2 = my_cp g1 (x + 1) 0 96 0 240) (w : ∀ j : Int, 0 ≤ j → j < 240 → g1 (x + 1) j = h 96 j) (o : ∀ j : Int, (j < 0 ∨ 240 ≤ j) → g1 96 j = h 96 j) : ∀ j : Int, g2 96 j = h 96 j := fun j => by
  by_cases z : 0 ≤ j ∧ j < 240
  · rw [my_cp_in c z.1 (by omega), show (0 : Int) + (j - 0) = j by omega]; exact w j z.1 z.2
  · rw [my_cp_ne c (by omega)]; exact o j (by omega)
theorem Cf_97 {h g1 g2 : my_H} {x : Int} (c : g2 = my_cp g1 (x + 2) 0 97 0 3) (w : ∀ j : Int, 0 ≤ j → j < 3 → g1 (x + 2) j = h 97 j) (o : ∀ j : Int, (j < 0 ∨ 3 ≤ j) → g1 97 j = h 97 j) : ∀ j : Int, g2 97 j = h 97 j := fun j => by
  by_cases z : 0 ≤ j ∧ j < 3
  · rw [my_cp_in c z.1 (by omega), show (0 : Int) + (j - 0) = j by omega]; exact w j z.1 z.2
  · rw [my_cp_ne c (by omega)]; exact o j (by omega)
theorem KpS_cp {g2 ga g3 : my_H} {a b m n : Int} (c1 : ga = my_cp g2 a 0 96 0 m) (c2 : g3 = my_cp ga b 0 97 0 n) : KpS g2 g3 := by
  have o : ∀ k j : Int, k ≠ 96 → k ≠ 97 → g3 k j = g2 k j := fun k j p q => (my_cp_ne c2 (by omega)).trans (my_cp_ne c1 (by omega))
  exact ⟨⟨o _ _ (by decide) (by decide), o _ _ (by decide) (by decide), o _ _ (by decide) (by decide), o _ _ (by decide) (by decide), o _ _ (by decide) (by decide), o _ _ (by decide) (by decide), o _ _ (by decide) (by decide), o _ _ (by decide) (by decide), fun j => o _ _ (by decide) (by decide), fun j => o _ _ (by decide) (by decide), fun j => o _ _ (by decide) (by decide)⟩, ⟨o _ _ (by decide) (by decide), o _ _ (by decide) (by decide)⟩, ⟨o _ _ (by decide) (by decide), o _ _ (by decide) (by decide), o _ _ (by decide) (by decide), o _ _ (by decide) (by decide), o _ _ (by decide) (by decide), o _ _ (by decide) (by decide)⟩, ⟨o _ _ (by decide) (by decide), o _ _ (by decide) (by decide), o _ _ (by decide) (by decide), o _ _ (by decide) (by decide), o _ _ (by decide) (by decide), o _ _ (by decide) (by decide)⟩⟩
theorem TgI_to {h g : my_H} {w r r' : Int} (T : TgI h g w r) (e : r = r') : TgI h g w r' := by rw [← e]; exact T
end ZSL
section ZSM
theorem LG_f {h g : my_H} {w : Int} (D : DkE g (h 2) (LGh h w)) (no : g 94 13 = 0 ∨ g 112 0 = -1 ∨ 1 < g 112 0) : 0 ≤ g 94 11 ∧ g 94 11 ≤ 100000 := by
  have d := (DkE_no D no).1
  have l1 := zqV3_len (Q := Q2h h w) 60
  have l2 := LLh_len (h := h) (w := w)
  unfold LGh at d
  rw [List.length_append] at d
  omega
theorem Rn_f {h g : my_H} {w : Int} (K : SrC h w) (p : RcN h g (h 27 w)) : ∀ c : Int, 0 ≤ c → c ≤ 3 → g 110 c = cmR h w c := fun c a b => FrP_R K.2.1 (p.1 c a (by omega))
theorem SrC_sz {h : my_H} {w : Int} (K : SrC h w) (u : Int) (u0 : 0 ≤ u) (u2 : u ≤ 2) : 0 ≤ h 97 u ∧ h 97 u ≤ 10 := by
  have := K.2.2.2.2.2.2.2.2.2.2.2.2.2.2.2.2.2.2.2 u u0 u2
  have := K.2.2.2.2.2.2.2.2.2.2.2.2.2.1.2 u u0 u2
  have := zqCn_nn (S := h 96) (b := u) 20
  omega
end ZSM
section ZSM2
variable {l : Launch} {rho : Nat → Int32} {d m pc : Nat} {ls : List my_V} {r : List my_V} {h : my_H} {Q : my_H → my_V → Prop} {a b w : Nat}
theorem w_iaddX {x y : Int} (hpg : mz_pg m pc = some (.iadd, a, b, w)) (k : ∀ z : Int, ((-2147483648 ≤ x + y ∧ x + y ≤ 2147483647) → z = x + y) → -2147483648 ≤ z → z ≤ 2147483647 → wp l rho d m (pc + 1) ls ((0, z) :: r) h Q) : wp l rho d m pc ls ((0, y) :: (0, x) :: r) h Q := by
  by_cases hr : -2147483648 ≤ x + y ∧ x + y ≤ 2147483647
  · exact w_iadd hpg hr (k _ (fun _ => rfl) hr.1 hr.2)
  · exact w_ianyA hpg (fun z p q => k z (fun e => absurd e hr) p q)
theorem w_isubX {x y : Int} (hpg : mz_pg m pc = some (.isub, a, b, w)) (k : ∀ z : Int, ((-2147483648 ≤ x - y ∧ x - y ≤ 2147483647) → z = x - y) → -2147483648 ≤ z → z ≤ 2147483647 → wp l rho d m (pc + 1) ls ((0, z) :: r) h Q) : wp l rho d m pc ls ((0, y) :: (0, x) :: r) h Q := by
  by_cases hr : -2147483648 ≤ x - y ∧ x - y ≤ 2147483647
  · exact w_isub hpg hr (k _ (fun _ => rfl) hr.1 hr.2)
  · exact w_ianyS hpg (fun z p q => k z (fun e => absurd e hr) p q)
end ZSM2
