/-! showing: steps for the walk -/
section ZQV
theorem zqPk_at {h : my_H} {L s : Int} (s0 : 0 ≤ s) : zqPk h L s.toNat = (h (L + 1) s, h (L + 2) s, h (L + 3) s, h (L + 4) s, fun j => h (L + 5) (8 * s + j)) := by
  unfold zqPk
  rw [Int.toNat_of_nonneg s0]
theorem Wf_at {h : my_H} {L m s : Int} {n : Nat} {U : List zqP} (wf : zqWf m (zqPs h L n ++ U)) (s0 : 0 ≤ s) (sn : s.toNat < n) : zqWf m (zqPs h L s.toNat ++ U) ∧ (h (L + 1) s = 3 → 0 ≤ h (L + 4) s ∧ h (L + 4) s ≤ 8 ∧ ∀ j : Int, 0 ≤ j → j < h (L + 4) s → 0 ≤ h (L + 5) (8 * s + j) ∧ h (L + 5) (8 * s + j) < zqW m (zqPs h L s.toNat ++ U)) ∧ (h (L + 1) s = 4 → 0 ≤ h (L + 2) s ∧ h (L + 2) s < zqW m (zqPs h L s.toNat ++ U) ∧ 0 ≤ h (L + 3) s ∧ h (L + 3) s ≤ 2 ∧ 1 ≤ h (L + 4) s ∧ h (L + 4) s ≤ 4 ∧ zqW m (zqPs h L s.toNat ++ U) + h (L + 4) s ≤ 9) ∧ (h (L + 1) s = 5 → 0 ≤ h (L + 2) s ∧ h (L + 2) s < zqW m (zqPs h L s.toNat ++ U) ∧ 0 ≤ h (L + 3) s ∧ h (L + 3) s < zqW m (zqPs h L s.toNat ++ U)) ∧ (h (L + 1) s ≤ 2 → 0 ≤ h (L + 2) s ∧ h (L + 2) s < zqW m (zqPs h L s.toNat ++ U)) ∧ 0 ≤ h (L + 1) s ∧ h (L + 1) s ≤ 5 := by
  obtain ⟨w1, w2⟩ := zqWf_ps wf sn
  rw [zqPk_at s0] at w2
  exact ⟨w1, w2⟩
theorem Un_bot {h g : my_H} {c dp x2 : Int} (p : Sc h g c dp (-1) x2) (hd : 0 < dp) : zqUn h (g c (dp - 1)) = [] := by
  obtain ⟨t1, t2, t3, t4, t5⟩ := p.2.2.1 (dp - 1) (by omega) (by omega)
  rw [if_pos (by omega)] at t5
  unfold zqUn
  rw [if_pos t5]
theorem Sc_un {h g : my_H} {c dp x2 lv : Int} (p : Sc h g c dp (-1) x2) (h0 : 0 ≤ lv) (h1 : lv + 1 < dp) : zqUn h (g c lv) = zqCW h (g c (lv + 1)) := by
  obtain ⟨t1, t2, t3, t4, t5⟩ := p.2.2.1 lv h0 (by omega)
  obtain ⟨u1, -⟩ := p.2.2.1 (lv + 1) (by omega) h1
  rw [if_neg (by omega)] at t5
  unfold zqUn
  rw [if_neg (by omega), t5]
theorem Sc_CW {h g : my_H} {c dp x2 lv : Int} (L : Ln h) (p : Sc h g c dp (-1) x2) (h0 : 0 ≤ lv) (h1 : lv < dp) : zqCW h (g c lv) = zqPs h (h 27 (g c lv)) (h (h 27 (g c lv)) 9).toNat ++ zqUn h (g c lv) := by
  obtain ⟨t1, t2, t3, t4, t5⟩ := p.2.2.1 lv h0 h1
  exact zqCW_eq L t1 t2 t3
theorem Sc_wf {h g : my_H} {c dp x2 lv : Int} (L : Ln h) (W : Lw h) (p : Sc h g c dp (-1) x2) (h0 : 0 ≤ lv) (h1 : lv < dp) : zqWf (h (h 27 x2) 3) (zqPs h (h 27 (g c lv)) (h (h 27 (g c lv)) 9).toNat ++ zqUn h (g c lv)) := by
  obtain ⟨t1, t2, t3, t4, t5⟩ := p.2.2.1 lv h0 h1
  have q := (W _ t1 t2 t3).1
  rw [t4, Sc_CW L p h0 h1] at q
  exact q
theorem Sc_c0 {h g g' : my_H} {c dp w x2 : Int} (hd : 0 ≤ dp) (p : Sc h g c dp w x2) (q : 0 < dp → g c 0 = x2) (e : g' = my_up g c dp w) : g' c 0 = x2 := by
  by_cases z : dp = 0
  · subst z
    rw [my_up_self e]
    exact p.2.2.2 rfl
  · rw [my_up_ne e (by omega)]
    exact q (by omega)
end ZQV
