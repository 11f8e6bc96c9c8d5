/-! the class: marks -/
section ZTO
/-- what a mark holds could be walls -/
def mkW (h : my_H) (x : Int) : Prop := zqGd (h (x + 1)) ∧ zqSt (zqCA h) (h (x + 1)) ∧ ∀ u : Int, 0 ≤ u → u ≤ 2 → h (x + 2) u = zqCn (h (x + 1)) u 20
section
variable {h g1 g2 g3 : my_H} {m v i : Int}
theorem mkc_0 (hv : v = 14 + 3 * m) (m0 : 0 ≤ m) (m3 : m ≤ 3) (f1 : g1 = my_cp h 8 0 (v + 1) 0 240) (f2 : g2 = my_cp g1 9 0 (v + 2) 0 3) (f3 : g3 = my_up g2 26 i 1) (hi : i = m) : zqAg (h 8) (g3 (15 + 3 * m)) ∧ (∀ u : Int, 0 ≤ u → u ≤ 2 → g3 (16 + 3 * m) u = h 9 u) ∧ g3 26 = zyU (h 26) m 1 ∧ ∀ k j : Int, 0 ≤ k → k < 94 → k ≠ 15 + 3 * m → k ≠ 16 + 3 * m → k ≠ 26 → g3 k j = h k j := by
  subst hv
  refine ⟨fun j a b => ?_, fun u a b => ?_, ?_, fun k j a b c d e => ?_⟩
  · rw [my_up_ne f3 (by omega), my_cp_ne f2 (by omega), show 15 + 3 * m = 14 + 3 * m + 1 by omega, my_cp_in f1 a (by omega), show (0 : Int) + (j - 0) = j by omega]
  · rw [my_up_ne f3 (by omega), show 16 + 3 * m = 14 + 3 * m + 2 by omega, my_cp_in f2 a (by omega), show (0 : Int) + (u - 0) = u by omega, my_cp_ne f1 (by omega)]
  · rw [zyU_up f3 hi, show g2 26 = h 26 from funext fun k => (my_cp_ne f2 (by omega)).trans (my_cp_ne f1 (by omega))]
  · rw [my_up_ne f3 (by omega), my_cp_ne f2 (by omega), my_cp_ne f1 (by omega)]
theorem mkc_l (O : WOk h 7) (M : mkW h v) : qLaw (zqCA h) (h (v + 1)) ↔ zqLf (zqCA h) (h (v + 1)) := qLaw_lf O.2.1 (fun u a b => (O.2.2.1 u a b).2) M.2.1
theorem mkc_1 (hv : v = 14 + 3 * m) (m0 : 0 ≤ m) (m3 : m ≤ 3) (O : WOk h 7) (M : mkW h v) (q : qLaw (zqCA h) (h (v + 1))) (f1 : g1 = my_cp h (v + 1) 0 8 0 240) (f2 : g2 = my_cp g1 (v + 2) 0 9 0 3) (a : my_ag F5 h g2) : zqAg (h (15 + 3 * m)) (g2 8) ∧ WOk g2 7 ∧ ∀ k j : Int, 0 ≤ k → k < 94 → (k < 7 ∨ 9 < k) → g2 k j = h k j := by
  have e8 : zqAg (h (v + 1)) (g2 8) := fun j x y => by
    rw [my_cp_ne f2 (by omega), my_cp_in f1 x (by omega), show (0 : Int) + (j - 0) = j by omega]
  refine ⟨by rw [show 15 + 3 * m = v + 1 by omega]; exact e8, WOk_n (x := 7) a O ⟨M.1, (mkc_l O M).mp q, M.2.1⟩ e8 (fun u x y => ?_), fun k j x y z => ?_⟩
  · show g2 9 u = _
    rw [my_cp_in f2 x (by omega), show (0 : Int) + (u - 0) = u by omega, my_cp_ne f1 (by omega)]
    exact M.2.2 u x y
  · rw [my_cp_ne f2 (by omega), my_cp_ne f1 (by omega)]
end
end ZTO
