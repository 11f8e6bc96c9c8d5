/-! the class: rows and laws, in terms of what the walls hold -/
section ZTN
theorem LD_N {A : zqA} {w c o : Int} (D : zqLD A) (c0 : 0 ≤ c) (c3 : c ≤ 3) (c1 : c < A.1 w) : zqLD (zyN A w c o) := fun u d u0 u2 d0 d3 hd => by
  obtain ⟨q1, q2, q3, q4⟩ := D u d u0 u2 d0 d3 hd
  refine ⟨q1, q2, ?_, q4⟩
  show zyU A.2.2.2.1 (4 * w + c) o (4 * u + d) = -1
  unfold zyU
  by_cases z : 4 * u + d = 4 * w + c
  · have e1 : u = w := by omega
    have e2 : d = c := by omega
    subst e1; subst e2
    have hd' : A.1 u ≤ d := hd
    omega
  · rw [if_neg z]; exact q3
theorem LD_O {A : zqA} {w c o : Int} (D : zqLD A) (c0 : 0 ≤ c) (c3 : c ≤ 3) (c1 : c < A.1 w) : zqLD (zyO A w c o) := fun u d u0 u2 d0 d3 hd => by
  obtain ⟨q1, q2, q3, q4⟩ := D u d u0 u2 d0 d3 hd
  refine ⟨q1, q2, q3, ?_⟩
  show zyU A.2.2.2.2 (4 * w + c) o (4 * u + d) = 0
  unfold zyU
  by_cases z : 4 * u + d = 4 * w + c
  · have e1 : u = w := by omega
    have e2 : d = c := by omega
    subst e1; subst e2
    have hd' : A.1 u ≤ d := hd
    omega
  · rw [if_neg z]; exact q4
section
variable {h g : my_H} {x w c k : Int}
theorem cN_m {i o : Int} (u : g = my_up h 5 i o) (hi : i = 4 * w + c) : zqCA g = zyN (zqCA h) w c o := by
  unfold zqCA zyN
  rw [zyU_up u hi, show g 2 = h 2 from funext fun j => my_up_ne u (by omega), show g 3 = h 3 from funext fun j => my_up_ne u (by omega), show g 4 = h 4 from funext fun j => my_up_ne u (by omega), show g 6 = h 6 from funext fun j => my_up_ne u (by omega)]
theorem cO_m {i o : Int} (u : g = my_up h 6 i o) (hi : i = 4 * w + c) : zqCA g = zyO (zqCA h) w c o := by
  unfold zqCA zyO
  rw [zyU_up u hi, show g 2 = h 2 from funext fun j => my_up_ne u (by omega), show g 3 = h 3 from funext fun j => my_up_ne u (by omega), show g 4 = h 4 from funext fun j => my_up_ne u (by omega), show g 5 = h 5 from funext fun j => my_up_ne u (by omega)]
theorem cN_l {o : Int} (O : WOk h x) (w0 : 0 ≤ w ∧ w ≤ 2) (c0 : 0 ≤ c ∧ c < h 2 w) (ma : zqCA g = zyN (zqCA h) w c o) (e : ∀ j : Int, g (x + 1) j = h (x + 1) j) : qLaw (zqCA g) (g (x + 1)) ↔ zqLf (zyN (zqCA h) w c o) (h (x + 1)) := by
  have c4 := O.2.2.1 w w0.1 w0.2
  rw [ma, show g (x + 1) = h (x + 1) from funext e]
  exact qLaw_lf (LD_N O.2.1 c0.1 (by omega) c0.2) (fun u a b => (O.2.2.1 u a b).2) O.1.2.2
theorem cO_l {o : Int} (O : WOk h x) (w0 : 0 ≤ w ∧ w ≤ 2) (c0 : 0 ≤ c ∧ c < h 2 w) (ma : zqCA g = zyO (zqCA h) w c o) (e : ∀ j : Int, g (x + 1) j = h (x + 1) j) : qLaw (zqCA g) (g (x + 1)) ↔ zqLf (zyO (zqCA h) w c o) (h (x + 1)) := by
  have c4 := O.2.2.1 w w0.1 w0.2
  rw [ma, show g (x + 1) = h (x + 1) from funext e]
  exact qLaw_lf (LD_O O.2.1 c0.1 (by omega) c0.2) (fun u a b => (O.2.2.1 u a b).2) O.1.2.2
theorem sp_3 {h2 h3 : my_H} {i j x y p : Int} (u : h2 = my_up h 3 i x) (u2 : h3 = my_up h2 4 j y) (hi : i = p) (hj : j = p) : h3 3 = zyU (h 3) p x ∧ h3 4 = zyU (h 4) p y := by
  refine ⟨funext fun k => ?_, ?_⟩
  · rw [my_up_ne u2 (by omega), zyU_up u hi]
  · rw [zyU_up u2 hj, show h2 4 = h 4 from funext fun k => my_up_ne u (by omega)]
/-- laws over the trial without a row -/
theorem cD_l {y : Int} (O : WOk h x) (eA : zqCA g = zqCA h) (k0 : 0 ≤ k) (k9 : k ≤ 19) (e : zqAg (zqDrop (h (x + 1)) w k) (g (y + 1))) : qLaw (zqCA g) (g (y + 1)) ↔ zqLf (zqCA h) (zqDrop (h (x + 1)) w k) := by
  rw [eA]
  exact (qLaw_lf O.2.1 (fun u a b => (O.2.2.1 u a b).2) (zqSt_c e (zqSt_drop k0 k9 O.1.2.2))).trans (zqLf_c e (fun u a b => (O.2.2.1 u a b).2) O.2.2.2.1)
/-- other walls with the same laws -/
theorem WOk_n {S : Int → Int} (a : my_ag F5 h g) (O : WOk h x) (wo : zqWo (zqCA h) S) (e : zqAg S (g (x + 1))) (sz : ∀ u : Int, 0 ≤ u → u ≤ 2 → g (x + 2) u = zqCn S u 20) : WOk g x := by
  obtain ⟨-, ld, c4, n5, -⟩ := O
  obtain ⟨eA, f2, f5⟩ := CA_ag a
  refine ⟨?_, ?_, fun u a b => ?_, fun p a b => ?_, fun u a b => ?_⟩
  · rw [eA]; exact zqWo_c e (fun u a b => (c4 u a b).2) n5 wo
  · rw [eA]; exact ld
  · rw [f2]; exact c4 u a b
  · rw [f5]; exact n5 p a b
  · rw [sz u a b]; exact (zqCn_c e a b).symm
theorem cD_w (a : my_ag F5 h g) (O : WOk h x) (k0 : 0 ≤ k) (k9 : k ≤ 19) (hr : h (x + 1) (80 * w + 4 * k) ≠ -1) (lf : zqLf (zqCA h) (zqDrop (h (x + 1)) w k)) (e : zqAg (zqDrop (h (x + 1)) w k) (g (x + 1))) (sz : ∀ u : Int, 0 ≤ u → u ≤ 2 → g (x + 2) u = if u = w then h (x + 2) u - 1 else h (x + 2) u) : WOk g x := by
  refine WOk_n a O ⟨zqGd_drop k0 k9 O.1.1, lf, zqSt_drop k0 k9 O.1.2.2⟩ e (fun u x0 x1 => ?_)
  rw [sz u x0 x1, zqCn_drop k0 k9 hr, O.2.2.2.2 u x0 x1]
theorem cD_e {g0 g1 g2 g3 : my_H} (a : my_ag F5 h g3) (O : WOk h 7) (k0 : 0 ≤ k) (k9 : k ≤ 19) (hr : h 8 (80 * w + 4 * k) ≠ -1) (lf : zqLf (zqCA h) (zqDrop (h 8) w k)) (e146 : zqAg (zqDrop (h 8) w k) (g1 146)) (q147 : ∀ j : Int, 0 ≤ j → j < 3 → g0 147 j = h 9 j) (dz : ∀ j : Int, g1 (145 + 2) j = if j = w then g0 (145 + 2) j - 1 else g0 (145 + 2) j) (f1 : g2 = my_cp g1 146 0 8 0 240) (f2 : g3 = my_cp g2 147 0 9 0 3) : zqAg (zqDrop (h 8) w k) (g3 8) ∧ WOk g3 7 := by
  have e8 : zqAg (zqDrop (h 8) w k) (g3 8) := fun j x y => by
    rw [my_cp_ne f2 (by omega), my_cp_in f1 x (by omega), show (0 : Int) + (j - 0) = j by omega]
    exact e146 j x y
  refine ⟨e8, cD_w (x := 7) (w := w) a O k0 k9 hr lf e8 (fun u x y => ?_)⟩
  show g3 9 u = if u = w then h 9 u - 1 else h 9 u
  rw [my_cp_in f2 x (by omega), show (0 : Int) + (u - 0) = u by omega, my_cp_ne f1 (by omega)]
  have q : g1 147 u = if u = w then g0 147 u - 1 else g0 147 u := dz u
  rw [q, q147 u x (by omega)]
end
end ZTN
