/-! the spare lens, read, whatever the tape's length -/
section ZWF
theorem RdS_4 {h g g' : my_H} {w z : Int} (u : g' = my_up g 82 4 z) (hS : my_is 4 (h 82 2)) (R : RdS h g w) : RdS h g' w := by
  have hf := ln_far hS
  obtain ⟨y0, c0, U, F0, k, P, F, r1, r2, r3, r4, r5, r6, r7, r8, r9, ra, rb, rc, rd⟩ := R
  have e7 : g' 82 7 = g 82 7 := my_up_ne u (by omega)
  have eF : ∀ f : Int, g' (h 82 2) f = g (h 82 2) f := fun f => my_up_ne u (by omega)
  have eA : ∀ k j : Int, 1 ≤ k → k ≤ 8 → g' (h 82 2 + k) j = g (h 82 2 + k) j := fun k j a b => my_up_ne u (by omega)
  refine ⟨y0, c0, U, F0, k, P, F, ?_, ?_, ?_, LnR_cg (fun f _ _ => eF f) (fun c _ _ => eA 6 c (by omega) (by omega)) r4, ?_, by rw [eF]; exact r6, fun c a b => by rw [eA 7 c (by omega) (by omega)]; exact r7 c a b, fun c a b => by rw [eF] at a; rw [eA 7 c (by omega) (by omega)]; exact r8 c a b, by rw [eF, eF]; exact r9, by rw [eF]; exact ra, by rw [eF]; exact rb, by rw [eF]; exact rc, by rw [eF]; exact rd⟩
  · rw [eF, eF]; exact r1
  · rw [eF, eF]; exact r2
  · rw [eF, eF, eF, e7]; exact r3
  · rw [eF, zqPs_cg (fun j => ⟨eA 1 j (by omega) (by omega), eA 2 j (by omega) (by omega), eA 3 j (by omega) (by omega), eA 4 j (by omega) (by omega), eA 5 j (by omega) (by omega)⟩) _]
    exact r5
theorem NwP_mk4 {h g0 g g1 g2 h' : my_H} {w S x z : Int} (u4 : g = my_up g0 82 4 z) (R : RdS h g0 w) (k0 : sK (cs h) (g0 82 7) = 0) (Z : LoZ h g) (Lg : Ln g) (Lh : Ln h) (Lh' : Ln h') (U : Un h w) (LA : LwA h) (w0 : 0 ≤ w) (w5 : w ≤ 5) (hS : S = g 82 2) (e82 : g 82 2 = h 82 2) (u3 : g1 = my_up g S 0 1) (u2 : g2 = my_up g1 27 w S) (u1 : h' = my_up g2 82 2 x) (e2 : ∀ j : Int, h' 2 j = h 2 j) : NwP h h' w ∧ LoN h h' w ∧ LwA h' :=
  NwP_mk (RdS_4 u4 Lh.2.2.2.1 R) (by rw [my_up_ne u4 (by omega)]; exact k0) Z Lg Lh Lh' U LA w0 w5 hS e82 u3 u2 u1 e2
end ZWF
