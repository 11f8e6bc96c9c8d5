/-! sayings of the heap: the least step that was found -/
section MPA
def Lst (h : my_H) : Prop := (h 112 1 = 1 → 0 ≤ h 112 2 ∧ 0 ≤ h 112 3 ∧ 0 ≤ h 112 4 ∧ 0 ≤ h 112 5) ∧ (h 112 1 = 2 → 0 ≤ h 112 2 ∧ 0 ≤ h 112 3) ∧ (h 112 1 = 3 → 0 ≤ h 112 2)
theorem pis_112 : my_is 7 112 := by unfold my_is; decide +kernel
theorem Lst_ag {h h' : my_H} (g : my_ag [(7, -1)] h h') (p : Lst h) : Lst h' := by
  have e1 := g.at (j := 1) pis_112 rfl
  have e2 := g.at (j := 2) pis_112 rfl
  have e3 := g.at (j := 3) pis_112 rfl
  have e4 := g.at (j := 4) pis_112 rfl
  have e5 := g.at (j := 5) pis_112 rfl
  unfold Lst at p ⊢
  rw [e1, e2, e3, e4, e5]
  exact p
end MPA
section MPB
variable {l : Launch} {rho : Nat → Int32} {d m pc : Nat} {ls : List my_V} {r : List my_V} {h : my_H} {Q : my_H → my_V → Prop} {a b w : Nat}
theorem ok_iushr {mi : Nat} {ls : mx_L} {st : List Value} {h : mx_H} {pc2 : Nat} {ls2 : mx_L} {st2 : List Value} {h2 : mx_H} {mc ms : Nat} {x y : Int32} (hpg : mz_pg mi pc = some (.iushr, a, b, w)) (k : mx_Ok l mz_P mz_G mz_tb rho d mi (pc + 1) ls (.int (x.toUInt32 >>> (y.toUInt32 &&& Int32.toUInt32 31)).toInt32 :: st) h pc2 ls2 st2 h2 mc ms) : mx_Ok l mz_P mz_G mz_tb rho d mi pc ls (.int y :: .int x :: st) h pc2 ls2 st2 h2 mc ms := by
  obtain ⟨hdc, -, -⟩ := mz_hPg mi pc _ hpg
  intro p e R s mm args below meth c H locs cells slots Q sl stk ws n0 D tys sg hFr hI hc hs hk
  obtain ⟨hP, hD, hS, hM, hl, hst⟩ := hI
  obtain ⟨v1, rr0, rfl, hw0, hst0⟩ := hst.c
  obtain ⟨v2, rr, rfl, hw2, hst1⟩ := hst0.c
  simp only [mx_R] at hw0 hw2
  subst hw0; subst hw2
  exact lv_iushr hFr.1 hFr.2.1 (hdc.of rfl) rfl (k p e R s mm args below meth c H locs cells slots Q sl _ ws n0 D tys sg hFr ⟨hP, hD, hS, hM, hl, rfl, hst1⟩ hc hs hk)
/-- some int comes out -/
theorem w_ianyU {x y : Int} (hpg : mz_pg m pc = some (.iushr, a, b, w)) (k : ∀ z : Int, -2147483648 ≤ z → z ≤ 2147483647 → wp l rho d m (pc + 1) ls ((0, z) :: r) h Q) : wp l rho d m pc ls ((0, y) :: (0, x) :: r) h Q := by
  intro a1 a2 L H a3 a4
  have hf := my_fullI ((Int32.ofInt x).toUInt32 >>> ((Int32.ofInt y).toUInt32 &&& Int32.toUInt32 31)).toInt32
  obtain ⟨pc', L2, st2, H', h', i, v, b1, b2⟩ := k _ hf.1 hf.2 a1 (a2.c.2.c.2.p hf) L H a3 a4
  refine ⟨pc', L2, st2, H', h', i, v, ok_iushr hpg ?_, b2⟩
  rw [List.map_cons, show my_val (0, ((Int32.ofInt x).toUInt32 >>> ((Int32.ofInt y).toUInt32 &&& Int32.toUInt32 31)).toInt32.toInt) = .int ((Int32.ofInt x).toUInt32 >>> ((Int32.ofInt y).toUInt32 &&& Int32.toUInt32 31)).toInt32 from by simp only [my_val, Int32.ofInt_toInt]] at b1
  exact b1
end MPB
