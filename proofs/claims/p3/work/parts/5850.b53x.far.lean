/-! what isn't the desk's own stays: also the rows that are kept for trials and marks -/
section ZSS
/-- rows that the desk doesn't write but where it is told to -/
def zqXf (x : Int) : Prop := (x ≤ 91 ∨ 120 ≤ x) ∧ x ≤ 148 ∧ 0 ≤ x
theorem zqXf.z1 {x : Int} (q : zqXf x) : 0 ≤ x + 1 := by unfold zqXf at q; omega
theorem zqXf.z2 {x : Int} (q : zqXf x) : 0 ≤ x + 2 := by unfold zqXf at q; omega
theorem zqXf.n2 {x : Int} (q : zqXf x) : x + 2 ≠ 96 := by unfold zqXf at q; omega
theorem zqXf.f1 {x : Int} (q : zqXf x) : x + 1 < 94 ∨ 120 ≤ x + 1 ∧ x + 1 < 151 := by unfold zqXf at q; omega
theorem zqXf.f2 {x : Int} (q : zqXf x) : x + 2 < 94 ∨ 120 ≤ x + 2 ∧ x + 2 < 151 := by unfold zqXf at q; omega
def bgR : List Nat := List.range 94 ++ (List.range 31).map (fun k => k + 120)
theorem bg_fr {T : List (Nat × Int)} {h g : my_H} (f : my_fr T h g) (hT : bgR.all (fun k => T.all (fun q => !(my_ot k == q.1))) = true) : ∀ k j : Int, 0 ≤ k → (k < 94 ∨ 120 ≤ k ∧ k < 151) → g k j = h k j := fun k j k0 k1 => by
  refine f k j ?_
  unfold my_md
  refine List.any_eq_false.mpr (fun q hq => ?_)
  have mem : k.toNat ∈ bgR := by
    unfold bgR
    rcases k1 with k1 | ⟨k1, k2⟩
    · exact List.mem_append.mpr (Or.inl (List.mem_range.mpr (by omega)))
    · exact List.mem_append.mpr (Or.inr (List.mem_map.mpr ⟨k.toNat - 120, List.mem_range.mpr (by omega), by omega⟩))
  have := List.all_eq_true.mp (List.all_eq_true.mp hT k.toNat mem) q hq
  simp only [Bool.not_eq_true', Bool.and_eq_true, not_and, beq_eq_false_iff_ne, beq_iff_eq] at this ⊢
  intro z
  exact absurd z this
theorem bg_keep {h g : my_H} (f : my_fr [(2, 11), (7, 0), (7, 1), (7, 2), (7, 3), (7, 4), (7, 5)] h g) : ∀ k j : Int, 0 ≤ k → (k < 94 ∨ 120 ≤ k ∧ k < 151) → g k j = h k j := bg_fr f (by decide +kernel)
section
variable {h g1 g2 : my_H} {x w e i j v ans : Int}
theorem PutR_4 {ga : my_H} {o b z : Int} (n : Ln h) (a : my_ag F5 h g2) (w0 : 0 ≤ w) (w5 : w ≤ 5) (t : h (h 27 w) 0 = 1) (LA : LwA h) (O : WOk h x) (kf : ∀ c : Int, 0 ≤ c → c ≤ 3 → 0 ≤ cmR h w c ∧ cmR h w c ≤ 19) (B : PB h g1 x w e i j v) (e1 : ∀ j : Int, g1 (x + 1) j = h (x + 1) j) (e2 : ∀ j : Int, g1 (x + 2) j = h (x + 2) j) (k1 : g1 112 1 = 3) (u : ga = my_cp g1 110 0 (x + 1) o 4) (ho : o = 80 * g1 112 2 + 4 * g1 110 0) (u2 : g2 = my_up ga (x + 2) b z) (hb : b = g1 112 2) (hz : (0 ≤ ga (x + 2) b ∧ ga (x + 2) b ≤ 10) → z = ga (x + 2) b + 1) (ha : ans = g1 112 0) : PutR h g2 x w e i j v ans ∧ WOk g2 x := by
  obtain ⟨-, -, -, -, -, eA, f2, f5, -⟩ := F5_w n a w0 w5 t
  obtain ⟨W, wn, st, fr⟩ := B
  obtain ⟨y, q, hy, s0, s1, s2, s3, s4, s5⟩ := Pt_s (h := h) st (by omega)
  obtain ⟨py, -, p3, -, -, p6⟩ := Pt_y w0 w5 t LA O kf hy
  have p3' := p3 (by omega)
  obtain ⟨q1, q2, q3, q4⟩ := p6 (by omega)
  have fr' : ∀ c : Int, 0 ≤ c → c ≤ 3 → g1 110 c = cmR h w c := by
    rcases fr with f | ⟨b', eb, nb⟩
    · exact f
    · rw [q] at eb
      cases eb
      exact absurd (by omega) nb
  have f0 := fr' 0 (by omega) (by omega)
  have k0 := kf 0 (by omega) (by omega)
  have ep : zqPut (h (x + 1)) y (cmR h w) = zqAdd (h (x + 1)) y.2.1 y.2.2.1 (cmR h w) := by
    unfold zqPut
    rw [if_neg (by omega), if_neg (by omega), if_pos (by omega)]
  have eS : ∀ j : Int, g2 (x + 1) j = zqPut (h (x + 1)) y (cmR h w) j := fun j => by
    rw [ep, my_up_ne u2 (by omega)]
    unfold zqAdd
    by_cases c : 80 * y.2.1 + 4 * y.2.2.1 ≤ j ∧ j < 80 * y.2.1 + 4 * y.2.2.1 + 4
    · rw [if_pos c, my_cp_in u (by omega) (by omega), show 0 + (j - o) = j - (80 * y.2.1 + 4 * y.2.2.1) by omega]
      exact fr' _ (by omega) (by omega)
    · rw [if_neg c, my_cp_ne u (by omega)]; exact e1 j
  refine ⟨⟨W, wn, Or.inr ⟨y, q, ha.trans s0, eS⟩⟩, WOk_cg eA f2 f5 O py eS (fun u' a' b' => ?_)⟩
  have ec := zqCn_add (S := h (x + 1)) (w := y.2.1) (k := y.2.2.1) (u := u') (f := cmR h w) p3'.2.2.1 p3'.2.2.2 (by rw [q1, q2]; exact q4) (by omega)
  rw [ep, ec]
  have sg : ga (x + 2) u' = h (x + 2) u' := (my_cp_ne u (by omega)).trans (e2 u')
  have so := O.2.2.2.2 u' a' b'
  by_cases c : u' = y.2.1
  · have eb : u' = b := by omega
    have nn := zqCn_nn (S := h (x + 1)) (b := u') 20
    have g10 := O.1.1.2 u' a' b'
    rw [if_pos c, eb, my_up_self u2, hz (by rw [← eb, sg, so]; exact ⟨nn, g10⟩), ← eb, sg, so]
  · rw [if_neg c, my_up_ne u2 (by omega), sg, so]
end
end ZSS
