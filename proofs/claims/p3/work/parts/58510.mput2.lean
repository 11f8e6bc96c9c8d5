/-! the reference: an edit is put, steps for the walk -/
section ZTJ
theorem Al_has {A : zqA} {S : Int → Int} {b m : Int} {P : List zqP} {W : List zqR} {f : Int → Int} {y : zqY} (hy : y ∈ zqAl A S b m P W f) (k : y.1 = 1) : S (80 * y.2.1 + 4 * y.2.2.1) ≠ -1 := by
  unfold zqAl at hy
  rcases List.mem_append.mp hy with hy | hy
  · by_cases q : zqQ3 A S b m P W f
    · rw [zqIf_t q] at hy
      rcases List.mem_cons.mp hy with e | e
      · rw [e] at k; exact absurd k (show ¬ (3 : Int) = 1 by decide)
      · cases e
    · rw [zqIf_f q] at hy; cases hy
  · rcases List.mem_append.mp hy with hy | hy
    · have := (zqV3_k hy).1; omega
    · rcases List.mem_append.mp hy with hy | hy
      · obtain ⟨x, v, x0, x1, v0, v1, q, e⟩ := zqV2_m hy
        rw [e]
        exact q.1.2.2.2.2.2
      · by_cases q : (zqRun S m ((zqLd S b m 20).map Prod.snd) P).Perm W
        · rw [zqIf_t q] at hy
          rcases List.mem_cons.mp hy with e | e
          · rw [e] at k; exact absurd k (show ¬ (0 : Int) = 1 by decide)
          · cases e
        · rw [zqIf_f q] at hy; cases hy
theorem wyA_cg {g g1 : my_H} {b : Int} (e0 : ∀ j : Int, g1 190 j = g 190 j) (e1 : ∀ j : Int, g1 191 j = g 191 j) (e2 : ∀ j : Int, g1 192 j = g 192 j) (e3 : ∀ j : Int, g1 193 j = g 193 j) (e4 : ∀ j : Int, g1 194 j = g 194 j) : wyA g1 b = wyA g b := by
  unfold wyA
  rw [e0, e1, e2, e3, e4]
section
variable {h g g1 : my_H} {s w e i j v b ans : Int}
def MyB (h g : my_H) (s w b : Int) : Prop := zqLe (h 157) (MAl h s w (WLm g (MWd h w))) = some (wyA g b) ∧ zqWo (zqMA h) (zqPut (zqMS h s) (wyA g b) (cmM h w)) ∧ (0 ≤ g 190 b ∧ g 190 b ≤ 3) ∧ (g 190 b ≠ 0 → 0 ≤ g 191 b ∧ g 191 b ≤ 2 ∧ 0 ≤ g 192 b ∧ g 192 b ≤ 19) ∧ (g 190 b = 1 → 1 ≤ g 193 b ∧ g 193 b ≤ 3 ∧ 0 ≤ g 194 b ∧ g 194 b ≤ 19) ∧ (g 190 b = 2 → zqMS h s (80 * g 191 b + 4 * g 192 b) ≠ -1) ∧ (g 190 b = 3 → g 191 b = mBs h w ∧ g 192 b = cmM h w 0 ∧ zqCn (zqMS h s) (mBs h w) 20 < 10 ∧ zqMS h s (80 * mBs h w + 4 * cmM h w 0) = -1)
theorem MP_k0 (s0 : 0 ≤ s) (s15 : s ≤ 15) (s8 : s ≠ 8) (B : MPB h g s w e i j v) (M : MyB h g s w b) (k1 : g 190 b ≠ 1) (k2 : g 190 b ≠ 2) (k3 : g 190 b ≠ 3) (ha : ans = zqPr (h 157) (wyA g b)) : MPutR h g s w e i j v ans := by
  refine ⟨_, B.1.1, Or.inr ⟨_, M.1, ha, ?_⟩⟩
  unfold zqPut
  rw [if_neg (show ¬ (wyA g b).1 = 1 from k1), if_neg (show ¬ (wyA g b).1 = 2 from k2), if_neg (show ¬ (wyA g b).1 = 3 from k3)]
  exact Ot8_MS B.2.2 s0 s15 s8
theorem MP_k1 {o z : Int} (s0 : 0 ≤ s) (s15 : s ≤ 15) (s8 : s ≠ 8) (T : MTy h) (B : MPB h g s w e i j v) (M : MyB h g s w b) (k1 : g 190 b = 1) (u : g1 = my_up g 163 o z) (ho : o = 4 * (60 * s + 20 * g 191 b + g 192 b) + g 193 b) (hz : z = g 194 b) (ha : ans = zqPr (h 157) (wyA g b)) : MPutR h g1 s w e i j v ans := by
  obtain ⟨m1, m2, m3, m4, m5, -⟩ := M
  have r := m4 (by omega)
  have q := m5 k1
  have hs := Al_has (zqLe_mem m1) k1
  have hs' : zqMS h s (80 * g 191 b + 4 * g 192 b) ≠ -1 := hs
  have t := (MS_has T s0 s15 r.1 r.2.1 r.2.2.1 r.2.2.2).mp hs'
  have t2 : g 162 (60 * s + (80 * g 191 b + 4 * g 192 b + g 193 b) / 4) = 1 := by
    rw [B.2.2.1 _ (by omega), show 60 * s + (80 * g 191 b + 4 * g 192 b + g 193 b) / 4 = 60 * s + 20 * g 191 b + g 192 b by omega]
    exact t
  have e := MS_set (h := g) (g := g1) (s := s) (x := 80 * g 191 b + 4 * g 192 b + g 193 b) (v := z) t2 (fun k => my_up_ne u (by omega)) (fun k hk => my_up_ne u (by omega)) (by rw [show 240 * s + (80 * g 191 b + 4 * g 192 b + g 193 b) = o by omega]; exact my_up_self u)
  refine ⟨_, B.1.1, Or.inr ⟨_, m1, ha, ?_⟩⟩
  unfold zqPut
  rw [if_pos (show (wyA g b).1 = 1 from k1), e]
  exact zqSet_g (Ot8_MS B.2.2 s0 s15 s8) rfl hz.symm
theorem MP_k2 {o : Int} (s0 : 0 ≤ s) (s15 : s ≤ 15) (s8 : s ≠ 8) (B : MPB h g s w e i j v) (M : MyB h g s w b) (k2 : g 190 b = 2) (u : g1 = my_up g 162 o 0) (ho : o = 60 * s + 20 * g 191 b + g 192 b) (ha : ans = zqPr (h 157) (wyA g b)) : MPutR h g1 s w e i j v ans := by
  obtain ⟨m1, m2, m3, m4, -⟩ := M
  have r := m4 (by omega)
  refine ⟨_, B.1.1, Or.inr ⟨_, m1, ha, ?_⟩⟩
  unfold zqPut
  rw [if_neg (show ¬ (wyA g b).1 = 1 from (by show ¬ g 190 b = 1; omega)), if_pos (show (wyA g b).1 = 2 from k2)]
  exact zqAg.tr (zqDrop_a (Ot8_MS B.2.2 s0 s15 s8)) (MS_dr u ho r.1 r.2.1 r.2.2.1 r.2.2.2)
theorem MP_k3 (a : my_ag LmF h g) (e188 : ∀ j : Int, g 188 j = h 188 j) (L : LmW h) (w0 : 0 ≤ w) (w5 : w ≤ 5) (t : h 164 w = 1) (cb : 0 ≤ cmM h w 0 ∧ cmM h w 0 ≤ 19) (s0 : 0 ≤ s) (s15 : s ≤ 15) (s8 : s ≠ 8) (B : MPB h g s w e i j v) (M : MyB h g s w b) (k3 : g 190 b = 3) (ly : LyP g g1 (60 * s + 20 * mBs g w + cmM g w 0) (cmM g w 0) (cmM g w 1) (cmM g w 2) (cmM g w 3)) (ha : ans = zqPr (h 157) (wyA g b)) : MPutR h g1 s w e i j v ans := by
  obtain ⟨m1, m2, m3, m4, m5, m6, m7⟩ := M
  obtain ⟨q1, q2, -⟩ := m7 k3
  obtain ⟨wf, b0, b2, -⟩ := L w w0 w5 t
  rw [((Lm_e a).1 w).2.1, cmM_cg a e188] at ly
  refine ⟨_, B.1.1, Or.inr ⟨_, m1, ha, ?_⟩⟩
  unfold zqPut
  rw [if_neg (show ¬ (wyA g b).1 = 1 from (by show ¬ g 190 b = 1; omega)), if_neg (show ¬ (wyA g b).1 = 2 from (by show ¬ g 190 b = 2; omega)), if_pos (show (wyA g b).1 = 3 from k3)]
  show zqAg (zqAdd (zqMS h s) (g 191 b) (g 192 b) (cmM h w)) (zqMS g1 s)
  rw [q1, q2]
  exact zqAg.tr (zqAdd_a (Ot8_MS B.2.2 s0 s15 s8)) (LyP_add (s := s) rfl b0 b2 cb.1 cb.2 ly rfl rfl rfl rfl)
theorem MP_x3 (a : my_ag LmF h g) (e188 : ∀ j : Int, g 188 j = h 188 j) (L : LmW h) (w0 : 0 ≤ w) (w5 : w ≤ 5) (t : h 164 w = 1) (cb : 0 ≤ cmM h w 0 ∧ cmM h w 0 ≤ 19) (s0 : 0 ≤ s) (s15 : s ≤ 15) (s8 : s ≠ 8) (B : MPB h g s w e i j v) (M : MyB h g s w b) (k3 : g 190 b = 3) : CmOk g s w := by
  obtain ⟨m1, m2, m3, m4, m5, m6, m7⟩ := M
  obtain ⟨q1, q2, q3, q4⟩ := m7 k3
  obtain ⟨wf, b0, b2, -⟩ := L w w0 w5 t
  have o := Ot8_MS B.2.2 s0 s15 s8
  unfold CmOk
  rw [((Lm_e a).1 w).2.1, cmM_cg a e188, zqCn_c o b0 b2, o _ (by omega) (by omega)]
  exact ⟨q3, q4⟩
end
end ZTJ
