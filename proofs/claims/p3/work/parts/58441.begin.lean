/-! a search begins: its trial is the walls -/
section ZSP
theorem SrC_mk {h g : my_H} {x w : Int} (n : Ln h) (a : my_ag F5 h g) (s : SmW h g) (e96 : zqAg (h (x + 1)) (g 96)) (e97 : ∀ u : Int, 0 ≤ u → u ≤ 2 → g 97 u = h (x + 2) u) (as : g 94 14 ≠ 0 ↔ (NLs g).Perm (WLs g)) (K : SrP h x w) : SrC g w := by
  have kw := SrP_w K
  obtain ⟨⟨w0, w5, ht⟩, D, L, V, so, sp, wb, k1, k2, k3, k4, ⟨j, v, dr, k5⟩, gd, lf, st, ld, c4, n5, sz⟩ := K
  obtain ⟨e27, eL, e6, e7, eC, eA, e2, e5, -⟩ := F5_w n a w0 w5 ht
  obtain ⟨s3, s4, s5, s6, s7, s8, s9, sa, sb⟩ := s
  obtain ⟨wf, b0, b2, m0, m4⟩ := L w w0 w5 ht
  have w8 := zqWf_W m0 (by omega) wf
  have v1 := V.1
  have wl : WLs g = WLs h := WLs_cg s7 s8 (by omega) sb
  have nl : NLs g = NLs h := NLs_cg s5 s6 (by omega) s9
  rw [wl, nl] at as
  unfold SrC
  rw [e27, eL 0, eL 2, eL 3, eC, eA, s3, s4, wl, nl, s5, s7, s8, s6]
  refine ⟨⟨w0, w5, ht⟩, LwD1_cg n a w0 w5 ht D, Lw_ag (a.mo rfl) n L, VwI_c e96 b0 b2 m4 wf (VwI_cg V (by omega) s5 s6 s9 sa), VwS_cg so s5 s6 (by omega) s9, VwS_cg sp s7 s8 (by omega) sb, WtB_cg wb s7 s8 (by omega) sb, k1, k2, k3, k4, ⟨j, v, dr, ?_⟩, as, zqGd_c e96 gd, (zqLf_c e96 (fun u a b => (c4 u a b).2) n5).mpr lf, zqSt_c e96 st, ld, fun u a b => by rw [e2]; exact c4 u a b, fun p a b => by rw [e5]; exact n5 p a b, fun u a b => by rw [e97 u a b, zqCn_c e96 a b]; exact sz u a b⟩
  rw [EdLh_cg s5 s6 (by omega) s9]
  exact k5
theorem LA_mk {h g : my_H} {x w : Int} (n : Ln h) (a : my_ag F5 h g) (s : SmW h g) (e96 : zqAg (h (x + 1)) (g 96)) (K : SrP h x w) (f0 : 0 ≤ cmR h w 0 ∧ cmR h w 0 ≤ 19) (Kg : SrC g w) : LAh g w = AlH h x w ∧ cmR g w = cmR h w := by
  have kw := SrP_w K
  obtain ⟨⟨w0, w5, ht⟩, -, L, -, -, -, -, k1, -, -, -, -, -, -, -, -, c4, n5, -⟩ := K
  obtain ⟨wf, b0, b2, m0, m4⟩ := L w w0 w5 ht
  obtain ⟨e27, eL, e6, e7, eC, eA, e2, e5, -⟩ := F5_w n a w0 w5 ht
  obtain ⟨s3, s4, s5, s6, s7, s8, s9, sa, sb⟩ := s
  rw [LA_al Kg]
  unfold AlH
  rw [e27, eL 2, eL 3, eC, eA, WLs_cg s7 s8 (by omega) sb, cmR_cg n a w0 w5 ht]
  exact ⟨zqAl_c e96 b0 b2 m4 wf (fun u a b => (c4 u a b).2) n5 f0, rfl⟩
theorem Same_w {h g : my_H} (s : SmW h g) (w1 : h 98 1 ≤ 8) (w2 : h 102 1 = h 98 1) : zqSame g 98 102 ↔ zqSame h 98 102 := by
  obtain ⟨s3, s4, s5, s6, s7, s8, s9, sa, sb⟩ := s
  unfold zqSame
  rw [s5, s6, s7, s8]
  refine and_congr_right (fun _ => and_congr_right (fun _ => forall_congr' fun i => forall_congr' fun hi => ?_))
  rw [zqE_cg (h := h) (g := g) (v := 98) (by omega) (fun j _ _ => s9 j), zqE_cg (h := h) (g := g) (v := 102) (by omega) (fun j _ _ => sb j)]
/-- what is drafted or fills, can be a value -/
theorem cmR_bd {h : my_H} {w c : Int} (w0 : 0 ≤ w) (w5 : w ≤ 5) (t : h (h 27 w) 0 = 1) (D : LwD1 h w) (L : Lw h) (kD : ∀ j : Int, 0 ≤ j → j < 8 → 0 ≤ h 93 j ∧ h 93 j ≤ 19) (kF : ∀ j : Int, 0 ≤ j → j < 4 → 0 ≤ h (h 27 w + 7) j ∧ h (h 27 w + 7) j ≤ 19) (c0 : 0 ≤ c) (c3 : c ≤ 3) : 0 ≤ cmR h w c ∧ cmR h w c ≤ 19 := by
  obtain ⟨wf, b0, b2, m0, m4⟩ := L w w0 w5 t
  have w8 := zqWf_W m0 (by omega) wf
  unfold cmR zqCm
  have go : ∀ n : Nat, (n : Int) ≤ 8 → zqFo (zqOg (h (h 27 w) 2) (h (h 27 w) 3) (zqCW h w)) (4 * h (h 27 w) 2 + c) (h 93) n = none ∨ ∃ y : Int, 0 ≤ y ∧ y < n ∧ zqFo (zqOg (h (h 27 w) 2) (h (h 27 w) 3) (zqCW h w)) (4 * h (h 27 w) 2 + c) (h 93) n = some (h 93 y) := by
    intro n
    induction n with
    | zero => exact fun _ => Or.inl rfl
    | succ n ih =>
      intro hn
      rcases ih (by omega) with z | ⟨y, y0, y1, z⟩
      · rw [zqFo, z]
        by_cases q : zqOg (h (h 27 w) 2) (h (h 27 w) 3) (zqCW h w) (n : Int) = 4 * h (h 27 w) 2 + c
        · exact Or.inr ⟨n, by omega, by omega, if_pos q⟩
        · exact Or.inl (if_neg q)
      · exact Or.inr ⟨y, y0, by omega, by rw [zqFo, z]⟩
  rcases go (zqW (h (h 27 w) 3) (zqCW h w)).toNat (by omega) with z | ⟨y, y0, y1, z⟩
  · rw [z]; exact kF c c0 (by omega)
  · rw [z]; exact kD y y0 (by omega)
end ZSP
