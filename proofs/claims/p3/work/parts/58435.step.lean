/-! going through the ways: which changes of cells are ways -/
section ZSI
theorem pis_2 : my_is 25 2 := by unfold my_is; decide +kernel
theorem pis_3 : my_is 26 3 := by unfold my_is; decide +kernel
theorem pis_4 : my_is 27 4 := by unfold my_is; decide +kernel
theorem pis_5 : my_is 28 5 := by unfold my_is; decide +kernel
theorem pis_6 : my_is 29 6 := by unfold my_is; decide +kernel
theorem pis_94 : my_is 2 94 := by unfold my_is; decide +kernel
theorem pis_98 : my_is 8 98 := by unfold my_is; decide +kernel
theorem pis_102 : my_is 8 102 := by unfold my_is; decide +kernel
theorem pis_99 : my_is 42 99 := by unfold my_is; decide +kernel
theorem pis_101 : my_is 44 101 := by unfold my_is; decide +kernel
theorem pis_103 : my_is 42 103 := by unfold my_is; decide +kernel
/-- what isn't the desk's own stays -/
theorem bf_fr {T : List (Nat × Int)} {h g : my_H} (f : my_fr T h g) (hT : (List.range 94).all (fun k => T.all (fun q => !(my_ot k == q.1))) = true) : ∀ k j : Int, 0 ≤ k → k < 94 → g k j = h k j := fun k j k0 k1 => by
  refine f k j ?_
  unfold my_md
  refine List.any_eq_false.mpr (fun q hq => ?_)
  have := List.all_eq_true.mp (List.all_eq_true.mp hT k.toNat (List.mem_range.mpr (by omega))) q hq
  simp only [Bool.not_eq_true', Bool.and_eq_true, not_and, beq_eq_false_iff_ne, beq_iff_eq] at this ⊢
  intro z
  exact absurd z this
theorem SmV_keep {h g : my_H} (f : my_fr [(2, 11), (7, 0), (7, 1), (7, 2), (7, 3), (7, 4), (7, 5)] h g) : SmV h g :=
  ⟨my_fr.at f pis_94 rfl, my_fr.at f pis_94 rfl, my_fr.at f pis_94 rfl, my_fr.at f pis_94 rfl, my_fr.at f pis_98 rfl, my_fr.at f pis_98 rfl, my_fr.at f pis_102 rfl, my_fr.at f pis_102 rfl, fun j => my_fr.at f pis_99 rfl, fun j => my_fr.at f pis_101 rfl, fun j => my_fr.at f pis_103 rfl⟩
theorem bf_keep {h g : my_H} (f : my_fr [(2, 11), (7, 0), (7, 1), (7, 2), (7, 3), (7, 4), (7, 5)] h g) : ∀ k j : Int, 0 ≤ k → k < 94 → g k j = h k j := bf_fr f (by decide +kernel)
/-- the walls' windows are as they were -/
theorem Lw_e {h g : my_H} {w : Int} (a : my_ag LwF h g) (L : Ln h) (w0 : 0 ≤ w) (w5 : w ≤ 5) (t : h (h 27 w) 0 = 1) : g 27 w = h 27 w ∧ g (h 27 w) 2 = h (h 27 w) 2 ∧ g (h 27 w) 3 = h (h 27 w) 3 ∧ zqCW g w = zqCW h w := by
  have hL := L.2.2.1 w w0 w5
  exact ⟨a.at pis_27 rfl, a.at hL rfl, a.at hL rfl, zqCW_ag a L w0 w5 t⟩
/-- cell x can be changed -/
def CHh (h : my_H) (w x : Int) : Prop := 0 < x % 4 ∧ x % 4 < h 2 (x / 80) ∧ zqUw (h (h 27 w) 2) (zqCW h w) (x / 80) ∧ zqHas (h 96) (x / 80) (x / 4 % 20)
def NtO (live tl x : Int) : Prop := ¬ zqlb live (4 * (x / 80) + x % 4) ∨ ¬ zqlb tl (20 * (x / 80) + x / 4 % 20)
theorem CH_i {h g : my_H} {w x L a b c : Int} (K : SrC h w) (x0 : 0 ≤ x) (x1 : x < 240) (hL : L = h 27 w) (e96 : ∀ j : Int, g 96 j = h 96 j) (e2 : ∀ j : Int, g 2 j = h 2 j) (e6 : g (h 27 w) 6 = h (h 27 w) 6) (ha : a = x / 80) (hb : b = x / 4 % 20) (hc : c = x % 4) : (0 < c ∧ c < g 2 a ∧ zqlb (g L 6) a ∧ zqHas (g 96) a b) ↔ CHh h w x := by
  subst hL; subst ha; subst hb; subst hc
  unfold CHh
  rw [e2, e6, show g 96 = h 96 from funext e96, K.2.1.2.2.2.1 _ (by omega) (by omega)]
theorem Qn_ch {h : my_H} {w x : Int} (q : ¬ CHh h w x) : ∀ v : Int, 0 ≤ v → v < 20 → ¬ Qh h w x v := fun v _ _ z => q z.1
theorem Qn_eq {h : my_H} {w x u : Int} (e : u = h 96 x) : ¬ Qh h w x u := fun z => z.2.1 e
theorem x_cell {x : Int} : 80 * (x / 80) + 4 * (x / 4 % 20) + x % 4 = x := by omega
theorem Ok_i {h g : my_H} {w x a b c u : Int} (K : CHh h w x) (x0 : 0 ≤ x) (e96 : ∀ j : Int, j ≠ x → g 96 j = h 96 j) (ca : zqCA g = zqCA h) (ha : a = x / 80) (hb : b = x / 4 % 20) (hc : c = x % 4) : zqOk (zqCA g) (g 96) a b c u ↔ zqOk (zqCA h) (h 96) (x / 80) (x / 4 % 20) (x % 4) u := by
  subst ha; subst hb; subst hc
  rw [ca]
  have := K.1
  exact zqOk_off (by omega) (by omega) (fun j hj => e96 j (by rw [x_cell] at hj; exact hj))
theorem Qn_ok {h : my_H} {w x u : Int} (n : ¬ zqOk (zqCA h) (h 96) (x / 80) (x / 4 % 20) (x % 4) u) : ¬ Qh h w x u := fun z => n z.2.2.1
theorem zqSet_off {S : Int → Int} {x v : Int} : ∀ j : Int, j ≠ x → zqSet S x v j = S j := fun j hj => if_neg hj
/-- it doesn't tell: no way -/
theorem Qn_nt {h : my_H} {w live tl x : Int} (K : SrC h w) (lv : LvI h (h 27 w) (h (h 27 w) 4) live) (tp : TlP h w tl) (x0 : 0 ≤ x) (x1 : x < 240) (off : NtO live tl x) (as : h 94 14 = 0) : ∀ v : Int, 0 ≤ v → v < 20 → ¬ Qh h w x v := fun v _ _ z => by
  have q := z.1
  exact (tell_no K lv tp x0 x1 (by omega) q.2.2.2 off (zqSet_off (v := v))).mp z.2.2.2 as
/-- or all are -/
theorem Q_nt {h : my_H} {w live tl x u : Int} (K : SrC h w) (lv : LvI h (h 27 w) (h (h 27 w) 4) live) (tp : TlP h w tl) (x0 : 0 ≤ x) (x1 : x < 240) (off : NtO live tl x) (as : h 94 14 ≠ 0) (ch : CHh h w x) (ne : u ≠ h 96 x) (ok : zqOk (zqCA h) (h 96) (x / 80) (x / 4 % 20) (x % 4) u) : Qh h w x u :=
  ⟨ch, ne, ok, (tell_no K lv tp x0 x1 (by have := ch.1; omega) ch.2.2.2 off zqSet_off).mpr as⟩
theorem NLs_same {g : my_H} {v b m : Int} {S' : Int → Int} {P : List zqP} (V : VwI g v S' b m P) (s1 : VwS g v) (s2 : VwS g 102) (e : g 102 1 = zqW m P) (n0 : 0 ≤ g 102 0) : zqSame g v 102 ↔ (zqRun S' m ((zqLd S' b m 20).map Prod.snd) P).Perm (WLs g) := by
  obtain ⟨v1, v2, v3, v4, -⟩ := V
  rw [← v1] at v4
  have f1 : (zqL (zqE g v (g v 1)) (g v 0).toNat).map Prod.snd = zqL (fun i => (zqE g v (g v 1) i).2) (g v 0).toNat := zqL_map
  have f2 : WLs g = zqL (fun i => (zqE g 102 (g v 1) i).2) (g 102 0).toNat := by
    unfold WLs
    rw [zqL_map, e, ← v1]
  constructor
  · rintro ⟨q1, q2, q3⟩
    refine v4.symm.trans (List.Perm.of_eq ?_)
    rw [f1, f2, ← q1]
    exact zqL_cg (fun i hi => q3 i (by omega))
  · intro q
    have r := v4.trans q
    rw [f1, f2] at r
    have l := r.length_eq
    rw [zqL_len, zqL_len] at l
    have l2 : g v 0 = g 102 0 := by omega
    refine ⟨l2, v1.trans e.symm, fun i hi => ?_⟩
    rw [← l2] at r
    unfold VwS at s1 s2
    rw [e, ← v1, ← l2] at s2
    exact zqS_uniq zqle_as s1 s2 r i (by omega)
theorem WLs_cg {h g : my_H} (e0 : g 102 0 = h 102 0) (e1 : g 102 1 = h 102 1) (w : h 102 1 ≤ 16) (n : ∀ j : Int, g 103 j = h 103 j) : WLs g = WLs h := by
  unfold WLs
  rw [e0, e1, zqL_cg (f := zqE g 102 (h 102 1)) (g := zqE h 102 (h 102 1)) (fun i _ => zqE_cg w (fun j _ _ => n j))]
theorem WtB_cg {h g : my_H} (p : WtB h) (e0 : g 102 0 = h 102 0) (e1 : g 102 1 = h 102 1) (w : h 102 1 ≤ 16) (n : ∀ j : Int, g 103 j = h 103 j) : WtB g := fun i hi => by
  rw [e1, zqE_cg (h := h) (g := g) w (fun j _ _ => n j)]
  exact p i (by omega)
theorem SrC_w {h : my_H} {w : Int} (K : SrC h w) : h 102 1 = zqW (h (h 27 w) 3) (zqCW h w) ∧ h 102 1 ≤ 8 := by
  obtain ⟨⟨w0, w5, ht⟩, D, L, V, -, -, -, e, -⟩ := K
  obtain ⟨wf, b0, b2, m0, m4⟩ := L w w0 w5 ht
  have := zqWf_W m0 (by omega) wf
  have := V.1
  exact ⟨by omega, by omega⟩
theorem ShS_bd {h g1 g2 : my_H} {w : Int} {S' : Int → Int} (K : SrC h w) (n : Ln h) (a : my_ag LwF h g1) (G : zqGd S') (V : VwI g2 106 S' (g1 (g1 27 w) 2) (g1 (g1 27 w) 3) (zqCW g1 w)) : ∀ i : Nat, (i : Int) < g2 106 0 → zqBe (zqE g2 106 (g2 106 1) i).2 := by
  obtain ⟨⟨w0, w5, ht⟩, D, L, -⟩ := K
  obtain ⟨wf, b0, b2, m0, m4⟩ := L w w0 w5 ht
  obtain ⟨a1, a2, a3, a4⟩ := Lw_e a n w0 w5 ht
  rw [a1, a2, a3, a4] at V
  exact VwI_be b0 b2 m4 G wf V
/-- a trial is shown: as it is wanted, or not -/
theorem ShS {h g1 g2 : my_H} {w : Int} {S' : Int → Int} (K : SrC h w) (n : Ln h) (a : my_ag LwF h g1) (s : SmV h g2) (V : VwI g2 106 S' (g1 (g1 27 w) 2) (g1 (g1 27 w) 3) (zqCW g1 w)) (o : VwS g2 106) : zqSame g2 106 102 ↔ (zqRun S' (h (h 27 w) 3) ((zqLd S' (h (h 27 w) 2) (h (h 27 w) 3) 20).map Prod.snd) (zqCW h w)).Perm (WLs h) := by
  have kw := SrC_w K
  obtain ⟨⟨w0, w5, ht⟩, D, L, -, -, so, -, -, kn, -⟩ := K
  obtain ⟨a1, a2, a3, a4⟩ := Lw_e a n w0 w5 ht
  rw [a1, a2, a3, a4] at V
  obtain ⟨-, -, -, -, -, -, s7, s8, -, -, s9⟩ := s
  rw [← WLs_cg s7 s8 (by omega) s9]
  exact NLs_same V o (VwS_cg so s7 s8 (by omega) s9) (by omega) (by omega)
theorem Set_e {h g : my_H} {x u : Int} (e : ∀ j : Int, j ≠ x → g 96 j = h 96 j) (eu : g 96 x = u) : g 96 = zqSet (h 96) x u := funext fun j => by
  by_cases z : j = x
  · rw [z, eu]; exact (if_pos rfl).symm
  · rw [e j z]; exact (if_neg z).symm
theorem Q_sh {h g1 g2 : my_H} {w x u : Int} (K : SrC h w) (n : Ln h) (a : my_ag LwF h g1) (s : SmV h g2) (e : ∀ j : Int, j ≠ x → g1 96 j = h 96 j) (eu : g1 96 x = u) (V : VwI g2 106 (g1 96) (g1 (g1 27 w) 2) (g1 (g1 27 w) 3) (zqCW g1 w)) (o : VwS g2 106) (ch : CHh h w x) (ne : u ≠ h 96 x) (ok : zqOk (zqCA h) (h 96) (x / 80) (x / 4 % 20) (x % 4) u) : zqSame g2 106 102 ↔ Qh h w x u := by
  rw [Set_e e eu] at V
  exact (ShS K n a s V o).trans ⟨fun z => ⟨ch, ne, ok, z⟩, fun z => z.2.2.2⟩
theorem Gd_x {h g : my_H} {w x u : Int} (K : SrC h w) (ch : CHh h w x) (e : ∀ j : Int, j ≠ x → g 96 j = h 96 j) (eu : g 96 x = u) (u0 : 0 ≤ u) (u1 : u ≤ 19) : zqGd (g 96) := by
  have G := K.2.2.2.2.2.2.2.2.2.2.2.2.2.1
  have := ch.1
  exact zqGd_off (by omega) e (by omega) (by omega) G
end ZSI
