/-! a search goes on: what was ready is ready still -/
section ZSN
abbrev F5 : List (Nat × Int) := [(22, -1), (4, -1), (32, -1), (33, -1), (34, -1), (35, -1), (36, -1), (37, -1), (38, -1), (23, -1), (25, -1), (26, -1), (27, -1), (28, -1), (29, -1)]
theorem F5_w {h g : my_H} {w : Int} (n : Ln h) (a : my_ag F5 h g) (w0 : 0 ≤ w) (w5 : w ≤ 5) (t : h (h 27 w) 0 = 1) : g 27 w = h 27 w ∧ (∀ j : Int, g (h 27 w) j = h (h 27 w) j) ∧ (∀ j : Int, g (h 27 w + 6) j = h (h 27 w + 6) j) ∧ (∀ j : Int, g (h 27 w + 7) j = h (h 27 w + 7) j) ∧ zqCW g w = zqCW h w ∧ zqCA g = zqCA h ∧ (∀ j : Int, g 2 j = h 2 j) ∧ (∀ j : Int, g 5 j = h 5 j) ∧ (∀ j : Int, g 93 j = h 93 j) := by
  have hL := n.2.2.1 w w0 w5
  exact ⟨a.at pis_27 rfl, fun j => a.at hL rfl, fun j => a.at (pix_6z hL) rfl, fun j => a.at (pix_7z hL) rfl, zqCW_ag (a.mo rfl) n w0 w5 t, zqCA_e (fun j => a.at pis_2 rfl) (fun j => a.at pis_3 rfl) (fun j => a.at pis_4 rfl) (fun j => a.at pis_5 rfl) (fun j => a.at pis_6 rfl), fun j => a.at pis_2 rfl, fun j => a.at pis_5 rfl, fun j => a.at pis_93 rfl⟩
theorem LwD1_cg {h g : my_H} {w : Int} (n : Ln h) (a : my_ag F5 h g) (w0 : 0 ≤ w) (w5 : w ≤ 5) (t : h (h 27 w) 0 = 1) (D : LwD1 h w) : LwD1 g w := by
  obtain ⟨e27, eL, e6, e7, eC, -, e2, -⟩ := F5_w n a w0 w5 t
  unfold LwD1 at D ⊢
  rw [e27, eC, eL 2, eL 3, eL 4, eL 6, eL 7, eL 8, e2]
  obtain ⟨d1, d2, d3, d4, d5, d6, d7, d8⟩ := D
  exact ⟨d1, fun c a b => (e6 c).trans (d2 c a b), d3, d4, d5, d6, d7, fun c a b => (e7 c).trans (d8 c a b)⟩
theorem zqE_98 {h g : my_H} (e0 : g 98 0 = h 98 0) (e1 : g 98 1 = h 98 1) (w : h 98 1 ≤ 16) (n : ∀ j : Int, g 99 j = h 99 j) (i : Nat) : zqE g 98 (g 98 1) i = zqE h 98 (h 98 1) i := by
  rw [e1]
  exact zqE_cg w (fun j _ _ => n j)
theorem NLs_cg {h g : my_H} (e0 : g 98 0 = h 98 0) (e1 : g 98 1 = h 98 1) (w : h 98 1 ≤ 16) (n : ∀ j : Int, g 99 j = h 99 j) : NLs g = NLs h := by
  unfold NLs
  rw [e0, zqL_cg (f := zqE g 98 (g 98 1)) (g := zqE h 98 (h 98 1)) (fun i _ => zqE_98 e0 e1 w n i)]
theorem EdLh_cg {h g : my_H} {e i j v : Int} {D : Int → Int} (e0 : g 98 0 = h 98 0) (e1 : g 98 1 = h 98 1) (w : h 98 1 ≤ 16) (n : ∀ j : Int, g 99 j = h 99 j) : EdLh g e i j v D = EdLh h e i j v D := by
  unfold EdLh
  rw [e0, EdL_cg (fun k _ => by rw [zqE_98 e0 e1 w n k]), e1]
theorem RoI_cg {h g : my_H} {k r : Int} (e0 : g 98 0 = h 98 0) (n : ∀ j : Int, g 99 j = h 99 j) : RoI g 98 k r ↔ RoI h 98 k r := by
  unfold RoI
  rw [e0]
  have e : ∀ i : Int, g (98 + 1) i = h (98 + 1) i := n
  simp only [e]
theorem TlK_cg {h g : my_H} {k : Int} (s : SmV h g) (w : h 98 1 ≤ 16) : TlK g k ↔ TlK h k := by
  obtain ⟨-, s2, s3, s4, s5, s6, -, -, s9, -, -⟩ := s
  unfold TlK
  rw [s2, s3, s4]
  refine or_congr_right (exists_congr fun r => ?_)
  rw [RoI_cg s5 s9, zqE_98 s5 s6 w s9, zqE_98 s5 s6 w s9]
theorem TlP_cg {h g : my_H} {w y : Int} (n : Ln h) (a : my_ag F5 h g) (w0 : 0 ≤ w) (w5 : w ≤ 5) (t : h (h 27 w) 0 = 1) (s : SmV h g) (w8 : h 98 1 ≤ 16) (e96 : ∀ j : Int, g 96 j = h 96 j) (T : TlP h w y) : TlP g w y := by
  obtain ⟨e27, eL, -⟩ := F5_w n a w0 w5 t
  unfold TlP at T ⊢
  rw [e27, eL 7, eL 2]
  refine ⟨T.1, fun z c c0 c1 => ?_⟩
  rw [T.2 z c c0 c1]
  refine exists_congr fun k => ?_
  rw [e96, TlK_cg s w8, s.2.2.2.2.2.2.2.2.2.1]
theorem SrC_cg {h g : my_H} {w : Int} (n : Ln h) (a : my_ag F5 h g) (s : SmV h g) (e96 : ∀ j : Int, g 96 j = h 96 j) (e97 : ∀ j : Int, g 97 j = h 97 j) (K : SrC h w) : SrC g w := by
  have kw := SrC_w K
  obtain ⟨⟨w0, w5, ht⟩, D, L, V, so, sp, wb, k1, k2, k3, k4, ⟨j, v, dr, k5⟩, as, gd, lf, st, ld, c4, n5, sz⟩ := K
  obtain ⟨e27, eL, e6, e7, eC, eA, e2, e5, -⟩ := F5_w n a w0 w5 ht
  have TT := s
  obtain ⟨s1, s2, s3, s4, s5, s6, s7, s8, s9, sa, sb⟩ := s
  have w8 := zqWf_W (L w w0 w5 ht).2.2.2.1 (by have := (L w w0 w5 ht).2.2.2.2; omega) (L w w0 w5 ht).1
  have v1 := V.1
  have E : g 96 = h 96 := funext e96
  have wl : WLs g = WLs h := WLs_cg s7 s8 (by omega) sb
  unfold SrC
  rw [e27, eL 0, eL 2, eL 3, eC, eA, E, s3, s4, wl, NLs_cg s5 s6 (by omega) s9, s2, s5, s7, s8, s6]
  refine ⟨⟨w0, w5, ht⟩, LwD1_cg n a w0 w5 ht D, Lw_ag (a.mo rfl) n L, VwI_cg V (by omega) s5 s6 s9 sa, VwS_cg so s5 s6 (by omega) s9, VwS_cg sp s7 s8 (by omega) sb, WtB_cg wb s7 s8 (by omega) sb, k1, k2, k3, k4, ⟨j, v, dr, ?_⟩, as, gd, lf, st, ld, fun u a b => by rw [e2]; exact c4 u a b, fun p a b => by rw [e5]; exact n5 p a b, fun u a b => by rw [e97]; exact sz u a b⟩
  rw [EdLh_cg s5 s6 (by omega) s9]
  exact k5
/-- all ways, of a state, panes, what is wanted and the row that would come -/
noncomputable def zqAl (A : zqA) (S : Int → Int) (b m : Int) (P : List zqP) (W : List zqR) (f : Int → Int) : List zqY :=
  zqIf (zqQ3 A S b m P W f) [(3, b, f 0, -1, -1)] [] ++ (zqV3 (zqQ2 A S b m P W) 60 ++ (zqV2 (zqQ1 A S b m P W) 240 ++ zqIf ((zqRun S m ((zqLd S b m 20).map Prod.snd) P).Perm W) [(0, -1, -1, -1, -1)] []))
theorem zqIf_cg {α : Type} {p q : Prop} {a b : α} (h : p ↔ q) : zqIf p a b = zqIf q a b := by
  by_cases z : p
  · rw [zqIf_t z, zqIf_t (h.mp z)]
  · rw [zqIf_f z, zqIf_f (fun y => z (h.mpr y))]
theorem SrC_as {h : my_H} {w : Int} (K : SrC h w) : h 94 14 ≠ 0 ↔ (zqRun (h 96) (h (h 27 w) 3) ((zqLd (h 96) (h (h 27 w) 2) (h (h 27 w) 3) 20).map Prod.snd) (zqCW h w)).Perm (WLs h) := by
  obtain ⟨-, -, -, V, -, -, -, -, -, -, -, -, as, -⟩ := K
  rw [as]
  have q := V.2.2.2.1
  rw [← V.1] at q
  exact ⟨fun z => q.symm.trans z, fun z => List.Perm.trans q z⟩
theorem LA_al {h : my_H} {w : Int} (K : SrC h w) : LAh h w = zqAl (zqCA h) (h 96) (h (h 27 w) 2) (h (h 27 w) 3) (zqCW h w) (WLs h) (cmR h w) := by
  unfold LAh LGh LLh L0h zqAl
  rw [zqIf_cg (SrC_as K)]
  rfl
theorem cmR_cg {h g : my_H} {w : Int} (n : Ln h) (a : my_ag F5 h g) (w0 : 0 ≤ w) (w5 : w ≤ 5) (t : h (h 27 w) 0 = 1) : cmR g w = cmR h w := by
  obtain ⟨e27, eL, e6, e7, eC, -, -, -, e93⟩ := F5_w n a w0 w5 t
  funext c
  unfold cmR
  rw [e27, eL 2, eL 3, eC, show g 93 = h 93 from funext e93, show g (h 27 w + 7) = h (h 27 w + 7) from funext e7]
theorem LL_cg {h g : my_H} {w : Int} (n : Ln h) (a : my_ag F5 h g) (s : SmV h g) (e96 : ∀ j : Int, g 96 j = h 96 j) (K : SrC h w) : LLh g w = LLh h w ∧ LGh g w = LGh h w ∧ LAh g w = LAh h w := by
  have kw := SrC_w K
  obtain ⟨⟨w0, w5, ht⟩, -⟩ := K
  obtain ⟨e27, eL, e6, e7, eC, eA, e2, e5, -⟩ := F5_w n a w0 w5 ht
  obtain ⟨s1, s2, s3, s4, s5, s6, s7, s8, s9, sa, sb⟩ := s
  have E : g 96 = h 96 := funext e96
  have wl : WLs g = WLs h := WLs_cg s7 s8 (by omega) sb
  have q1 : Qh g w = Qh h w := funext fun x => funext fun v => by unfold Qh; rw [e27, eL 2, eL 3, eC, eA, E, wl]
  have q2 : Q2h g w = Q2h h w := funext fun r => by unfold Q2h; rw [e27, eL 2, eL 3, eC, eA, E, wl]
  have q3 : Q3h g w = Q3h h w := by unfold Q3h; rw [e27, eL 2, eL 3, eC, eA, E, wl, cmR_cg n a w0 w5 ht]
  have q0 : L0h g = L0h h := by unfold L0h; rw [s2]
  have r1 : LLh g w = LLh h w := by unfold LLh; rw [q1, q0]
  have r2 : LGh g w = LGh h w := by unfold LGh; rw [q2, r1]
  refine ⟨r1, r2, ?_⟩
  unfold LAh
  rw [q3, r2, cmR_cg n a w0 w5 ht, e27, eL 2]
/-- an edit was opened over the walls of x -/
def SrP (h : my_H) (x w : Int) : Prop :=
  (0 ≤ w ∧ w ≤ 5 ∧ h (h 27 w) 0 = 1) ∧ LwD1 h w ∧ Lw h ∧ VwI h 98 (h (x + 1)) (h (h 27 w) 2) (h (h 27 w) 3) (zqCW h w) ∧ VwS h 98 ∧ VwS h 102 ∧ WtB h ∧ h 102 1 = h 98 1 ∧ (0 ≤ h 102 0 ∧ h 102 0 ≤ 11) ∧ (0 ≤ h 94 15 ∧ h 94 15 ≤ 2) ∧ (h 94 15 ≠ 2 → 0 ≤ h 94 16 ∧ h 94 16 < h 98 0) ∧ (∃ (j v : Int) (D : Int → Int), (WLs h).Perm (EdLh h (h 94 15) (h 94 16) j v D)) ∧ zqGd (h (x + 1)) ∧ zqLf (zqCA h) (h (x + 1)) ∧ zqSt (zqCA h) (h (x + 1)) ∧ zqLD (zqCA h) ∧ (∀ u : Int, 0 ≤ u → u ≤ 2 → 0 ≤ h 2 u ∧ h 2 u ≤ 4) ∧ (∀ p : Int, 0 ≤ p → p ≤ 11 → -1 ≤ h 5 p ∧ h 5 p ≤ 2) ∧ ∀ u : Int, 0 ≤ u → u ≤ 2 → h (x + 2) u = zqCn (h (x + 1)) u 20
def SmW (h g : my_H) : Prop := g 94 15 = h 94 15 ∧ g 94 16 = h 94 16 ∧ g 98 0 = h 98 0 ∧ g 98 1 = h 98 1 ∧ g 102 0 = h 102 0 ∧ g 102 1 = h 102 1 ∧ (∀ j : Int, g 99 j = h 99 j) ∧ (∀ j : Int, g 101 j = h 101 j) ∧ ∀ j : Int, g 103 j = h 103 j
theorem SrP_w {h : my_H} {x w : Int} (K : SrP h x w) : h 98 1 ≤ 8 ∧ 0 ≤ h 98 0 ∧ h 98 0 ≤ 10 := by
  obtain ⟨⟨w0, w5, ht⟩, D, L, V, -⟩ := K
  obtain ⟨wf, b0, b2, m0, m4⟩ := L w w0 w5 ht
  have := zqWf_W m0 (by omega) wf
  have := V.1
  exact ⟨by omega, V.2.1, V.2.2.1⟩
theorem SrP_be {h : my_H} {x w : Int} (K : SrP h x w) : ∀ i : Nat, (i : Int) < h 98 0 → zqBe (zqE h 98 (h 98 1) i).2 := by
  obtain ⟨⟨w0, w5, ht⟩, D, L, V, -, -, -, -, -, -, -, -, gd, -⟩ := K
  obtain ⟨wf, b0, b2, m0, m4⟩ := L w w0 w5 ht
  exact VwI_be b0 b2 m4 gd wf V
/-- all ways of an edit that was opened -/
noncomputable def AlH (h : my_H) (x w : Int) : List zqY := zqAl (zqCA h) (h (x + 1)) (h (h 27 w) 2) (h (h 27 w) 3) (zqCW h w) (WLs h) (cmR h w)
theorem zqSame_as {h : my_H} {x w : Int} (K : SrP h x w) : zqSame h 98 102 ↔ (NLs h).Perm (WLs h) := by
  obtain ⟨-, -, -, V, so, sp, -, k1, k2, -⟩ := K
  rw [NLs_same V so sp (k1.trans V.1) k2.1]
  have q := V.2.2.2.1
  rw [← V.1] at q
  exact ⟨fun z => List.Perm.trans q z, fun z => q.symm.trans z⟩
theorem DkL_0 {g : my_H} {C : Int → Int} (e : g 94 11 = 0) (a : g 112 0 = -1 ∧ g 112 1 = -1 ∧ g 112 2 = -1 ∧ g 112 3 = -1 ∧ g 112 4 = -1 ∧ g 112 5 = -1) (b : g 113 0 = -1 ∧ g 113 1 = -1 ∧ g 113 2 = -1 ∧ g 113 3 = -1 ∧ g 113 4 = -1 ∧ g 113 5 = -1) : DkL g C [] := ⟨e, a, b⟩
theorem DkL_L0 {h g k : my_H} {C : Int → Int} (D : DkL h C []) (P : KpP h g 0 0) (h2 : h 111 2 = -1) (h3 : h 111 3 = -1) (h4 : h 111 4 = -1) (h5 : h 111 5 = -1) (K : KpS g k) (as : k 94 14 ≠ 0) : DkL k C (L0h k) := by
  unfold L0h
  rw [zqIf_t as]
  refine DkL_cg (DkL_keep D P (y := (0, -1, -1, -1, -1)) (by rw [h2, h3, h4, h5]) rfl (fun b e => by cases e)) K
theorem DkL_N0 {h k : my_H} {C : Int → Int} (D : DkL h C []) (K : KpS h k) (as : k 94 14 = 0) : DkL k C (L0h k) := by
  unfold L0h
  rw [zqIf_f (fun z => z as)]
  exact DkL_cg D K
end ZSN
