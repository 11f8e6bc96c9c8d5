/-! the class: put, in terms of what the walls hold -/
section ZTM
theorem LwA_ag {h g : my_H} (n : Ln h) (a : my_ag F5 h g) (p : LwA h) : LwA g := ⟨Lw_ag (a.mo rfl) n p.1, fun w w0 w5 t => by
  have hL := n.2.2.1 w w0 w5
  have e27 : g 27 w = h 27 w := a.at pis_27 rfl
  have e0 : g (h 27 w) 0 = h (h 27 w) 0 := a.at hL rfl
  rw [e27, e0] at t
  exact LwD1_cg n a w0 w5 t (p.2 w w0 w5 t)⟩
theorem CA_ag {h g : my_H} (a : my_ag F5 h g) : zqCA g = zqCA h ∧ (∀ j : Int, g 2 j = h 2 j) ∧ ∀ j : Int, g 5 j = h 5 j := ⟨zqCA_e (fun j => a.at pis_2 rfl) (fun j => a.at pis_3 rfl) (fun j => a.at pis_4 rfl) (fun j => a.at pis_5 rfl) (fun j => a.at pis_6 rfl), fun j => a.at pis_2 rfl, fun j => a.at pis_5 rfl⟩
theorem F5_tr {h g g1 : my_H} (a : my_ag F5 h g) (b : my_ag F5 h g1) : my_ag F5 g g1 := fun k j m => (b k j m).trans (a k j m).symm
theorem WOk_ag {h g : my_H} {x y : Int} (a : my_ag F5 h g) (O : WOk h x) (e1 : zqAg (h (x + 1)) (g (y + 1))) (e2 : ∀ u : Int, 0 ≤ u → u ≤ 2 → g (y + 2) u = h (x + 2) u) : WOk g y := by
  obtain ⟨wo, ld, c4, n5, sz⟩ := O
  obtain ⟨eA, f2, f5⟩ := CA_ag a
  refine ⟨?_, ?_, fun u a b => ?_, fun p a b => ?_, fun u a b => ?_⟩
  · rw [eA]; exact zqWo_c e1 (fun u a b => (c4 u a b).2) n5 wo
  · rw [eA]; exact ld
  · rw [f2]; exact c4 u a b
  · rw [f5]; exact n5 p a b
  · rw [e2 u a b, sz u a b]; exact (zqCn_c e1 a b).symm
theorem EdOk_ag {h g : my_H} {S : Int → Int} {w e i j v : Int} (n : Ln h) (a : my_ag F5 h g) : EdOk g S w e i j v ↔ EdOk h S w e i j v := by
  have go : 0 ≤ w → w ≤ 5 → (g (g 27 w) 0 = 1 ↔ h (h 27 w) 0 = 1) := fun w0 w5 => by
    have e27 : g 27 w = h 27 w := a.at pis_27 rfl
    have e0 : g (h 27 w) 0 = h (h 27 w) 0 := a.at (n.2.2.1 w w0 w5) rfl
    rw [e27, e0]
  have eq : 0 ≤ w → w ≤ 5 → h (h 27 w) 0 = 1 → (EdOk g S w e i j v ↔ EdOk h S w e i j v) := fun w0 w5 t => by
    obtain ⟨f27, eL, -, -, eC, -⟩ := F5_w n a w0 w5 t
    unfold EdOk
    rw [f27, eL 0, eL 2, eL 3, eC]
  constructor
  · intro p
    have q := p.2.1
    exact (eq q.1 q.2.1 ((go q.1 q.2.1).mp q.2.2)).mp p
  · intro p
    have q := p.2.1
    exact (eq q.1 q.2.1 q.2.2).mpr p
theorem EdOk_c {h : my_H} {S T : Int → Int} {w e i j v : Int} (L : Lw h) (ag : zqAg S T) (p : EdOk h S w e i j v) : EdOk h T w e i j v := by
  obtain ⟨p1, p2, p3, p4⟩ := p
  obtain ⟨wf, b0, b2, m1, m4⟩ := L w p2.1 p2.2.1 p2.2.2
  refine ⟨p1, p2, fun z => ?_, p4⟩
  rw [zqAll_c ag b0 b2 m4 wf]
  exact p3 z
/-- what a put makes of S -/
def cPR (h : my_H) (S : Int → Int) (w e i j v ans : Int) (S' : Int → Int) : Prop := ∃ W : List zqR, WntL S (h (h 27 w) 2) (h (h 27 w) 3) (zqCW h w) e i j v (h 93) W ∧ ((zqLe (h 2) (zqAl (zqCA h) S (h (h 27 w) 2) (h (h 27 w) 3) (zqCW h w) W (cmR h w)) = none ∧ ans = -1 ∧ zqAg S S') ∨ ∃ y : zqY, zqLe (h 2) (zqAl (zqCA h) S (h (h 27 w) 2) (h (h 27 w) 3) (zqCW h w) W (cmR h w)) = some y ∧ ans = zqPr (h 2) y ∧ zqAg (zqPut S y (cmR h w)) S')
theorem PutR_c {h g : my_H} {x w e i j v ans : Int} (p : PutR h g x w e i j v ans) : cPR h (h (x + 1)) w e i j v ans (g (x + 1)) := by
  obtain ⟨W, wn, q⟩ := p
  refine ⟨W, wn, ?_⟩
  rcases q with ⟨q1, q2, q3⟩ | ⟨y, q1, q2, q3⟩
  · exact Or.inl ⟨q1, q2, fun j _ _ => q3 j⟩
  · exact Or.inr ⟨y, q1, q2, fun j _ _ => q3 j⟩
section
variable {h g : my_H} {S T S' T' : Int → Int} {w e i j v ans : Int}
theorem cPR_ag (n : Ln h) (a : my_ag F5 h g) (w0 : 0 ≤ w) (w5 : w ≤ 5) (t : h (h 27 w) 0 = 1) : cPR g S w e i j v ans S' ↔ cPR h S w e i j v ans S' := by
  obtain ⟨f27, eL, -, -, eC, eA, f2, f5, f93⟩ := F5_w n a w0 w5 t
  unfold cPR
  rw [f27, eL 2, eL 3, eC, eA, cmR_cg n a w0 w5 t, show g 2 = h 2 from funext f2, show g 93 = h 93 from funext f93]
theorem cPR_c (L : Lw h) (c4 : ∀ u : Int, 0 ≤ u → u ≤ 2 → 0 ≤ h 2 u ∧ h 2 u ≤ 4) (n5 : ∀ p : Int, 0 ≤ p → p ≤ 11 → -1 ≤ h 5 p ∧ h 5 p ≤ 2) (w0 : 0 ≤ w) (w5 : w ≤ 5) (t : h (h 27 w) 0 = 1) (kf : 0 ≤ cmR h w 0 ∧ cmR h w 0 ≤ 19) (ag : zqAg S T) (ag' : zqAg S' T') (p : cPR h S w e i j v ans S') : cPR h T w e i j v ans T' := by
  obtain ⟨wf, b0, b2, m1, m4⟩ := L w w0 w5 t
  obtain ⟨W, p1, p2⟩ := p
  have ea := zqAl_c (A := zqCA h) (W := W) (f := cmR h w) ag b0 b2 m4 wf (fun u a b => (c4 u a b).2) n5 kf
  refine ⟨W, WntL_c ag b0 b2 m4 wf p1, ?_⟩
  rw [ea]
  rcases p2 with ⟨q1, q2, q3⟩ | ⟨y, q1, q2, q3⟩
  · exact Or.inl ⟨q1, q2, zqAg.tr (zqAg.tr (zqAg.sym ag) q3) ag'⟩
  · exact Or.inr ⟨y, q1, q2, zqAg.tr (zqAg.tr (zqPut_a (zqAg.sym ag)) q3) ag'⟩
end
/-- put on the walls themselves -/
theorem Cput_y {h h1 h2 g : my_H} {x w e i j v ans : Int} (n : Ln h) (a : my_ag F5 h h1) (LA : LwA h) (e1 : ∀ j : Int, h1 (x + 1) j = h (x + 1) j) (p : EdOk h1 (h1 (x + 1)) w e i j v) (q : PutR h1 h2 x w e i j v ans ∧ WOk h2 x) (a2 : my_ag F5 h h2) (ag : my_ag F5 h g) (e8 : ∀ j : Int, g (x + 1) j = h2 (x + 1) j) (e9 : ∀ j : Int, g (x + 2) j = h2 (x + 2) j) : (EdOk h (h (x + 1)) w e i j v ∧ cPR h (h (x + 1)) w e i j v ans (g (x + 1))) ∧ WOk g x ∧ LwA g := by
  rw [show h1 (x + 1) = h (x + 1) from funext e1] at p
  have ok := (EdOk_ag n a).mp p
  have c := PutR_c q.1
  rw [show h1 (x + 1) = h (x + 1) from funext e1, ← show g (x + 1) = h2 (x + 1) from funext e8] at c
  exact ⟨⟨ok, (cPR_ag n a ok.2.1.1 ok.2.1.2.1 ok.2.1.2.2).mp c⟩, WOk_ag (F5_tr a2 ag) q.2 (fun j _ _ => e8 j) (fun u _ _ => e9 u), LwA_ag n ag LA⟩
theorem Cput_n {h h1 : my_H} {x w e i j v : Int} (n : Ln h) (a : my_ag F5 h h1) (e1 : ∀ j : Int, h1 (x + 1) j = h (x + 1) j) (p : ¬ EdOk h1 (h1 (x + 1)) w e i j v) : ¬ EdOk h (h (x + 1)) w e i j v := fun z => p (by
  rw [show h1 (x + 1) = h (x + 1) from funext e1]
  exact (EdOk_ag n a).mpr z)
end ZTM
