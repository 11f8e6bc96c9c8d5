/-! an edit is put -/
section ZSR
/-- the walls of x are as walls are -/
def WOk (h : my_H) (x : Int) : Prop := zqWo (zqCA h) (h (x + 1)) ∧ zqLD (zqCA h) ∧ (∀ u : Int, 0 ≤ u → u ≤ 2 → 0 ≤ h 2 u ∧ h 2 u ≤ 4) ∧ (∀ p : Int, 0 ≤ p → p ≤ 11 → -1 ≤ h 5 p ∧ h 5 p ≤ 2) ∧ ∀ u : Int, 0 ≤ u → u ≤ 2 → h (x + 2) u = zqCn (h (x + 1)) u 20
/-- the windows are as windows are -/
def LwA (h : my_H) : Prop := Lw h ∧ ∀ w : Int, 0 ≤ w → w ≤ 5 → h (h 27 w) 0 = 1 → LwD1 h w
/-- the ways over the walls of x, to W -/
noncomputable def AlW (h : my_H) (x w : Int) (W : List zqR) : List zqY := zqAl (zqCA h) (h (x + 1)) (h (h 27 w) 2) (h (h 27 w) 3) (zqCW h w) W (cmR h w)
def WnH (h : my_H) (x w e i j v : Int) (W : List zqR) : Prop := WntL (h (x + 1)) (h (h 27 w) 2) (h (h 27 w) 3) (zqCW h w) e i j v (h 93) W
theorem SrP_mk {h g : my_H} {x w e i j v : Int} (n : Ln h) (a : my_ag F5 h g) (LA : LwA h) (W : WOk h x) (e1 : ∀ j : Int, g (x + 1) j = h (x + 1) j) (e2 : ∀ j : Int, g (x + 2) j = h (x + 2) j) (E : EdOk h (h (x + 1)) w e i j v) (V : VwI g 98 (h (x + 1)) (h (h 27 w) 2) (h (h 27 w) 3) (zqCW h w)) (so : VwS g 98) (q : (WLs g).Perm (EdLh g e i j v (h 93))) (sp : VwS g 102) (c1 : g 102 1 = g 98 1) (wb : WtB g) (r : 0 ≤ g 102 0 ∧ g 102 0 ≤ 11) (e15 : g 94 15 = e) (e16 : g 94 16 = i) : SrP g x w := by
  obtain ⟨L, D⟩ := LA
  obtain ⟨⟨gd, lf, st⟩, ld, c4, n5, sz⟩ := W
  obtain ⟨E1, ⟨w0, w5, ht⟩, E3, -⟩ := E
  obtain ⟨f27, eL, e6, e7, eC, eA, f2, f5, -⟩ := F5_w n a w0 w5 ht
  have vl := VwI_len V
  unfold SrP
  rw [f27, eL 0, eL 2, eL 3, eC, eA, e15, e16, show g (x + 1) = h (x + 1) from funext e1]
  exact ⟨⟨w0, w5, ht⟩, LwD1_cg n a w0 w5 ht (D w w0 w5 ht), Lw_ag (a.mo rfl) n L, V, so, sp, wb, c1, r, E1, fun z => by have := E3 z; omega, ⟨j, v, h 93, q⟩, gd, lf, st, ld, fun u a b => by rw [f2]; exact c4 u a b, fun p a b => by rw [f5]; exact n5 p a b, fun u a b => by rw [e2]; exact sz u a b⟩
theorem Al_o {h g : my_H} {x w : Int} (n : Ln h) (a : my_ag F5 h g) (w0 : 0 ≤ w) (w5 : w ≤ 5) (t : h (h 27 w) 0 = 1) (e1 : ∀ j : Int, g (x + 1) j = h (x + 1) j) : AlH g x w = AlW h x w (WLs g) ∧ cmR g w = cmR h w := by
  obtain ⟨f27, eL, e6, e7, eC, eA, f2, f5, -⟩ := F5_w n a w0 w5 t
  have cm := cmR_cg n a w0 w5 t
  unfold AlH AlW
  rw [f27, eL 2, eL 3, eC, eA, show g (x + 1) = h (x + 1) from funext e1, cm]
  exact ⟨rfl, rfl⟩
theorem Wn_o {h g : my_H} {x w e i j v : Int} (V : VwI g 98 (h (x + 1)) (h (h 27 w) 2) (h (h 27 w) 3) (zqCW h w)) (so : VwS g 98) (q : (WLs g).Perm (EdLh g e i j v (h 93))) : WnH h x w e i j v (WLs g) := by
  have v4 := V.2.2.2.1
  rw [← V.1, zqL_map] at v4
  refine ⟨fun k => (zqE g 98 (g 98 1) k).2, (g 98 0).toNat, so, v4, ?_⟩
  rw [← V.1]
  exact q
/-- what the search leaves -/
def PB (h g : my_H) (x w e i j v : Int) : Prop := ∃ W : List zqR, WnH h x w e i j v W ∧ StpW g 112 (h 2) (zqLe (h 2) (AlW h x w W)) ∧ ((∀ c : Int, 0 ≤ c → c ≤ 3 → g 110 c = cmR h w c) ∨ ∃ b : zqY, zqLe (h 2) (AlW h x w W) = some b ∧ b.1 ≠ 3)
theorem PB_mk {h g g1 : my_H} {x w e i j v : Int} (n : Ln h) (a : my_ag F5 h g) (w0 : 0 ≤ w) (w5 : w ≤ 5) (t : h (h 27 w) 0 = 1) (e1 : ∀ j : Int, g (x + 1) j = h (x + 1) j) (wn : WnH h x w e i j v (WLs g)) (D : DkE g1 (g 2) (AlH g x w) ∧ FrH g g1 x w) : PB h g1 x w e i j v := by
  obtain ⟨o1, o2⟩ := Al_o n a w0 w5 t e1
  obtain ⟨-, -, -, -, -, -, f2, -⟩ := F5_w n a w0 w5 t
  have e2 : g 2 = h 2 := funext f2
  obtain ⟨D, F⟩ := D
  unfold FrH at F
  rw [e2, o1] at D F
  rw [o2] at F
  exact ⟨_, wn, DkE_st D, F⟩
/-- an edit that can be opened was put: the least way, if there is one -/
def PutR (h g : my_H) (x w e i j v ans : Int) : Prop := ∃ W : List zqR, WnH h x w e i j v W ∧ ((zqLe (h 2) (AlW h x w W) = none ∧ ans = -1 ∧ ∀ j : Int, g (x + 1) j = h (x + 1) j) ∨ ∃ y : zqY, zqLe (h 2) (AlW h x w W) = some y ∧ ans = zqPr (h 2) y ∧ ∀ j : Int, g (x + 1) j = zqPut (h (x + 1)) y (cmR h w) j)
/-- all that is known of a way -/
theorem Pt_y {h : my_H} {x w : Int} {W : List zqR} {y : zqY} (w0 : 0 ≤ w) (w5 : w ≤ 5) (t : h (h 27 w) 0 = 1) (LA : LwA h) (O : WOk h x) (kf : ∀ c : Int, 0 ≤ c → c ≤ 3 → 0 ≤ cmR h w c ∧ cmR h w c ≤ 19) (hy : y ∈ AlW h x w W) : zqWo (zqCA h) (zqPut (h (x + 1)) y (cmR h w)) ∧ (0 ≤ y.1 ∧ y.1 ≤ 3) ∧ (y.1 ≠ 0 → 0 ≤ y.2.1 ∧ y.2.1 ≤ 2 ∧ 0 ≤ y.2.2.1 ∧ y.2.2.1 ≤ 19) ∧ (y.1 = 1 → 1 ≤ y.2.2.2.1 ∧ y.2.2.2.1 ≤ 3 ∧ 0 ≤ y.2.2.2.2 ∧ y.2.2.2.2 ≤ 19) ∧ (y.1 = 2 → h (x + 1) (80 * y.2.1 + 4 * y.2.2.1) ≠ -1) ∧ (y.1 = 3 → y.2.1 = h (h 27 w) 2 ∧ y.2.2.1 = cmR h w 0 ∧ zqCn (h (x + 1)) (h (h 27 w) 2) 20 < 10 ∧ h (x + 1) (80 * h (h 27 w) 2 + 4 * cmR h w 0) = -1) := by
  obtain ⟨wo, ld, c4, n5, sz⟩ := O
  obtain ⟨L, DD⟩ := LA
  have D := DD w w0 w5 t
  obtain ⟨wf, b0, b2, m0, m4⟩ := L w w0 w5 t
  have d6 := D.2.2.2.2.2.1
  have d7 := D.2.2.2.2.2.2.1
  refine Put_ok (W := W) (m := h (h 27 w) 3) (P := zqCW h w) wo b0 b2 (fun u a b => (c4 u a b).2) n5 (by show 1 ≤ h 2 (h (h 27 w) 2); omega) kf (fun c a b => cmR_z w0 w5 t D L (by have a' : h 2 (h (h 27 w) 2) ≤ c := a; omega) b) hy
/-- from the least step back to its way -/
theorem Pt_s {h g : my_H} {C : Int → Int} {L : List zqY} (st : StpW g 112 C (zqLe C L)) (k : g 112 1 ≠ -1) : ∃ y : zqY, zqLe C L = some y ∧ y ∈ L ∧ g 112 0 = zqPr C y ∧ g 112 1 = y.1 ∧ g 112 2 = y.2.1 ∧ g 112 3 = y.2.2.1 ∧ g 112 4 = y.2.2.2.1 ∧ g 112 5 = y.2.2.2.2 := by
  cases e : zqLe C L with
  | none => rw [e] at st; exact absurd st.2.1 k
  | some y =>
    rw [e] at st
    exact ⟨y, rfl, zqLe_mem e, st⟩
theorem WOk_cg {h g : my_H} {x : Int} {S' : Int → Int} (eA : zqCA g = zqCA h) (e2 : ∀ j : Int, g 2 j = h 2 j) (e5 : ∀ j : Int, g 5 j = h 5 j) (O : WOk h x) (wo : zqWo (zqCA h) S') (eS : ∀ j : Int, g (x + 1) j = S' j) (sz : ∀ u : Int, 0 ≤ u → u ≤ 2 → g (x + 2) u = zqCn S' u 20) : WOk g x := by
  obtain ⟨-, ld, c4, n5, -⟩ := O
  unfold WOk
  rw [eA, show g (x + 1) = S' from funext eS]
  exact ⟨wo, ld, fun u a b => by rw [e2]; exact c4 u a b, fun p a b => by rw [e5]; exact n5 p a b, sz⟩
section
variable {h g1 g2 : my_H} {x w e i j v ans : Int}
/-- no way, or nothing is to be done -/
theorem PutR_0 (n : Ln h) (a : my_ag F5 h g2) (w0 : 0 ≤ w) (w5 : w ≤ 5) (t : h (h 27 w) 0 = 1) (LA : LwA h) (O : WOk h x) (kf : ∀ c : Int, 0 ≤ c → c ≤ 3 → 0 ≤ cmR h w c ∧ cmR h w c ≤ 19) (B : PB h g1 x w e i j v) (e1 : ∀ j : Int, g2 (x + 1) j = h (x + 1) j) (e2 : ∀ j : Int, g2 (x + 2) j = h (x + 2) j) (k1 : g1 112 1 ≠ 1) (k2 : g1 112 1 ≠ 2) (k3 : g1 112 1 ≠ 3) (ha : ans = g1 112 0) : PutR h g2 x w e i j v ans ∧ WOk g2 x := by
  obtain ⟨-, -, -, -, -, eA, f2, f5, -⟩ := F5_w n a w0 w5 t
  refine ⟨?_, WOk_cg eA f2 f5 O O.1 e1 (fun u a b => (e2 u).trans (O.2.2.2.2 u a b))⟩
  obtain ⟨W, wn, st, -⟩ := B
  refine ⟨W, wn, ?_⟩
  cases q : zqLe (h 2) (AlW h x w W) with
  | none =>
    rw [q] at st
    exact Or.inl ⟨rfl, ha.trans st.1, e1⟩
  | some y =>
    rw [q] at st
    have py := Pt_y w0 w5 t LA O kf (zqLe_mem q)
    obtain ⟨s0, s1, -⟩ := st
    refine Or.inr ⟨y, rfl, ha.trans s0, fun j => (e1 j).trans ?_⟩
    unfold zqPut
    rw [if_neg (by omega), if_neg (by omega), if_neg (by omega)]
theorem PutR_1 {o z : Int} (n : Ln h) (a : my_ag F5 h g2) (w0 : 0 ≤ w) (w5 : w ≤ 5) (t : h (h 27 w) 0 = 1) (LA : LwA h) (O : WOk h x) (kf : ∀ c : Int, 0 ≤ c → c ≤ 3 → 0 ≤ cmR h w c ∧ cmR h w c ≤ 19) (B : PB h g1 x w e i j v) (e1 : ∀ j : Int, g1 (x + 1) j = h (x + 1) j) (e2 : ∀ j : Int, g1 (x + 2) j = h (x + 2) j) (k1 : g1 112 1 = 1) (u : g2 = my_up g1 (x + 1) o z) (ho : o = 80 * g1 112 2 + 4 * g1 112 3 + g1 112 4) (hz : z = g1 112 5) (ha : ans = g1 112 0) : PutR h g2 x w e i j v ans ∧ WOk g2 x := by
  obtain ⟨-, -, -, -, -, eA, f2, f5, -⟩ := F5_w n a w0 w5 t
  obtain ⟨W, wn, st, -⟩ := B
  obtain ⟨y, q, hy, s0, s1, s2, s3, s4, s5⟩ := Pt_s (h := h) st (by omega)
  obtain ⟨py, -, p3, p4, -⟩ := Pt_y w0 w5 t LA O kf hy
  have p3' := p3 (by omega)
  have p4' := p4 (by omega)
  have ep : zqPut (h (x + 1)) y (cmR h w) = zqSet (h (x + 1)) (80 * y.2.1 + 4 * y.2.2.1 + y.2.2.2.1) y.2.2.2.2 := by
    unfold zqPut
    rw [if_pos (by omega)]
  have eS : ∀ j : Int, g2 (x + 1) j = zqPut (h (x + 1)) y (cmR h w) j := fun j => by
    rw [ep]
    unfold zqSet
    by_cases c : j = 80 * y.2.1 + 4 * y.2.2.1 + y.2.2.2.1
    · rw [if_pos c, show j = o by omega, my_up_self u]; omega
    · rw [if_neg c, my_up_ne u (by omega)]; exact e1 j
  exact ⟨⟨W, wn, Or.inr ⟨y, q, ha.trans s0, eS⟩⟩, WOk_cg eA f2 f5 O py eS (fun u' a b => by
    rw [ep, zqCn_set p4'.1 p4'.2.1, my_up_ne u (by omega), e2]
    exact O.2.2.2.2 u' a b)⟩
theorem PutR_2 {a1 a2 : Int} (n : Ln h) (a : my_ag F5 h g2) (w0 : 0 ≤ w) (w5 : w ≤ 5) (t : h (h 27 w) 0 = 1) (LA : LwA h) (O : WOk h x) (kf : ∀ c : Int, 0 ≤ c → c ≤ 3 → 0 ≤ cmR h w c ∧ cmR h w c ≤ 19) (B : PB h g1 x w e i j v) (e1 : ∀ j : Int, g1 (x + 1) j = h (x + 1) j) (e2 : ∀ j : Int, g1 (x + 2) j = h (x + 2) j) (k1 : g1 112 1 = 2) (h1 : a1 = g1 112 2) (h2 : a2 = g1 112 3) (u : ∀ j : Int, g2 (x + 1) j = zqDrop (g1 (x + 1)) a1 a2 j) (u2 : ∀ j : Int, g2 (x + 2) j = if j = a1 then g1 (x + 2) j - 1 else g1 (x + 2) j) (ha : ans = g1 112 0) : PutR h g2 x w e i j v ans ∧ WOk g2 x := by
  obtain ⟨-, -, -, -, -, eA, f2, f5, -⟩ := F5_w n a w0 w5 t
  obtain ⟨W, wn, st, -⟩ := B
  obtain ⟨y, q, hy, s0, s1, s2, s3, s4, s5⟩ := Pt_s (h := h) st (by omega)
  obtain ⟨py, -, p3, -, p5, -⟩ := Pt_y w0 w5 t LA O kf hy
  have p3' := p3 (by omega)
  have p5' := p5 (by omega)
  have ep : zqPut (h (x + 1)) y (cmR h w) = zqDrop (h (x + 1)) y.2.1 y.2.2.1 := by
    unfold zqPut
    rw [if_neg (by omega), if_pos (by omega)]
  have eS : ∀ j : Int, g2 (x + 1) j = zqPut (h (x + 1)) y (cmR h w) j := fun j => by
    rw [ep, u j, show g1 (x + 1) = h (x + 1) from funext e1, h1, h2, s2, s3]
  exact ⟨⟨W, wn, Or.inr ⟨y, q, ha.trans s0, eS⟩⟩, WOk_cg eA f2 f5 O py eS (fun u' a b => by
    rw [ep, zqCn_drop p3'.2.2.1 p3'.2.2.2 p5', u2, h1, s2, e2, O.2.2.2.2 u' a b])⟩
theorem PutR_3 {ga : my_H} {o b z : Int} (n : Ln h) (a : my_ag F5 h g2) (w0 : 0 ≤ w) (w5 : w ≤ 5) (t : h (h 27 w) 0 = 1) (LA : LwA h) (O : WOk h x) (kf : ∀ c : Int, 0 ≤ c → c ≤ 3 → 0 ≤ cmR h w c ∧ cmR h w c ≤ 19) (B : PB h g1 x w e i j v) (e1 : ∀ j : Int, g1 (x + 1) j = h (x + 1) j) (e2 : ∀ j : Int, g1 (x + 2) j = h (x + 2) j) (x91 : x ≤ 91) (k1 : g1 112 1 = 3) (u : ga = my_cp g1 110 0 (x + 1) o 4) (ho : o = 80 * g1 112 2 + 4 * g1 110 0) (u2 : g2 = my_up ga (x + 2) b z) (hb : b = g1 112 2) (hz : (0 ≤ ga (x + 2) b ∧ ga (x + 2) b ≤ 10) → z = ga (x + 2) b + 1) (ha : ans = g1 112 0) : PutR h g2 x w e i j v ans ∧ WOk g2 x := by
  obtain ⟨-, -, -, -, -, eA, f2, f5, -⟩ := F5_w n a w0 w5 t
  obtain ⟨W, wn, st, fr⟩ := B
  obtain ⟨y, q, hy, s0, s1, s2, s3, s4, s5⟩ := Pt_s (h := h) st (by omega)
  obtain ⟨py, -, p3, -, -, p6⟩ := Pt_y w0 w5 t LA O kf hy
  have p3' := p3 (by omega)
  obtain ⟨q1, q2, q3, q4⟩ := p6 (by omega)
  have fr' : ∀ c : Int, 0 ≤ c → c ≤ 3 → g1 110 c = cmR h w c := by
    rcases fr with f | ⟨b', eb, nb⟩
    · exact f
    · rw [q] at eb
      cases eb
      exact absurd (by omega) nb
  have f0 := fr' 0 (by omega) (by omega)
  have k0 := kf 0 (by omega) (by omega)
  have ep : zqPut (h (x + 1)) y (cmR h w) = zqAdd (h (x + 1)) y.2.1 y.2.2.1 (cmR h w) := by
    unfold zqPut
    rw [if_neg (by omega), if_neg (by omega), if_pos (by omega)]
  have eS : ∀ j : Int, g2 (x + 1) j = zqPut (h (x + 1)) y (cmR h w) j := fun j => by
    rw [ep, my_up_ne u2 (by omega)]
    unfold zqAdd
    by_cases c : 80 * y.2.1 + 4 * y.2.2.1 ≤ j ∧ j < 80 * y.2.1 + 4 * y.2.2.1 + 4
    · rw [if_pos c, my_cp_in u (by omega) (by omega), show 0 + (j - o) = j - (80 * y.2.1 + 4 * y.2.2.1) by omega]
      exact fr' _ (by omega) (by omega)
    · rw [if_neg c, my_cp_ne u (by omega)]; exact e1 j
  refine ⟨⟨W, wn, Or.inr ⟨y, q, ha.trans s0, eS⟩⟩, WOk_cg eA f2 f5 O py eS (fun u' a' b' => ?_)⟩
  have ec := zqCn_add (S := h (x + 1)) (w := y.2.1) (k := y.2.2.1) (u := u') (f := cmR h w) p3'.2.2.1 p3'.2.2.2 (by rw [q1, q2]; exact q4) (by omega)
  rw [ep, ec]
  have sg : ga (x + 2) u' = h (x + 2) u' := (my_cp_ne u (by omega)).trans (e2 u')
  have so := O.2.2.2.2 u' a' b'
  by_cases c : u' = y.2.1
  · have eb : u' = b := by omega
    have nn := zqCn_nn (S := h (x + 1)) (b := u') 20
    have g10 := O.1.1.2 u' a' b'
    rw [if_pos c, eb, my_up_self u2, hz (by rw [← eb, sg, so]; exact ⟨nn, g10⟩), ← eb, sg, so]
  · rw [if_neg c, my_up_ne u2 (by omega), sg, so]
end
theorem WOk_sz {h : my_H} {x : Int} (O : WOk h x) (u : Int) (u0 : 0 ≤ u) (u2 : u ≤ 2) : 0 ≤ h (x + 2) u ∧ h (x + 2) u ≤ 10 := by
  have := O.2.2.2.2 u u0 u2
  have := O.1.1.2 u u0 u2
  have := zqCn_nn (S := h (x + 1)) (b := u) 20
  omega
end ZSR
