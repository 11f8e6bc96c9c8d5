/-! what other calls leave as it was: the class's walls, marks; the reference's states; ways of an edit -/
section ZVA
/-- all ways of an edit, in the class's words -/
def cWy (h : my_H) (S : Int → Int) (w e i j v : Int) (L : List zqY) : Prop := ∃ V : List zqR, WntL S (h (h 27 w) 2) (h (h 27 w) 3) (zqCW h w) e i j v (h 93) V ∧ L = zqAl (zqCA h) S (h (h 27 w) 2) (h (h 27 w) 3) (zqCW h w) V (cmR h w)
/-- in the reference's words -/
def mWy (h : my_H) (S : Int → Int) (w e i j v : Int) (L : List zqY) : Prop := ∃ V : List zqR, WntL S (mBs h w) (h 157 (mBs h w)) (mCW h w) e i j v (h 188) V ∧ L = zqAl (zqMA h) S (mBs h w) (h 157 (mBs h w)) (mCW h w) V (cmM h w)
/-- what the search of an opened edit leaves -/
theorem CwB {h g g1 : my_H} {x w e i j v : Int} (n : Ln h) (a : my_ag F5 h g) (w0 : 0 ≤ w) (w5 : w ≤ 5) (t : h (h 27 w) 0 = 1) (e1 : ∀ j : Int, g (x + 1) j = h (x + 1) j) (wn : WnH h x w e i j v (WLs g)) (D : DkE g1 (g 2) (AlH g x w) ∧ FrH g g1 x w) : ∃ L : List zqY, cWy h (h (x + 1)) w e i j v L ∧ DkE g1 (h 2) L := by
  obtain ⟨o1, o2⟩ := Al_o n a w0 w5 t e1
  obtain ⟨-, -, -, -, -, -, f2, -⟩ := F5_w n a w0 w5 t
  have e2 : g 2 = h 2 := funext f2
  have D1 := D.1
  rw [e2, o1] at D1
  exact ⟨_, ⟨_, wn, rfl⟩, D1⟩
/-- the walls are copied to a trial -/
theorem CpW {h g g1 g2 : my_H} {a b : Int} (ca : g1 = my_cp g 8 0 a 0 240) (cb : g2 = my_cp g1 9 0 b 0 3) (ha : 120 ≤ a) (hb : b = a + 1) (bf : ∀ k j : Int, 0 ≤ k → k < 94 → g k j = h k j) : (∀ j : Int, 0 ≤ j → j < 240 → g2 a j = h 8 j) ∧ (∀ u : Int, 0 ≤ u → u ≤ 2 → g2 b u = h 9 u) ∧ (∀ k j : Int, 0 ≤ k → k < 94 → g2 k j = h k j) ∧ ∀ k j : Int, k ≠ a → k ≠ b → g2 k j = g k j := by
  refine ⟨fun j x y => ?_, fun u x y => ?_, fun k j x y => ?_, fun k j x y => ?_⟩
  · rw [my_cp_ne cb (by omega), my_cp_in ca (by omega) (by omega), show (0 : Int) + (j - 0) = j by omega]
    exact bf 8 j (by omega) (by omega)
  · rw [my_cp_in cb (by omega) (by omega), show (0 : Int) + (u - 0) = u by omega, my_cp_ne ca (by omega)]
    exact bf 9 u (by omega) (by omega)
  · rw [my_cp_ne cb (by omega), my_cp_ne ca (by omega)]
    exact bf k j x y
  · rw [my_cp_ne cb (by omega), my_cp_ne ca (by omega)]
/-- the trial is as the walls are -/
theorem WOk_cp {h g : my_H} {y a b : Int} (ha : y + 1 = a) (hb : y + 2 = b) (ag : my_ag F5 h g) (O : WOk h 7) (e1 : ∀ j : Int, 0 ≤ j → j < 240 → g a j = h 8 j) (e2 : ∀ u : Int, 0 ≤ u → u ≤ 2 → g b u = h 9 u) : WOk g y := by
  subst ha; subst hb
  exact WOk_ag (x := 7) (y := y) ag O (fun j b c => e1 j b c) (fun u b c => e2 u b c)
theorem Gd_cg {h g : my_H} (O : WOk h 7) (bf : ∀ k j : Int, 0 ≤ k → k < 94 → g k j = h k j) : zqGd (g (7 + 1)) := by
  rw [show g (7 + 1) = h (7 + 1) from funext fun j => bf _ j (by omega) (by omega)]
  exact O.1.1
/-- the walls as they were -/
theorem WOk_bf {h g : my_H} (a : my_ag F5 h g) (O : WOk h 7) (bf : ∀ k j : Int, 0 ≤ k → k < 94 → g k j = h k j) : WOk g 7 := WOk_ag (x := 7) (y := 7) a O (fun j _ _ => bf _ j (by omega) (by omega)) (fun u _ _ => bf _ u (by omega) (by omega))
/-- the reference's walls, marks and rows ahead of a put stay -/
def Ot9 (h g : my_H) : Prop := ∀ s : Int, 0 ≤ s → (s ≤ 4 ∨ s = 9) → (∀ j : Int, 0 ≤ j → j < 60 → g 162 (60 * s + j) = h 162 (60 * s + j)) ∧ ∀ j : Int, 0 ≤ j → j < 240 → g 163 (240 * s + j) = h 163 (240 * s + j)
theorem Ot9.rf {h : my_H} : Ot9 h h := fun _ _ _ => ⟨fun _ _ _ => rfl, fun _ _ _ => rfl⟩
theorem Ot9.tr {h g k : my_H} (p : Ot9 h g) (q : Ot9 g k) : Ot9 h k := fun s a b => ⟨fun j x y => ((q s a b).1 j x y).trans ((p s a b).1 j x y), fun j x y => ((q s a b).2 j x y).trans ((p s a b).2 j x y)⟩
theorem Ot9_e {h g : my_H} (e2 : ∀ j : Int, g 162 j = h 162 j) (e3 : ∀ j : Int, g 163 j = h 163 j) : Ot9 h g := fun _ _ _ => ⟨fun _ _ _ => e2 _, fun _ _ _ => e3 _⟩
theorem Ot9_8 {h g : my_H} (p : Ot8 h g) : Ot9 h g := fun s a b => ⟨fun j x y => p.1 _ (by omega), fun j x y => p.2 _ (by omega)⟩
theorem Ot9_S {h g : my_H} {t : Int} (p : OtS h g t) (ht : t = 5 ∨ t = 6) : Ot9 h g := fun s a b => ⟨fun j x y => p.1 _ (by omega) (by omega), fun j x y => p.2 _ (by omega) (by omega)⟩
theorem Ot9_Cp {h g : my_H} {f t : Int} (p : Cp h g f t) (q : CpI h g f t 240) (ht : t = 5 ∨ t = 6 ∨ 10 ≤ t) : Ot9 h g := fun s a b => ⟨fun j x y => p.2 _ (by omega), fun j x y => q.2.1 _ (by omega)⟩
theorem Ot9_Ly {h g : my_H} {r a0 a1 a2 a3 : Int} (p : LyP h g r a0 a1 a2 a3) (h0 : 300 ≤ r) (h1 : r < 360) : Ot9 h g := fun s a b => ⟨fun j x y => p.2.1 _ (by omega), fun j x y => p.2.2.2.2.2.2 _ (by omega)⟩
theorem Ot9_u2 {h g : my_H} {o z : Int} (u : g = my_up h 162 o z) (h0 : 300 ≤ o) (h1 : o < 420) : Ot9 h g := fun s a b => ⟨fun j x y => my_up_ne u (by omega), fun j x y => my_up_ne u (by omega)⟩
theorem Ot9_u3 {h g : my_H} {o z : Int} (u : g = my_up h 163 o z) (h0 : 1200 ≤ o) (h1 : o < 1680) : Ot9 h g := fun s a b => ⟨fun j x y => my_up_ne u (by omega), fun j x y => my_up_ne u (by omega)⟩
theorem Ot9.ms {h g : my_H} {s : Int} (p : Ot9 h g) (a : 0 ≤ s) (b : s ≤ 4 ∨ s = 9) : zqAg (zqMS h s) (zqMS g s) := fun j x y => by
  obtain ⟨q1, q2⟩ := p s a b
  unfold zqMS
  rw [q1 (j / 4) (by omega) (by omega), q2 j x y]
theorem Ot9_T {h g : my_H} {a b c : Int} (p : OtT h g a b c) (ha : a = 5 ∨ a = 6 ∨ a = 8) (hb : b = 5 ∨ b = 6 ∨ b = 8) (hc : c = 5 ∨ c = 6 ∨ c = 8) : Ot9 h g := fun s x y => p s (by omega) (by omega) (by omega) (by omega)
theorem cmM_z {h : my_H} {w c : Int} (L : LmW h) (w0 : 0 ≤ w) (w5 : w ≤ 5) (t : h 164 w = 1) (a : h 157 (mBs h w) ≤ c) (b : c ≤ 3) : cmM h w c = 0 := by
  obtain ⟨wf, c0, c2, m1, m4⟩ := L w w0 w5 t
  unfold cmM zqCm
  rw [zqFo_no _ (fun k x y => by
    rcases zqOg_at (m := h 157 (mBs h w)) (j := k) c0 (mCW h w) (fun p hp k4 => by
      obtain ⟨n, q⟩ := zqWf_mem wf hp
      have := q.2.1 k4
      omega) with z | ⟨i, i0, i1, z⟩ | z
    · omega
    · omega
    · omega)]
  show mFu h w c = 0
  unfold mFu
  rw [if_neg (by omega)]
/-- a put leaves good rows good -/
theorem mPR_wo {h : my_H} {S S' : Int → Int} {w e i j v ans : Int} (L : LmW h) (M : MTy h) (w0 : 0 ≤ w) (w5 : w ≤ 5) (t : h 164 w = 1) (kD : ∀ j : Int, 0 ≤ j → j < 8 → 0 ≤ h 188 j ∧ h 188 j ≤ 19) (kF : ∀ j : Int, 0 ≤ j → j < 28 → h 173 j ≤ 19) (kP : ∀ j : Int, 0 ≤ j → j < 7 → 0 ≤ h 166 j ∧ h 166 j ≤ 6) (o : zqWo (zqMA h) S) (p : mPR h S w e i j v ans S') : zqWo (zqMA h) S' := by
  obtain ⟨wf, b0, b2, m1, m4⟩ := L w w0 w5 t
  have A4 : ∀ u : Int, 0 ≤ u → u ≤ 2 → (zqMA h).1 u ≤ 4 := fun u a b => (M.2.2.2 u a (by omega)).2
  have N2 : ∀ p : Int, 0 ≤ p → p ≤ 11 → -1 ≤ (zqMA h).2.2.2.1 p ∧ (zqMA h).2.2.2.1 p ≤ 2 := fun p a b => M.2.2.1 p a (by omega)
  obtain ⟨W, p1, p2⟩ := p
  rcases p2 with ⟨q1, q2, q3⟩ | ⟨y, q1, q2, q3⟩
  · exact zqWo_c q3 A4 N2 o
  · refine zqWo_c q3 A4 N2 ?_
    have kf : ∀ c : Int, 0 ≤ c → c ≤ 3 → 0 ≤ cmM h w c ∧ cmM h w c ≤ 19 := fun c a b => cmM_bd w0 w5 L t kD kF kP a b
    exact (Put_ok o b0 b2 A4 N2 m1 kf (fun c a b => cmM_z L w0 w5 t a b) (zqLe_mem q1)).1
/-- a way's field -/
def wyV (C : Int → Int) (o : Option zqY) (k : Int) : Int := match o with
  | none => -1
  | some y => if k = 0 then zqPr C y else if k = 1 then y.1 else if k = 2 then y.2.1 else if k = 3 then y.2.2.1 else if k = 4 then y.2.2.2.1 else y.2.2.2.2
/-- the way that is asked for -/
def wyO (C : Int → Int) (L : List zqY) (n : Int) : Option zqY := if n = -1 then zqLe C L else zqAt L n
theorem StpW_v {g : my_H} {x k : Int} {C : Int → Int} {o : Option zqY} (p : StpW g x C o) (k0 : 0 ≤ k) (k5 : k ≤ 5) : g x k = wyV C o k := by
  have kk : k = 0 ∨ k = 1 ∨ k = 2 ∨ k = 3 ∨ k = 4 ∨ k = 5 := by omega
  cases o with
  | none =>
    obtain ⟨p0, p1, p2, p3, p4, p5⟩ := p
    rcases kk with q | q | q | q | q | q <;> subst q
    · exact p0
    · exact p1
    · exact p2
    · exact p3
    · exact p4
    · exact p5
  | some y =>
    obtain ⟨p0, p1, p2, p3, p4, p5⟩ := p
    rcases kk with q | q | q | q | q | q <;> subst q
    · exact p0
    · exact p1
    · exact p2
    · exact p3
    · exact p4
    · exact p5
theorem Wy_n {C : List zqY → Prop} {g : my_H} {D : Int → Int} {y : Int} (p : ∃ L : List zqY, C L ∧ DkE g D L) (s : g 94 13 = 0) (e : y = g 94 11) : ∃ L : List zqY, C L ∧ y = (L.length : Int) := by
  obtain ⟨L, a, b⟩ := p
  exact ⟨L, a, e.trans (DkE_no b (Or.inl s)).1⟩
theorem Wy_k {C : List zqY → Prop} {g : my_H} {D : Int → Int} {y k n m a : Int} (p : ∃ L : List zqY, C L ∧ DkE g D L) (s : g 94 13 = a) (t : g 94 12 = n) (hn : a = 0 ∧ n ≠ -1) (hk : k = m ∧ 0 ≤ m ∧ m ≤ 5) (e : y = g 113 m) : ∃ L : List zqY, C L ∧ y = wyV D (wyO D L n) k := by
  obtain ⟨L, b, d⟩ := p
  obtain ⟨k1, k2, k3⟩ := hk
  subst k1
  have q := (DkE_no d (Or.inl (by omega))).2.2
  rw [t] at q
  unfold wyO
  refine ⟨L, b, ?_⟩
  rw [if_neg hn.2, e]
  exact StpW_v q k2 k3
theorem Wy_l {C : List zqY → Prop} {g : my_H} {D : Int → Int} {y k n m : Int} (p : ∃ L : List zqY, C L ∧ DkE g D L) (hn : n = -1) (hk : k = m ∧ 0 ≤ m ∧ m ≤ 5) (e : y = g 112 m) : ∃ L : List zqY, C L ∧ y = wyV D (wyO D L n) k := by
  obtain ⟨L, b, d⟩ := p
  obtain ⟨k1, k2, k3⟩ := hk
  subst k1
  unfold wyO
  refine ⟨L, b, ?_⟩
  rw [if_pos hn, e]
  exact StpW_v (DkE_st d) k2 k3
/-- the reference -/
theorem mOk_0 {h h1 : my_H} {w e i j v : Int} (a : my_ag LmF h h1) (e2 : ∀ j : Int, h1 162 j = h 162 j) (e3 : ∀ j : Int, h1 163 j = h 163 j) : MdOk h1 0 w e i j v ↔ mOk h (zqMS h 0) w e i j v := by
  rw [mOk_i, MS_eq e2 e3]
  exact mOk_ag a
theorem mWy_ag {h g : my_H} {S : Int → Int} {w e i j v : Int} {L : List zqY} (a : my_ag LmF h g) (ma : zqMA g = zqMA h) (e188 : ∀ j : Int, g 188 j = h 188 j) : mWy g S w e i j v L ↔ mWy h S w e i j v L := by
  obtain ⟨q, e157, -⟩ := Lm_e a
  unfold mWy
  rw [(q w).1, (q w).2.1, e157, ma, cmM_cg a e188, show g 188 = h 188 from funext e188]
theorem Wm_n {h h1 g : my_H} {w e i j v y : Int} (a : my_ag LmF h h1) (ma : zqMA h1 = zqMA h) (e188 : ∀ j : Int, h1 188 j = h 188 j) (e2 : ∀ j : Int, h1 162 j = h 162 j) (e3 : ∀ j : Int, h1 163 j = h 163 j) (fA : FwA h1 g 0 w e i j v) (fZ : FwZ h1 g 0 w) (y0 : 0 ≤ y) (ey : y = g 151 48) : ∃ L : List zqY, mWy h (zqMS h 0) w e i j v L ∧ y = (L.length : Int) := by
  refine ⟨WyL g, ?_, ?_⟩
  · rw [← MS_eq (s := 0) e2 e3]
    exact (mWy_ag a ma e188).mp ⟨_, fA.1, fZ⟩
  · unfold WyL
    rw [zqL_len]
    omega
theorem OtS_ms {h g : my_H} {t s : Int} (p : OtS h g t) (s8 : s ≠ 8) (st : s ≠ t) : zqAg (zqMS h s) (zqMS g s) := fun j x y => by
  unfold zqMS
  rw [p.1 (60 * s + j / 4) (by omega) (by omega), p.2 (240 * s + j) (by omega) (by omega)]
section
variable {h g g1 : my_H} {s w e i j v ans : Int}
/-- a put leaves good rows good (as puts tells it) -/
theorem mPut_wo (L : LmW h) (M : MTy h) (B : ∀ j : Int, 0 ≤ j → j < 7 → 0 ≤ h 164 j ∧ h 164 j ≤ 1) (kD : ∀ j : Int, 0 ≤ j → j < 8 → 0 ≤ h 188 j ∧ h 188 j ≤ 19) (kF : ∀ j : Int, 0 ≤ j → j < 28 → h 173 j ≤ 19) (kP : ∀ j : Int, 0 ≤ j → j < 7 → 0 ≤ h 166 j ∧ h 166 j ≤ 6) (a : my_ag LmF h g) (ma : zqMA g = zqMA h) (e188 : ∀ j : Int, g 188 j = h 188 j) (e164 : ∀ j : Int, g 164 j = h 164 j) (o : zqWo (zqMA h) (zqMS g s)) (ok : MdOk g s w e i j v) (p : MPutR g g1 s w e i j v ans) : zqWo (zqMA h) (zqMS g1 s) := by
  have q := ok.2.1
  have b := B w q.1 (by omega)
  have t : h 164 w = 1 := by
    have z := q.2.2
    rw [e164] at z
    omega
  exact mPR_wo L M q.1 q.2.1 t kD kF kP o ((mPR_ag a ma e188).mp p)
theorem Mneg_wo (L : LmW h) (M : MTy h) (B : ∀ j : Int, 0 ≤ j → j < 7 → 0 ≤ h 164 j ∧ h 164 j ≤ 1) (kD : ∀ j : Int, 0 ≤ j → j < 8 → 0 ≤ h 188 j ∧ h 188 j ≤ 19) (kF : ∀ j : Int, 0 ≤ j → j < 28 → h 173 j ≤ 19) (kP : ∀ j : Int, 0 ≤ j → j < 7 → 0 ≤ h 166 j ∧ h 166 j ≤ 6) (a : my_ag LmF h g) (ma : zqMA g = zqMA h) (e188 : ∀ j : Int, g 188 j = h 188 j) (e164 : ∀ j : Int, g 164 j = h 164 j) (o : zqWo (zqMA h) (zqMS g s)) (p : (¬ MdOk g s w e i j v ∧ zqAg (zqMS g s) (zqMS g1 s)) ∨ (MdOk g s w e i j v ∧ MPutR g g1 s w e i j v (-1))) : zqWo (zqMA h) (zqMS g1 s) := by
  rcases p with ⟨-, p⟩ | ⟨p, q⟩
  · exact zqWo_c p (fun u a b => (M.2.2.2 u a (by omega)).2) (fun p a b => M.2.2.1 p a (by omega)) o
  · exact mPut_wo L M B kD kF kP a ma e188 e164 o p q
end
end ZVA
