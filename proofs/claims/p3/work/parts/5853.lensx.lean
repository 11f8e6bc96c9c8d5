/-! the lens: a pane is laid (what the stores make) -/
section ZVD
/-- a column is used -/
def UsE (h g : my_H) (L a : Int) : Prop := (∀ p : Int, 0 ≤ p → p ≤ 11 → (zqbt (g L 8) p ↔ zqbt (h L 8) p ∨ h (L + 6) a % 16 = p)) ∧ (∀ f : Int, f ≠ 8 → g L f = h L f) ∧ ∀ o j : Int, o ≠ L → g o j = h o j
theorem UsE_n {h : my_H} {L a v : Int} (ev : v = h (L + 6) a) (o : v = -1) : UsE h h L a := by
  refine ⟨fun p p0 p1 => ⟨Or.inl, fun z => z.elim id (fun y => ?_)⟩, fun _ _ => rfl, fun _ _ _ => rfl⟩
  rw [← ev, o] at y
  omega
theorem UsE_y {h g : my_H} {L a z old b r v : Int} (u : g = my_up h L 8 z) (ez : z = bor old b) (eo : old = h L 8) (eb : b = bsl 1 r) (ev : v = h (L + 6) a) (hr : r = v % 16) : UsE h g L a := by
  refine ⟨fun p p0 p1 => ?_, fun f hf => my_up_ne u (fun z => hf z.2), fun o j ho => my_up_ne u (fun z => ho z.1)⟩
  rw [my_up_self u, ez, zqbt_bor, eo, eb, zqbt_bsl (by omega) (by omega) (by omega) (by omega), hr, ev]
  exact ⟨fun x => x.elim Or.inl (fun y => Or.inr y.symm), fun x => x.elim Or.inl (fun y => Or.inr y.symm)⟩
/-- a step is laid -/
def AdS (g g' : my_H) (L s k a b c : Int) : Prop := (g' L 9 = s + 1 ∧ g' (L + 1) s = k ∧ g' (L + 2) s = a ∧ g' (L + 3) s = b ∧ g' (L + 4) s = c) ∧ (∀ j : Int, j ≠ s → g' (L + 1) j = g (L + 1) j ∧ g' (L + 2) j = g (L + 2) j ∧ g' (L + 3) j = g (L + 3) j ∧ g' (L + 4) j = g (L + 4) j) ∧ (∀ f : Int, f ≠ 5 → f ≠ 9 → g' L f = g L f) ∧ ∀ o j : Int, (o < L ∨ L + 4 < o) → g' o j = g o j
theorem AdS_mk {g g1 g2 g3 g4 g5 g6 : my_H} {L s s1 s2 s3 s4 k a b c z y : Int} (u1 : g1 = my_up g (L + 1) s1 k) (u2 : g2 = my_up g1 (L + 2) s2 a) (u3 : g3 = my_up g2 (L + 3) s3 b) (u4 : g4 = my_up g3 (L + 4) s4 c) (u5 : g5 = my_up g4 L 9 z) (u6 : g6 = my_up g5 L 5 y) (e1 : s1 = s) (e2 : s2 = s) (e3 : s3 = s) (e4 : s4 = s) (ez : z = s + 1) : AdS g g6 L s k a b c := by
  subst e1; subst e2; subst e3; subst e4; subst ez
  refine ⟨⟨?_, ?_, ?_, ?_, ?_⟩, fun j hj => ⟨?_, ?_, ?_, ?_⟩, fun f f5 f9 => ?_, fun o j ho => ?_⟩
  · rw [my_up_ne u6 (by omega), my_up_self u5]
  · rw [my_up_ne u6 (by omega), my_up_ne u5 (by omega), my_up_ne u4 (by omega), my_up_ne u3 (by omega), my_up_ne u2 (by omega), my_up_self u1]
  · rw [my_up_ne u6 (by omega), my_up_ne u5 (by omega), my_up_ne u4 (by omega), my_up_ne u3 (by omega), my_up_self u2]
  · rw [my_up_ne u6 (by omega), my_up_ne u5 (by omega), my_up_ne u4 (by omega), my_up_self u3]
  · rw [my_up_ne u6 (by omega), my_up_ne u5 (by omega), my_up_self u4]
  · rw [my_up_ne u6 (by omega), my_up_ne u5 (by omega), my_up_ne u4 (by omega), my_up_ne u3 (by omega), my_up_ne u2 (by omega), my_up_ne u1 (by omega)]
  · rw [my_up_ne u6 (by omega), my_up_ne u5 (by omega), my_up_ne u4 (by omega), my_up_ne u3 (by omega), my_up_ne u2 (by omega), my_up_ne u1 (by omega)]
  · rw [my_up_ne u6 (by omega), my_up_ne u5 (by omega), my_up_ne u4 (by omega), my_up_ne u3 (by omega), my_up_ne u2 (by omega), my_up_ne u1 (by omega)]
  · rw [my_up_ne u6 (by omega), my_up_ne u5 (by omega), my_up_ne u4 (by omega), my_up_ne u3 (by omega), my_up_ne u2 (by omega), my_up_ne u1 (by omega)]
  · rw [my_up_ne u6 (by omega), my_up_ne u5 (by omega), my_up_ne u4 (by omega), my_up_ne u3 (by omega), my_up_ne u2 (by omega), my_up_ne u1 (by omega)]
  · rw [my_up_ne u6 (by omega), my_up_ne u5 (by omega), my_up_ne u4 (by omega), my_up_ne u3 (by omega), my_up_ne u2 (by omega), my_up_ne u1 (by omega)]
theorem AdE_S {h g g' : my_H} {L s k a b c : Int} (A : AdS g g' L s k a b c) (hs : s = h L 9) (e : ∀ o j : Int, L < o → o < L + 6 → g o j = h o j) (e7 : ∀ j : Int, g (L + 7) j = h (L + 7) j) (f1 : g L 1 = h L 1) (f2 : g L 2 = h L 2) (f3 : g L 3 = h L 3) (f4 : g L 4 = ln_st k c (h L 4)) : AdE h g' L k a b c := by
  obtain ⟨a0, a1, a2, a3⟩ := A
  rw [hs] at a0 a1
  refine ⟨a0, fun j hj => ?_, fun j _ => (a3 _ j (by omega)).trans (e _ j (by omega) (by omega)), fun j => (a3 _ j (by omega)).trans (e7 j), (a2 1 (by omega) (by omega)).trans f1, (a2 2 (by omega) (by omega)).trans f2, (a2 3 (by omega) (by omega)).trans f3, (a2 4 (by omega) (by omega)).trans f4⟩
  obtain ⟨q1, q2, q3, q4⟩ := a1 j hj
  exact ⟨q1.trans (e _ j (by omega) (by omega)), q2.trans (e _ j (by omega) (by omega)), q3.trans (e _ j (by omega) (by omega)), q4.trans (e _ j (by omega) (by omega))⟩
theorem Ad_cut {h g g' : my_H} {L s k a b : Int} (k0 : 0 ≤ k) (k2 : k ≤ 2) (U : UsE h g L a) (A : AdS g g' L s k a b 0) (hs : s = h L 9) : AdE h g' L k a b 0 ∧ AdD h g' L k a b 0 := by
  obtain ⟨u1, u2, u3⟩ := U
  have ls : ln_st k 0 (h L 4) = h L 4 := by
    unfold ln_st
    rw [if_neg (by omega), if_neg (by omega), if_neg (by omega)]
  have E : AdE h g' L k a b 0 := AdE_S A hs (fun o j x y => u3 o j (by omega)) (fun j => u3 _ j (by omega)) (u2 1 (by omega)) (u2 2 (by omega)) (u2 3 (by omega)) (by rw [ls]; exact u2 4 (by omega))
  obtain ⟨a0, a1, a2, a3⟩ := A
  refine ⟨E, fun p p0 p1 => ?_, fun u x y => ?_, ?_, fun j x y => ?_⟩
  · rw [a2 8 (by omega) (by omega), u1 p p0 p1]
    exact ⟨fun z => z.elim Or.inl (fun y => Or.inr (Or.inl ⟨by omega, y⟩)), fun z => z.elim Or.inl (fun y => y.elim (fun w => Or.inr w.2) (fun w => absurd w.1 (by omega)))⟩
  · rw [a2 6 (by omega) (by omega), u2 6 (by omega)]
    exact ⟨Or.inl, fun z => z.elim id (fun w => absurd w.1 (by omega))⟩
  · rw [a2 7 (by omega) (by omega), u2 7 (by omega), if_neg (by omega)]
  · rw [a3 _ j (by omega), u3 _ j (by omega), if_neg (by omega), if_neg (by omega), if_neg (by omega)]
theorem Ad_sum {h g0 g1 g2 g3 g4 g5 g' : my_H} {L s a b o0 z0 o1 z1 z4 z7 : Int} (U : UsE h g0 L a) (V : UsE g0 g1 L b) (u2 : g2 = my_up g1 (L + 6) o0 z0) (u3 : g3 = my_up g2 (L + 6) o1 z1) (u4 : g4 = my_up g3 L 4 z4) (u5 : g5 = my_up g4 L 7 z7) (A : AdS g5 g' L s 5 a b 0) (hs : s = h L 9) (e0 : o0 = 0 ∧ z0 = -1) (e1 : o1 = 1 ∧ z1 = -1) (e4 : z4 = 2) (e7 : z7 = 1) : AdE h g' L 5 a b 0 ∧ AdD h g' L 5 a b 0 := by
  obtain ⟨x1, x2, x3⟩ := U
  obtain ⟨y1, y2, y3⟩ := V
  have ls : ln_st 5 0 (h L 4) = 2 := rfl
  have fl : ∀ f : Int, f ≠ 4 → f ≠ 7 → f ≠ 8 → g5 L f = h L f := fun f q4 q7 q8 => by
    rw [my_up_ne u5 (by omega), my_up_ne u4 (by omega), my_up_ne u3 (by omega), my_up_ne u2 (by omega), y2 f q8, x2 f q8]
  have ob : ∀ o j : Int, o ≠ L → o ≠ L + 6 → g5 o j = h o j := fun o j q q6 => by
    rw [my_up_ne u5 (by omega), my_up_ne u4 (by omega), my_up_ne u3 (by omega), my_up_ne u2 (by omega), y3 o j q, x3 o j q]
  have E : AdE h g' L 5 a b 0 := AdE_S A hs (fun o j x y => ob o j (by omega) (by omega)) (fun j => ob _ j (by omega) (by omega)) (fl 1 (by omega) (by omega) (by omega)) (fl 2 (by omega) (by omega) (by omega)) (fl 3 (by omega) (by omega) (by omega)) (by rw [ls, my_up_ne u5 (by omega), my_up_self u4]; exact e4)
  obtain ⟨a0, a1, a2, a3⟩ := A
  refine ⟨E, fun p p0 p1 => ?_, fun u x y => ?_, ?_, fun j x y => ?_⟩
  · rw [a2 8 (by omega) (by omega), my_up_ne u5 (by omega), my_up_ne u4 (by omega), my_up_ne u3 (by omega), my_up_ne u2 (by omega), y1 p p0 p1, x1 p p0 p1, x3 _ b (by omega)]
    constructor
    · rintro ((z | z) | z)
      · exact Or.inl z
      · exact Or.inr (Or.inl ⟨by decide, z⟩)
      · exact Or.inr (Or.inr ⟨rfl, z⟩)
    · rintro (z | z | z)
      · exact Or.inl (Or.inl z)
      · exact Or.inl (Or.inr z.2)
      · exact Or.inr z.2
  · rw [a2 6 (by omega) (by omega), fl 6 (by omega) (by omega) (by omega)]
    exact ⟨Or.inl, fun z => z.elim id (fun w => absurd w.1 (by omega))⟩
  · rw [a2 7 (by omega) (by omega), my_up_self u5, e7, if_pos rfl]
  · have e : g' L 4 = 2 := by rw [a2 4 (by omega) (by omega), my_up_ne u5 (by omega), my_up_self u4]; exact e4
    rw [a3 _ j (by omega), if_neg (by omega), if_neg (by omega), if_pos rfl, my_up_ne u5 (by omega), my_up_ne u4 (by omega)]
    by_cases q : j = 1
    · rw [show j = o1 by omega, my_up_self u3]; exact e1.2
    · rw [my_up_ne u3 (by omega), show j = o0 by omega, my_up_self u2]; exact e0.2
/-- columns joined are named -/
def OjI (h g : my_H) (L b W n : Int) : Prop := (∀ j : Int, (j < W ∨ W + n - 1 ≤ j) → g (L + 6) j = h (L + 6) j) ∧ (∀ j : Int, W ≤ j → j < W + n - 1 → g (L + 6) j = 16 + 4 * b + (j - W + 1)) ∧ ∀ o j : Int, o ≠ L + 6 → g o j = h o j
theorem OjI_0 {h : my_H} {L b W n : Int} (e : n = 1) : OjI h h L b W n := ⟨fun _ _ => rfl, fun j a c => by omega, fun _ _ _ => rfl⟩
theorem OjI_s {h g g' : my_H} {L b W n m o z : Int} (p : OjI h g L b W n) (u : g' = my_up g (L + 6) o z) (ho : o = W + n - 1) (hz : z = 16 + 4 * b + n) (hm : m = n + 1) (n1 : 1 ≤ n) : OjI h g' L b W m := by
  obtain ⟨p1, p2, p3⟩ := p
  refine ⟨fun j hj => ?_, fun j a c => ?_, fun q j hq => ?_⟩
  · rw [my_up_ne u (by omega)]; exact p1 j (by omega)
  · by_cases e : j = o
    · rw [e, my_up_self u]; omega
    · rw [my_up_ne u (by omega)]; exact p2 j a (by omega)
  · rw [my_up_ne u (by omega)]; exact p3 q j hq
theorem Ad_join {h g1 g2 g3 g4 g' : my_H} {L s a b c n z4 z6 old bb : Int} (J : UsE h g1 L a ∧ OjI g1 g2 L b (h L 4) n) (u3 : g3 = my_up g2 L 4 z4) (u4 : g4 = my_up g3 L 6 z6) (A : AdS g4 g' L s 4 a b c) (hs : s = h L 9) (hn : n = c) (e4 : z4 = h L 4 + (c - 1)) (e6 : z6 = bor old bb) (eo0 : old = g3 L 6) (eb : bb = bsl 1 b) (b0 : 0 ≤ b) (b2 : b ≤ 2) : AdE h g' L 4 a b c ∧ AdD h g' L 4 a b c := by
  subst hn
  obtain ⟨⟨x1, x2, x3⟩, y1, y2, y3⟩ := J
  have eo : old = h L 6 := by rw [eo0, my_up_ne u3 (by omega), y3 _ 6 (by omega), x2 6 (by decide)]
  have ls : ln_st 4 n (h L 4) = h L 4 + n - 1 := rfl
  have fl : ∀ f : Int, f ≠ 4 → f ≠ 6 → f ≠ 8 → g4 L f = h L f := fun f q4 q7 q8 => by
    rw [my_up_ne u4 (by omega), my_up_ne u3 (by omega), y3 _ f (by omega), x2 f q8]
  have ob : ∀ o j : Int, o ≠ L → o ≠ L + 6 → g4 o j = h o j := fun o j q q6 => by
    rw [my_up_ne u4 (by omega), my_up_ne u3 (by omega), y3 o j q6, x3 o j q]
  have E : AdE h g' L 4 a b n := AdE_S A hs (fun o j x y => ob o j (by omega) (by omega)) (fun j => ob _ j (by omega) (by omega)) (fl 1 (by omega) (by omega) (by omega)) (fl 2 (by omega) (by omega) (by omega)) (fl 3 (by omega) (by omega) (by omega)) (by rw [ls, my_up_ne u4 (by omega), my_up_self u3]; omega)
  obtain ⟨a0, a1, a2, a3⟩ := A
  refine ⟨E, fun p p0 p1 => ?_, fun u x y => ?_, ?_, fun j x y => ?_⟩
  · rw [a2 8 (by omega) (by omega), my_up_ne u4 (by omega), my_up_ne u3 (by omega), y3 _ 8 (by omega), x1 p p0 p1]
    exact ⟨fun z => z.elim Or.inl (fun y => Or.inr (Or.inl ⟨by decide, y⟩)), fun z => z.elim Or.inl (fun y => y.elim (fun w => Or.inr w.2) (fun w => absurd w.1 (by omega)))⟩
  · rw [a2 6 (by omega) (by omega), my_up_self u4, e6, zqlb_bt x (by omega), zqlb_bt x (by omega), zqbt_bor, eo, eb, zqbt_bsl (by omega) (by omega) (by omega) (by omega)]
    exact ⟨fun z => z.elim Or.inl (fun w => Or.inr ⟨rfl, w.symm⟩), fun z => z.elim Or.inl (fun w => Or.inr w.2.symm)⟩
  · rw [a2 7 (by omega) (by omega), fl 7 (by omega) (by omega) (by omega), if_neg (by omega)]
  · have e : g' L 4 = h L 4 + n - 1 := by rw [a2 4 (by omega) (by omega), my_up_ne u4 (by omega), my_up_self u3]; omega
    rw [a3 _ j (by omega), if_neg (by omega), if_pos rfl, my_up_ne u4 (by omega), my_up_ne u3 (by omega)]
    by_cases q : h L 4 ≤ j
    · rw [if_pos q]; exact y2 j q (by omega)
    · rw [if_neg q, y1 j (by omega), x3 _ j (by omega)]
/-- columns of a few are named -/
def OfI (h g : my_H) (L s n : Int) : Prop := (∀ j : Int, 0 ≤ j → j < 8 → g (L + 8) j = h (L + 6) j) ∧ (∀ j : Int, 0 ≤ j → j < n → g (L + 6) j = h (L + 6) (h (L + 5) (8 * s + j))) ∧ ∀ o j : Int, o ≠ L + 6 → o ≠ L + 8 → g o j = h o j
theorem OfI_0 {h g : my_H} {L s n : Int} (u : g = my_cp h (L + 6) 0 (L + 8) 0 8) (e : n = 0) : OfI h g L s n := by
  refine ⟨fun j a b => ?_, fun j a b => by omega, fun o j q6 q8 => my_cp_ne u (by omega)⟩
  rw [my_cp_in u (by omega) (by omega), show (0 : Int) + (j - 0) = j by omega]
theorem OfI_s {h g g' : my_H} {L s n m o z y : Int} (p : OfI h g L s n) (u : g' = my_up g (L + 6) o z) (ho : o = n) (hz : z = g (L + 8) y) (hy : y = g (L + 5) (8 * s + n)) (y0 : 0 ≤ y) (y7 : y ≤ 7) (hm : m = n + 1) : OfI h g' L s m := by
  obtain ⟨p1, p2, p3⟩ := p
  refine ⟨fun j a b => ?_, fun j a b => ?_, fun q j q6 q8 => ?_⟩
  · rw [my_up_ne u (by omega)]; exact p1 j a b
  · by_cases e : j = o
    · rw [e, my_up_self u, hz, p1 y y0 (by omega), hy, p3 _ _ (by omega) (by omega), ho]
    · rw [my_up_ne u (by omega)]; exact p2 j a (by omega)
  · rw [my_up_ne u (by omega)]; exact p3 q j q6 q8
theorem Ad_few {h g g1 g' : my_H} {L s n c z : Int} (O : OfI h g L (h L 9) n) (u : g1 = my_up g L 4 z) (A : AdS g1 g' L s 3 0 0 c) (hs : s = h L 9) (hn : n = c) (hz : z = c) : AdE h g' L 3 0 0 c ∧ AdD h g' L 3 0 0 c := by
  subst hn; subst hz
  obtain ⟨p1, p2, p3⟩ := O
  have ls : ln_st 3 z (h L 4) = z := rfl
  have fl : ∀ f : Int, f ≠ 4 → g1 L f = h L f := fun f q => by rw [my_up_ne u (by omega), p3 _ f (by omega) (by omega)]
  have ob : ∀ o j : Int, o ≠ L → o ≠ L + 6 → o ≠ L + 8 → g1 o j = h o j := fun o j q q6 q8 => by rw [my_up_ne u (by omega), p3 o j q6 q8]
  have E : AdE h g' L 3 0 0 z := AdE_S A hs (fun o j x y => ob o j (by omega) (by omega) (by omega)) (fun j => ob _ j (by omega) (by omega) (by omega)) (fl 1 (by omega)) (fl 2 (by omega)) (fl 3 (by omega)) (by rw [ls, my_up_self u])
  obtain ⟨a0, a1, a2, a3⟩ := A
  refine ⟨E, fun p q0 q1 => ?_, fun v x y => ?_, ?_, fun j x y => ?_⟩
  · rw [a2 8 (by omega) (by omega), fl 8 (by omega)]
    exact ⟨Or.inl, fun w => w.elim id (fun w => w.elim (fun w => absurd rfl w.1) (fun w => absurd w.1 (by omega)))⟩
  · rw [a2 6 (by omega) (by omega), fl 6 (by omega)]
    exact ⟨Or.inl, fun w => w.elim id (fun w => absurd w.1 (by omega))⟩
  · rw [a2 7 (by omega) (by omega), fl 7 (by omega), if_neg (by omega)]
  · have e : g' L 4 = z := by rw [a2 4 (by omega) (by omega), my_up_self u]
    rw [a3 _ j (by omega), if_pos rfl, a3 _ _ (by omega), my_up_ne u (by omega), p2 j x (by omega), ob (L + 5) _ (by omega) (by omega) (by omega)]
theorem Ad_few5 {h g g1 g' : my_H} {L s n c z : Int} (O : OfI h g L (h L 9) n) (u : g1 = my_up g L 4 z) (A : AdS g1 g' L s 3 0 0 c) (j : Int) : g' (L + 5) j = h (L + 5) j := by
  rw [A.2.2.2 _ j (by omega), my_up_ne u (by omega), O.2.2 _ j (by omega) (by omega)]
/-- a lens that stands on a wall -/
def StW (g : my_H) (L b m n : Int) : Prop := (g L 2 = b ∧ g L 3 = m ∧ g L 4 = m ∧ g L 7 = 0 ∧ g L 8 = 0 ∧ g L 6 = bsl 1 b) ∧ ∀ j : Int, 0 ≤ j → j < n → g (L + 6) j = 4 * b + j ∧ g (L + 7) j = 0
theorem StW_s {g g1 g2 : my_H} {L b m n n' o1 z1 o2 z2 : Int} (p : StW g L b m n) (u1 : g1 = my_up g (L + 7) o1 z1) (u2 : g2 = my_up g1 (L + 6) o2 z2) (h1 : o1 = n ∧ z1 = 0) (h2 : o2 = n ∧ z2 = 4 * b + n) (hn : n' = n + 1) : StW g2 L b m n' := by
  obtain ⟨⟨f2, f3, f4, f7, f8, f6⟩, p2⟩ := p
  have fl : ∀ f : Int, g2 L f = g L f := fun f => by rw [my_up_ne u2 (by omega), my_up_ne u1 (by omega)]
  refine ⟨⟨(fl 2).trans f2, (fl 3).trans f3, (fl 4).trans f4, (fl 7).trans f7, (fl 8).trans f8, (fl 6).trans f6⟩, fun j a c => ⟨?_, ?_⟩⟩
  · by_cases e : j = o2
    · rw [e, my_up_self u2]; omega
    · rw [my_up_ne u2 (by omega), my_up_ne u1 (by omega)]; exact (p2 j a (by omega)).1
  · rw [my_up_ne u2 (by omega)]
    by_cases e : j = o1
    · rw [e, my_up_self u1]; exact h1.2
    · rw [my_up_ne u1 (by omega)]; exact (p2 j a (by omega)).2
theorem StW_R {g : my_H} {L b m : Int} (p : StW g L b m 4) (b0 : 0 ≤ b) (b2 : b ≤ 2) (m4 : m ≤ 4) : LnR g L [] := by
  obtain ⟨⟨f2, f3, f4, f7, f8, f6⟩, p2⟩ := p
  unfold LnR
  rw [f2, f3, f4, f7, f8, f6]
  refine ⟨rfl, fun c c0 c1 => ?_, fun p p0 p1 => ?_, fun u u0 u1 => ?_, ?_, trivial⟩
  · rw [(p2 c c0 (by omega)).1]
    show _ = if 0 ≤ c ∧ c < m then 4 * b + c else -1
    rw [if_pos ⟨c0, c1⟩]
  · exact ⟨fun z => absurd z zqbt_0, fun z => False.elim z⟩
  · rw [zqlb_bt u0 (by omega), zqbt_bsl (by omega) (by omega) (by omega) (by omega)]
    exact ⟨fun z => Or.inl z, fun z => z.elim id (fun ⟨_, hp, _⟩ => by cases hp)⟩
  · exact ⟨fun _ p hp => (by cases hp), fun _ => rfl⟩
end ZVD
section ZVE
/-- all that lenses hold -/
abbrev LzF : List (Nat × Int) := [(4, -1), (32, -1), (33, -1), (34, -1), (35, -1), (36, -1), (37, -1), (38, -1)]
theorem AgZ_ag {h h1 h2 : my_H} (g : my_ag LzF h1 h2) (p : my_ag LzF h h1) : my_ag LzF h h2 := p.tr g
theorem pix_6q {x : Int} (hx : my_is 4 x) : my_is 37 (x + 6) := my_isOff (δ := 6) hx (by decide +kernel)
theorem pix_5q {x : Int} (hx : my_is 4 x) : my_is 36 (x + 5) := my_isOff (δ := 5) hx (by decide +kernel)
theorem AdE_A {h h' : my_H} {L k a b c : Int} (E : AdE h h' L k a b c) : AddS h h' L k b c := by
  obtain ⟨⟨x9, xk, xa, xb, xc⟩, xo, -, -, y1, y2, y3, y4⟩ := E
  exact ⟨x9, xk, xb, xc, fun j hj => ⟨(xo j hj).1, (xo j hj).2.2.1, (xo j hj).2.2.2⟩, y1, y3, y4⟩
theorem AdE_z {h g h' : my_H} {S k a b c : Int} (z : my_ag LzF h g) (hS : my_is 4 S) (E : AdE g h' S k a b c) (D : AdD g h' S k a b c) : AdE h h' S k a b c ∧ AdD h h' S k a b c :=
  AdE_pre (fun f _ _ => z.at hS rfl) (fun j => z.at (pix_1 hS) rfl) (fun j => z.at (pix_2z hS) rfl) (fun j => z.at (pix_3 hS) rfl) (fun j => z.at (pix_4 hS) rfl) (fun j _ => z.at (pix_5q hS) rfl) (fun j => z.at (pix_6q hS) rfl) (fun j => z.at (pix_7z hS) rfl) E D
/-- two lenses lie apart -/
theorem ln_two {x y : Int} (hx : my_is 4 x) (hy : my_is 4 y) (ne : x ≠ y) : x + 8 < y ∨ y + 8 < x := by
  have key : ∀ a : Nat, a < my_N → my_ot a = 4 → a = 28 ∨ a = 37 ∨ a = 46 ∨ a = 55 ∨ a = 64 ∨ a = 73 ∨ a = 83 := by decide +kernel
  have kx := key x.toNat hx.2.1 hx.2.2
  have ky := key y.toNat hy.2.1 hy.2.2
  have := hx.1
  have := hy.1
  omega
/-- a lens that stands on another -/
def SwE (h g : my_H) (L M : Int) : Prop := (∀ f : Int, 2 ≤ f → f ≤ 8 → g L f = h M f) ∧ (∀ j : Int, 0 ≤ j → j < 8 → g (L + 6) j = h (M + 6) j) ∧ ∀ j : Int, 0 ≤ j → j < 4 → g (L + 7) j = h (M + 7) j
theorem SwE_mk {h g1 g2 g3 g4 g5 g6 g7 g8 g9 ga gb : my_H} {L M z1 z2 z3 z4 z5 z6 z7 z8 z9 : Int} (u1 : g1 = my_up h L 1 z1) (u2 : g2 = my_up g1 L 2 z2) (u3 : g3 = my_up g2 L 3 z3) (u4 : g4 = my_up g3 L 4 z4) (u5 : g5 = my_up g4 L 5 z5) (u6 : g6 = my_up g5 L 6 z6) (u7 : g7 = my_up g6 L 7 z7) (u8 : g8 = my_up g7 L 8 z8) (u9 : g9 = my_up g8 L 9 z9) (ca : ga = my_cp g9 (M + 7) 0 (L + 7) 0 4) (cb : gb = my_cp ga (M + 6) 0 (L + 6) 0 8) (tL : my_is 4 L) (tM : my_is 4 M) (ne : M < L ∨ L + 8 < M) (e2 : z2 = g1 M 2) (e3 : z3 = g2 M 3) (e4 : z4 = g3 M 4) (e5 : z5 = g4 M 5) (e6 : z6 = g5 M 6) (e7 : z7 = g6 M 7) (e8 : z8 = g7 M 8) : SwE h gb L M := by
  have ap := ln_two tL tM (by omega)
  have fl : ∀ f : Int, gb L f = g9 L f := fun f => by rw [my_cp_ne cb (by omega), my_cp_ne ca (by omega)]
  refine ⟨fun f a b => ?_, fun j a b => ?_, fun j a b => ?_⟩
  · rw [fl]
    have kk : f = 2 ∨ f = 3 ∨ f = 4 ∨ f = 5 ∨ f = 6 ∨ f = 7 ∨ f = 8 := by omega
    rcases kk with q | q | q | q | q | q | q <;> subst q
    · rw [my_up_ne u9 (by omega), my_up_ne u8 (by omega), my_up_ne u7 (by omega), my_up_ne u6 (by omega), my_up_ne u5 (by omega), my_up_ne u4 (by omega), my_up_ne u3 (by omega), my_up_self u2, e2, my_up_ne u1 (by omega)]
    · rw [my_up_ne u9 (by omega), my_up_ne u8 (by omega), my_up_ne u7 (by omega), my_up_ne u6 (by omega), my_up_ne u5 (by omega), my_up_ne u4 (by omega), my_up_self u3, e3, my_up_ne u2 (by omega), my_up_ne u1 (by omega)]
    · rw [my_up_ne u9 (by omega), my_up_ne u8 (by omega), my_up_ne u7 (by omega), my_up_ne u6 (by omega), my_up_ne u5 (by omega), my_up_self u4, e4, my_up_ne u3 (by omega), my_up_ne u2 (by omega), my_up_ne u1 (by omega)]
    · rw [my_up_ne u9 (by omega), my_up_ne u8 (by omega), my_up_ne u7 (by omega), my_up_ne u6 (by omega), my_up_self u5, e5, my_up_ne u4 (by omega), my_up_ne u3 (by omega), my_up_ne u2 (by omega), my_up_ne u1 (by omega)]
    · rw [my_up_ne u9 (by omega), my_up_ne u8 (by omega), my_up_ne u7 (by omega), my_up_self u6, e6, my_up_ne u5 (by omega), my_up_ne u4 (by omega), my_up_ne u3 (by omega), my_up_ne u2 (by omega), my_up_ne u1 (by omega)]
    · rw [my_up_ne u9 (by omega), my_up_ne u8 (by omega), my_up_self u7, e7, my_up_ne u6 (by omega), my_up_ne u5 (by omega), my_up_ne u4 (by omega), my_up_ne u3 (by omega), my_up_ne u2 (by omega), my_up_ne u1 (by omega)]
    · rw [my_up_ne u9 (by omega), my_up_self u8, e8, my_up_ne u7 (by omega), my_up_ne u6 (by omega), my_up_ne u5 (by omega), my_up_ne u4 (by omega), my_up_ne u3 (by omega), my_up_ne u2 (by omega), my_up_ne u1 (by omega)]
  · rw [my_cp_in cb (by omega) (by omega), show (0 : Int) + (j - 0) = j by omega, my_cp_ne ca (by omega), my_up_ne u9 (by omega), my_up_ne u8 (by omega), my_up_ne u7 (by omega), my_up_ne u6 (by omega), my_up_ne u5 (by omega), my_up_ne u4 (by omega), my_up_ne u3 (by omega), my_up_ne u2 (by omega), my_up_ne u1 (by omega)]
  · rw [my_cp_ne cb (by omega), my_cp_in ca (by omega) (by omega), show (0 : Int) + (j - 0) = j by omega, my_up_ne u9 (by omega), my_up_ne u8 (by omega), my_up_ne u7 (by omega), my_up_ne u6 (by omega), my_up_ne u5 (by omega), my_up_ne u4 (by omega), my_up_ne u3 (by omega), my_up_ne u2 (by omega), my_up_ne u1 (by omega)]
end ZVE
