/-! sayings of the heap: lenses (windows as they are told) -/
section MPC
def ln_st (k t c : Int) : Int := if k = 3 then t else if k = 4 then c + t - 1 else if k = 5 then 2 else c
/-- how many columns there are behind n steps -/
def ln_f (h : my_H) (L c0 : Int) : Nat → Int
  | 0 => c0
  | n + 1 => ln_st (h (L + 1) n) (h (L + 4) n) (ln_f h L c0 n)
def ln_ok (h : my_H) (L c0 : Int) (n : Nat) : Prop := ∀ k : Nat, k < n → (h (L + 1) k = 4 → h (L + 3) k ≤ 2 ∧ 1 ≤ h (L + 4) k ∧ h (L + 4) k ≤ 4 ∧ ln_f h L c0 k + h (L + 4) k ≤ 9) ∧ (h (L + 1) k = 5 → h (L + 3) k ≤ 7)
def ln_s (h : my_H) (L : Int) : Int := if h L 1 = -1 then h L 3 else h (h 27 (h L 1)) 4
/-- a lens that is told, or may be told, as window w -/
def LnL (h : my_H) (L w : Int) : Prop := -1 ≤ h L 1 ∧ h L 1 < w ∧ (h L 1 ≠ -1 → h (h 27 (h L 1)) 0 = 1 ∧ h L 3 = h (h 27 (h L 1)) 3) ∧ ln_ok h L (ln_s h L) (h L 9).toNat ∧ ln_f h L (ln_s h L) (h L 9).toNat = h L 4
def Ln (h : my_H) : Prop := (∀ v w : Int, 0 ≤ v → v ≤ 5 → 0 ≤ w → w ≤ 5 → h 27 v = h 27 w → v = w) ∧ (∀ w : Int, 0 ≤ w → w ≤ 5 → h 27 w ≠ h 82 2) ∧ (∀ w : Int, 0 ≤ w → w ≤ 5 → my_is 4 (h 27 w)) ∧ my_is 4 (h 82 2) ∧ ∀ w : Int, 0 ≤ w → w ≤ 5 → h (h 27 w) 0 = 1 → LnL h (h 27 w) w
abbrev LnF : List (Nat × Int) := [(22, -1), (5, 2), (4, 0), (4, 1), (4, 3), (4, 4), (4, 9), (32, -1), (34, -1), (35, -1)]
theorem pis_27 : my_is 22 27 := by unfold my_is; decide +kernel
theorem pis_82 : my_is 5 82 := by unfold my_is; decide +kernel
theorem pix_1 {x : Int} (hx : my_is 4 x) : my_is 32 (x + 1) := my_isOff (δ := 1) hx (by decide +kernel)
theorem pix_3 {x : Int} (hx : my_is 4 x) : my_is 34 (x + 3) := my_isOff (δ := 3) hx (by decide +kernel)
theorem pix_4 {x : Int} (hx : my_is 4 x) : my_is 35 (x + 4) := my_isOff (δ := 4) hx (by decide +kernel)
theorem ln_f_cg {h h' : my_H} {L c : Int} : ∀ n : Nat, (∀ k : Nat, k < n → h' (L + 1) k = h (L + 1) k ∧ h' (L + 4) k = h (L + 4) k) → ln_f h' L c n = ln_f h L c n
  | 0, _ => rfl
  | n + 1, g => by
    have h1 := g n (Nat.lt_succ_self n)
    rw [ln_f, ln_f, ln_f_cg n (fun k hk => g k (Nat.lt_succ_of_lt hk)), h1.1, h1.2]
theorem ln_ok_cg {h h' : my_H} {L c : Int} {n : Nat} (g : ∀ k : Nat, k < n → h' (L + 1) k = h (L + 1) k ∧ h' (L + 3) k = h (L + 3) k ∧ h' (L + 4) k = h (L + 4) k) (p : ln_ok h L c n) : ln_ok h' L c n := by
  intro k hk
  obtain ⟨g1, g2, g3⟩ := g k hk
  rw [g1, g2, g3, ln_f_cg k (fun j hj => ⟨(g j (by omega)).1, (g j (by omega)).2.2⟩)]
  exact p k hk
/-- a lens rests on its own cells, and on the one under it -/
theorem LnL_cg {h h' : my_H} {L w : Int} (p : LnL h L w) (e1 : h' L 1 = h L 1) (e3 : h' L 3 = h L 3) (e4 : h' L 4 = h L 4) (e9 : h' L 9 = h L 9)
    (eu : h L 1 ≠ -1 → h' 27 (h L 1) = h 27 (h L 1) ∧ h' (h 27 (h L 1)) 0 = h (h 27 (h L 1)) 0 ∧ h' (h 27 (h L 1)) 3 = h (h 27 (h L 1)) 3 ∧ h' (h 27 (h L 1)) 4 = h (h 27 (h L 1)) 4)
    (ea : ∀ k : Nat, h' (L + 1) k = h (L + 1) k ∧ h' (L + 3) k = h (L + 3) k ∧ h' (L + 4) k = h (L + 4) k) : LnL h' L w := by
  obtain ⟨p1, p2, p3, p4, p5⟩ := p
  have es : ln_s h' L = ln_s h L := by
    unfold ln_s
    rw [e1, e3]
    by_cases hu : h L 1 = -1
    · rw [if_pos hu, if_pos hu]
    · obtain ⟨u1, u2, u3, u4⟩ := eu hu
      rw [if_neg hu, if_neg hu, u1, u4]
  refine ⟨by rw [e1]; exact p1, by rw [e1]; exact p2, fun hu => ?_, ?_, ?_⟩
  · rw [e1] at hu ⊢
    obtain ⟨u1, u2, u3, u4⟩ := eu hu
    rw [u1, u2, u3, e3]
    exact p3 hu
  · rw [es, e9]
    exact ln_ok_cg (fun k _ => ea k) p4
  · rw [es, e9, e4, ln_f_cg _ (fun k _ => ⟨(ea k).1, (ea k).2.2⟩)]
    exact p5
theorem Ln_ag {h h' : my_H} (g : my_ag LnF h h') (p : Ln h) : Ln h' := by
  obtain ⟨p1, p2, p3, p4, p5⟩ := p
  have e27 : ∀ w : Int, h' 27 w = h 27 w := fun w => g.at pis_27 rfl
  have e82 : h' 82 2 = h 82 2 := g.at pis_82 rfl
  have e0 : ∀ {L : Int}, my_is 4 L → h' L 0 = h L 0 := fun hL => g.at hL rfl
  have e1 : ∀ {L : Int}, my_is 4 L → h' L 1 = h L 1 := fun hL => g.at hL rfl
  have e3 : ∀ {L : Int}, my_is 4 L → h' L 3 = h L 3 := fun hL => g.at hL rfl
  have e4 : ∀ {L : Int}, my_is 4 L → h' L 4 = h L 4 := fun hL => g.at hL rfl
  have e9 : ∀ {L : Int}, my_is 4 L → h' L 9 = h L 9 := fun hL => g.at hL rfl
  refine ⟨fun v w a b c d e => p1 v w a b c d (by rw [← e27, ← e27]; exact e), fun w a b => by rw [e27, e82]; exact p2 w a b, fun w a b => by rw [e27]; exact p3 w a b, by rw [e82]; exact p4, fun w a b c => ?_⟩
  have hL := p3 w a b
  rw [e27] at c ⊢
  rw [e0 hL] at c
  have q := p5 w a b c
  refine LnL_cg q (e1 hL) (e3 hL) (e4 hL) (e9 hL) (fun hu => ?_) (fun k => ⟨g.at (pix_1 hL) rfl, g.at (pix_3 hL) rfl, g.at (pix_4 hL) rfl⟩)
  have hU := p3 (h (h 27 w) 1) (by have := q.1; omega) (by have := q.2.1; omega)
  exact ⟨e27 _, e0 hU, e3 hU, e4 hU⟩
/-- objects of the lenses are nine numbers apart -/
theorem ln_apart {x y : Int} (hx : my_is 4 x) (hy : my_is 4 y) (hne : x ≠ y) : x + 8 < y ∨ y + 8 < x := by
  have key : ∀ a : Nat, a < my_N → my_ot a = 4 → a = 28 ∨ a = 37 ∨ a = 46 ∨ a = 55 ∨ a = 64 ∨ a = 73 ∨ a = 83 := by decide +kernel
  have kx := key x.toNat hx.2.1 hx.2.2
  have ky := key y.toNat hy.2.1 hy.2.2
  have := hx.1
  have := hy.1
  omega
theorem ln_far {x : Int} (hx : my_is 4 x) : 28 ≤ x ∧ (x = 83 ∨ x ≤ 73) := by
  have key : ∀ a : Nat, a < my_N → my_ot a = 4 → a = 28 ∨ a = 37 ∨ a = 46 ∨ a = 55 ∨ a = 64 ∨ a = 73 ∨ a = 83 := by decide +kernel
  have kx := key x.toNat hx.2.1 hx.2.2
  have := hx.1
  omega
/-- what is done to the spare lens alone doesn't touch the windows -/
theorem Ln_fx {h h' : my_H} {S : Int} (g : my_fx S 8 h h') (hS : S = h 82 2) (p : Ln h) : Ln h' := by
  subst hS
  obtain ⟨p1, p2, p3, p4, p5⟩ := p
  have hf := ln_far p4
  have e27 : ∀ w : Int, h' 27 w = h 27 w := fun w => g.at (by omega)
  have e82 : h' 82 2 = h 82 2 := g.at (by omega)
  have eL : ∀ (w k j : Int), 0 ≤ w → w ≤ 5 → 0 ≤ k → k ≤ 8 → h' (h 27 w + k) j = h (h 27 w + k) j := fun w k j a b c d => g.at (by
    have := ln_apart (p3 w a b) p4 (p2 w a b)
    omega)
  have eL0 : ∀ (w j : Int), 0 ≤ w → w ≤ 5 → h' (h 27 w) j = h (h 27 w) j := fun w j a b => by
    have := eL w 0 j a b (by decide) (by decide)
    rwa [Int.add_zero] at this
  refine ⟨fun v w a b c d e => p1 v w a b c d (by rw [← e27, ← e27]; exact e), fun w a b => by rw [e27, e82]; exact p2 w a b, fun w a b => by rw [e27]; exact p3 w a b, by rw [e82]; exact p4, fun w a b c => ?_⟩
  rw [e27] at c ⊢
  rw [eL0 w 0 a b] at c
  have q := p5 w a b c
  refine LnL_cg q (eL0 _ _ a b) (eL0 _ _ a b) (eL0 _ _ a b) (eL0 _ _ a b) (fun hu => ?_) (fun k => ⟨eL _ _ _ a b (by decide) (by decide), eL _ _ _ a b (by decide) (by decide), eL _ _ _ a b (by decide) (by decide)⟩)
  have u1 : 0 ≤ h (h 27 w) 1 := by have := q.1; omega
  have u2 : h (h 27 w) 1 ≤ 5 := by have := q.2.1; omega
  exact ⟨e27 _, eL0 _ _ u1 u2, eL0 _ _ u1 u2, eL0 _ _ u1 u2⟩
/-- the spare lens, so far -/
def Sp (h : my_H) (w : Int) : Prop := LnL h (h 82 2) w
theorem Sp_ag {h h' : my_H} {w : Int} (g : my_ag LnF h h') (hw : w ≤ 5) (q : Ln h) (p : Sp h w) : Sp h' w := by
  obtain ⟨p1, p2, p3, p4, p5⟩ := q
  have e82 : h' 82 2 = h 82 2 := g.at pis_82 rfl
  unfold Sp at p ⊢
  rw [e82]
  refine LnL_cg p (g.at p4 rfl) (g.at p4 rfl) (g.at p4 rfl) (g.at p4 rfl) (fun hu => ?_) (fun k => ⟨g.at (pix_1 p4) rfl, g.at (pix_3 p4) rfl, g.at (pix_4 p4) rfl⟩)
  have hU := p3 (h (h 82 2) 1) (by have := p.1; omega) (by have := p.2.1; omega)
  exact ⟨g.at pis_27 rfl, g.at hU rfl, g.at hU rfl, g.at hU rfl⟩
/-- a step more -/
def AddS (h h' : my_H) (L k b c : Int) : Prop := h' L 9 = h L 9 + 1 ∧ h' (L + 1) (h L 9) = k ∧ h' (L + 3) (h L 9) = b ∧ h' (L + 4) (h L 9) = c ∧ (∀ j : Int, j ≠ h L 9 → h' (L + 1) j = h (L + 1) j ∧ h' (L + 3) j = h (L + 3) j ∧ h' (L + 4) j = h (L + 4) j) ∧ h' L 1 = h L 1 ∧ h' L 3 = h L 3 ∧ h' L 4 = ln_st k c (h L 4)
theorem Sp_add {h h' : my_H} {S w k b c : Int} (g : my_fx S 8 h h') (hS : S = h 82 2) (hw : w ≤ 5) (q : Ln h) (p : Sp h w) (a : AddS h h' S k b c) (h9 : 0 ≤ h S 9) (k4 : k = 4 → b ≤ 2 ∧ 1 ≤ c ∧ c ≤ 4 ∧ h S 4 + c ≤ 9) (k5 : k = 5 → b ≤ 7) : Sp h' w := by
  subst hS
  obtain ⟨p1, p2, p3, p4, p5⟩ := q
  have hf := ln_far p4
  have e27 : ∀ w : Int, h' 27 w = h 27 w := fun w => g.at (by omega)
  have e82 : h' 82 2 = h 82 2 := g.at (by omega)
  have eL0 : ∀ (w j : Int), 0 ≤ w → w ≤ 5 → h' (h 27 w) j = h (h 27 w) j := fun w j a b => g.at (by
    have := ln_apart (p3 w a b) p4 (p2 w a b)
    omega)
  unfold Sp at p ⊢
  rw [e82]
  obtain ⟨a9, a1, a3, a4, aj, b1, b3, b4⟩ := a
  obtain ⟨q1, q2, q3, q4, q5⟩ := p
  generalize h 82 2 = S at *
  have es : ln_s h' S = ln_s h S := by
    unfold ln_s
    rw [b1, b3]
    by_cases hu : h S 1 = -1
    · rw [if_pos hu, if_pos hu]
    · rw [if_neg hu, if_neg hu, e27, eL0 _ _ (by omega) (by omega)]
  have en : (h' S 9).toNat = (h S 9).toNat + 1 := by omega
  have ecn : (((h S 9).toNat : Nat) : Int) = h S 9 := Int.toNat_of_nonneg h9
  have ea : ∀ j : Nat, j < (h S 9).toNat → h' (S + 1) j = h (S + 1) j ∧ h' (S + 3) j = h (S + 3) j ∧ h' (S + 4) j = h (S + 4) j := fun j hj => aj j (by omega)
  have ef : ln_f h' S (ln_s h S) (h S 9).toNat = h S 4 := by
    rw [ln_f_cg _ (fun j hj => ⟨(ea j hj).1, (ea j hj).2.2⟩)]
    exact q5
  refine ⟨by rw [b1]; exact q1, by rw [b1]; exact q2, fun hu => ?_, ?_, ?_⟩
  · rw [b1] at hu ⊢
    rw [e27, eL0 _ _ (by omega) (by omega), eL0 _ _ (by omega) (by omega), b3]
    exact q3 hu
  · rw [es, en]
    intro j hj
    by_cases hjn : j < (h S 9).toNat
    · exact (ln_ok_cg ea q4) j hjn
    · have : j = (h S 9).toNat := by omega
      subst this
      rw [ecn, a1, a3, a4, ef]
      exact ⟨k4, k5⟩
  · rw [es, en, ln_f, ef, ecn, a1, a4, b4]
end MPC
