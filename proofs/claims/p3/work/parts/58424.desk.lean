/-! where edits are weighed: what is kept of the ways -/
section ZQZ
/-- the way at a place (the list has the last way first) -/
def zqAt : List zqY → Int → Option zqY
  | [], _ => none
  | y :: t, p => if (t.length : Int) = p then some y else zqAt t p
/-- a step holds a way, or nothing -/
def StpW (g : my_H) (x : Int) (C : Int → Int) : Option zqY → Prop
  | none => g x 0 = -1 ∧ g x 1 = -1 ∧ g x 2 = -1 ∧ g x 3 = -1 ∧ g x 4 = -1 ∧ g x 5 = -1
  | some y => g x 0 = zqPr C y ∧ g x 1 = y.1 ∧ g x 2 = y.2.1 ∧ g x 3 = y.2.2.1 ∧ g x 4 = y.2.2.2.1 ∧ g x 5 = y.2.2.2.2
theorem StpW_eq {g g' : my_H} {x : Int} {C : Int → Int} {o : Option zqY} (p : StpW g x C o) (e0 : g' x 0 = g x 0) (e1 : g' x 1 = g x 1) (e2 : g' x 2 = g x 2) (e3 : g' x 3 = g x 3) (e4 : g' x 4 = g x 4) (e5 : g' x 5 = g x 5) : StpW g' x C o := by
  cases o with
  | none =>
    obtain ⟨p0, p1, p2, p3, p4, p5⟩ := p
    exact ⟨by omega, by omega, by omega, by omega, by omega, by omega⟩
  | some y =>
    obtain ⟨p0, p1, p2, p3, p4, p5⟩ := p
    exact ⟨by omega, by omega, by omega, by omega, by omega, by omega⟩
/-- what the desk holds of the ways so far -/
def DkL (g : my_H) (C : Int → Int) (L : List zqY) : Prop := g 94 11 = (L.length : Int) ∧ StpW g 112 C (zqLe C L) ∧ StpW g 113 C (zqAt L (g 94 12))
/-- what keep does -/
def KpP (h g : my_H) (k pr : Int) : Prop := g 94 11 = h 94 11 + 1 ∧ g 94 12 = h 94 12 ∧ ((h 112 0 = -1 ∨ pr < h 112 0) → g 112 0 = pr ∧ g 112 1 = k ∧ g 112 2 = h 111 2 ∧ g 112 3 = h 111 3 ∧ g 112 4 = h 111 4 ∧ g 112 5 = h 111 5) ∧ (¬ (h 112 0 = -1 ∨ pr < h 112 0) → g 112 0 = h 112 0 ∧ g 112 1 = h 112 1 ∧ g 112 2 = h 112 2 ∧ g 112 3 = h 112 3 ∧ g 112 4 = h 112 4 ∧ g 112 5 = h 112 5) ∧ (h 94 11 = h 94 12 → g 113 0 = pr ∧ g 113 1 = k ∧ g 113 2 = h 111 2 ∧ g 113 3 = h 111 3 ∧ g 113 4 = h 111 4 ∧ g 113 5 = h 111 5) ∧ (h 94 11 ≠ h 94 12 → g 113 0 = h 113 0 ∧ g 113 1 = h 113 1 ∧ g 113 2 = h 113 2 ∧ g 113 3 = h 113 3 ∧ g 113 4 = h 113 4 ∧ g 113 5 = h 113 5)
theorem zqPr_nn {C : Int → Int} (hC : ∀ w : Int, 0 ≤ C w) {y : zqY} (k : 0 ≤ y.1) : 0 ≤ zqPr C y := by
  unfold zqPr
  split
  · exact k
  · exact hC _
theorem Lst_k0 {h g : my_H} (p : Lst h) (e1 : g 112 1 = h 112 1) (e2 : g 112 2 = h 112 2) (e3 : g 112 3 = h 112 3) (e4 : g 112 4 = h 112 4) (e5 : g 112 5 = h 112 5) : Lst g := by
  unfold Lst at p ⊢
  rw [e1, e2, e3, e4, e5]
  exact p
theorem Lst_k1 {h g : my_H} {k : Int} (h1 : k = 1 → 0 ≤ h 111 2 ∧ 0 ≤ h 111 3 ∧ 0 ≤ h 111 4 ∧ 0 ≤ h 111 5) (h2 : k = 2 → 0 ≤ h 111 2 ∧ 0 ≤ h 111 3) (h3 : k = 3 → 0 ≤ h 111 2) (e1 : g 112 1 = k) (e2 : g 112 2 = h 111 2) (e3 : g 112 3 = h 111 3) (e4 : g 112 4 = h 111 4) (e5 : g 112 5 = h 111 5) : Lst g := by
  unfold Lst
  rw [e1, e2, e3, e4, e5]
  exact ⟨h1, h2, h3⟩
theorem KpP_mk {h g : my_H} {k pr : Int} (c1 : g 94 11 = h 94 11 + 1) (c2 : g 94 12 = h 94 12) (a : ((h 112 0 = -1 ∨ pr < h 112 0) ∧ g 112 0 = pr ∧ g 112 1 = k ∧ g 112 2 = h 111 2 ∧ g 112 3 = h 111 3 ∧ g 112 4 = h 111 4 ∧ g 112 5 = h 111 5) ∨ (¬ (h 112 0 = -1 ∨ pr < h 112 0) ∧ g 112 0 = h 112 0 ∧ g 112 1 = h 112 1 ∧ g 112 2 = h 112 2 ∧ g 112 3 = h 112 3 ∧ g 112 4 = h 112 4 ∧ g 112 5 = h 112 5)) (b : (h 94 11 = h 94 12 ∧ g 113 0 = pr ∧ g 113 1 = k ∧ g 113 2 = h 111 2 ∧ g 113 3 = h 111 3 ∧ g 113 4 = h 111 4 ∧ g 113 5 = h 111 5) ∨ (h 94 11 ≠ h 94 12 ∧ g 113 0 = h 113 0 ∧ g 113 1 = h 113 1 ∧ g 113 2 = h 113 2 ∧ g 113 3 = h 113 3 ∧ g 113 4 = h 113 4 ∧ g 113 5 = h 113 5)) : KpP h g k pr := by
  refine ⟨c1, c2, fun z => ?_, fun z => ?_, fun z => ?_, fun z => ?_⟩
  · exact a.elim (fun q => q.2) (fun q => absurd z q.1)
  · exact a.elim (fun q => absurd q.1 z) (fun q => q.2)
  · exact b.elim (fun q => q.2) (fun q => absurd z q.1)
  · exact b.elim (fun q => absurd q.1 z) (fun q => q.2)
theorem DkL_keep {h g : my_H} {C : Int → Int} {L : List zqY} {k pr : Int} {y : zqY} (D : DkL h C L) (K : KpP h g k pr) (hy : y = (k, h 111 2, h 111 3, h 111 4, h 111 5)) (hp : pr = zqPr C y) (nn : ∀ b : zqY, zqLe C L = some b → zqPr C b ≠ -1) : DkL g C (y :: L) := by
  obtain ⟨d1, d2, d3⟩ := D
  obtain ⟨k1, k2, k3, k4, k5, k6⟩ := K
  subst hy; subst hp
  refine ⟨by rw [k1, d1, List.length_cons]; omega, ?_, ?_⟩
  · cases e : zqLe C L with
    | none =>
      rw [e] at d2
      have q : zqLe C ((k, h 111 2, h 111 3, h 111 4, h 111 5) :: L) = some (k, h 111 2, h 111 3, h 111 4, h 111 5) := by
        show (match zqLe C L with | none => some _ | some b => if zqPr C _ < zqPr C b then some _ else some b) = _
        rw [e]
      rw [q]
      exact k3 (Or.inl d2.1)
    | some b =>
      rw [e] at d2
      have q : zqLe C ((k, h 111 2, h 111 3, h 111 4, h 111 5) :: L) = if zqPr C (k, h 111 2, h 111 3, h 111 4, h 111 5) < zqPr C b then some (k, h 111 2, h 111 3, h 111 4, h 111 5) else some b := by
        show (match zqLe C L with | none => some _ | some b => if zqPr C _ < zqPr C b then some _ else some b) = _
        rw [e]
      rw [q]
      have n1 := nn b e
      show StpW g 112 C (if zqPr C (k, h 111 2, h 111 3, h 111 4, h 111 5) < zqPr C b then some (k, h 111 2, h 111 3, h 111 4, h 111 5) else some b)
      by_cases z : zqPr C (k, h 111 2, h 111 3, h 111 4, h 111 5) < zqPr C b
      · rw [if_pos z]
        exact k3 (Or.inr (by rw [d2.1]; exact z))
      · rw [if_neg z]
        obtain ⟨q0, q1, q2, q3, q4, q5⟩ := k4 (fun x => by
          rw [d2.1] at x
          rcases x with x | x
          · exact n1 x
          · exact z x)
        exact StpW_eq d2 q0 q1 q2 q3 q4 q5
  · rw [k2, zqAt]
    by_cases z : (L.length : Int) = h 94 12
    · rw [if_pos z]
      exact k5 (d1.trans z)
    · rw [if_neg z]
      obtain ⟨q0, q1, q2, q3, q4, q5⟩ := k6 (by rw [d1]; exact z)
      exact StpW_eq d3 q0 q1 q2 q3 q4 q5
/-- columns on which what is seen depends -/
def LvI (h : my_H) (x n m : Int) : Prop := ∀ p : Int, 0 ≤ p → p ≤ 15 → (zqbt m p ↔ zqbt (h x 8) p ∨ ∃ c : Int, 0 ≤ c ∧ c < n ∧ h (x + 6) c ≠ -1 ∧ h (x + 6) c % 16 = p)
theorem LvI_0 {h : my_H} {x m : Int} (e : m = h x 8) : LvI h x 0 m := fun p _ _ => by
  rw [e]
  exact ⟨Or.inl, fun z => z.elim id (fun ⟨c, a, b, _⟩ => by omega)⟩
theorem LvI_n {h : my_H} {x n m : Int} (p : LvI h x n m) (o : h (x + 6) n = -1) : LvI h x (n + 1) m := fun q a b => by
  rw [p q a b]
  refine ⟨fun z => z.elim Or.inl (fun ⟨c, c0, c1, y⟩ => Or.inr ⟨c, c0, by omega, y⟩), fun z => z.elim Or.inl (fun ⟨c, c0, c1, y1, y2⟩ => ?_)⟩
  by_cases e : c = n
  · subst e; exact absurd o y1
  · exact Or.inr ⟨c, c0, by omega, y1, y2⟩
theorem LvI_y {h : my_H} {x n m m' b v r : Int} (n0 : 0 ≤ n) (p : LvI h x n m) (o : h (x + 6) n = v) (v0 : 0 ≤ v) (eb : b = bsl 1 r) (em : m' = bor m b) (hr : r = v % 16) : LvI h x (n + 1) m' := fun q q0 q1 => by
  rw [em, zqbt_bor, p q q0 q1, eb, zqbt_bsl (by omega) (by omega) (by omega) (by omega)]
  constructor
  · rintro (z | z)
    · exact z.elim Or.inl (fun ⟨c, c0, c1, y⟩ => Or.inr ⟨c, c0, by omega, y⟩)
    · exact Or.inr ⟨n, n0, by omega, by omega, by omega⟩
  · rintro (z | ⟨c, c0, c1, y1, y2⟩)
    · exact Or.inl (Or.inl z)
    · by_cases e : c = n
      · subst e; exact Or.inr (by omega)
      · exact Or.inl (Or.inr ⟨c, c0, by omega, y1, y2⟩)
theorem hasBit_z {m c v1 v2 v3 M C : Int} (e1 : v1 = jsr m c) (e2 : v2 = jnd v1 (((1 : Fin 2).val : Nat) : Int)) (x : (v2 < (((0 : Fin 2).val : Nat) : Int) → v3 = -1) ∧ (v2 = (((0 : Fin 2).val : Nat) : Int) → v3 = 0) ∧ ((((0 : Fin 2).val : Nat) : Int) < v2 → v3 = 1)) (em : m = M) (ec : c = C) (c0 : 0 ≤ C) (c1 : C ≤ 59) : (v3 = 0 → ¬ zqlb M C) ∧ (v3 ≠ 0 → zqlb M C) := by
  subst em; subst ec
  exact hasBit_x c0 c1 e1 e2 x
end ZQZ
