/-! states and laws, purely -/
section ZQD
/-- the laws: the walls' columns; of each place of a law from, to, named, once -/
abbrev zqA : Type := (Int → Int) × (Int → Int) × (Int → Int) × (Int → Int) × (Int → Int)
/-- a cell keeps the laws of its column -/
def zqOk (A : zqA) (S : Int → Int) (w k c v : Int) : Prop :=
  A.2.1 (4 * w + c) ≤ v ∧ v ≤ A.2.2.1 (4 * w + c) ∧ (A.2.2.2.1 (4 * w + c) ≠ -1 → zqHas S (A.2.2.2.1 (4 * w + c)) v) ∧ (A.2.2.2.2 (4 * w + c) = 1 → ∀ k' : Int, 0 ≤ k' → k' ≤ 19 → k' ≠ k → S (80 * w + 4 * k') ≠ -1 → S (80 * w + 4 * k' + c) ≠ v)
def zqLf (A : zqA) (S : Int → Int) : Prop := ∀ w k c : Int, 0 ≤ w → w ≤ 2 → 0 ≤ k → k ≤ 19 → 0 ≤ c → c < A.1 w → S (80 * w + 4 * k) ≠ -1 → zqOk A S w k c (S (80 * w + 4 * k + c))
/-- columns that aren't there have no laws -/
def zqLD (A : zqA) : Prop := ∀ w c : Int, 0 ≤ w → w ≤ 2 → 0 ≤ c → c ≤ 3 → A.1 w ≤ c → A.2.1 (4 * w + c) = 0 ∧ A.2.2.1 (4 * w + c) = 19 ∧ A.2.2.2.1 (4 * w + c) = -1 ∧ A.2.2.2.2 (4 * w + c) = 0
/-- only columns behind the key name walls that are told, or stand once -/
def zqLK (A : zqA) : Prop := ∀ w : Int, 0 ≤ w → w ≤ 2 → A.2.2.2.1 (4 * w) = -1 ∧ A.2.2.2.2 (4 * w) = 0
/-- how rows lie: where one is its key stands first and nothing behind its columns; where none is nothing but -1 -/
def zqSt (A : zqA) (S : Int → Int) : Prop := ∀ w k : Int, 0 ≤ w → w ≤ 2 → 0 ≤ k → k ≤ 19 →
  (S (80 * w + 4 * k) = -1 ∧ S (80 * w + 4 * k + 1) = 0 ∧ S (80 * w + 4 * k + 2) = 0 ∧ S (80 * w + 4 * k + 3) = 0) ∨
  (S (80 * w + 4 * k) = k ∧ 1 ≤ A.1 w ∧ ∀ c : Int, 1 ≤ c → c ≤ 3 → 0 ≤ S (80 * w + 4 * k + c) ∧ S (80 * w + 4 * k + c) ≤ 19 ∧ (A.1 w ≤ c → S (80 * w + 4 * k + c) = 0))
def zqSet (S : Int → Int) (x v : Int) : Int → Int := fun j => if j = x then v else S j
def zqDrop (S : Int → Int) (w k : Int) : Int → Int := fun j => if j = 80 * w + 4 * k then -1 else if 80 * w + 4 * k < j ∧ j < 80 * w + 4 * k + 4 then 0 else S j
def zqAdd (S : Int → Int) (w k : Int) (f : Int → Int) : Int → Int := fun j => if 80 * w + 4 * k ≤ j ∧ j < 80 * w + 4 * k + 4 then f (j - (80 * w + 4 * k)) else S j
/-- a lawful state with another value in one cell: its own laws decide -/
theorem zqLf_set {A : zqA} {S : Int → Int} {w k c v : Int} (hL : zqLf A S) (w0 : 0 ≤ w) (w2 : w ≤ 2) (k0 : 0 ≤ k) (k9 : k ≤ 19) (c1 : 1 ≤ c) (c3 : c ≤ 3) (c4 : c < A.1 w) (A4 : ∀ u : Int, 0 ≤ u → u ≤ 2 → A.1 u ≤ 4) (N2 : ∀ p : Int, 0 ≤ p → p ≤ 11 → A.2.2.2.1 p ≤ 2 ∧ -1 ≤ A.2.2.2.1 p) (hr : S (80 * w + 4 * k) ≠ -1) : zqLf A (zqSet S (80 * w + 4 * k + c) v) ↔ zqOk A S w k c v := by
  have key : ∀ u q : Int, zqSet S (80 * w + 4 * k + c) v (80 * u + 4 * q) = S (80 * u + 4 * q) := fun u q => if_neg (by omega)
  have oth : ∀ u q x : Int, 0 ≤ x → x ≤ 3 → (80 * u + 4 * q + x ≠ 80 * w + 4 * k + c) → zqSet S (80 * w + 4 * k + c) v (80 * u + 4 * q + x) = S (80 * u + 4 * q + x) := fun u q x _ _ h => if_neg h
  have me : zqSet S (80 * w + 4 * k + c) v (80 * w + 4 * k + c) = v := if_pos rfl
  have hs : ∀ u q : Int, zqHas (zqSet S (80 * w + 4 * k + c) v) u q ↔ zqHas S u q := fun u q => by
    unfold zqHas
    rw [key]
  constructor
  · intro h
    have r := h w k c w0 w2 k0 k9 (by omega) c4 (by rw [key]; exact hr)
    rw [me] at r
    obtain ⟨r1, r2, r3, r4⟩ := r
    refine ⟨r1, r2, fun z => (hs _ _).mp (r3 z), fun z k' a b d e => ?_⟩
    have := r4 z k' a b d (by rw [key]; exact e)
    rwa [oth w k' c (by omega) c3 (by omega)] at this
  · intro h u q x u0 u2 q0 q9 x0 x4 hq
    rw [key] at hq
    have x3 : x ≤ 3 := by have := A4 u u0 u2; omega
    by_cases z : 80 * u + 4 * q + x = 80 * w + 4 * k + c
    · have e1 : u = w := by omega
      have e2 : q = k := by omega
      have e3 : x = c := by omega
      subst e1; subst e2; subst e3
      rw [me]
      obtain ⟨r1, r2, r3, r4⟩ := h
      refine ⟨r1, r2, fun z => (hs _ _).mpr (r3 z), fun z k' a b d e => ?_⟩
      rw [key] at e
      rw [oth _ k' _ (by omega) c3 (by omega)]
      exact r4 z k' a b d e
    · rw [oth u q x x0 x3 z]
      obtain ⟨r1, r2, r3, r4⟩ := hL u q x u0 u2 q0 q9 x0 x4 hq
      refine ⟨r1, r2, fun z => (hs _ _).mpr (r3 z), fun y k' a b d e => ?_⟩
      rw [key] at e
      by_cases z2 : 80 * u + 4 * k' + x = 80 * w + 4 * k + c
      · have e1 : u = w := by omega
        have e2 : k' = k := by omega
        have e3 : x = c := by omega
        subst e1; subst e2; subst e3
        rw [me]
        intro e5
        exact h.2.2.2 y q q0 q9 (fun z => d z.symm) hq e5.symm
      · rw [oth u k' x x0 x3 z2]
        exact r4 y k' a b d e
theorem zqLf_cg {A B : zqA} {S T : Int → Int} (e1 : ∀ w : Int, 0 ≤ w → w ≤ 2 → A.1 w = B.1 w) (e2 : ∀ p : Int, 0 ≤ p → p ≤ 11 → A.2.1 p = B.2.1 p ∧ A.2.2.1 p = B.2.2.1 p ∧ A.2.2.2.1 p = B.2.2.2.1 p ∧ A.2.2.2.2 p = B.2.2.2.2 p) (A4 : ∀ u : Int, 0 ≤ u → u ≤ 2 → A.1 u ≤ 4) (e : S = T) : zqLf A S ↔ zqLf B T := by
  subst e
  have one : ∀ {A B : zqA}, (∀ w : Int, 0 ≤ w → w ≤ 2 → A.1 w = B.1 w) → (∀ p : Int, 0 ≤ p → p ≤ 11 → A.2.1 p = B.2.1 p ∧ A.2.2.1 p = B.2.2.1 p ∧ A.2.2.2.1 p = B.2.2.2.1 p ∧ A.2.2.2.2 p = B.2.2.2.2 p) → (∀ u : Int, 0 ≤ u → u ≤ 2 → A.1 u ≤ 4) → zqLf A S → zqLf B S := by
    intro A B e1 e2 A4 h w k c w0 w2 k0 k9 c0 c4 hr
    have cw := e1 w w0 w2
    have c3 := A4 w w0 w2
    have r := h w k c w0 w2 k0 k9 c0 (by omega) hr
    obtain ⟨a1, a2, a3, a4⟩ := e2 (4 * w + c) (by omega) (by omega)
    unfold zqOk at r ⊢
    rw [a1, a2, a3, a4] at r
    exact r
  exact ⟨one e1 e2 A4, one (fun w a b => (e1 w a b).symm) (fun p a b => ⟨(e2 p a b).1.symm, (e2 p a b).2.1.symm, (e2 p a b).2.2.1.symm, (e2 p a b).2.2.2.symm⟩) (fun u a b => by rw [← e1 u a b]; exact A4 u a b)⟩
end ZQD
