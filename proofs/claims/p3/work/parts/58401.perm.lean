/-! rows as they are seen, purely: lists of them, in any order and in order -/
section ZQA
/-- a row: its values, zero outside its columns -/
abbrev zqR : Type := Int → Int
/-- f's first n things, the last one first -/
def zqL {α : Type} (f : Nat → α) : Nat → List α
  | 0 => []
  | n + 1 => f n :: zqL f n
theorem zqL_cg {α : Type} {f g : Nat → α} : ∀ {n : Nat}, (∀ i : Nat, i < n → f i = g i) → zqL f n = zqL g n
  | 0, _ => rfl
  | n + 1, h => by
    rw [zqL, zqL, h n (Nat.lt_succ_self n), zqL_cg (fun i hi => h i (Nat.lt_succ_of_lt hi))]
theorem zqL_mem {α : Type} {f : Nat → α} {x : α} : ∀ {n : Nat}, x ∈ zqL f n ↔ ∃ i : Nat, i < n ∧ f i = x
  | 0 => ⟨(fun h => by cases h), fun ⟨i, hi, _⟩ => absurd hi (Nat.not_lt_zero i)⟩
  | n + 1 => by
    rw [zqL, List.mem_cons, zqL_mem]
    constructor
    · rintro (h | ⟨i, hi, h⟩)
      · exact ⟨n, Nat.lt_succ_self n, h.symm⟩
      · exact ⟨i, Nat.lt_succ_of_lt hi, h⟩
    · rintro ⟨i, hi, h⟩
      by_cases e : i = n
      · subst e; exact Or.inl h.symm
      · exact Or.inr ⟨i, by omega, h⟩
theorem zqL_len {α : Type} {f : Nat → α} : ∀ {n : Nat}, (zqL f n).length = n
  | 0 => rfl
  | n + 1 => by rw [zqL, List.length_cons, zqL_len]
theorem zqL_map {α β : Type} {f : Nat → α} {g : α → β} : ∀ {n : Nat}, (zqL f n).map g = zqL (fun i => g (f i)) n
  | 0 => rfl
  | n + 1 => by rw [zqL, zqL, List.map_cons, zqL_map]
theorem zqL_set {α : Type} {f g : Nat → α} {y : α} {p : Nat} : ∀ {n : Nat}, p < n → g p = y → (∀ i : Nat, i < n → i ≠ p → g i = f i) → (f p :: zqL g n).Perm (y :: zqL f n)
  | 0, hp, _, _ => absurd hp (Nat.not_lt_zero p)
  | n + 1, hp, e, h => by
    by_cases q : p = n
    · subst q
      rw [zqL, zqL, e, zqL_cg (f := g) (g := f) (fun i hi => h i (by omega) (by omega))]
      exact List.Perm.swap ..
    · have r := zqL_set (f := f) (g := g) (n := n) (by omega) e (fun i hi ne => h i (by omega) ne)
      rw [zqL, zqL, h n (by omega) (fun z => q z.symm)]
      exact (List.Perm.swap ..).trans ((r.cons _).trans (List.Perm.swap ..))
/-- two of them change places -/
theorem zqL_swap {α : Type} {f g : Nat → α} {p q n : Nat} (hp : p < n) (hq : q < n) (ne : p ≠ q) (e1 : g p = f q) (e2 : g q = f p) (h : ∀ i : Nat, i < n → i ≠ p → i ≠ q → g i = f i) : (zqL g n).Perm (zqL f n) := by
  have r1 := zqL_set (f := f) (g := fun i => if i = p then f q else f i) (y := f q) (p := p) (n := n) hp (if_pos rfl) (fun i _ k => if_neg k)
  have r2 := zqL_set (f := fun i => if i = p then f q else f i) (g := g) (y := f p) (p := q) (n := n) hq e2 (fun i hi k => by
    show g i = if i = p then f q else f i
    by_cases z : i = p
    · rw [if_pos z, z]; exact e1
    · rw [if_neg z]; exact h i hi z k)
  have e3 : (if q = p then f q else f q) = f q := by split <;> rfl
  have r3 : (f q :: zqL g n).Perm (f p :: zqL (fun i => if i = p then f q else f i) n) := by
    have := r2
    simp only [e3] at this
    exact this
  exact (r3.trans r1).cons_inv
/-- in order -/
def zqS {α : Type} (le : α → α → Prop) (f : Nat → α) (n : Nat) : Prop := ∀ i j : Nat, i < j → j < n → le (f i) (f j)
theorem zqS_uniq {α : Type} {le : α → α → Prop} (as : ∀ a b : α, le a b → le b a → a = b) {f g : Nat → α} : ∀ {n : Nat}, zqS le f n → zqS le g n → (zqL f n).Perm (zqL g n) → ∀ i : Nat, i < n → f i = g i
  | 0, _, _, _ => fun i hi => absurd hi (Nat.not_lt_zero i)
  | n + 1, hf, hg, hp => by
    have a1 : f n ∈ zqL g (n + 1) := hp.mem_iff.mp (by rw [zqL]; exact List.mem_cons_self ..)
    have a2 : g n ∈ zqL f (n + 1) := hp.mem_iff.mpr (by rw [zqL]; exact List.mem_cons_self ..)
    obtain ⟨k, hk, ek⟩ := zqL_mem.mp a1
    obtain ⟨j, hj, ej⟩ := zqL_mem.mp a2
    have e : f n = g n := by
      by_cases z1 : k = n
      · rw [← ek, z1]
      · by_cases z2 : j = n
        · rw [← ej, z2]
        · have b1 := hg k n (by omega) (by omega)
          have b2 := hf j n (by omega) (by omega)
          rw [ek] at b1
          rw [ej] at b2
          exact as _ _ b1 b2
    rw [zqL, zqL, e] at hp
    have r := zqS_uniq as (n := n) (fun i j a b => hf i j a (by omega)) (fun i j a b => hg i j a (by omega)) hp.cons_inv
    intro i hi
    by_cases z : i = n
    · subst z; exact e
    · exact r i (by omega)
/-- one row before another, by their values from the first column on -/
def zqlt (a b : zqR) : Prop := ∃ c : Int, 0 ≤ c ∧ (∀ i : Int, 0 ≤ i → i < c → a i = b i) ∧ a c < b c
def zqle (a b : zqR) : Prop := a = b ∨ zqlt a b
theorem zqlt_ir {a : zqR} : ¬ zqlt a a := fun ⟨c, _, _, h⟩ => by omega
theorem zqlt_as {a b : zqR} (p : zqlt a b) (q : zqlt b a) : False := by
  obtain ⟨c, c0, c1, c2⟩ := p
  obtain ⟨d, d0, d1, d2⟩ := q
  rcases Int.lt_trichotomy c d with z | z | z
  · have := d1 c c0 z; omega
  · subst z; omega
  · have := c1 d d0 z; omega
theorem zqlt_tr {a b c : zqR} (p : zqlt a b) (q : zqlt b c) : zqlt a c := by
  obtain ⟨x, x0, x1, x2⟩ := p
  obtain ⟨y, y0, y1, y2⟩ := q
  rcases Int.lt_trichotomy x y with z | z | z
  · exact ⟨x, x0, fun i a b => (x1 i a b).trans (y1 i a (by omega)), by have := y1 x x0 z; omega⟩
  · subst z; exact ⟨x, x0, fun i a b => (x1 i a b).trans (y1 i a b), by omega⟩
  · exact ⟨y, y0, fun i a b => (x1 i a (by omega)).trans (y1 i a b), by have := x1 y y0 z; omega⟩
theorem zqle_as (a b : zqR) (p : zqle a b) (q : zqle b a) : a = b := by
  rcases p with p | p
  · exact p
  · rcases q with q | q
    · exact q.symm
    · exact (zqlt_as p q).elim
theorem zqle_tr {a b c : zqR} (p : zqle a b) (q : zqle b c) : zqle a c := by
  rcases p with p | p
  · subst p; exact q
  · rcases q with q | q
    · subst q; exact Or.inr p
    · exact Or.inr (zqlt_tr p q)
/-- of rows with at most eight columns one comes first, or they are alike -/
theorem zq_first {a b : zqR} : ∀ n : Nat, (∀ i : Int, 0 ≤ i → i < n → a i = b i) ∨ zqlt a b ∨ zqlt b a
  | 0 => Or.inl (fun i a b => by omega)
  | n + 1 => by
    rcases zq_first n with h | h
    · rcases Int.lt_trichotomy (a n) (b n) with z | z | z
      · exact Or.inr (Or.inl ⟨n, by omega, h, z⟩)
      · refine Or.inl (fun i i0 i1 => ?_)
        by_cases e : i = n
        · rw [e]; exact z
        · exact h i i0 (by omega)
      · exact Or.inr (Or.inr ⟨n, by omega, fun i i0 i1 => (h i i0 i1).symm, z⟩)
    · exact Or.inr h
/-- nothing outside m columns -/
def zqZ (m : Int) (a : zqR) : Prop := ∀ j : Int, (j < 0 ∨ m ≤ j) → a j = 0
theorem zqle_to {a b : zqR} {m : Int} (za : zqZ m a) (zb : zqZ m b) : zqle a b ∨ zqlt b a := by
  rcases zq_first (a := a) (b := b) m.toNat with h | h | h
  · refine Or.inl (Or.inl (funext fun j => ?_))
    by_cases q : 0 ≤ j ∧ j < m
    · exact h j q.1 (by omega)
    · rw [za j (by omega), zb j (by omega)]
  · exact Or.inl (Or.inr h)
  · exact Or.inr h
end ZQA
