/-! panes, purely: what a window makes of rows -/
section ZQB
/-- a pane: its sort; a, b, n; what it picks. 0, 1, 2: a cut of column a by b; 3: a few of n; 4: a join by a with wall b of n columns; 5: a sum of a by b -/
abbrev zqP : Type := Int × Int × Int × Int × (Int → Int)
/-- a state has a row -/
abbrev zqHas (S : Int → Int) (w k : Int) : Prop := 0 ≤ k ∧ k ≤ 19 ∧ S (80 * w + 4 * k) ≠ -1
abbrev zqPass (k v n : Int) : Prop := (k = 0 → v < n) ∧ (k = 1 → v = n) ∧ (k = 2 → n < v)
def zqFew (n : Int) (f : Int → Int) (r : zqR) : zqR := fun j => if 0 ≤ j ∧ j < n then r (f j) else 0
def zqJn (S : Int → Int) (m w n : Int) (r : zqR) (k : Int) : zqR := fun j => if m ≤ j ∧ j < m + n - 1 then S (80 * w + 4 * k + (j - m + 1)) else r j
/-- what a pane other than a sum makes of a row -/
def zqO (S : Int → Int) (m : Int) (p : zqP) (r : zqR) : Option zqR :=
  if p.1 = 3 then some (zqFew p.2.2.2.1 p.2.2.2.2 r)
  else if p.1 = 4 then (if zqHas S p.2.2.1 (r p.2.1) then some (zqJn S m p.2.2.1 p.2.2.2.1 r (r p.2.1)) else none)
  else if zqPass p.1 (r p.2.1) p.2.2.1 then some r else none
def zqM (m : Int) (p : zqP) : Int := if p.1 = 3 then p.2.2.2.1 else if p.1 = 4 then m + p.2.2.2.1 - 1 else if p.1 = 5 then 2 else m
/-- sums: a value comes to those that are there -/
def zqI (b x : Int) (L : List (Int × Int)) : List (Int × Int) := if ∃ q ∈ L, q.1 = b then L.map (fun q => if q.1 = b then (q.1, q.2 + x) else q) else (b, x) :: L
def zqG (a b : Int) : List zqR → List (Int × Int)
  | [] => []
  | r :: t => zqI (r b) (r a) (zqG a b t)
def zq2 (q : Int × Int) : zqR := fun j => if j = 0 then q.1 else if j = 1 then q.2 else 0
/-- what a pane makes of rows -/
def zqT (S : Int → Int) (m : Int) (p : zqP) (L : List zqR) : List zqR := if p.1 = 5 then (zqG p.2.1 p.2.2.1 L).map zq2 else L.filterMap (zqO S m p)
/-- panes, the last one first -/
def zqW (m : Int) : List zqP → Int
  | [] => m
  | p :: t => zqM (zqW m t) p
def zqRun (S : Int → Int) (m : Int) (L : List zqR) : List zqP → List zqR
  | [] => L
  | p :: t => zqT S (zqW m t) p (zqRun S m L t)
/-- without sums each row goes by itself -/
def zqD (S : Int → Int) (m : Int) : List zqP → zqR → Option zqR
  | [], r => some r
  | p :: t, r => (zqD S m t r).bind (zqO S (zqW m t) p)
/-- a base's rows, with their keys -/
def zqB (S : Int → Int) (b m : Int) (k : Int) : zqR := fun j => if 0 ≤ j ∧ j < m then S (80 * b + 4 * k + j) else 0
def zqLd (S : Int → Int) (b m : Int) : Nat → List (Int × zqR)
  | 0 => []
  | k + 1 => if S (80 * b + 4 * (k : Int)) ≠ -1 then ((k : Int), zqB S b m k) :: zqLd S b m k else zqLd S b m k
/-- rows with what sorts alike ones -/
def zqO2 (S : Int → Int) (m : Int) (p : zqP) (e : Int × zqR) : Option (Int × zqR) := (zqO S m p e.2).map (fun r => (e.1, r))
theorem zqO2_snd {S : Int → Int} {m : Int} {p : zqP} (h5 : p.1 ≠ 5) (L : List (Int × zqR)) : (L.filterMap (zqO2 S m p)).map Prod.snd = zqT S m p (L.map Prod.snd) := by
  unfold zqT
  rw [if_neg h5]
  induction L with
  | nil => rfl
  | cons e L ih =>
    rw [List.map_cons, List.filterMap_cons, List.filterMap_cons]
    unfold zqO2
    cases h : zqO S m p e.2 with
    | none => exact ih
    | some r =>
      show r :: _ = r :: _
      rw [← ih]
      rfl
theorem zqI_perm {b x : Int} {L M : List (Int × Int)} (h : L.Perm M) : (zqI b x L).Perm (zqI b x M) := by
  unfold zqI
  by_cases q : ∃ q ∈ L, q.1 = b
  · rw [if_pos q, if_pos (by obtain ⟨z, a, c⟩ := q; exact ⟨z, h.mem_iff.mp a, c⟩)]
    exact h.map _
  · rw [if_neg q, if_neg (fun ⟨z, a, c⟩ => q ⟨z, h.mem_iff.mpr a, c⟩)]
    exact h.cons _
theorem zqI_mem {b x c : Int} {L : List (Int × Int)} : (∃ q ∈ zqI b x L, q.1 = c) ↔ (c = b ∨ ∃ q ∈ L, q.1 = c) := by
  unfold zqI
  by_cases q : ∃ q ∈ L, q.1 = b
  · rw [if_pos q]
    constructor
    · rintro ⟨z, hz, e⟩
      obtain ⟨y, hy, ey⟩ := List.mem_map.mp hz
      refine Or.inr ⟨y, hy, ?_⟩
      by_cases k : y.1 = b
      · rw [if_pos k] at ey; rw [← e, ← ey]
      · rw [if_neg k] at ey; rw [ey]; exact e
    · rintro h
      have : ∃ y ∈ L, y.1 = c := by
        rcases h with h | h
        · rw [h]; exact q
        · exact h
      obtain ⟨y, hy, ey⟩ := this
      refine ⟨_, List.mem_map.mpr ⟨y, hy, rfl⟩, ?_⟩
      by_cases k : y.1 = b
      · rw [if_pos k]; exact ey
      · rw [if_neg k]; exact ey
  · rw [if_neg q]
    constructor
    · rintro ⟨z, hz, e⟩
      rcases List.mem_cons.mp hz with h | h
      · exact Or.inl (by rw [← e, h])
      · exact Or.inr ⟨z, h, e⟩
    · rintro (h | ⟨z, hz, e⟩)
      · exact ⟨(b, x), List.mem_cons_self .., h.symm⟩
      · exact ⟨z, List.mem_cons_of_mem _ hz, e⟩
theorem zqI_no {b x : Int} {L : List (Int × Int)} (h : ¬ ∃ q ∈ L, q.1 = b) : L.map (fun q => if q.1 = b then (q.1, q.2 + x) else q) = L := by
  have : ∀ q ∈ L, (fun q : Int × Int => if q.1 = b then (q.1, q.2 + x) else q) q = q := fun q hq => if_neg (fun e => h ⟨q, hq, e⟩)
  exact (List.map_congr_left this).trans (List.map_id' L)
theorem zqI_comm {b x c y : Int} {L : List (Int × Int)} : (zqI b x (zqI c y L)).Perm (zqI c y (zqI b x L)) := by
  by_cases e : b = c
  · subst e
    by_cases q : ∃ q ∈ L, q.1 = b
    · have q1 : ∃ q ∈ zqI b y L, q.1 = b := zqI_mem.mpr (Or.inl rfl)
      have q2 : ∃ q ∈ zqI b x L, q.1 = b := zqI_mem.mpr (Or.inl rfl)
      rw [show zqI b x (zqI b y L) = (zqI b y L).map (fun q => if q.1 = b then (q.1, q.2 + x) else q) from if_pos q1, show zqI b y (zqI b x L) = (zqI b x L).map (fun q => if q.1 = b then (q.1, q.2 + y) else q) from if_pos q2, show zqI b y L = L.map (fun q => if q.1 = b then (q.1, q.2 + y) else q) from if_pos q, show zqI b x L = L.map (fun q => if q.1 = b then (q.1, q.2 + x) else q) from if_pos q, List.map_map, List.map_map]
      refine List.Perm.of_eq (List.map_congr_left (fun z _ => ?_))
      show (if (if z.1 = b then (z.1, z.2 + y) else z).1 = b then _ else _) = (if (if z.1 = b then (z.1, z.2 + x) else z).1 = b then _ else _)
      by_cases k : z.1 = b
      · simp only [k, if_true]
        rw [show z.2 + y + x = z.2 + x + y by omega]
      · simp only [k, if_false]
    · have q1 : ∃ q ∈ zqI b y L, q.1 = b := zqI_mem.mpr (Or.inl rfl)
      have q2 : ∃ q ∈ zqI b x L, q.1 = b := zqI_mem.mpr (Or.inl rfl)
      rw [show zqI b x (zqI b y L) = (zqI b y L).map (fun q => if q.1 = b then (q.1, q.2 + x) else q) from if_pos q1, show zqI b y (zqI b x L) = (zqI b x L).map (fun q => if q.1 = b then (q.1, q.2 + y) else q) from if_pos q2, show zqI b y L = (b, y) :: L from if_neg q, show zqI b x L = (b, x) :: L from if_neg q, List.map_cons, List.map_cons, zqI_no q, zqI_no q]
      simp only [if_true]
      rw [show y + x = x + y by omega]
  · by_cases q : ∃ q ∈ L, q.1 = b
    · have q1 : ∃ q ∈ zqI c y L, q.1 = b := zqI_mem.mpr (Or.inr q)
      rw [show zqI b x (zqI c y L) = (zqI c y L).map (fun q => if q.1 = b then (q.1, q.2 + x) else q) from if_pos q1, show zqI b x L = L.map (fun q => if q.1 = b then (q.1, q.2 + x) else q) from if_pos q]
      unfold zqI
      by_cases k : ∃ q ∈ L, q.1 = c
      · have k1 : ∃ z ∈ L.map (fun q => if q.1 = b then (q.1, q.2 + x) else q), z.1 = c := by
          obtain ⟨z, a, d⟩ := k
          exact ⟨_, List.mem_map.mpr ⟨z, a, rfl⟩, by split <;> exact d⟩
        rw [if_pos k, if_pos k1, List.map_map, List.map_map]
        refine List.Perm.of_eq (List.map_congr_left (fun z _ => ?_))
        show (if (if z.1 = c then (z.1, z.2 + y) else z).1 = b then _ else _) = (if (if z.1 = b then (z.1, z.2 + x) else z).1 = c then _ else _)
        by_cases k2 : z.1 = b
        · have k3 : z.1 ≠ c := by omega
          simp only [k2, if_true, if_neg k3, if_neg e]
        · by_cases k3 : z.1 = c
          · have k4 : ¬ c = b := by omega
            simp only [k3, if_true, if_neg k4]
          · simp only [if_neg k2, if_neg k3]
      · have k1 : ¬ ∃ z ∈ L.map (fun q => if q.1 = b then (q.1, q.2 + x) else q), z.1 = c := by
          rintro ⟨z, a, d⟩
          obtain ⟨u, hu, eu⟩ := List.mem_map.mp a
          refine k ⟨u, hu, ?_⟩
          by_cases v : u.1 = b
          · rw [if_pos v] at eu; rw [← d, ← eu]
          · rw [if_neg v] at eu; rw [eu]; exact d
        rw [if_neg k, if_neg k1, List.map_cons]
        have k4 : ¬ c = b := by omega
        simp only [if_neg k4]
        exact List.Perm.refl _
    · have q1 : ¬ ∃ q ∈ zqI c y L, q.1 = b := fun z => by
        rcases zqI_mem.mp z with z | z
        · exact e z
        · exact q z
      rw [show zqI b x (zqI c y L) = (b, x) :: zqI c y L from if_neg q1, show zqI b x L = (b, x) :: L from if_neg q]
      unfold zqI
      by_cases k : ∃ q ∈ L, q.1 = c
      · have k1 : ∃ z ∈ (b, x) :: L, z.1 = c := by
          obtain ⟨z, a, d⟩ := k
          exact ⟨z, List.mem_cons_of_mem _ a, d⟩
        rw [if_pos k, if_pos k1, List.map_cons]
        simp only [if_neg e]
        exact List.Perm.refl _
      · have k1 : ¬ ∃ z ∈ (b, x) :: L, z.1 = c := by
          rintro ⟨z, a, d⟩
          rcases List.mem_cons.mp a with r | r
          · rw [r] at d; exact e d
          · exact k ⟨z, r, d⟩
        rw [if_neg k, if_neg k1]
        exact List.Perm.swap ..
theorem zqG_perm {a b : Int} {L M : List zqR} (h : L.Perm M) : (zqG a b L).Perm (zqG a b M) := by
  induction h with
  | nil => exact List.Perm.refl _
  | cons r _ ih => exact zqI_perm ih
  | swap r s t => exact zqI_comm
  | trans _ _ i1 i2 => exact i1.trans i2
theorem zqT_perm {S : Int → Int} {m : Int} {p : zqP} {L M : List zqR} (h : L.Perm M) : (zqT S m p L).Perm (zqT S m p M) := by
  unfold zqT
  by_cases q : p.1 = 5
  · rw [if_pos q, if_pos q]; exact (zqG_perm h).map _
  · rw [if_neg q, if_neg q]; exact h.filterMap _
end ZQB
