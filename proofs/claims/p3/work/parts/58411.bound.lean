/-! how great values can be, how many rows there are -/
section ZQK
def zqTot (j : Int) : List zqR → Int
  | [] => 0
  | r :: t => r j + zqTot j t
/-- ten rows at most, nothing below 0, no column's sum above 190 -/
def zqBd (L : List zqR) : Prop := (∀ r ∈ L, ∀ j : Int, 0 ≤ r j) ∧ (∀ j : Int, zqTot j L ≤ 190) ∧ L.length ≤ 10
theorem zqTot_nn {j : Int} : ∀ {L : List zqR}, (∀ r ∈ L, ∀ j : Int, 0 ≤ r j) → 0 ≤ zqTot j L
  | [], _ => Int.le_refl 0
  | r :: t, h => by
    have h1 := h r (List.mem_cons_self ..) j
    have h2 := zqTot_nn (j := j) (L := t) (fun r hr => h r (List.mem_cons_of_mem _ hr))
    rw [zqTot]; omega
theorem zqTot_le {j : Int} {r : zqR} : ∀ {L : List zqR}, (∀ r ∈ L, ∀ j : Int, 0 ≤ r j) → r ∈ L → r j ≤ zqTot j L
  | [], _, hr => by cases hr
  | s :: t, h, hr => by
    have h1 := h s (List.mem_cons_self ..) j
    have ht : ∀ r ∈ t, ∀ j : Int, 0 ≤ r j := fun r hr => h r (List.mem_cons_of_mem _ hr)
    have h2 := zqTot_nn (j := j) ht
    rw [zqTot]
    rcases List.mem_cons.mp hr with q | q
    · rw [q]; omega
    · have := zqTot_le (j := j) ht q; omega
theorem zqTot_perm {j : Int} {L M : List zqR} (h : L.Perm M) : zqTot j L = zqTot j M := by
  induction h with
  | nil => rfl
  | cons r _ ih => rw [zqTot, zqTot, ih]
  | swap r s t => rw [zqTot, zqTot, zqTot, zqTot]; omega
  | trans _ _ i1 i2 => exact i1.trans i2
theorem zqBd_perm {L M : List zqR} (h : L.Perm M) (p : zqBd L) : zqBd M :=
  ⟨fun r hr => p.1 r (h.mem_iff.mpr hr), fun j => by rw [← zqTot_perm h]; exact p.2.1 j, by rw [← h.length_eq]; exact p.2.2⟩
theorem zqBd_at {L : List zqR} (p : zqBd L) {r : zqR} (hr : r ∈ L) (j : Int) : 0 ≤ r j ∧ r j ≤ 190 := by
  have h1 := p.1 r hr j
  have h2 := zqTot_le (j := j) p.1 hr
  have h3 := p.2.1 j
  omega
theorem zqTot_fm {j i : Int} {g : zqR → Option zqR} : ∀ {L : List zqR}, (∀ r ∈ L, ∀ j : Int, 0 ≤ r j) → (∀ r ∈ L, ∀ r' : zqR, g r = some r' → r' j ≤ r i) → zqTot j (L.filterMap g) ≤ zqTot i L
  | [], _, _ => Int.le_refl 0
  | r :: t, h, hg => by
    have ih := zqTot_fm (j := j) (i := i) (g := g) (L := t) (fun r hr => h r (List.mem_cons_of_mem _ hr)) (fun r hr => hg r (List.mem_cons_of_mem _ hr))
    have h1 := h r (List.mem_cons_self ..) i
    rw [show zqTot i (r :: t) = r i + zqTot i t from rfl]
    cases e : g r with
    | none => rw [List.filterMap_cons_none e]; omega
    | some r' =>
      have := hg r (List.mem_cons_self ..) r' e
      rw [List.filterMap_cons_some e, zqTot]
      omega
theorem zqTot_c {j c : Int} (c0 : 0 ≤ c) {g : zqR → Option zqR} : ∀ {L : List zqR}, (∀ r ∈ L, ∀ r' : zqR, g r = some r' → r' j ≤ c) → zqTot j (L.filterMap g) ≤ c * L.length
  | [], _ => by show (0 : Int) ≤ c * ((0 : Nat) : Int); omega
  | r :: t, hg => by
    have ih := zqTot_c (j := j) c0 (g := g) (L := t) (fun r hr => hg r (List.mem_cons_of_mem _ hr))
    have e2 : c * (((r :: t).length : Nat) : Int) = c * (t.length : Int) + c := by rw [List.length_cons, Int.natCast_add, Int.mul_add]; omega
    rw [e2]
    cases e : g r with
    | none => rw [List.filterMap_cons_none e]; omega
    | some r' =>
      have := hg r (List.mem_cons_self ..) r' e
      rw [List.filterMap_cons_some e, zqTot]
      omega
theorem zqFm_len {g : zqR → Option zqR} : ∀ {L : List zqR}, (L.filterMap g).length ≤ L.length
  | [] => Nat.le_refl _
  | r :: t => by
    have ih := zqFm_len (g := g) (L := t)
    rw [List.length_cons]
    cases e : g r with
    | none => rw [List.filterMap_cons_none e]; omega
    | some r' => rw [List.filterMap_cons_some e, List.length_cons]; omega
theorem zqI_len {b x : Int} {L : List (Int × Int)} : (zqI b x L).length ≤ L.length + 1 := by
  unfold zqI
  split
  · rw [List.length_map]; omega
  · rw [List.length_cons]; omega
theorem zqG_len {a b : Int} : ∀ {L : List zqR}, (zqG a b L).length ≤ L.length
  | [] => Nat.le_refl _
  | r :: t => by
    have ih := zqG_len (a := a) (b := b) (L := t)
    have := zqI_len (b := r b) (x := r a) (L := zqG a b t)
    rw [zqG, List.length_cons]; omega
theorem zqI_nn {b x : Int} {L : List (Int × Int)} (b0 : 0 ≤ b) (x0 : 0 ≤ x) (h : ∀ q ∈ L, 0 ≤ q.1 ∧ 0 ≤ q.2) : ∀ q ∈ zqI b x L, 0 ≤ q.1 ∧ 0 ≤ q.2 := by
  intro q hq
  unfold zqI at hq
  split at hq
  · obtain ⟨y, hy, e⟩ := List.mem_map.mp hq
    have := h y hy
    rw [← e]
    split
    · exact ⟨this.1, by show 0 ≤ y.2 + x; omega⟩
    · exact this
  · rcases List.mem_cons.mp hq with z | z
    · rw [z]; exact ⟨b0, x0⟩
    · exact h q z
theorem zqG_nn {a b : Int} : ∀ {L : List zqR}, (∀ r ∈ L, ∀ j : Int, 0 ≤ r j) → ∀ q ∈ zqG a b L, 0 ≤ q.1 ∧ 0 ≤ q.2
  | [], _ => fun q hq => by cases hq
  | r :: t, h => by
    rw [zqG]
    exact zqI_nn (h r (List.mem_cons_self ..) b) (h r (List.mem_cons_self ..) a) (zqG_nn (fun r hr => h r (List.mem_cons_of_mem _ hr)))
theorem zqTot_2 {j : Int} (h0 : j ≠ 0) (h1 : j ≠ 1) : ∀ L : List (Int × Int), zqTot j (L.map zq2) = 0
  | [] => rfl
  | q :: t => by
    rw [List.map_cons, zqTot, zqTot_2 h0 h1 t]
    unfold zq2
    rw [if_neg h0, if_neg h1]; rfl
def zqS1 : List (Int × Int) → Int
  | [] => 0
  | q :: t => q.1 + zqS1 t
def zqS2 : List (Int × Int) → Int
  | [] => 0
  | q :: t => q.2 + zqS2 t
theorem zqTot_s1 : ∀ L : List (Int × Int), zqTot 0 (L.map zq2) = zqS1 L
  | [] => rfl
  | q :: t => by rw [List.map_cons, zqTot, zqTot_s1 t, zqS1]; rfl
theorem zqTot_s2 : ∀ L : List (Int × Int), zqTot 1 (L.map zq2) = zqS2 L
  | [] => rfl
  | q :: t => by rw [List.map_cons, zqTot, zqTot_s2 t, zqS2]; rfl
theorem zqS1_map {b x : Int} : ∀ L : List (Int × Int), zqS1 (L.map (fun q => if q.1 = b then (q.1, q.2 + x) else q)) = zqS1 L
  | [] => rfl
  | q :: t => by
    rw [List.map_cons, zqS1, zqS1, zqS1_map t]
    by_cases z : q.1 = b
    · rw [if_pos z]
    · rw [if_neg z]
theorem zqS1_I {b x : Int} (b0 : 0 ≤ b) {L : List (Int × Int)} : zqS1 (zqI b x L) ≤ zqS1 L + b := by
  unfold zqI
  split
  · rw [zqS1_map]; omega
  · rw [zqS1]; show b + zqS1 L ≤ _; omega
theorem zqS1_G {a b : Int} : ∀ {L : List zqR}, (∀ r ∈ L, ∀ j : Int, 0 ≤ r j) → zqS1 (zqG a b L) ≤ zqTot b L
  | [], _ => Int.le_refl 0
  | r :: t, h => by
    have ih := zqS1_G (a := a) (b := b) (L := t) (fun r hr => h r (List.mem_cons_of_mem _ hr))
    have := zqS1_I (b := r b) (x := r a) (h r (List.mem_cons_self ..) b) (L := zqG a b t)
    rw [zqG, zqTot]; omega
/-- keys are all different: what comes comes once -/
def zqNd : List (Int × Int) → Prop
  | [] => True
  | q :: t => (∀ p ∈ t, p.1 ≠ q.1) ∧ zqNd t
theorem zqNd_map {b x : Int} : ∀ {L : List (Int × Int)}, zqNd L → zqNd (L.map (fun q => if q.1 = b then (q.1, q.2 + x) else q))
  | [], _ => trivial
  | q :: t, h => by
    rw [List.map_cons]
    refine ⟨fun p hp => ?_, zqNd_map h.2⟩
    obtain ⟨y, hy, e⟩ := List.mem_map.mp hp
    have e1 : p.1 = y.1 := by rw [← e]; split <;> rfl
    have e2 : (if q.1 = b then (q.1, q.2 + x) else q).1 = q.1 := by split <;> rfl
    rw [e1, e2]
    exact h.1 y hy
theorem zqNd_I {b x : Int} {L : List (Int × Int)} (h : zqNd L) : zqNd (zqI b x L) := by
  unfold zqI
  split
  · exact zqNd_map h
  · next q => exact ⟨fun p hp e => q ⟨p, hp, e⟩, h⟩
theorem zqNd_G {a b : Int} : ∀ {L : List zqR}, zqNd (zqG a b L)
  | [] => trivial
  | r :: t => by rw [zqG]; exact zqNd_I zqNd_G
theorem zqS2_one {b x : Int} : ∀ {L : List (Int × Int)}, zqNd L → (∃ q ∈ L, q.1 = b) → zqS2 (L.map (fun q => if q.1 = b then (q.1, q.2 + x) else q)) = zqS2 L + x
  | [], _, h => by obtain ⟨q, hq, _⟩ := h; cases hq
  | q :: t, nd, h => by
    rw [List.map_cons, zqS2, zqS2]
    by_cases z : q.1 = b
    · rw [if_pos z, zqI_no (fun ⟨p, hp, e⟩ => nd.1 p hp (e.trans z.symm))]
      show q.2 + x + zqS2 t = _
      omega
    · have h2 : ∃ q ∈ t, q.1 = b := by
        obtain ⟨p, hp, e⟩ := h
        rcases List.mem_cons.mp hp with y | y
        · rw [y] at e; exact absurd e z
        · exact ⟨p, y, e⟩
      rw [if_neg z, zqS2_one nd.2 h2]
      omega
theorem zqS2_G {a b : Int} : ∀ {L : List zqR}, zqS2 (zqG a b L) = zqTot a L
  | [] => rfl
  | r :: t => by
    have ih := zqS2_G (a := a) (b := b) (L := t)
    rw [zqG, zqTot, ← ih]
    unfold zqI
    split
    · next q => rw [zqS2_one zqNd_G q]; omega
    · rw [zqS2]
theorem zqBd_T {S : Int → Int} {m : Int} {p : zqP} {L : List zqR} (hS : p.1 = 4 → ∀ k c : Int, zqHas S p.2.2.1 k → 1 ≤ c → c ≤ 3 → 0 ≤ S (80 * p.2.2.1 + 4 * k + c) ∧ S (80 * p.2.2.1 + 4 * k + c) ≤ 19) (n4 : p.1 = 4 → p.2.2.2.1 ≤ 4) (h : zqBd L) : zqBd (zqT S m p L) := by
  obtain ⟨h1, h2, h3⟩ := h
  unfold zqT
  by_cases k5 : p.1 = 5
  · rw [if_pos k5]
    have nn := zqG_nn (a := p.2.1) (b := p.2.2.1) h1
    refine ⟨fun r hr j => ?_, fun j => ?_, ?_⟩
    · obtain ⟨q, hq, e⟩ := List.mem_map.mp hr
      have := nn q hq
      rw [← e]
      unfold zq2
      split
      · exact this.1
      · split
        · exact this.2
        · exact Int.le_refl 0
    · by_cases j0 : j = 0
      · rw [j0, zqTot_s1]
        exact Int.le_trans (zqS1_G h1) (h2 _)
      · by_cases j1 : j = 1
        · rw [j1, zqTot_s2, zqS2_G]; exact h2 _
        · rw [zqTot_2 j0 j1]; omega
    · rw [List.length_map]
      have := zqG_len (a := p.2.1) (b := p.2.2.1) (L := L)
      omega
  · rw [if_neg k5]
    have hl := zqFm_len (g := zqO S m p) (L := L)
    -- what comes of one row
    have one : ∀ r ∈ L, ∀ r' : zqR, zqO S m p r = some r' → (∀ j : Int, 0 ≤ r' j) ∧ (p.1 = 3 → ∀ j : Int, r' j ≤ if 0 ≤ j ∧ j < p.2.2.2.1 then r (p.2.2.2.2 j) else 0) ∧ (p.1 ≠ 3 → ∀ j : Int, ¬ (p.1 = 4 ∧ m ≤ j ∧ j < m + p.2.2.2.1 - 1) → r' j ≤ r j) ∧ (∀ j : Int, p.1 = 4 → m ≤ j → j < m + p.2.2.2.1 - 1 → r' j ≤ 19) := by
      intro r hr r' e
      have hr0 := h1 r hr
      unfold zqO at e
      by_cases k3 : p.1 = 3
      · rw [if_pos k3] at e
        cases e
        refine ⟨fun j => ?_, fun _ j => Int.le_refl _, fun z => absurd k3 z, fun j z => by omega⟩
        unfold zqFew
        split
        · exact hr0 _
        · exact Int.le_refl 0
      · rw [if_neg k3] at e
        by_cases k4 : p.1 = 4
        · rw [if_pos k4] at e
          by_cases hs : zqHas S p.2.2.1 (r p.2.1)
          · rw [if_pos hs] at e
            cases e
            have n := n4 k4
            refine ⟨fun j => ?_, fun z => absurd z k3, fun _ j hj => ?_, fun j _ a b => ?_⟩
            · unfold zqJn
              split
              · next q => exact (hS k4 _ _ hs (by omega) (by omega)).1
              · exact hr0 _
            · unfold zqJn
              rw [if_neg (fun z => hj ⟨k4, z.1, z.2⟩)]
              exact Int.le_refl _
            · unfold zqJn
              rw [if_pos ⟨a, b⟩]
              exact (hS k4 _ _ hs (by omega) (by omega)).2
          · rw [if_neg hs] at e; cases e
        · rw [if_neg k4] at e
          split at e
          · cases e
            exact ⟨hr0, fun z => absurd z k3, fun _ j _ => Int.le_refl _, fun j z => absurd z k4⟩
          · cases e
    refine ⟨fun r' hr' j => ?_, fun j => ?_, by omega⟩
    · obtain ⟨r, hr, e⟩ := List.mem_filterMap.mp hr'
      exact (one r hr r' e).1 j
    · by_cases k3 : p.1 = 3
      · by_cases z : 0 ≤ j ∧ j < p.2.2.2.1
        · refine Int.le_trans (zqTot_fm (i := p.2.2.2.2 j) h1 (fun r hr r' e => ?_)) (h2 _)
          have := (one r hr r' e).2.1 k3 j
          rwa [if_pos z] at this
        · have := zqTot_c (j := j) (c := 0) (by omega) (g := zqO S m p) (L := L) (fun r hr r' e => by
            have := (one r hr r' e).2.1 k3 j
            rwa [if_neg z] at this)
          omega
      · by_cases z : p.1 = 4 ∧ m ≤ j ∧ j < m + p.2.2.2.1 - 1
        · have := zqTot_c (j := j) (c := 19) (by omega) (g := zqO S m p) (L := L) (fun r hr r' e => (one r hr r' e).2.2.2 j z.1 z.2.1 z.2.2)
          omega
        · exact Int.le_trans (zqTot_fm (i := j) h1 (fun r hr r' e => (one r hr r' e).2.2.1 k3 j z)) (h2 _)
end ZQK
