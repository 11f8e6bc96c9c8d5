/-! a change of one row of the walls: what isn't touched by it, what it can't be seen in -/
section ZQC
/-- rows of walls (as 20 * wall + key) that are read for a row by the joins of a window without sums -/
def zqTd (S : Int → Int) (m : Int) : List zqP → zqR → Int → Prop
  | [], _, _ => False
  | p :: t, r, c => zqTd S m t r c ∨ (p.1 = 4 ∧ ∃ r' : zqR, zqD S m t r = some r' ∧ zqHas S p.2.2.1 (r' p.2.1) ∧ c = 20 * p.2.2.1 + r' p.2.1)
theorem zqJn_off {S S' : Int → Int} {m w n k c : Int} {r : zqR} (n4 : n ≤ 4) (e : ∀ j : Int, (j < 4 * c ∨ 4 * c + 4 ≤ j) → S' j = S j) (hc : 20 * w + k ≠ c) : zqJn S' m w n r k = zqJn S m w n r k := by
  funext j
  unfold zqJn
  by_cases q : m ≤ j ∧ j < m + n - 1
  · rw [if_pos q, if_pos q]; exact e _ (by omega)
  · rw [if_neg q, if_neg q]
theorem zqD_off {S S' : Int → Int} {m c : Int} (e : ∀ j : Int, (j < 4 * c ∨ 4 * c + 4 ≤ j) → S' j = S j) (hc : S (4 * c) ≠ -1) : ∀ (P : List zqP) (r : zqR), (∀ p ∈ P, p.1 = 4 → p.2.2.2.1 ≤ 4) → ¬ zqTd S m P r c → zqD S' m P r = zqD S m P r
  | [], _, _, _ => rfl
  | p :: t, r, n4, h => by
    have ih := zqD_off e hc t r (fun p hp => n4 p (List.mem_cons_of_mem _ hp)) (fun z => h (Or.inl z))
    rw [zqD, zqD, ih]
    cases hd : zqD S m t r with
    | none => rfl
    | some r' =>
      show zqO S' _ p r' = zqO S _ p r'
      unfold zqO
      by_cases k3 : p.1 = 3
      · rw [if_pos k3, if_pos k3]
      · rw [if_neg k3, if_neg k3]
        by_cases k4 : p.1 = 4
        · rw [if_pos k4, if_pos k4]
          have nt : ¬ (zqHas S p.2.2.1 (r' p.2.1) ∧ c = 20 * p.2.2.1 + r' p.2.1) := fun z => h (Or.inr ⟨k4, r', hd, z.1, z.2⟩)
          by_cases kc : 20 * p.2.2.1 + r' p.2.1 = c
          · have nr : ¬ (0 ≤ r' p.2.1 ∧ r' p.2.1 ≤ 19) := fun z => nt ⟨⟨z.1, z.2, by rw [show 80 * p.2.2.1 + 4 * r' p.2.1 = 4 * c by omega]; exact hc⟩, kc.symm⟩
            rw [if_neg (fun z => nr ⟨z.1, z.2.1⟩), if_neg (fun z => nr ⟨z.1, z.2.1⟩)]
          · have e1 : S' (80 * p.2.2.1 + 4 * r' p.2.1) = S (80 * p.2.2.1 + 4 * r' p.2.1) := e _ (by omega)
            rw [zqJn_off (n4 p (List.mem_cons_self ..) k4) e kc]
            unfold zqHas
            rw [e1]
        · rw [if_neg k4, if_neg k4]
/-- of each column the place of the law it comes under (with 16: by a join), -1 behind a sum -/
def zqOg (b m : Int) : List zqP → Int → Int
  | [] => fun j => if 0 ≤ j ∧ j < m then 4 * b + j else -1
  | p :: t => fun j => if p.1 = 3 then (if 0 ≤ j ∧ j < p.2.2.2.1 then zqOg b m t (p.2.2.2.2 j) else -1)
      else if p.1 = 4 then (if zqW m t ≤ j ∧ j < zqW m t + p.2.2.2.1 - 1 then 16 + 4 * p.2.2.1 + (j - zqW m t + 1) else zqOg b m t j)
      else if p.1 = 5 then -1 else zqOg b m t j
/-- panes depend on a column -/
def zqUs (b m : Int) : List zqP → Int → Prop
  | [], _ => False
  | p :: t, v => zqUs b m t v ∨ (p.1 ≠ 3 ∧ zqOg b m t p.2.1 % 16 = v) ∨ (p.1 = 5 ∧ zqOg b m t p.2.2.1 % 16 = v)
def zqLR (R : zqR → zqR → Prop) : List zqR → List zqR → Prop
  | [], [] => True
  | a :: s, b :: t => R a b ∧ zqLR R s t
  | _, _ => False
theorem zqLR_fm {R R' : zqR → zqR → Prop} {f g : zqR → Option zqR} (h : ∀ a b : zqR, R a b → (f a = none ∧ g b = none) ∨ ∃ x y : zqR, f a = some x ∧ g b = some y ∧ R' x y) : ∀ L M : List zqR, zqLR R L M → zqLR R' (L.filterMap f) (M.filterMap g)
  | [], [], _ => trivial
  | a :: s, b :: t, p => by
    have ih := zqLR_fm h s t p.2
    rcases h a b p.1 with ⟨q1, q2⟩ | ⟨x, y, q1, q2, q3⟩
    · rw [List.filterMap_cons, List.filterMap_cons, q1, q2]; exact ih
    · rw [List.filterMap_cons, List.filterMap_cons, q1, q2]; exact ⟨q3, ih⟩
  | [], _ :: _, p => p.elim
  | _ :: _, [], p => p.elim
theorem zqLR_G {R : zqR → zqR → Prop} {x y : Int} (h : ∀ a b : zqR, R a b → a x = b x ∧ a y = b y) : ∀ L M : List zqR, zqLR R L M → zqG x y L = zqG x y M
  | [], [], _ => rfl
  | a :: s, b :: t, p => by
    rw [zqG, zqG, zqLR_G h s t p.2, (h a b p.1).1, (h a b p.1).2]
  | [], _ :: _, p => p.elim
  | _ :: _, [], p => p.elim
theorem zqLR_rf {R : zqR → zqR → Prop} (h : ∀ a : zqR, R a a) : ∀ L : List zqR, zqLR R L L
  | [] => trivial
  | a :: s => ⟨h a, zqLR_rf h s⟩
theorem zqLR_eq {R : zqR → zqR → Prop} (h : ∀ a b : zqR, R a b → a = b) : ∀ L M : List zqR, zqLR R L M → L = M
  | [], [], _ => rfl
  | a :: s, b :: t, p => by rw [h a b p.1, zqLR_eq h s t p.2]
  | [], _ :: _, p => p.elim
  | _ :: _, [], p => p.elim
theorem zqLR_ld {S S' : Int → Int} {b m x : Int} {R : zqR → zqR → Prop} (ke : ∀ k : Int, 0 ≤ k → k ≤ 19 → (S' (80 * b + 4 * k) = -1 ↔ S (80 * b + 4 * k) = -1)) (h : ∀ k : Int, 0 ≤ k → k ≤ 19 → R (zqB S b m k) (zqB S' b m k)) : ∀ n : Nat, n ≤ 20 → zqLR R ((zqLd S b m n).map Prod.snd) ((zqLd S' b m n).map Prod.snd)
  | 0, _ => trivial
  | k + 1, hk => by
    have ih := zqLR_ld (x := x) ke h k (by omega)
    have e := ke k (by omega) (by omega)
    rw [zqLd, zqLd]
    by_cases q : S (80 * b + 4 * (k : Int)) = -1
    · rw [if_neg (fun z => z q), if_neg (fun z => z (e.mpr q))]; exact ih
    · rw [if_pos q, if_pos (fun z => q (e.mp z))]; exact ⟨h k (by omega) (by omega), ih⟩
/-- alike where the column's law is another one -/
def zqSm (v : Int) (og : Int → Int) (a b : zqR) : Prop := ∀ j : Int, og j % 16 ≠ v → a j = b j
/-- a cell changes that no pane depends on: rows stay alike but in the columns that show it -/
theorem zqLive {S S' : Int → Int} {b m w c k0 : Int} (w0 : 0 ≤ w) (w2 : w ≤ 2) (c1 : 1 ≤ c) (c3 : c ≤ 3) (k00 : 0 ≤ k0) (k19 : k0 ≤ 19) (m4 : m ≤ 4) (b0 : 0 ≤ b) (b2 : b ≤ 2) (e : ∀ j : Int, j ≠ 80 * w + 4 * k0 + c → S' j = S j) : ∀ P : List zqP, (∀ p ∈ P, p.1 = 4 → p.2.2.2.1 ≤ 4 ∧ 0 ≤ p.2.2.1 ∧ p.2.2.1 ≤ 2) → ¬ zqUs b m P (4 * w + c) → zqLR (zqSm (4 * w + c) (zqOg b m P)) (zqRun S m ((zqLd S b m 20).map Prod.snd) P) (zqRun S' m ((zqLd S' b m 20).map Prod.snd) P)
  | [], _, _ => by
    refine zqLR_ld (x := 0) (fun k a d => by rw [e _ (by omega)]) (fun k ka kb j hj => ?_) 20 (Nat.le_refl _)
    unfold zqB
    by_cases q : 0 ≤ j ∧ j < m
    · rw [if_pos q, if_pos q]
      refine (e _ (fun z => hj ?_)).symm
      show (if 0 ≤ j ∧ j < m then 4 * b + j else -1) % 16 = _
      rw [if_pos q]
      omega
    · rw [if_neg q, if_neg q]
  | p :: t, n4, us => by
    have ih := zqLive w0 w2 c1 c3 k00 k19 m4 b0 b2 e t (fun p hp => n4 p (List.mem_cons_of_mem _ hp)) (fun z => us (Or.inl z))
    rw [zqRun, zqRun]
    unfold zqT
    by_cases k5 : p.1 = 5
    · rw [if_pos k5, if_pos k5]
      have u1 : zqOg b m t p.2.1 % 16 ≠ 4 * w + c := fun z => us (Or.inr (Or.inl ⟨by omega, z⟩))
      have u2 : zqOg b m t p.2.2.1 % 16 ≠ 4 * w + c := fun z => us (Or.inr (Or.inr ⟨k5, z⟩))
      rw [zqLR_G (fun a d q => ⟨q _ u1, q _ u2⟩) _ _ ih]
      exact zqLR_rf (fun a j _ => rfl) _
    · rw [if_neg k5, if_neg k5]
      refine zqLR_fm (fun a d q => ?_) _ _ ih
      unfold zqO
      by_cases k3 : p.1 = 3
      · rw [if_pos k3, if_pos k3]
        refine Or.inr ⟨_, _, rfl, rfl, fun j hj => ?_⟩
        have hj2 : (if p.1 = 3 then (if 0 ≤ j ∧ j < p.2.2.2.1 then zqOg b m t (p.2.2.2.2 j) else -1) else if p.1 = 4 then (if zqW m t ≤ j ∧ j < zqW m t + p.2.2.2.1 - 1 then 16 + 4 * p.2.2.1 + (j - zqW m t + 1) else zqOg b m t j) else if p.1 = 5 then -1 else zqOg b m t j) % 16 ≠ 4 * w + c := hj
        rw [if_pos k3] at hj2
        unfold zqFew
        by_cases z : 0 ≤ j ∧ j < p.2.2.2.1
        · rw [if_pos z] at hj2 ⊢
          rw [if_pos z]
          exact q _ hj2
        · rw [if_neg z, if_neg z]
      · have u1 : zqOg b m t p.2.1 % 16 ≠ 4 * w + c := fun z => us (Or.inr (Or.inl ⟨k3, z⟩))
        rw [if_neg k3, if_neg k3, ← q _ u1]
        by_cases k4 : p.1 = 4
        · rw [if_pos k4, if_pos k4]
          obtain ⟨n1, n2, n3⟩ := n4 p (List.mem_cons_self ..) k4
          by_cases hs : zqHas S p.2.2.1 (a p.2.1)
          · have hs' : zqHas S' p.2.2.1 (a p.2.1) := by
              obtain ⟨s1, s2, s3⟩ := hs
              exact ⟨s1, s2, by rw [e _ (by omega)]; exact s3⟩
            rw [if_pos hs, if_pos hs']
            refine Or.inr ⟨_, _, rfl, rfl, fun j hj => ?_⟩
            have hj2 : (if p.1 = 3 then (if 0 ≤ j ∧ j < p.2.2.2.1 then zqOg b m t (p.2.2.2.2 j) else -1) else if p.1 = 4 then (if zqW m t ≤ j ∧ j < zqW m t + p.2.2.2.1 - 1 then 16 + 4 * p.2.2.1 + (j - zqW m t + 1) else zqOg b m t j) else if p.1 = 5 then -1 else zqOg b m t j) % 16 ≠ 4 * w + c := hj
            rw [if_neg k3, if_pos k4] at hj2
            unfold zqJn
            by_cases z : zqW m t ≤ j ∧ j < zqW m t + p.2.2.2.1 - 1
            · rw [if_pos z] at hj2 ⊢
              rw [if_pos z]
              have := hs.1
              have := hs.2.1
              exact (e _ (fun y => hj2 (by omega))).symm
            · rw [if_neg z] at hj2 ⊢
              rw [if_neg z]
              exact q _ hj2
          · have hs' : ¬ zqHas S' p.2.2.1 (a p.2.1) := by
              rintro ⟨s1, s2, s3⟩
              exact hs ⟨s1, s2, by rw [← e _ (by omega)]; exact s3⟩
            rw [if_neg hs, if_neg hs']
            exact Or.inl ⟨rfl, rfl⟩
        · rw [if_neg k4, if_neg k4]
          have hog : zqOg b m (p :: t) = zqOg b m t := by
            funext j
            show (if p.1 = 3 then _ else if p.1 = 4 then _ else if p.1 = 5 then _ else zqOg b m t j) = _
            rw [if_neg k3, if_neg k4, if_neg k5]
          rw [hog]
          by_cases z : zqPass p.1 (a p.2.1) p.2.2.1
          · rw [if_pos z, if_pos z]; exact Or.inr ⟨_, _, rfl, rfl, q⟩
          · rw [if_neg z, if_neg z]; exact Or.inl ⟨rfl, rfl⟩
end ZQC
