/-! sayings for the reader -/
section MPI
def St5 (h : my_H) : Prop := 0 ≤ h (h 82 2) 9 ∧ h (h 82 2) 9 ≤ 5
theorem St5_ag {h h' : my_H} (g : my_ag [(5, 2), (4, 9)] h h') (L : Ln h) (p : St5 h) : St5 h' := by
  have e1 : h' 82 2 = h 82 2 := g.at pis_82 rfl
  unfold St5 at p ⊢
  rw [e1, g.at L.2.2.2.1 rfl]
  exact p
def Un (h : my_H) (w : Int) : Prop := ∀ v : Int, 0 ≤ v → v ≤ 5 → h (h 27 v) 0 = 1 → h (h 27 v) 1 ≠ w
theorem Un_ag {h h' : my_H} {w : Int} (g : my_ag [(22, -1), (4, 0), (4, 1)] h h') (L : Ln h) (p : Un h w) : Un h' w := by
  intro v a b c
  have e1 : h' 27 v = h 27 v := g.at pis_27 rfl
  rw [e1] at c ⊢
  rw [g.at (L.2.2.1 v a b) rfl] at c ⊢
  exact p v a b c
theorem Un_fx {h h' : my_H} {S w : Int} (g : my_fx S 8 h h') (hS : S = h 82 2) (L : Ln h) (p : Un h w) : Un h' w := by
  subst hS
  intro v a b c
  have hf := ln_far L.2.2.2.1
  have e1 : h' 27 v = h 27 v := g.at (by omega)
  have ap := ln_apart (L.2.2.1 v a b) L.2.2.2.1 (L.2.1 v a b)
  rw [e1] at c ⊢
  rw [g.at (by omega)] at c ⊢
  exact p v a b c
theorem Sp_wall {h h' : my_H} {S w n : Int} (g : my_fx S 8 h h') (hS : S = h 82 2) (L : Ln h) (w0 : 0 ≤ w) (e1 : h' S 1 = -1) (e3 : h' S 3 = n) (e4 : h' S 4 = n) (e9 : h' S 9 = 0) : Sp h' w := by
  subst hS
  have hf := ln_far L.2.2.2.1
  have e82 : h' 82 2 = h 82 2 := g.at (by omega)
  unfold Sp
  rw [e82]
  refine ⟨by omega, by omega, fun q => absurd e1 q, ?_, ?_⟩
  · rw [e9]
    intro k hk
    exact absurd hk (Nat.not_lt_zero k)
  · rw [e9, e4]
    show ln_s h' (h 82 2) = n
    unfold ln_s
    rw [if_pos e1, e3]
theorem Sp_win {h h' : my_H} {S w u : Int} (g : my_fx S 8 h h') (hS : S = h 82 2) (L : Ln h) (u0 : 0 ≤ u) (uw : u < w) (w5 : w ≤ 5) (ut : h (h 27 u) 0 = 1) (e1 : h' S 1 = u) (e3 : h' S 3 = h (h 27 u) 3) (e4 : h' S 4 = h (h 27 u) 4) (e9 : h' S 9 = 0) : Sp h' w := by
  subst hS
  have hf := ln_far L.2.2.2.1
  have e82 : h' 82 2 = h 82 2 := g.at (by omega)
  have e27 : h' 27 u = h 27 u := g.at (by omega)
  have ap := ln_apart (L.2.2.1 u u0 (by omega)) L.2.2.2.1 (L.2.1 u u0 (by omega))
  have eU : ∀ j : Int, h' (h 27 u) j = h (h 27 u) j := fun j => g.at (by omega)
  unfold Sp
  rw [e82]
  refine ⟨by omega, by omega, fun _ => ?_, ?_, ?_⟩
  · rw [e1, e27, eU, eU]
    exact ⟨ut, e3⟩
  · rw [e9]
    intro k hk
    exact absurd hk (Nat.not_lt_zero k)
  · rw [e9, e4]
    show ln_s h' (h 82 2) = _
    unfold ln_s
    rw [e1, if_neg (by omega), e27, eU]
/-- eight numbers are no more than eight -/
theorem pigeon : ∀ (m n : Nat) (f : Nat → Nat), (∀ i, i < n → f i < m) → (∀ i j, i < j → j < n → f i ≠ f j) → n ≤ m
  | 0, n, f, hf, _ => by
    match n, hf with
    | 0, _ => exact Nat.le_refl 0
    | n + 1, hf => exact absurd (hf 0 (Nat.succ_pos n)) (Nat.not_lt_zero _)
  | m + 1, n, f, hf, hd => by
    match n, hf, hd with
    | 0, _, _ => exact Nat.zero_le _
    | n + 1, hf, hd =>
      -- f n is taken out: what stands at m is put in its place
      have := pigeon m n (fun i => if f i = m then f n else f i) (fun i hi => by
        have h1 := hf i (Nat.lt_succ_of_lt hi)
        have h2 := hf n (Nat.lt_succ_self n)
        have h3 := hd i n hi (Nat.lt_succ_self n)
        show (if f i = m then f n else f i) < m
        split
        · omega
        · omega) (fun i j hij hj => by
        have h3 := hd i j hij (Nat.lt_succ_of_lt hj)
        have h4 := hd i n (by omega) (Nat.lt_succ_self n)
        have h5 := hd j n hj (Nat.lt_succ_self n)
        show (if f i = m then f n else f i) ≠ (if f j = m then f n else f j)
        split <;> split <;> omega)
      omega
theorem pick7 {f : Int → Int} {n c : Int} (h0 : 0 ≤ n) (hr : ∀ i : Int, 0 ≤ i → i < n → 0 ≤ f i ∧ f i ≤ 7) (hd : ∀ i j : Int, 0 ≤ i → i < j → j < n → f i ≠ f j) (hc0 : 0 ≤ c) (hc7 : c ≤ 7) (hc : ∀ i : Int, 0 ≤ i → i < n → f i ≠ c) : n ≤ 7 := by
  have := pigeon 8 (n.toNat + 1) (fun i => if (i : Int) = n then c.toNat else (f i).toNat) (fun i hi => by
    show (if (i : Int) = n then c.toNat else (f i).toNat) < 8
    split
    · omega
    · have := hr i (by omega) (by omega)
      omega) (fun i j hij hj => by
    show (if (i : Int) = n then c.toNat else (f i).toNat) ≠ (if (j : Int) = n then c.toNat else (f j).toNat)
    rw [if_neg (by omega)]
    have r1 := hr i (by omega) (by omega)
    split
    · have := hc i (by omega) (by omega)
      omega
    · have := hd i j (by omega) (by omega) (by omega)
      have r2 := hr j (by omega) (by omega)
      omega)
  omega
end MPI
section MPK
def Pk (h : my_H) (n : Int) : Prop := ∀ i j : Int, 0 ≤ i → i < j → j < n → h (h 82 2 + 5) (h (h 82 2) 9 * 8 + i) ≠ h (h 82 2 + 5) (h (h 82 2) 9 * 8 + j)
theorem pix_5 {x : Int} (hx : my_is 4 x) : my_is 36 (x + 5) := my_isOff (δ := 5) hx (by decide +kernel)
theorem Pk_ag {h h' : my_H} {n : Int} (g : my_ag [(5, 2), (4, 9), (36, -1)] h h') (L : Ln h) (p : Pk h n) : Pk h' n := by
  have e1 : h' 82 2 = h 82 2 := g.at pis_82 rfl
  have e2 : h' (h 82 2) 9 = h (h 82 2) 9 := g.at L.2.2.2.1 rfl
  have e3 : ∀ j : Int, h' (h 82 2 + 5) j = h (h 82 2 + 5) j := fun j => g.at (pix_5 L.2.2.2.1) rfl
  intro i j a b c
  rw [e1, e2, e3, e3]
  exact p i j a b c
theorem Pk_add {h h' : my_H} {n c S ix : Int} (L : Ln h) (p : Pk h n) (hS : S = h 82 2) (hix : ix = h S 9 * 8 + n) (e : h' = my_up h (S + 5) ix c) (np : ∀ i : Int, 0 ≤ i → i < n → h (S + 5) (h S 9 * 8 + i) ≠ c) : Pk h' (n + 1) := by
  subst hS; subst hix
  have hf := ln_far L.2.2.2.1
  have e1 : h' 82 2 = h 82 2 := my_up_ne e (by omega)
  have e2 : h' (h 82 2) 9 = h (h 82 2) 9 := my_up_ne e (by omega)
  intro i j a b d
  rw [e1, e2]
  have ei : h' (h 82 2 + 5) (h (h 82 2) 9 * 8 + i) = h (h 82 2 + 5) (h (h 82 2) 9 * 8 + i) := my_up_ne e (by omega)
  rw [ei]
  by_cases hj : j = n
  · subst hj
    rw [my_up_self e]
    exact np i a b
  · rw [my_up_ne e (by omega)]
    exact p i j a b (by omega)
variable {l : Launch} {rho : Nat → Int32} {d m pc : Nat} {ls : List my_V} {r : List my_V} {h : my_H} {Q : my_H → my_V → Prop} {a b w : Nat}
/-- a stretch of one array is copied into another, of what lies in it -/
theorem w_cpR {q ρ0 ρ1 n0 n1 : Nat} {lo0 hi0 lo1 hi1 k0 sp k1 dp n : Int} (hpg : mz_pg m pc = some (.invokestatic q, 0, b, w)) (hx0 : my_is ρ0 k0) (hD0 : my_rd ρ0 = .inl (0, n0, [(0, lo0, hi0)])) (hx1 : my_is ρ1 k1) (hD1 : my_rd ρ1 = .inl (0, n1, [(0, lo1, hi1)])) (hs : 0 ≤ sp) (hd : 0 ≤ dp) (hn : 0 ≤ n) (h0 : sp + n ≤ n0) (h1 : dp + n ≤ n1) (hr8 : Nat.ble (r.map my_cat).sum 8 = true) (he : ∀ j : Int, 0 ≤ j → j < n → lo1 ≤ h k0 (sp + j) ∧ h k0 (sp + j) ≤ hi1)
    (k : ∀ h', h' = my_cp h k0 sp k1 dp n → wp l rho (d + 1) m (pc + 3) ls r h' Q) : wp l rho (d + 1) m pc ls ((0, n) :: (0, dp) :: (2, k1) :: (0, sp) :: (2, k0) :: r) h Q :=
  w_cp hpg hx0 hD0 hx1 hD1 hs hd hn h0 h1 hr8 (fun j => ⟨(0, lo0, hi0), by simp [Nat.mod_one]⟩) (fun j e0 e1 hj q0 q1 q2 => by
    simp only [List.length_cons, List.length_nil, Nat.zero_add, Nat.mod_one, List.getElem?_cons_zero, Option.some.injEq] at q0 q1
    subst q0; subst q1
    have := he j (by omega) hj
    exact ⟨rfl, this.1, this.2, q2.2.2⟩) k
end MPK
