/-! summing: steps for the walks -/
section ZQS
/-- a sum that lies in a view -/
def zqQ (g : my_H) (v : Int) (i : Nat) : Int × Int := (g (v + 1) (17 * (i : Int)), g (v + 1) (17 * (i : Int) + 1))
theorem zqQ_cg {g g2 : my_H} {v : Int} {i : Nat} (e0 : g2 (v + 1) (17 * (i : Int)) = g (v + 1) (17 * (i : Int))) (e1 : g2 (v + 1) (17 * (i : Int) + 1) = g (v + 1) (17 * (i : Int) + 1)) : zqQ g2 v i = zqQ g v i := by
  unfold zqQ
  rw [e0, e1]
/-- one thing of a list without repetition changes -/
theorem zqL_up {f g : Nat → Int × Int} {b x : Int} {p : Nat} (hp : (f p).1 = b) (gp : g p = (b, (f p).2 + x)) : ∀ {n : Nat}, (∀ i : Nat, i < n → i ≠ p → (f i).1 ≠ b ∧ g i = f i) → zqL g n = (zqL f n).map (fun q => if q.1 = b then (q.1, q.2 + x) else q)
  | 0, _ => rfl
  | n + 1, h => by
    rw [zqL, zqL, List.map_cons, zqL_up hp gp (fun i hi => h i (by omega))]
    by_cases z : n = p
    · subst z
      rw [if_pos hp, gp, hp]
    · obtain ⟨h1, h2⟩ := h n (by omega) z
      rw [if_neg h1, h2]
/-- sums of the rows before row -/
def SumI (h g : my_H) (v m a b row sums : Int) : Prop := 0 ≤ sums ∧ sums ≤ row ∧ (∀ j : Int, 17 * row ≤ j → j < 187 → g (v + 1) j = h (v + 1) j) ∧ zqL (zqQ g v) sums.toNat = zqG a b (zqL (fun i => (zqE h v m i).2) row.toNat) ∧ ∀ i k : Nat, i < k → (k : Int) < sums → (zqQ g v i).1 ≠ (zqQ g v k).1
theorem SumI_0 {h : my_H} {v m a b : Int} : SumI h h v m a b 0 0 := ⟨Int.le_refl 0, Int.le_refl 0, fun _ _ _ => rfl, rfl, fun i k _ x => by omega⟩
theorem SumI_v {h g : my_H} {v m a b row sums c x : Int} (r10 : row ≤ 10) (c0 : 0 ≤ c) (cm : c < m) (m8 : m ≤ 16) (p : SumI h g v m a b row sums) (ex : x = g (v + 1) (17 * row + c)) : (zqE h v m row.toNat).2 c = x := by
  have r0 := p.1
  have r1 := p.2.1
  rw [zqE_at (by omega) c0 cm, ex]
  exact (p.2.2.1 _ (by omega) (by omega)).symm
/-- it is added to one that is there -/
theorem SumI_f {h g g2 : my_H} {v m a b row sums val part at' k y : Int} (r10 : row ≤ 10) (a0 : 0 ≤ a) (am : a < m) (b0 : 0 ≤ b) (bm : b < m) (m8 : m ≤ 16) (p : SumI h g v m a b row sums) (ev : val = g (v + 1) (17 * row + b)) (ep : part = g (v + 1) (17 * row + a)) (t0 : 0 ≤ at') (t1 : at' < sums) (et : g (v + 1) (17 * at') = val) (e : g2 = my_up g (v + 1) k y) (hk : k = 17 * at' + 1) (hy : y = g (v + 1) (17 * at' + 1) + part) : SumI h g2 v m a b (row + 1) sums := by
  have E1 := SumI_v r10 b0 bm m8 p ev
  have E2 := SumI_v r10 a0 am m8 p ep
  obtain ⟨p1, p2, p3, p4, p5⟩ := p
  subst hk
  have q0 : ∀ i : Nat, (zqQ g2 v i).1 = (zqQ g v i).1 := fun i => my_up_ne e (by omega)
  have fp : (zqQ g v at'.toNat).1 = val := by
    show g (v + 1) (17 * (at'.toNat : Int)) = val
    rw [Int.toNat_of_nonneg t0]; exact et
  have gp : zqQ g2 v at'.toNat = (val, (zqQ g v at'.toNat).2 + part) := by
    refine Prod.ext ((q0 _).trans fp) ?_
    show g2 (v + 1) (17 * (at'.toNat : Int) + 1) = g (v + 1) (17 * (at'.toNat : Int) + 1) + part
    rw [Int.toNat_of_nonneg t0, my_up_self e, hy]
  have oth : ∀ i : Nat, i < sums.toNat → i ≠ at'.toNat → (zqQ g v i).1 ≠ val ∧ zqQ g2 v i = zqQ g v i := fun i hi ne => by
    refine ⟨?_, zqQ_cg (my_up_ne e (by omega)) (my_up_ne e (by omega))⟩
    rw [← fp]
    rcases Nat.lt_or_ge i at'.toNat with z | z
    · exact p5 i _ z (by omega)
    · exact fun y => p5 at'.toNat i (by omega) (by omega) y.symm
  refine ⟨p1, by omega, fun j x y => (my_up_ne e (by omega)).trans (p3 j (by omega) y), ?_, fun i k x y => by rw [q0, q0]; exact p5 i k x y⟩
  rw [zqL_up (x := part) fp gp oth, show (row + 1).toNat = row.toNat + 1 by omega, zqL, zqG, ← p4, E1, E2]
  unfold zqI
  rw [if_pos ⟨_, zqL_mem.mpr ⟨at'.toNat, by omega, rfl⟩, fp⟩]
/-- a new one -/
theorem SumI_a {h g g1 g2 g3 g4 g5 : my_H} {v m a b row sums val part k1 k2 k3 k4 k5 y3 y4 y5 : Int} (r10 : row ≤ 10) (a0 : 0 ≤ a) (am : a < m) (b0 : 0 ≤ b) (bm : b < m) (m8 : m ≤ 16) (p : SumI h g v m a b row sums) (ev : val = g (v + 1) (17 * row + b)) (ep : part = g (v + 1) (17 * row + a)) (nf : ∀ i : Nat, (i : Int) < sums → g (v + 1) (17 * (i : Int)) ≠ val) (e1 : g1 = my_up g (v + 1) k1 val) (h1 : k1 = 17 * sums) (e2 : g2 = my_up g1 (v + 1) k2 part) (h2 : k2 = 17 * sums + 1) (e3 : g3 = my_up g2 (v + 1) k3 y3) (h3 : k3 = 17 * sums + 8) (e4 : g4 = my_up g3 (v + 1) k4 y4) (h4 : k4 = 17 * sums + 9) (e5 : g5 = my_up g4 (v + 1) k5 y5) (h5 : k5 = 17 * sums + 16) : SumI h g5 v m a b (row + 1) (sums + 1) := by
  have E1 := SumI_v r10 b0 bm m8 p ev
  have E2 := SumI_v r10 a0 am m8 p ep
  obtain ⟨p1, p2, p3, p4, p5⟩ := p
  subst h1; subst h2; subst h3; subst h4; subst h5
  have ne : ∀ j : Int, (j < 17 * sums ∨ 17 * sums + 17 ≤ j) → g5 (v + 1) j = g (v + 1) j := fun j x => by
    rw [my_up_ne e5 (by omega), my_up_ne e4 (by omega), my_up_ne e3 (by omega), my_up_ne e2 (by omega), my_up_ne e1 (by omega)]
  have n0 : g5 (v + 1) (17 * sums) = val := by
    rw [my_up_ne e5 (by omega), my_up_ne e4 (by omega), my_up_ne e3 (by omega), my_up_ne e2 (by omega), my_up_self e1]
  have n1 : g5 (v + 1) (17 * sums + 1) = part := by
    rw [my_up_ne e5 (by omega), my_up_ne e4 (by omega), my_up_ne e3 (by omega), my_up_self e2]
  have old : ∀ i : Nat, i < sums.toNat → zqQ g5 v i = zqQ g v i := fun i hi => zqQ_cg (ne _ (by omega)) (ne _ (by omega))
  have new : zqQ g5 v sums.toNat = (val, part) := by
    unfold zqQ
    rw [Int.toNat_of_nonneg p1, n0, n1]
  refine ⟨by omega, by omega, fun j x y => (ne j (by omega)).trans (p3 j (by omega) y), ?_, fun i k x y => ?_⟩
  · rw [show (row + 1).toNat = row.toNat + 1 by omega, show (sums + 1).toNat = sums.toNat + 1 by omega, zqL, zqL, zqG, ← p4, E1, E2, zqL_cg old, new]
    unfold zqI
    rw [if_neg (fun ⟨q, x, y⟩ => by
      obtain ⟨i, hi, z⟩ := zqL_mem.mp x
      exact nf i (by omega) (by rw [← y, ← z]; rfl))]
  · by_cases z : k = sums.toNat
    · subst z
      rw [new, old i (by omega)]
      exact nf i (by omega)
    · rw [old i (by omega), old k (by omega)]
      exact p5 i k x (by omega)
/-- how large a sum can be -/
theorem zqG_le {a b : Int} : ∀ {L : List zqR}, (∀ r ∈ L, zqBe r) → ∀ q ∈ zqG a b L, 0 ≤ q.2 ∧ q.2 ≤ 9999 * L.length
  | [], _ => fun q hq => by cases hq
  | r :: t, h => fun q hq => by
    have ih := zqG_le (a := a) (b := b) (L := t) (fun s hs => h s (List.mem_cons_of_mem _ hs))
    have hr := h r (List.mem_cons_self ..) a
    rw [List.length_cons]
    rw [zqG] at hq
    unfold zqI at hq
    by_cases z : ∃ q ∈ zqG a b t, q.1 = r b
    · rw [if_pos z] at hq
      obtain ⟨u, hu, e⟩ := List.mem_map.mp hq
      have q1 := ih u hu
      by_cases y : u.1 = r b
      · rw [if_pos y] at e
        rw [← e]
        show 0 ≤ u.2 + r a ∧ u.2 + r a ≤ _
        omega
      · rw [if_neg y] at e
        rw [← e]
        omega
    · rw [if_neg z] at hq
      rcases List.mem_cons.mp hq with e | e
      · rw [e]
        show 0 ≤ r a ∧ r a ≤ _
        omega
      · have q1 := ih q e
        omega
theorem SumI_b {h g : my_H} {v m a b row sums at' n : Int} (r10 : row ≤ 10) (p : SumI h g v m a b row sums) (hb : ∀ i : Nat, (i : Int) < n → zqBe (zqE h v m i).2) (rn : row ≤ n) (t0 : 0 ≤ at') (t1 : at' < sums) : 0 ≤ g (v + 1) (17 * at' + 1) ∧ g (v + 1) (17 * at' + 1) ≤ 99990 := by
  obtain ⟨p1, p2, p3, p4, p5⟩ := p
  have mem : zqQ g v at'.toNat ∈ zqL (zqQ g v) sums.toNat := zqL_mem.mpr ⟨at'.toNat, by omega, rfl⟩
  rw [p4] at mem
  have q := zqG_le (L := zqL (fun i => (zqE h v m i).2) row.toNat) (fun r hr => by
    obtain ⟨i, hi, e⟩ := zqL_mem.mp hr
    rw [← e]
    exact hb i (by omega)) _ mem
  rw [zqL_len] at q
  have e : (zqQ g v at'.toNat).2 = g (v + 1) (17 * at' + 1) := by
    show g (v + 1) (17 * (at'.toNat : Int) + 1) = _
    rw [Int.toNat_of_nonneg t0]
  rw [e] at q
  omega
theorem SumI_p {h g : my_H} {v m a b row sums n c x : Int} (r10 : row ≤ 10) (c0 : 0 ≤ c) (cm : c < m) (m8 : m ≤ 16) (p : SumI h g v m a b row sums) (hb : ∀ i : Nat, (i : Int) < n → zqBe (zqE h v m i).2) (rn : row < n) (ex : x = g (v + 1) (17 * row + c)) : 0 ≤ x ∧ x ≤ 9999 := by
  have r0 := p.1
  have r1 := p.2.1
  rw [← SumI_v r10 c0 cm m8 p ex]
  exact hb row.toNat (by omega) c
/-- behind a sum -/
theorem SumI_e {h g g2 : my_H} {v m a b row sums : Int} (p : SumI h g v m a b row sums) (e : ∀ j : Int, g2 (v + 1) j = g (v + 1) j) : (zqL (zqE g2 v 2) sums.toNat).map Prod.snd = (zqG a b ((zqL (zqE h v m) row.toNat).map Prod.snd)).map zq2 := by
  obtain ⟨p1, p2, p3, p4, p5⟩ := p
  have q : (zqL (zqE h v m) row.toNat).map Prod.snd = zqL (fun i => (zqE h v m i).2) row.toNat := zqL_map
  rw [q, ← p4, zqL_map, zqL_map]
  refine zqL_cg (fun i hi => funext fun j => ?_)
  show (if 0 ≤ j ∧ j < 2 then g2 (v + 1) (17 * (i : Int) + j) else 0) = (if j = 0 then g (v + 1) (17 * (i : Int)) else if j = 1 then g (v + 1) (17 * (i : Int) + 1) else 0)
  by_cases z0 : j = 0
  · subst z0
    rw [if_pos (by omega), if_pos rfl, e, Int.add_zero]
  · by_cases z1 : j = 1
    · subst z1
      rw [if_pos (by omega), if_neg (by omega), if_pos rfl, e]
    · rw [if_neg (by omega), if_neg z0, if_neg z1]
end ZQS
