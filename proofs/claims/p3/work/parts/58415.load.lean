/-! loading, joining, summing: steps for the walks -/
section ZQQ
/-- how many rows lie among the first n keys -/
def zqCn (S : Int → Int) (b : Int) : Nat → Int
  | 0 => 0
  | k + 1 => if S (80 * b + 4 * (k : Int)) = -1 then zqCn S b k else zqCn S b k + 1
theorem zqCn_mono {S : Int → Int} {b : Int} {n : Nat} : ∀ d : Nat, zqCn S b n ≤ zqCn S b (n + d)
  | 0 => Int.le_refl _
  | d + 1 => by
    have ih := zqCn_mono (S := S) (b := b) (n := n) d
    rw [Nat.add_succ, zqCn]
    split <;> omega
theorem zqCn_nn {S : Int → Int} {b : Int} : ∀ n : Nat, 0 ≤ zqCn S b n
  | 0 => Int.le_refl _
  | n + 1 => by
    have ih := zqCn_nn (S := S) (b := b) n
    rw [zqCn]
    split <;> omega
/-- the rows whose keys are in a set -/
noncomputable def zqLk (K : Int → Prop) (S : Int → Int) (b m : Int) : Nat → List (Int × zqR)
  | 0 => []
  | k + 1 => zqIf (S (80 * b + 4 * (k : Int)) ≠ -1 ∧ K (k : Int)) (((k : Int), zqB S b m k) :: zqLk K S b m k) (zqLk K S b m k)
theorem zqLk_all {K : Int → Prop} {S : Int → Int} {b m : Int} : ∀ n : Nat, (∀ k : Int, 0 ≤ k → k < n → K k) → zqLk K S b m n = zqLd S b m n
  | 0, _ => rfl
  | n + 1, h => by
    have ih := zqLk_all (K := K) (S := S) (b := b) (m := m) n (fun k a c => h k a (by omega))
    rw [zqLk, ih, zqLd]
    by_cases q : S (80 * b + 4 * (n : Int)) = -1
    · rw [zqIf_f (fun z => z.1 q), if_neg (fun z => z q)]
    · rw [zqIf_t ⟨q, h n (by omega) (by omega)⟩, if_pos q]
theorem zqLk_le {K : Int → Prop} {S : Int → Int} {b m : Int} : ∀ n : Nat, ((zqLk K S b m n).length : Int) ≤ zqCn S b n
  | 0 => Int.le_refl _
  | n + 1 => by
    have ih := zqLk_le (K := K) (S := S) (b := b) (m := m) n
    rw [zqLk, zqCn]
    by_cases q : S (80 * b + 4 * (n : Int)) = -1
    · rw [zqIf_f (fun z => z.1 q), if_pos q]; exact ih
    · rw [if_neg q]
      by_cases k : K n
      · rw [zqIf_t ⟨q, k⟩, List.length_cons]; omega
      · rw [zqIf_f (fun z => k z.2)]; omega
/-- no more rows come -/
theorem zqLk_end {K : Int → Prop} {S : Int → Int} {b m : Int} {n : Nat} : ∀ d : Nat, zqCn S b (n + d) ≤ zqCn S b n → zqLk K S b m (n + d) = zqLk K S b m n
  | 0, _ => rfl
  | d + 1, h => by
    have m1 := zqCn_mono (S := S) (b := b) (n := n) d
    rw [Nat.add_succ, zqCn] at h
    have q : S (80 * b + 4 * ((n + d : Nat) : Int)) = -1 := by
      by_cases q : S (80 * b + 4 * ((n + d : Nat) : Int)) = -1
      · exact q
      · rw [if_neg q] at h; omega
    rw [if_pos q] at h
    rw [Nat.add_succ, zqLk, zqIf_f (fun z => z.1 q)]
    exact zqLk_end d h
theorem hasBit_x {m c v1 v2 v3 : Int} (c0 : 0 ≤ c) (c1 : c ≤ 59) (e1 : v1 = jsr m c) (e2 : v2 = jnd v1 (((1 : Fin 2).val : Nat) : Int)) (x : (v2 < (((0 : Fin 2).val : Nat) : Int) → v3 = -1) ∧ (v2 = (((0 : Fin 2).val : Nat) : Int) → v3 = 0) ∧ ((((0 : Fin 2).val : Nat) : Int) < v2 → v3 = 1)) : (v3 = 0 → ¬ zqlb m c) ∧ (v3 ≠ 0 → zqlb m c) := by
  have q : jnd (jsr m c) 1 = 0 ↔ ¬ zqlb m c := zqlb_has c0 c1
  rw [e1] at e2
  have e2' : v2 = jnd (jsr m c) 1 := e2
  obtain ⟨x1, x2, x3⟩ := x
  have x1' : v2 < 0 → v3 = -1 := x1
  have x2' : v2 = 0 → v3 = 0 := x2
  have x3' : 0 < v2 → v3 = 1 := x3
  rw [← e2'] at q
  by_cases z : v2 = 0
  · have z3 := x2' z
    exact ⟨fun _ => q.mp z, fun y => absurd z3 y⟩
  · have z3 : v3 ≠ 0 := by
      rcases Int.lt_trichotomy v2 0 with y | y | y
      · have := x1' y; omega
      · exact absurd y z
      · have := x3' y; omega
    exact ⟨fun y => absurd y z3, fun _ => Classical.byContradiction fun y => z (q.mpr y)⟩
/-- rows that were loaded so far -/
def LdI (g : my_H) (K : Int → Prop) (S : Int → Int) (v b m key rows : Int) : Prop := 0 ≤ rows ∧ zqL (zqE g v m) rows.toNat = zqLk K S b m key.toNat ∧ ∀ k : Int, 0 ≤ k → k < key → K k → S (80 * b + 4 * k) ≠ -1 → g (v + 3) k = jsl 1 (20 * b + k)
theorem LdI_0 {g : my_H} {K : Int → Prop} {S : Int → Int} {v b m : Int} : LdI g K S v b m 0 0 := ⟨Int.le_refl 0, rfl, fun k a c => by omega⟩
theorem LdI_n {g : my_H} {K : Int → Prop} {S : Int → Int} {v b m key rows : Int} (k0 : 0 ≤ key) (p : LdI g K S v b m key rows) (q : S (80 * b + 4 * key) = -1 ∨ ¬ K key) : LdI g K S v b m (key + 1) rows := by
  obtain ⟨p1, p2, p3⟩ := p
  refine ⟨p1, ?_, fun k a c d e => ?_⟩
  · rw [show (key + 1).toNat = key.toNat + 1 by omega, zqLk, Int.toNat_of_nonneg k0, zqIf_f (fun z => by
      rcases q with q | q
      · exact z.1 q
      · exact q z.2)]
    exact p2
  · by_cases z : k = key
    · subst z
      rcases q with q | q
      · exact absurd q e
      · exact absurd d q
    · exact p3 k a (by omega) d e
theorem LdI_y {g g1 g2 g3 g4 : my_H} {K : Int → Prop} {S : Int → Int} {v r b m key rows f t c k3 y k2 z n0 y4 : Int} (k0 : 0 ≤ key) (r10 : rows ≤ 10) (m0 : 0 ≤ m) (m4 : m ≤ 4) (p : LdI g K S v b m key rows) (cc : CcI g g1 v r f t c) (eS : ∀ j : Int, g (r + 1) j = S j) (hf : f = 80 * b + 4 * key) (ht : t = 17 * rows) (hc : c = m)
    (e2 : g2 = my_up g1 (v + 1) k3 y) (hk3 : k3 = 17 * rows + 16) (hy : y = key) (eg : ∀ k : Int, g1 (v + 3) k = g (v + 3) k) (e3 : g3 = my_up g2 (v + 3) k2 z) (hk2 : k2 = key) (hz : z = jsl (((1 : Fin 2).val : Nat) : Int) n0) (hn : n0 = 20 * b + key) (e4 : g4 = my_up g3 v 0 y4) (h4 : y4 = rows + 1) (q1 : S (80 * b + 4 * key) ≠ -1) (q2 : K key) : LdI g4 K S v b m (key + 1) (rows + 1) := by
  obtain ⟨p1, p2, p3⟩ := p
  obtain ⟨c1, c2⟩ := cc
  rw [hy, hk3] at e2
  rw [hk2] at e3
  rw [hc, ht, hf] at c1
  rw [hc, ht] at c2
  rw [hn] at hz
  rw [h4] at e4
  have gr : ∀ j : Int, g4 (v + 1) j = if j = 17 * rows + 16 then key else g1 (v + 1) j := fun j => by
    rw [my_up_ne e4 (by omega), my_up_ne e3 (by omega)]
    by_cases w : j = 17 * rows + 16
    · rw [if_pos w, w]; exact my_up_self e2
    · rw [if_neg w]; exact my_up_ne e2 (by omega)
  have old : ∀ i : Nat, i < rows.toNat → zqE g4 v m i = zqE g v m i := fun i hi => zqE_cg (by omega) (fun j a d => by
    rw [gr, if_neg (by omega)]
    exact c2 j (by omega) (by omega))
  refine ⟨by omega, ?_, fun k a d e w => ?_⟩
  · rw [show (key + 1).toNat = key.toNat + 1 by omega, show (rows + 1).toNat = rows.toNat + 1 by omega, zqL, zqLk, Int.toNat_of_nonneg k0, zqIf_t ⟨q1, q2⟩, zqL_cg old, p2]
    refine congrArg (· :: _) (Prod.ext ?_ (funext fun j => ?_))
    · show g4 (v + 1) (17 * (rows.toNat : Int) + 16) = key
      rw [Int.toNat_of_nonneg p1, gr, if_pos rfl]
    · show (if 0 ≤ j ∧ j < m then g4 (v + 1) (17 * (rows.toNat : Int) + j) else 0) = zqB S b m key j
      unfold zqB
      by_cases w : 0 ≤ j ∧ j < m
      · rw [if_pos w, if_pos w, Int.toNat_of_nonneg p1, gr, if_neg (by omega), c1 j w.1 w.2, eS]
      · rw [if_neg w, if_neg w]
  · rw [my_up_ne e4 (by omega)]
    by_cases x : k = key
    · subst x
      rw [my_up_self e3, hz]
      rfl
    · rw [my_up_ne e3 (by omega), my_up_ne e2 (by omega), eg]
      exact p3 k a (by omega) e w
/-- what a view holds when it is loaded -/
def LdP (g : my_H) (K : Int → Prop) (S : Int → Int) (v b m : Int) : Prop := zqL (zqE g v m) (g v 0).toNat = zqLk K S b m 20 ∧ ∀ k : Int, 0 ≤ k → k ≤ 19 → K k → S (80 * b + 4 * k) ≠ -1 → g (v + 3) k = jsl 1 (20 * b + k)
theorem LdI_e {g : my_H} {K : Int → Prop} {S : Int → Int} {v b m key rows : Int} (k0 : 0 ≤ key) (k20 : key ≤ 20) (hn : zqCn S b 20 ≤ 10) (p : LdI g K S v b m key rows) (er : g v 0 = rows) (q : 20 ≤ key ∨ 10 ≤ rows) : LdP g K S v b m := by
  obtain ⟨p1, p2, p3⟩ := p
  by_cases z : key = 20
  · subst z
    rw [← er] at p2
    exact ⟨p2, fun k a c => p3 k a (by omega)⟩
  · have r10 : 10 ≤ rows := by omega
    have l1 : ((zqLk K S b m key.toNat).length : Int) = rows := by rw [← p2, zqL_len, Int.toNat_of_nonneg p1]
    have l2 := zqLk_le (K := K) (S := S) (b := b) (m := m) key.toNat
    have en : key.toNat + (20 - key.toNat) = 20 := by omega
    have cc : zqCn S b (key.toNat + (20 - key.toNat)) ≤ zqCn S b key.toNat := by rw [en]; omega
    have e20 := zqLk_end (K := K) (m := m) _ cc
    rw [en] at e20
    refine ⟨by rw [er, p2, e20], fun k a c d e => ?_⟩
    by_cases y : k < key
    · exact p3 k a y d e
    · exfalso
      have m1 := zqCn_mono (S := S) (b := b) (n := key.toNat) (k.toNat - key.toNat)
      rw [show key.toNat + (k.toNat - key.toNat) = k.toNat by omega] at m1
      have m2 := zqCn_mono (S := S) (b := b) (n := k.toNat + 1) (20 - (k.toNat + 1))
      rw [show k.toNat + 1 + (20 - (k.toNat + 1)) = 20 by omega, zqCn, Int.toNat_of_nonneg a, if_neg e] at m2
      omega
/-- a row moves -/
def Mv (g g1 : my_H) (v row kept : Int) : Prop := (∀ j : Int, 0 ≤ j → j < 17 → g1 (v + 1) (17 * kept + j) = g (v + 1) (17 * row + j)) ∧ ∀ j : Int, (j < 17 * kept ∨ 17 * kept + 17 ≤ j) → g1 (v + 1) j = g (v + 1) j
theorem Mv_r {g : my_H} {v row kept : Int} (e : row = kept) : Mv g g v row kept := by subst e; exact ⟨fun _ _ _ => rfl, fun _ _ => rfl⟩
theorem Mv_c {g g1 : my_H} {v row kept : Int} (e : g1 = my_cp g (v + 1) (row * 17) (v + 1) (kept * 17) 17) : Mv g g1 v row kept :=
  ⟨fun j a b => by rw [my_cp_in e (by omega) (by omega)]; congr 1; omega, fun j a => my_cp_ne e (by omega)⟩
/-- rows read for rows, as bits, behind a join -/
def TjI (S : Int → Int) (h g : my_H) (v m w by' row : Int) : Prop := ∀ k c : Int, 0 ≤ k → k ≤ 19 → 0 ≤ c → c ≤ 59 → (zqlb (g (v + 3) k) c ↔ zqlb (h (v + 3) k) c ∨ ∃ i : Nat, (i : Int) < row ∧ (zqE h v m i).1 = k ∧ zqHas S w ((zqE h v m i).2 by') ∧ c = 20 * w + (zqE h v m i).2 by')
theorem TjI_0 {S : Int → Int} {h : my_H} {v m w by' : Int} : TjI S h h v m w by' 0 := fun k c _ _ _ _ => ⟨Or.inl, fun z => by
  rcases z with z | ⟨i, a, _⟩
  · exact z
  · omega⟩
theorem TjI_eq {S : Int → Int} {h g g2 : my_H} {v m w by' row : Int} (e : ∀ k : Int, g2 (v + 3) k = g (v + 3) k) (p : TjI S h g v m w by' row) : TjI S h g2 v m w by' row := fun k c a b d f => by rw [e]; exact p k c a b d f
theorem TjI_n {S : Int → Int} {h g : my_H} {v m w by' row key : Int} (r0 : 0 ≤ row) (p : TjI S h g v m w by' row) (ek : (zqE h v m row.toNat).2 by' = key) (hs : ¬ zqHas S w key) : TjI S h g v m w by' (row + 1) := fun k c a b d f => by
  rw [p k c a b d f]
  constructor
  · rintro (z | ⟨i, x, y⟩)
    · exact Or.inl z
    · exact Or.inr ⟨i, by omega, y⟩
  · rintro (z | ⟨i, x, y1, y2, y3⟩)
    · exact Or.inl z
    · by_cases q : i = row.toNat
      · subst q; rw [ek] at y2; exact absurd y2 hs
      · exact Or.inr ⟨i, by omega, y1, y2, y3⟩
theorem TjI_y {S : Int → Int} {h g g1 g2 : my_H} {v m w by' row key t o z y n0 : Int} (r0 : 0 ≤ row) (w0 : 0 ≤ w) (w2 : w ≤ 2) (p : TjI S h g v m w by' row) (ek : (zqE h v m row.toNat).2 by' = key) (hs : zqHas S w key) (et : (zqE h v m row.toNat).1 = t) (eg : ∀ k : Int, g1 (v + 3) k = g (v + 3) k) (eo : o = g1 (v + 3) t) (ey : y = jsl (((1 : Fin 2).val : Nat) : Int) n0) (en : n0 = 20 * w + key) (ez : z = jor o y) (e2 : g2 = my_up g1 (v + 3) t z) : TjI S h g2 v m w by' (row + 1) := fun k c a b d f => by
  have hs0 := hs.1
  have hs1 := hs.2.1
  have sh : zqlb y c ↔ c = 20 * w + key := by
    rw [ey, en]
    exact zqlb_jsl (by omega) (by omega) d f
  by_cases q : k = t
  · subst q
    rw [my_up_self e2, ez, zqlb_jor, sh, eo, eg, p k c a b d f]
    constructor
    · rintro ((x | ⟨i, x, x2⟩) | x)
      · exact Or.inl x
      · exact Or.inr ⟨i, by omega, x2⟩
      · exact Or.inr ⟨row.toNat, by omega, et, by rw [ek]; exact hs, by rw [ek]; exact x⟩
    · rintro (x | ⟨i, x, x2, x3, x4⟩)
      · exact Or.inl (Or.inl x)
      · by_cases u : i = row.toNat
        · subst u; rw [ek] at x4; exact Or.inr x4
        · exact Or.inl (Or.inr ⟨i, by omega, x2, x3, x4⟩)
  · rw [my_up_ne e2 (by omega), eg, p k c a b d f]
    constructor
    · rintro (x | ⟨i, x, x2⟩)
      · exact Or.inl x
      · exact Or.inr ⟨i, by omega, x2⟩
    · rintro (x | ⟨i, x, x2, x3, x4⟩)
      · exact Or.inl x
      · by_cases u : i = row.toNat
        · subst u; exact absurd (x2.symm.trans et) q
        · exact Or.inr ⟨i, by omega, x2, x3, x4⟩
/-- a row that a join leaves -/
theorem JoinI_Y {h g g1 g2 g3 : my_H} {S : Int → Int} {v r m n w by' kept row key f t c k2 z : Int} (m0 : m + n ≤ 9) (n1 : 1 ≤ n) (m1 : 0 ≤ m) (r10 : row ≤ 10) (b0 : 0 ≤ by') (b1 : by' < m) (p : FmI h g v m (m + n - 1) (zqO2 S m (4, by', w, n, (fun _ => 0))) kept row) (ek : key = g (v + 1) (17 * row + by')) (hs : zqHas S w key) (mv : Mv g g1 v row kept) (cc : CcI g1 g2 v r f t c) (eS : ∀ j : Int, g1 (r + 1) j = S j) (hf : f = 80 * w + 4 * key + 1) (ht : t = 17 * kept + m) (hc : c = n - 1) (e3 : g3 = my_up g2 (v + 3) k2 z) : FmI h g3 v m (m + n - 1) (zqO2 S m (4, by', w, n, (fun _ => 0))) (kept + 1) (row + 1) := by
  subst hf; subst ht; subst hc
  obtain ⟨c1, c2⟩ := cc
  refine JoinI_y (g1 := g1) m0 n1 m1 r10 b0 b1 p ek hs mv.1 mv.2 (fun i a b => ?_) (fun j a b => ?_)
  · rw [my_up_ne e3 (by omega), show kept * 17 + m + i = 17 * kept + m + i by omega, c1 i a b, eS]
  · rw [my_up_ne e3 (by omega)]
    exact c2 j (by omega) (by omega)
theorem FmI_ev {h g : my_H} {v m m' kept row by' key : Int} {f : Int × zqR → Option (Int × zqR)} (r10 : row ≤ 10) (b0 : 0 ≤ by') (b1 : by' < m) (m8 : m ≤ 16) (p : FmI h g v m m' f kept row) (ek : key = g (v + 1) (17 * row + by')) : (zqE h v m row.toNat).2 by' = key := by
  have r0 := p.1
  have r1 := p.2.1
  rw [zqE_at (by omega) b0 b1, ek]
  exact (p.2.2.1 _ (by omega) (by omega)).symm
theorem FmI_tg {h g g1 g2 : my_H} {v m m' kept row t k : Int} {f : Int × zqR → Option (Int × zqR)} (r10 : row ≤ 10) (p : FmI h g v m m' f kept row) (mv : Mv g g1 v row kept) (e2 : g2 (v + 1) k = g1 (v + 1) k) (hk : k = 17 * kept + 16) (et : t = g2 (v + 1) k) : (zqE h v m row.toNat).1 = t := by
  have r0 := p.1
  have r1 := p.2.1
  show h (v + 1) (17 * (row.toNat : Int) + 16) = t
  rw [Int.toNat_of_nonneg (by omega), et, e2, hk, mv.1 16 (by omega) (by omega)]
  exact (p.2.2.1 _ (by omega) (by omega)).symm
end ZQQ
