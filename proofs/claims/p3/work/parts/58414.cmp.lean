/-! comparing rows, sorting, dropping one: steps for the walks -/
section ZQO
/-- values that can be taken from one another -/
def zqBe (r : zqR) : Prop := ∀ j : Int, 0 ≤ r j ∧ r j ≤ 9999
def zqCmp (a b : zqR) (y : Int) : Prop := (y = 0 → a = b) ∧ (y < 0 → zqlt a b) ∧ (0 < y → zqlt b a)
theorem zqCmp_le {a b : zqR} {y : Int} (p : zqCmp a b y) (h : y ≤ 0) : zqle a b := by
  by_cases z : y = 0
  · exact Or.inl (p.1 z)
  · exact Or.inr (p.2.1 (by omega))
theorem zqCmp_ge {a b : zqR} {y : Int} (p : zqCmp a b y) (h : 0 ≤ y) : zqle b a := by
  by_cases z : y = 0
  · exact Or.inl (p.1 z).symm
  · exact Or.inr (p.2.2 (by omega))
theorem zqCmp_ne {a b : zqR} {y : Int} (p : zqCmp a b y) (h : y ≠ 0) (e : a = b) : False := by
  subst e
  rcases Int.lt_trichotomy y 0 with z | z | z
  · exact zqlt_ir (p.2.1 z)
  · exact h z
  · exact zqlt_ir (p.2.2 z)
theorem zqE_at {h : my_H} {v m i j : Int} (i0 : 0 ≤ i) (j0 : 0 ≤ j) (jm : j < m) : (zqE h v m i.toNat).2 j = h (v + 1) (17 * i + j) := by
  show (if 0 ≤ j ∧ j < m then h (v + 1) (17 * (i.toNat : Int) + j) else 0) = _
  rw [if_pos ⟨j0, jm⟩, Int.toNat_of_nonneg i0]
theorem zqE_out {h : my_H} {v m j : Int} {i : Nat} (hj : j < 0 ∨ m ≤ j) : (zqE h v m i).2 j = 0 := if_neg (by omega)
theorem zqE_bd {h : my_H} {v m i j : Int} (p : zqBe (zqE h v m i.toNat).2) (i0 : 0 ≤ i) (j0 : 0 ≤ j) (jm : j < m) : 0 ≤ h (v + 1) (17 * i + j) ∧ h (v + 1) (17 * i + j) ≤ 9999 := by
  have q := p j
  rw [zqE_at i0 j0 jm] at q
  exact q
theorem zqCmp_0 {h : my_H} {v u m i k : Int} (i0 : 0 ≤ i) (k0 : 0 ≤ k) (e : ∀ j : Int, 0 ≤ j → j < m → h (v + 1) (17 * i + j) = h (u + 1) (17 * k + j)) : zqCmp (zqE h v m i.toNat).2 (zqE h u m k.toNat).2 0 := by
  refine ⟨fun _ => funext fun j => ?_, fun z => by omega, fun z => by omega⟩
  by_cases q : 0 ≤ j ∧ j < m
  · rw [zqE_at i0 q.1 q.2, zqE_at k0 q.1 q.2]; exact e j q.1 q.2
  · rw [zqE_out (by omega), zqE_out (by omega)]
theorem zqCmp_d {h : my_H} {v u m i k c y : Int} (i0 : 0 ≤ i) (k0 : 0 ≤ k) (e : ∀ j : Int, 0 ≤ j → j < c → h (v + 1) (17 * i + j) = h (u + 1) (17 * k + j)) (c0 : 0 ≤ c) (cm : c < m) (ey : y = h (v + 1) (17 * i + c) - h (u + 1) (17 * k + c)) (ne : y ≠ 0) : zqCmp (zqE h v m i.toNat).2 (zqE h u m k.toNat).2 y := by
  refine ⟨fun z => absurd z ne, fun z => ⟨c, c0, fun j a b => ?_, ?_⟩, fun z => ⟨c, c0, fun j a b => ?_, ?_⟩⟩
  · rw [zqE_at i0 a (by omega), zqE_at k0 a (by omega)]; exact e j a b
  · rw [zqE_at i0 c0 cm, zqE_at k0 c0 cm]; omega
  · rw [zqE_at i0 a (by omega), zqE_at k0 a (by omega)]; exact (e j a b).symm
  · rw [zqE_at i0 c0 cm, zqE_at k0 c0 cm]; omega
theorem st_N0 {P : Nat → Prop} : ∀ i : Nat, (i : Int) < 0 → P i := fun i a => by omega
theorem st_N1 {P : Nat → Prop} {n : Int} (n0 : 0 ≤ n) (p : ∀ i : Nat, (i : Int) < n → P i) (q : P n.toNat) : ∀ i : Nat, (i : Int) < n + 1 → P i := fun i a => by
  by_cases z : i = n.toNat
  · rw [z]; exact q
  · exact p i (by omega)
theorem SrtI_0 {h : my_H} {v m n : Int} : SrtI h h v m n 1 := ⟨List.Perm.refl _, fun i j a b => by have q : (1 : Int).toNat = 1 := rfl; omega⟩
theorem SrtI_w {h g : my_H} {v m n row : Int} (p : SrtI h g v m n row) (hn : n ≤ row) : SrtI h g v m n n := ⟨p.1, fun i j a b => p.2 i j a (by omega)⟩
theorem SrtI_be {h g : my_H} {v m n row : Int} (p : SrtI h g v m n row) (hb : ∀ i : Nat, (i : Int) < n → zqBe (zqE h v m i).2) : ∀ i : Nat, (i : Int) < n → zqBe (zqE g v m i).2 := fun i hi => by
  have mem : zqE g v m i ∈ zqL (zqE g v m) n.toNat := zqL_mem.mpr ⟨i, by omega, rfl⟩
  obtain ⟨k, hk, e⟩ := zqL_mem.mp (p.1.mem_iff.mp mem)
  rw [← e]
  exact hb k (by omega)
/-- two views show the same -/
def zqSame (h : my_H) (v u : Int) : Prop := h v 0 = h u 0 ∧ h v 1 = h u 1 ∧ ∀ i : Nat, (i : Int) < h v 0 → (zqE h v (h v 1) i).2 = (zqE h u (h v 1) i).2
/-- a row goes, those behind it move up -/
def DrI (h g : my_H) (v row next : Int) : Prop := ∀ r j : Int, 0 ≤ r → r < 11 → 0 ≤ j → j < 17 → g (v + 1) (17 * r + j) = h (v + 1) (17 * (if row ≤ r ∧ r < next - 1 then r + 1 else r) + j)
theorem DrI_0 {h : my_H} {v row : Int} : DrI h h v row (row + 1) := fun r j a b c d => by rw [if_neg (by omega)]
theorem DrI_s {h g g2 : my_H} {v row next : Int} (n0 : row < next) (r0 : 0 ≤ row) (n1 : next ≤ 10) (p : DrI h g v row next) (e : g2 = my_cp g (v + 1) (next * 17) (v + 1) ((next - 1) * 17) 17) : DrI h g2 v row (next + 1) := fun r j a b c d => by
  by_cases z : r = next - 1
  · subst z
    rw [my_cp_in e (by omega) (by omega), show next * 17 + (17 * (next - 1) + j - (next - 1) * 17) = 17 * next + j by omega, p next j (by omega) (by omega) c d, if_neg (by omega), if_pos (by omega)]
    congr 1
    omega
  · rw [my_cp_ne e (by omega), p r j a b c d]
    by_cases q : row ≤ r ∧ r < next - 1
    · rw [if_pos q, if_pos (by omega)]
    · rw [if_neg q, if_neg (by omega)]
/-- the rows that stay -/
theorem DrI_e {h g : my_H} {v m row next : Int} (m0 : m ≤ 16) (r0 : 0 ≤ row) (p : DrI h g v row next) {i : Nat} (hi : (i : Int) < next - 1) (hn : next ≤ 12) (h11 : (i : Int) < 11) : zqE g v m i = zqE h v m (if row ≤ (i : Int) then i + 1 else i) := by
  by_cases q : row ≤ (i : Int)
  · rw [if_pos q]
    refine zqE_mv m0 (fun j a b => ?_)
    rw [p i j (by omega) h11 a b, if_pos (by omega)]
    congr 1
  · rw [if_neg q]
    refine zqE_mv m0 (fun j a b => ?_)
    rw [p i j (by omega) h11 a b, if_neg (by omega)]
end ZQO
