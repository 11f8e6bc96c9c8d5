/-! rows that tell -/
section ZSA
section
variable {l : Launch} {rho : Nat → Int32} {d m pc : Nat} {ls : List my_V} {r : List my_V} {h : my_H} {Q : my_H → my_V → Prop} {a b w : Nat}
theorem w_ldc2M {q : Nat} (hpg : mz_pg m pc = some (.ldc2_w q, 18446744073709551615, b, w)) (k : ∀ z : Int, z = -1 → my_in (1, z) → wp l rho d m (pc + 3) ls ((1, z) :: r) h Q) : wp l rho d m pc ls r h Q := by
  intro a1 a2 L H a3 a4
  have e1 : (Int64.ofNat 18446744073709551615).toInt = -1 := by decide
  have hf := my_fullJ (Int64.ofNat 18446744073709551615)
  obtain ⟨pc', L2, st2, H', h', i, v, b1, b2⟩ := k _ e1 hf a1 (a2.p hf) L H a3 a4
  refine ⟨pc', L2, st2, H', h', i, v, ok_s3 hpg ?_ rfl rfl b1, b2⟩
  simp only [mx_s3, List.map_cons, my_val, Int64.ofInt_toInt]
end
/-- the first row with a tag -/
def RoI (h : my_H) (v k r : Int) : Prop := (r = -1 ∧ ∀ i : Int, 0 ≤ i → i < h v 0 → h (v + 1) (17 * i + 16) ≠ k) ∨ (0 ≤ r ∧ r < h v 0 ∧ h (v + 1) (17 * r + 16) = k ∧ ∀ i : Int, 0 ≤ i → i < r → h (v + 1) (17 * i + 16) ≠ k)
theorem RoI_no {h : my_H} {v k n : Int} (p : ∀ i : Int, 0 ≤ i → i < n → h (v + 1) (17 * i + 16) ≠ k) (e : h v 0 ≤ n) : RoI h v k (-1) := Or.inl ⟨rfl, fun i a b => p i a (by omega)⟩
theorem RoI_yes {h : my_H} {v k r : Int} (r0 : 0 ≤ r) (r1 : r < h v 0) (t : h (v + 1) (17 * r + 16) = k) (p : ∀ i : Int, 0 ≤ i → i < r → h (v + 1) (17 * i + 16) ≠ k) : RoI h v k r := Or.inr ⟨r0, r1, t, p⟩
theorem RoI_u {h : my_H} {v k r r' : Int} (p : RoI h v k r) (q : RoI h v k r') : r = r' := by
  rcases p with ⟨a, b⟩ | ⟨a, b, c, d⟩
  · rcases q with ⟨a', b'⟩ | ⟨a', b', c', d'⟩
    · omega
    · exact absurd c' (b _ a' b')
  · rcases q with ⟨a', b'⟩ | ⟨a', b', c', d'⟩
    · exact absurd c (b' _ a b)
    · rcases (by omega : r < r' ∨ r = r' ∨ r' < r) with z | z | z
      · exact absurd c (d' _ a z)
      · exact z
      · exact absurd c' (d _ a' z)
/-- a key of the base by which an edit can be told -/
def TlK (h : my_H) (k : Int) : Prop := h 94 14 ≠ 0 ∨ ∃ r : Int, RoI h 98 k r ∧ ((r = -1 ∧ h 94 15 = 2) ∨ (r ≠ -1 ∧ h 94 15 ≠ 2 ∧ (zqE h 98 (h 98 1) r.toNat).2 = (zqE h 98 (h 98 1) (h 94 16).toNat).2))
theorem TlN {h : my_H} {k r : Int} (a : h 94 14 = 0) (ro : RoI h 98 k r) (z : (r = -1 ∧ h 94 15 ≠ 2) ∨ (r ≠ -1 ∧ (h 94 15 = 2 ∨ (zqE h 98 (h 98 1) r.toNat).2 ≠ (zqE h 98 (h 98 1) (h 94 16).toNat).2))) : ¬ TlK h k := by
  rintro (q | ⟨r', ro', q⟩)
  · exact q a
  · have e := RoI_u ro ro'
    subst e
    rcases z with ⟨z1, z2⟩ | ⟨z1, z2 | z2⟩
    · rcases q with ⟨q1, q2⟩ | ⟨q1, q2, q3⟩
      · exact z2 q2
      · exact q1 z1
    · rcases q with ⟨q1, q2⟩ | ⟨q1, q2, q3⟩
      · exact z1 q1
      · exact q2 z2
    · rcases q with ⟨q1, q2⟩ | ⟨q1, q2, q3⟩
      · exact z1 q1
      · exact z2 q3
/-- the rows of walls that tell, of the first n keys -/
def TeI (h : my_H) (b y n : Int) : Prop := ∀ c : Int, 0 ≤ c → c ≤ 59 → (zqlb y c ↔ ∃ k : Int, 0 ≤ k ∧ k < n ∧ h 96 (80 * b + 4 * k) ≠ -1 ∧ TlK h k ∧ zqlb (h 101 k) c)
theorem TeI_0 {h : my_H} {b y : Int} (e : y = 0) : TeI h b y 0 := fun c _ _ => by
  rw [e]
  exact ⟨fun z => absurd z zqlb_0, fun ⟨k, a, b, _⟩ => by omega⟩
theorem TeI_n {h : my_H} {b y n : Int} (p : TeI h b y n) (q : h 96 (80 * b + 4 * n) = -1 ∨ ¬ TlK h n) : TeI h b y (n + 1) := fun c c0 c1 => by
  rw [p c c0 c1]
  refine ⟨fun ⟨k, k0, k1, z⟩ => ⟨k, k0, by omega, z⟩, fun ⟨k, k0, k1, z1, z2, z3⟩ => ?_⟩
  by_cases e : k = n
  · rw [e] at z1 z2
    exact q.elim (fun x => absurd x z1) (fun x => absurd z2 x)
  · exact ⟨k, k0, by omega, z1, z2, z3⟩
theorem TeI_y {h : my_H} {b y y' v n : Int} (n0 : 0 ≤ n) (e : y' = jor y v) (p : TeI h b y n) (q : h 96 (80 * b + 4 * n) ≠ -1) (t : TlK h n) (ev : v = h 101 n) : TeI h b y' (n + 1) := fun c c0 c1 => by
  rw [e, zqlb_jor, p c c0 c1]
  constructor
  · rintro (⟨k, k0, k1, z⟩ | z)
    · exact ⟨k, k0, by omega, z⟩
    · exact ⟨n, n0, by omega, q, t, by rw [← ev]; exact z⟩
  · rintro ⟨k, k0, k1, z1, z2, z3⟩
    by_cases x : k = n
    · rw [x, ← ev] at z3
      exact Or.inr z3
    · exact Or.inl ⟨k, k0, by omega, z1, z2, z3⟩
end ZSA
