/-! sayings of the reference: rows that go and come back -/
section MQK
theorem Rws_eq {h h' : my_H} (e : ∀ j : Int, h' 162 j = h 162 j) (p : Rws h) : Rws h' := by
  intro s w a b c d
  rw [rc_cg 20 (fun k _ => e _)]
  exact p s w a b c d
theorem Row_back {g g1 g2 g3 : my_H} {i i' : Int} (e1 : g1 = my_up g 162 i 0) (e : ∀ j : Int, g2 162 j = g1 162 j) (e3 : g3 = my_up g2 162 i' 1) (hi : i' = i) (h1 : g 162 i = 1) : ∀ j : Int, g3 162 j = g 162 j := by
  subst hi
  intro j
  by_cases q : j = i'
  · subst q
    rw [my_up_self e3, h1]
  · rw [my_up_ne e3 (by omega), e, my_up_ne e1 (by omega)]
theorem Wys_0 {h h' : my_H} (e : h' = my_up h 151 48 0) : Wys h' := fun n a b => by
  rw [my_up_self e] at b
  omega
end MQK
section MQL
theorem bsl_all : ∀ i : Fin 11, 1 ≤ bsl 1 ((i.val : Nat) : Int) ∧ bsl 1 ((i.val : Nat) : Int) ≤ 1024 := by decide +kernel
theorem bsl_bd {i : Int} (h0 : 0 ≤ i) (h1 : i ≤ 10) : 1 ≤ bsl 1 i ∧ bsl 1 i ≤ 1024 := by
  have q := bsl_all ⟨i.toNat, by omega⟩
  simp only [Int.toNat_of_nonneg h0] at q
  exact q
theorem bsl_0 : bsl 1 0 = 1 := by decide +kernel
theorem bor_all : ∀ i : Fin 10, ∀ m : Fin 512, ((m.val : Nat) : Int) < bsl 1 ((i.val : Nat) : Int) → 0 ≤ bor ((m.val : Nat) : Int) (bsl 1 ((i.val : Nat) : Int)) ∧ bor ((m.val : Nat) : Int) (bsl 1 ((i.val : Nat) : Int)) < bsl 1 ((((i.val + 1) : Nat)) : Int) ∧ ((m.val : Nat) : Int) < bsl 1 ((((i.val + 1) : Nat)) : Int) := by decide +kernel
theorem bsl_9 : ∀ i : Fin 10, bsl 1 ((i.val : Nat) : Int) ≤ 512 := by decide +kernel
theorem bor_bd {i m : Int} (h0 : 0 ≤ i) (h1 : i ≤ 9) (m0 : 0 ≤ m) (hm : m < bsl 1 i) : 0 ≤ bor m (bsl 1 i) ∧ bor m (bsl 1 i) < bsl 1 (i + 1) ∧ m < bsl 1 (i + 1) := by
  have e : ((i.toNat : Nat) : Int) = i := Int.toNat_of_nonneg h0
  have e1 : ((m.toNat : Nat) : Int) = m := Int.toNat_of_nonneg m0
  have e2 : (((i.toNat + 1) : Nat) : Int) = i + 1 := by omega
  have k := bsl_9 ⟨i.toNat, by omega⟩
  simp only [e] at k
  have q := bor_all ⟨i.toNat, by omega⟩ ⟨m.toNat, by omega⟩
  simp only [e, e1, e2] at q
  exact q hm
theorem bor_0 : ∀ m : Fin 1024, bor ((m.val : Nat) : Int) 0 = ((m.val : Nat) : Int) := by decide +kernel
theorem bor_z {m : Int} (m0 : 0 ≤ m) (m1 : m ≤ 1023) : bor m 0 = m := by
  have q := bor_0 ⟨m.toNat, by omega⟩
  simp only [Int.toNat_of_nonneg m0] at q
  exact q
end MQL
