/-! bits, exactly; a mask of eight and how many lie in it -/
section MQA
def bsr (x y : Int) : Int := (Int32.ofInt x >>> (Int32.ofInt y &&& 31)).toInt
def bsl (x y : Int) : Int := (Int32.ofInt x <<< (Int32.ofInt y &&& 31)).toInt
def bor (x y : Int) : Int := (Int32.ofInt x ||| Int32.ofInt y).toInt
def bnd (x y : Int) : Int := (Int32.ofInt x &&& Int32.ofInt y).toInt
variable {l : Launch} {rho : Nat → Int32} {d m pc : Nat} {ls : List my_V} {r : List my_V} {h : my_H} {Q : my_H → my_V → Prop} {a b w : Nat} {ins : Instr} {x y : Int}
theorem w_X2 {z : Int32} (hpg : mz_pg m pc = some (ins, a, b, w)) (hs : ∀ L, mx_s1 (mz_mt m).2.2.1 ins L (((0, y) :: (0, x) :: r : List my_V).map my_val) = (mx_b2 ins (((0, y) :: (0, x) :: r : List my_V).map my_val)).map (fun q => (L, q))) (hd : mx_ar ins (Int32.ofInt x) (Int32.ofInt y) = some z) (k : -2147483648 ≤ z.toInt → z.toInt ≤ 2147483647 → wp l rho d m (pc + mx_len ins) ls ((0, z.toInt) :: r) h Q) : wp l rho d m pc ls ((0, y) :: (0, x) :: r) h Q := by
  have hf := my_fullI z
  exact w_st hpg (st' := (0, z.toInt) :: r) (fun a2 => ⟨a2.c.2.c.2.p hf, fun L => by rw [hs L]; exact my_b2 (by rw [hd, Int32.ofInt_toInt])⟩) (k hf.1 hf.2)
theorem w_ishrX (hpg : mz_pg m pc = some (.ishr, a, b, w)) (k : ∀ z : Int, z = bsr x y → -2147483648 ≤ z → z ≤ 2147483647 → wp l rho d m (pc + 1) ls ((0, z) :: r) h Q) : wp l rho d m pc ls ((0, y) :: (0, x) :: r) h Q := w_X2 hpg (fun _ => rfl) rfl (fun p q => k _ rfl p q)
theorem w_ishlX (hpg : mz_pg m pc = some (.ishl, a, b, w)) (k : ∀ z : Int, z = bsl x y → -2147483648 ≤ z → z ≤ 2147483647 → wp l rho d m (pc + 1) ls ((0, z) :: r) h Q) : wp l rho d m pc ls ((0, y) :: (0, x) :: r) h Q := w_X2 hpg (fun _ => rfl) rfl (fun p q => k _ rfl p q)
theorem w_iorX (hpg : mz_pg m pc = some (.ior, a, b, w)) (k : ∀ z : Int, z = bor x y → -2147483648 ≤ z → z ≤ 2147483647 → wp l rho d m (pc + 1) ls ((0, z) :: r) h Q) : wp l rho d m pc ls ((0, y) :: (0, x) :: r) h Q := w_X2 hpg (fun _ => rfl) rfl (fun p q => k _ rfl p q)
theorem w_iandX (hpg : mz_pg m pc = some (.iand, a, b, w)) (k : ∀ z : Int, z = bnd x y → -2147483648 ≤ z → z ≤ 2147483647 → wp l rho d m (pc + 1) ls ((0, z) :: r) h Q) : wp l rho d m pc ls ((0, y) :: (0, x) :: r) h Q := w_X2 hpg (fun _ => rfl) rfl (fun p q => k _ rfl p q)
theorem w_iandXM {c : Int} (hpg : mz_pg m pc = some (.iand, a, b, w)) (hc : 0 ≤ c) (k : ∀ z : Int, z = bnd x c → 0 ≤ z → z ≤ c → wp l rho d m (pc + 1) ls ((0, z) :: r) h Q) : wp l rho d m pc ls ((0, c) :: (0, x) :: r) h Q := by
  intro a1 a2
  have hcr : (Int32.ofInt c).toInt = c := my_toInt a2.c.1
  obtain ⟨q1, q2⟩ := my_iand (x := Int32.ofInt x) (y := Int32.ofInt c) (by rw [hcr]; exact hc)
  rw [hcr] at q2
  exact w_iandX hpg (fun z e p q => k z e (by rw [e]; exact q1) (by rw [e]; exact q2)) a1 a2
def pop8 (m : Int) : Int := bnd (bsr m 0) 1 + bnd (bsr m 1) 1 + bnd (bsr m 2) 1 + bnd (bsr m 3) 1 + bnd (bsr m 4) 1 + bnd (bsr m 5) 1 + bnd (bsr m 6) 1 + bnd (bsr m 7) 1
theorem pop8_all : ∀ m : Fin 256, ∀ v : Fin 8, bnd (bsr ((m.val : Nat) : Int) ((v.val : Nat) : Int)) 1 ≠ 1 → pop8 (bor ((m.val : Nat) : Int) (bsl 1 ((v.val : Nat) : Int))) = pop8 ((m.val : Nat) : Int) + 1 ∧ pop8 ((m.val : Nat) : Int) ≤ 7 ∧ 0 ≤ bor ((m.val : Nat) : Int) (bsl 1 ((v.val : Nat) : Int)) ∧ bor ((m.val : Nat) : Int) (bsl 1 ((v.val : Nat) : Int)) ≤ 255 := by decide +kernel
theorem pop8_add {m v : Int} (m0 : 0 ≤ m) (m1 : m ≤ 255) (v0 : 0 ≤ v) (v1 : v ≤ 7) (hb : bnd (bsr m v) 1 ≠ 1) : pop8 (bor m (bsl 1 v)) = pop8 m + 1 ∧ pop8 m ≤ 7 ∧ 0 ≤ bor m (bsl 1 v) ∧ bor m (bsl 1 v) ≤ 255 := by
  have e1 : ((m.toNat : Nat) : Int) = m := Int.toNat_of_nonneg m0
  have e2 : ((v.toNat : Nat) : Int) = v := Int.toNat_of_nonneg v0
  have q := pop8_all ⟨m.toNat, by omega⟩ ⟨v.toNat, by omega⟩
  simp only [e1, e2] at q
  exact q hb
theorem pop8_0 : pop8 0 = 0 := by decide +kernel
end MQA
