/-! longs as bits, exactly -/
section ZQK
def jnd (x y : Int) : Int := (Int64.ofInt x &&& Int64.ofInt y).toInt
def jor (x y : Int) : Int := (Int64.ofInt x ||| Int64.ofInt y).toInt
def jsl (x y : Int) : Int := (Int64.ofInt x <<< ((Int32.ofInt y).toInt64 &&& 63)).toInt
def jsr (x y : Int) : Int := (Int64.ofInt x >>> ((Int32.ofInt y).toInt64 &&& 63)).toInt
section
variable {l : Launch} {rho : Nat → Int32} {d m pc : Nat} {ls : List my_V} {r : List my_V} {h : my_H} {Q : my_H → my_V → Prop} {a b w : Nat} {ins : Instr} {x y : Int}
theorem w_J2 {z : Int64} (hpg : mz_pg m pc = some (ins, a, b, w)) (hs : ∀ L, mx_s1 (mz_mt m).2.2.1 ins L (((1, y) :: (1, x) :: r : List my_V).map my_val) = (mx_b2L ins (((1, y) :: (1, x) :: r : List my_V).map my_val)).map (fun q => (L, q))) (hd : mx_arL ins (Int64.ofInt x) (Int64.ofInt y) = some z) (k : my_in (1, z.toInt) → wp l rho d m (pc + mx_len ins) ls ((1, z.toInt) :: r) h Q) : wp l rho d m pc ls ((1, y) :: (1, x) :: r) h Q := by
  have hf := my_fullJ z
  exact w_st hpg (st' := (1, z.toInt) :: r) (fun a2 => ⟨a2.c.2.c.2.p hf, fun L => by rw [hs L]; exact my_b2L (by rw [hd, Int64.ofInt_toInt])⟩) (k hf)
theorem w_JS {z : Int64} (hpg : mz_pg m pc = some (ins, a, b, w)) (hs : ∀ L, mx_s1 (mz_mt m).2.2.1 ins L (((0, y) :: (1, x) :: r : List my_V).map my_val) = (mx_b2S ins (((0, y) :: (1, x) :: r : List my_V).map my_val)).map (fun q => (L, q))) (hd : mx_arS ins (Int64.ofInt x) (Int32.ofInt y) = some z) (k : my_in (1, z.toInt) → wp l rho d m (pc + mx_len ins) ls ((1, z.toInt) :: r) h Q) : wp l rho d m pc ls ((0, y) :: (1, x) :: r) h Q := by
  have hf := my_fullJ z
  exact w_st hpg (st' := (1, z.toInt) :: r) (fun a2 => ⟨a2.c.2.c.2.p hf, fun L => by rw [hs L]; exact my_b2S (by rw [hd, Int64.ofInt_toInt])⟩) (k hf)
theorem w_landX (hpg : mz_pg m pc = some (.land, a, b, w)) (k : ∀ z : Int, z = jnd x y → my_in (1, z) → wp l rho d m (pc + 1) ls ((1, z) :: r) h Q) : wp l rho d m pc ls ((1, y) :: (1, x) :: r) h Q := w_J2 hpg (fun _ => rfl) rfl (fun p => k _ rfl p)
theorem w_lorX (hpg : mz_pg m pc = some (.lor, a, b, w)) (k : ∀ z : Int, z = jor x y → my_in (1, z) → wp l rho d m (pc + 1) ls ((1, z) :: r) h Q) : wp l rho d m pc ls ((1, y) :: (1, x) :: r) h Q := w_J2 hpg (fun _ => rfl) rfl (fun p => k _ rfl p)
theorem w_lshlX (hpg : mz_pg m pc = some (.lshl, a, b, w)) (k : ∀ z : Int, z = jsl x y → my_in (1, z) → wp l rho d m (pc + 1) ls ((1, z) :: r) h Q) : wp l rho d m pc ls ((0, y) :: (1, x) :: r) h Q := w_JS hpg (fun _ => rfl) rfl (fun p => k _ rfl p)
theorem w_lshrX (hpg : mz_pg m pc = some (.lshr, a, b, w)) (k : ∀ z : Int, z = jsr x y → my_in (1, z) → wp l rho d m (pc + 1) ls ((1, z) :: r) h Q) : wp l rho d m pc ls ((0, y) :: (1, x) :: r) h Q := w_JS hpg (fun _ => rfl) rfl (fun p => k _ rfl p)
end
/-- a bit of a long -/
def zqlb (m c : Int) : Prop := (Int64.ofInt m).toBitVec.getLsbD c.toNat = true
theorem zqlb_all : ∀ v : Fin 60, ∀ u : Fin 60, ((1 : Int64) <<< ((Int32.ofInt ((v.val : Nat) : Int)).toInt64 &&& 63)).toBitVec.getLsbD u.val = true ↔ u = v := by decide +kernel
theorem zqlb_jsl {v u : Int} (v0 : 0 ≤ v) (v1 : v ≤ 59) (u0 : 0 ≤ u) (u1 : u ≤ 59) : zqlb (jsl 1 v) u ↔ u = v := by
  have q := zqlb_all ⟨v.toNat, by omega⟩ ⟨u.toNat, by omega⟩
  simp only [Int.toNat_of_nonneg v0, Fin.mk.injEq] at q
  unfold zqlb jsl
  rw [Int64.ofInt_toInt]
  exact q.trans (by omega)
theorem zqlb_jor {m k u : Int} : zqlb (jor m k) u ↔ zqlb m u ∨ zqlb k u := by
  unfold zqlb jor
  rw [Int64.ofInt_toInt, Int64.toBitVec_or, BitVec.getLsbD_or, Bool.or_eq_true]
theorem zqlb_0 {u : Int} : ¬ zqlb 0 u := by
  unfold zqlb
  rw [show (Int64.ofInt 0).toBitVec = 0#64 from rfl, BitVec.getLsbD_zero]
  decide
theorem zqlb_mall : ∀ u : Fin 60, (Int64.ofInt (-1)).toBitVec.getLsbD u.val = true := by decide +kernel
theorem zqlb_m1 {u : Int} (u0 : 0 ≤ u) (u1 : u ≤ 59) : zqlb (-1) u := zqlb_mall ⟨u.toNat, by omega⟩
theorem zqlb_sh : ∀ c : Fin 60, (((Int32.ofInt ((c.val : Nat) : Int)).toInt64 &&& 63).toBitVec.smod 64).toNat = c.val := by decide +kernel
theorem zqlb_one {x : Int64} : (x &&& 1).toInt = 0 ↔ x.toBitVec.getLsbD 0 = false := by
  have e1 : ∀ i, (1 : Int64).toBitVec.getLsbD i = decide (i = 0) := fun i => by
    rw [show (1 : Int64).toBitVec = 1#64 from rfl, BitVec.getLsbD_one]
    simp
  constructor
  · intro h
    have e : x &&& 1 = 0 := Int64.toInt_inj.mp h
    have q : (x &&& 1).toBitVec.getLsbD 0 = false := by rw [e]; rfl
    rw [Int64.toBitVec_and, BitVec.getLsbD_and, e1] at q
    simpa using q
  · intro h
    have e : x &&& 1 = 0 := by
      apply Int64.toBitVec_inj.mp
      apply BitVec.eq_of_getLsbD_eq
      intro i hi
      rw [Int64.toBitVec_and, BitVec.getLsbD_and, e1, show (0 : Int64).toBitVec = 0#64 from rfl, BitVec.getLsbD_zero]
      by_cases z : i = 0
      · subst z; rw [h]; rfl
      · rw [decide_eq_false z, Bool.and_false]
    rw [e]; rfl
/-- hasBit -/
theorem zqlb_has {m c : Int} (c0 : 0 ≤ c) (c1 : c ≤ 59) : jnd (jsr m c) 1 = 0 ↔ ¬ zqlb m c := by
  unfold jnd jsr
  rw [Int64.ofInt_toInt, show Int64.ofInt 1 = 1 from rfl, zqlb_one, Int64.toBitVec_shiftRight, BitVec.getLsbD_sshiftRight']
  have q := zqlb_sh ⟨c.toNat, by omega⟩
  simp only [Int.toNat_of_nonneg c0] at q
  rw [q, if_pos (by omega), Nat.add_zero]
  unfold zqlb
  cases (Int64.ofInt m).toBitVec.getLsbD c.toNat <;> simp
end ZQK
