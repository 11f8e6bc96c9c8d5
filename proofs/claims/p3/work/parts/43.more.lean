/-! rules: what else there is -/
section MYD
variable {l : Launch} {rho : Nat → Int32} {d m pc : Nat} {ls ls' ls0 st st' r as : List my_V} {h : my_H} {Q : my_H → my_V → Prop} {ins : Instr} {a b w nL np ci : Nat} {rt : Option FieldType}
theorem w_dup {v : my_V} (hpg : mz_pg m pc = some (.dup, a, b, w)) (hv : mx_isJ (my_val v) = false) (k : wp l rho d m (pc + 1) ls (v :: v :: r) h Q) : wp l rho d m pc ls (v :: r) h Q :=
  w_st (st' := v :: v :: r) hpg (fun a2 => ⟨a2.p a2.c.1, fun L => by simp [mx_s1, hv]⟩) k
theorem w_pop {v : my_V} (hpg : mz_pg m pc = some (.pop, a, b, w)) (hv : mx_isJ (my_val v) = false) (k : wp l rho d m (pc + 1) ls r h Q) : wp l rho d m pc ls (v :: r) h Q :=
  w_st (st' := r) hpg (fun a2 => ⟨a2.c.2, fun L => by simp [mx_s1, hv]⟩) k
theorem w_dup2 {u v : my_V} (hpg : mz_pg m pc = some (.dup2, a, b, w)) (hu : mx_isJ (my_val u) = false) (hv : mx_isJ (my_val v) = false) (k : wp l rho d m (pc + 1) ls (u :: v :: u :: v :: r) h Q) : wp l rho d m pc ls (u :: v :: r) h Q :=
  w_st (st' := u :: v :: u :: v :: r) hpg (fun a2 => ⟨(a2.p a2.c.2.c.1).p a2.c.1, fun L => by simp [mx_s1, hu, hv]⟩) k
theorem w_dupx {u v : my_V} (hpg : mz_pg m pc = some (.dup_x1, a, b, w)) (hu : mx_isJ (my_val u) = false) (hv : mx_isJ (my_val v) = false) (k : wp l rho d m (pc + 1) ls (u :: v :: u :: r) h Q) : wp l rho d m pc ls (u :: v :: r) h Q :=
  w_st (st' := u :: v :: u :: r) hpg (fun a2 => ⟨((a2.c.2.c.2.p a2.c.1).p a2.c.2.c.1).p a2.c.1, fun L => by simp [mx_s1, hu, hv]⟩) k
theorem my_full1 (x : Int32) : -2147483648 ≤ x.toInt := by
  have := x.le_toInt; omega
theorem my_full2 (x : Int32) : x.toInt ≤ 2147483647 := by
  have := x.toInt_lt; omega
theorem my_iand {x y : Int32} (hy : 0 ≤ y.toInt) : 0 ≤ (x &&& y).toInt ∧ (x &&& y).toInt ≤ y.toInt := by
  have e1 := fz_int (x &&& y)
  have e2 := fz_int y
  have e3 : fz_n (x &&& y) ≤ fz_n y := by
    show (x.toBitVec &&& y.toBitVec).toNat ≤ y.toBitVec.toNat
    rw [BitVec.toNat_and]
    exact Nat.and_le_right
  have e4 := fz_n_lt y
  rw [e1]
  rw [e2] at hy ⊢
  split at hy
  next q => rw [if_pos q, if_pos (by omega)]; omega
  next q => omega
/-- and with a mask -/
theorem w_iandM {x c : Int} (hpg : mz_pg m pc = some (.iand, a, b, w)) (hc : 0 ≤ c) (k : ∀ z : Int, 0 ≤ z → z ≤ c → wp l rho d m (pc + 1) ls ((0, z) :: r) h Q) : wp l rho d m pc ls ((0, c) :: (0, x) :: r) h Q := by
  intro a1 a2
  have hcr : (Int32.ofInt c).toInt = c := my_toInt a2.c.1
  obtain ⟨q1, q2⟩ := my_iand (x := Int32.ofInt x) (y := Int32.ofInt c) (by rw [hcr]; exact hc)
  rw [hcr] at q2
  exact w_st (st' := (0, (Int32.ofInt x &&& Int32.ofInt c).toInt) :: r) hpg (fun a2 => ⟨a2.c.2.c.2.p (my_fullI _), fun L => by
    show (mx_b2 .iand (((0, c) :: (0, x) :: r : List my_V).map my_val)).map (fun q => (L, q)) = _
    exact my_b2 (by simp only [mx_ar, Int32.ofInt_toInt])⟩) (k _ q1 q2) a1 a2
theorem w_ianyA {x y : Int} (hpg : mz_pg m pc = some (.iadd, a, b, w)) (k : ∀ z : Int, -2147483648 ≤ z → z ≤ 2147483647 → wp l rho d m (pc + 1) ls ((0, z) :: r) h Q) : wp l rho d m pc ls ((0, y) :: (0, x) :: r) h Q := w_any2 hpg (fun _ => rfl) rfl k
theorem w_ianyS {x y : Int} (hpg : mz_pg m pc = some (.isub, a, b, w)) (k : ∀ z : Int, -2147483648 ≤ z → z ≤ 2147483647 → wp l rho d m (pc + 1) ls ((0, z) :: r) h Q) : wp l rho d m pc ls ((0, y) :: (0, x) :: r) h Q := w_any2 hpg (fun _ => rfl) rfl k
theorem w_ianyM {x y : Int} (hpg : mz_pg m pc = some (.imul, a, b, w)) (k : ∀ z : Int, -2147483648 ≤ z → z ≤ 2147483647 → wp l rho d m (pc + 1) ls ((0, z) :: r) h Q) : wp l rho d m pc ls ((0, y) :: (0, x) :: r) h Q := w_any2 hpg (fun _ => rfl) rfl k
theorem w_ianyN {x y : Int} (hpg : mz_pg m pc = some (.iand, a, b, w)) (k : ∀ z : Int, -2147483648 ≤ z → z ≤ 2147483647 → wp l rho d m (pc + 1) ls ((0, z) :: r) h Q) : wp l rho d m pc ls ((0, y) :: (0, x) :: r) h Q := w_any2 hpg (fun _ => rfl) rfl k
theorem w_ianyO {x y : Int} (hpg : mz_pg m pc = some (.ior, a, b, w)) (k : ∀ z : Int, -2147483648 ≤ z → z ≤ 2147483647 → wp l rho d m (pc + 1) ls ((0, z) :: r) h Q) : wp l rho d m pc ls ((0, y) :: (0, x) :: r) h Q := w_any2 hpg (fun _ => rfl) rfl k
theorem w_ianyL {x y : Int} (hpg : mz_pg m pc = some (.ishl, a, b, w)) (k : ∀ z : Int, -2147483648 ≤ z → z ≤ 2147483647 → wp l rho d m (pc + 1) ls ((0, z) :: r) h Q) : wp l rho d m pc ls ((0, y) :: (0, x) :: r) h Q := w_any2 hpg (fun _ => rfl) rfl k
theorem w_ianyR {x y : Int} (hpg : mz_pg m pc = some (.ishr, a, b, w)) (k : ∀ z : Int, -2147483648 ≤ z → z ≤ 2147483647 → wp l rho d m (pc + 1) ls ((0, z) :: r) h Q) : wp l rho d m pc ls ((0, y) :: (0, x) :: r) h Q := w_any2 hpg (fun _ => rfl) rfl k
theorem my_nz {c : Int} (h1 : 0 < c) (h2 : my_in (0, c)) : ¬ Int32.ofInt c = 0 := by
  rw [my_zero, my_eqI h2 my_in0]; omega
theorem my_divq {x c : Int} (h0 : 0 ≤ x) (hc : 0 < c) (hx : my_in (0, x)) (hcr : my_in (0, c)) : Int32.ofInt x / Int32.ofInt c = Int32.ofInt (x / c) := by
  apply Int32.toInt_inj.mp
  have h1 : x / c ≤ x := Int.ediv_le_self c h0
  have h2 : 0 ≤ x / c := Int.ediv_nonneg h0 (by omega)
  have hx2 : -2147483648 ≤ x ∧ x ≤ 2147483647 := hx
  rw [Int32.toInt_div_of_ne_right _ _ (fun e => by
    have := congrArg Int32.toInt e
    rw [my_toInt hcr] at this
    have e2 : (-1 : Int32).toInt = -1 := by decide
    omega), my_toInt hx, my_toInt hcr, my_toInt (x := x / c) ⟨by show -2147483648 ≤ x / c; omega, by show x / c ≤ 2147483647; omega⟩, Int.tdiv_eq_ediv_of_nonneg h0]
theorem w_idiv {x c : Int} (hpg : mz_pg m pc = some (.idiv, a, b, w)) (h0 : 0 ≤ x) (hc : 0 < c) (k : wp l rho d m (pc + 1) ls ((0, x / c) :: r) h Q) : wp l rho d m pc ls ((0, c) :: (0, x) :: r) h Q :=
  w_st (st' := (0, x / c) :: r) hpg (fun a2 => by
    have hx : my_in (0, x) := a2.c.2.c.1
    have h1 : x / c ≤ x := Int.ediv_le_self c h0
    have h2 : 0 ≤ x / c := Int.ediv_nonneg h0 (by omega)
    have hx2 : -2147483648 ≤ x ∧ x ≤ 2147483647 := hx
    refine ⟨a2.c.2.c.2.p (v := (0, x / c)) ⟨by show -2147483648 ≤ x / c; omega, by show x / c ≤ 2147483647; omega⟩, fun L => ?_⟩
    show (mx_b2 .idiv (((0, c) :: (0, x) :: r : List my_V).map my_val)).map (fun q => (L, q)) = _
    exact my_b2 (by simp only [mx_ar, if_neg (my_nz hc a2.c.1), my_divq h0 hc hx a2.c.1])) k
theorem w_irem {x c : Int} (hpg : mz_pg m pc = some (.irem, a, b, w)) (h0 : 0 ≤ x) (hc : 0 < c) (k : wp l rho d m (pc + 1) ls ((0, x % c) :: r) h Q) : wp l rho d m pc ls ((0, c) :: (0, x) :: r) h Q :=
  w_st (st' := (0, x % c) :: r) hpg (fun a2 => by
    have hx : my_in (0, x) := a2.c.2.c.1
    have hx2 : -2147483648 ≤ x ∧ x ≤ 2147483647 := hx
    have h2 : 0 ≤ x % c := Int.emod_nonneg x (by omega)
    have h3 : x % c < c := Int.emod_lt_of_pos x hc
    have hc2 : -2147483648 ≤ c ∧ c ≤ 2147483647 := a2.c.1
    refine ⟨a2.c.2.c.2.p (v := (0, x % c)) ⟨by show -2147483648 ≤ x % c; omega, by show x % c ≤ 2147483647; omega⟩, fun L => ?_⟩
    show (mx_b2 .irem (((0, c) :: (0, x) :: r : List my_V).map my_val)).map (fun q => (L, q)) = _
    have e : x % c = x - x / c * c := by rw [Int.emod_def, Int.mul_comm]
    exact my_b2 (by simp only [mx_ar, if_neg (my_nz hc a2.c.1), my_divq h0 hc hx a2.c.1, e, Int32.ofInt_sub, Int32.ofInt_mul])) k
theorem w_ianyD {x c : Int} (hpg : mz_pg m pc = some (.idiv, a, b, w)) (hc : 0 < c) (k : ∀ z : Int, -2147483648 ≤ z → z ≤ 2147483647 → wp l rho d m (pc + 1) ls ((0, z) :: r) h Q) : wp l rho d m pc ls ((0, c) :: (0, x) :: r) h Q := fun a1 a2 =>
  w_any2 hpg (fun _ => rfl) (by simp only [mx_ar, if_neg (my_nz hc a2.c.1), Option.isSome_some]) k a1 a2
theorem w_ianyQ {x c : Int} (hpg : mz_pg m pc = some (.irem, a, b, w)) (hc : 0 < c) (k : ∀ z : Int, -2147483648 ≤ z → z ≤ 2147483647 → wp l rho d m (pc + 1) ls ((0, z) :: r) h Q) : wp l rho d m pc ls ((0, c) :: (0, x) :: r) h Q := fun a1 a2 =>
  w_any2 hpg (fun _ => rfl) (by simp only [mx_ar, if_neg (my_nz hc a2.c.1), Option.isSome_some]) k a1 a2
/-- longs: some long comes out -/
theorem my_b2L {x y z : Int} {i2 : Instr} {L : mx_L} (hz : mx_arL i2 (Int64.ofInt x) (Int64.ofInt y) = some (Int64.ofInt z)) : (mx_b2L i2 (((1, y) :: (1, x) :: r : List my_V).map my_val)).map (fun q => (L, q)) = some (L, ((1, z) :: r : List my_V).map my_val) := by
  simp only [List.map_cons, my_val, mx_b2L, hz, Option.map_some]
theorem my_b2S {x y z : Int} {i2 : Instr} {L : mx_L} (hz : mx_arS i2 (Int64.ofInt x) (Int32.ofInt y) = some (Int64.ofInt z)) : (mx_b2S i2 (((0, y) :: (1, x) :: r : List my_V).map my_val)).map (fun q => (L, q)) = some (L, ((1, z) :: r : List my_V).map my_val) := by
  simp only [List.map_cons, my_val, mx_b2S, hz, Option.map_some]
theorem w_jany2 {x y : Int} (hpg : mz_pg m pc = some (ins, a, b, w)) (hs : ∀ L, mx_s1 (mz_mt m).2.2.1 ins L (((1, y) :: (1, x) :: r : List my_V).map my_val) = (mx_b2L ins (((1, y) :: (1, x) :: r : List my_V).map my_val)).map (fun q => (L, q))) (hd : (mx_arL ins (Int64.ofInt x) (Int64.ofInt y)).isSome = true) (k : ∀ z : Int, my_in (1, z) → wp l rho d m (pc + mx_len ins) ls ((1, z) :: r) h Q) : wp l rho d m pc ls ((1, y) :: (1, x) :: r) h Q := by
  obtain ⟨z, hz⟩ := Option.isSome_iff_exists.mp hd
  have hf := my_fullJ z
  exact w_st hpg (st' := (1, z.toInt) :: r) (fun a2 => ⟨a2.c.2.c.2.p hf, fun L => by rw [hs L]; exact my_b2L (by rw [hz, Int64.ofInt_toInt])⟩) (k _ hf)
theorem w_jshf {x y : Int} (hpg : mz_pg m pc = some (ins, a, b, w)) (hs : ∀ L, mx_s1 (mz_mt m).2.2.1 ins L (((0, y) :: (1, x) :: r : List my_V).map my_val) = (mx_b2S ins (((0, y) :: (1, x) :: r : List my_V).map my_val)).map (fun q => (L, q))) (hd : (mx_arS ins (Int64.ofInt x) (Int32.ofInt y)).isSome = true) (k : ∀ z : Int, my_in (1, z) → wp l rho d m (pc + mx_len ins) ls ((1, z) :: r) h Q) : wp l rho d m pc ls ((0, y) :: (1, x) :: r) h Q := by
  obtain ⟨z, hz⟩ := Option.isSome_iff_exists.mp hd
  have hf := my_fullJ z
  exact w_st hpg (st' := (1, z.toInt) :: r) (fun a2 => ⟨a2.c.2.c.2.p hf, fun L => by rw [hs L]; exact my_b2S (by rw [hz, Int64.ofInt_toInt])⟩) (k _ hf)
theorem w_i2l {x : Int} (hpg : mz_pg m pc = some (.i2l, a, b, w)) (k : wp l rho d m (pc + 1) ls ((1, x) :: r) h Q) : wp l rho d m pc ls ((0, x) :: r) h Q :=
  w_st (st' := (1, x) :: r) hpg (fun a2 => by
    have hx : -2147483648 ≤ x ∧ x ≤ 2147483647 := a2.c.1
    refine ⟨a2.c.2.p (v := (1, x)) ⟨by show -9223372036854775808 ≤ x; omega, by show x ≤ 9223372036854775807; omega⟩, fun L => ?_⟩
    have e : (Int32.ofInt x).toInt64 = Int64.ofInt x := by
      apply Int64.toInt_inj.mp
      rw [Int32.toInt_toInt64, my_toInt a2.c.1, Int64.toInt_ofInt_of_le (by omega) (by omega)]
    simp [mx_s1, my_val, e]) k
theorem w_l2i {x : Int} (hpg : mz_pg m pc = some (.l2i, a, b, w)) (k : ∀ z : Int, -2147483648 ≤ z → z ≤ 2147483647 → wp l rho d m (pc + 1) ls ((0, z) :: r) h Q) : wp l rho d m pc ls ((1, x) :: r) h Q :=
  w_st (st' := (0, (Int64.ofInt x).toInt32.toInt) :: r) hpg (fun a2 => ⟨a2.c.2.p (my_fullI _), fun L => by simp only [mx_s1, List.map_cons, my_val, Int32.ofInt_toInt]⟩) (k _ (my_full1 _) (my_full2 _))
theorem my_lcmp (x y : Int64) : -1 ≤ (lg_cmp x y).toInt ∧ (lg_cmp x y).toInt ≤ 1 := by
  unfold lg_cmp
  repeat' split
  all_goals decide
theorem w_lcmp {x y : Int} (hpg : mz_pg m pc = some (.lcmp, a, b, w)) (k : ∀ z : Int, -1 ≤ z → z ≤ 1 → wp l rho d m (pc + 1) ls ((0, z) :: r) h Q) : wp l rho d m pc ls ((1, y) :: (1, x) :: r) h Q :=
  w_st (st' := (0, (lg_cmp (Int64.ofInt x) (Int64.ofInt y)).toInt) :: r) hpg (fun a2 => ⟨a2.c.2.c.2.p (my_fullI _), fun L => by simp only [mx_s1, List.map_cons, my_val, Int32.ofInt_toInt]⟩) (k _ (my_lcmp _ _).1 (my_lcmp _ _).2)
theorem w_i2b {x : Int} (hpg : mz_pg m pc = some (.i2b, a, b, w)) (h1 : -128 ≤ x) (h2 : x ≤ 127) (k : wp l rho d m (pc + 1) ls ((0, x) :: r) h Q) : wp l rho d m pc ls ((0, x) :: r) h Q :=
  w_st (st' := (0, x) :: r) hpg (fun a2 => ⟨a2, fun L => by
    have e : (Int32.ofInt x).toInt8.toInt32 = Int32.ofInt x := by
      apply Int32.toInt_inj.mp
      rw [Int8.toInt_toInt32, Int32.toInt_toInt8, my_toInt a2.c.1, Int.bmod_eq_of_le (by omega) (by omega)]
    simp only [mx_s1, List.map_cons, my_val, e]⟩) k
/-- frames: only cells of these roles (and fields; -1: all) have changed -/
def my_md (T : List (Nat × Int)) (k j : Int) : Bool := T.any (fun q => my_ot k.toNat == q.1 && (q.2 == -1 || q.2 == j))
def my_fr (T : List (Nat × Int)) (h h' : my_H) : Prop := ∀ k j : Int, my_md T k j = false → h' k j = h k j
theorem my_fr.rf {T : List (Nat × Int)} {h : my_H} : my_fr T h h := fun _ _ _ => rfl
theorem my_fr.tr {T : List (Nat × Int)} {h1 h2 h3 : my_H} (p : my_fr T h1 h2) (q : my_fr T h2 h3) : my_fr T h1 h3 := fun k j hk => (q k j hk).trans (p k j hk)
theorem my_fr.mo {T U : List (Nat × Int)} {h1 h2 : my_H} (p : my_fr T h1 h2) (hT : T.all (fun q => U.any (fun u => q.1 == u.1 && (u.2 == -1 || u.2 == q.2))) = true) : my_fr U h1 h2 := by
  intro k j hk
  refine p k j ?_
  cases hq : my_md T k j with
  | false => rfl
  | true =>
    obtain ⟨q, q1, q2⟩ := List.any_eq_true.mp hq
    obtain ⟨u, u1, u2⟩ := List.any_eq_true.mp (List.all_eq_true.mp hT q q1)
    simp only [Bool.and_eq_true, Bool.or_eq_true, beq_iff_eq] at q2 u2
    have : my_md U k j = true := by
      refine List.any_eq_true.mpr ⟨u, u1, ?_⟩
      simp only [Bool.and_eq_true, Bool.or_eq_true, beq_iff_eq]
      refine ⟨q2.1.trans u2.1, ?_⟩
      rcases u2.2 with e | e
      · exact Or.inl e
      · rcases q2.2 with e3 | e3
        · exact Or.inl (by omega)
        · exact Or.inr (by omega)
    rw [hk] at this
    cases this
theorem my_fr.up {T : List (Nat × Int)} {h h' h2 : my_H} {ρ : Nat} {x j y : Int} (p : my_fr T h h') (hx : my_is ρ x) (e : h2 = my_up h' x j y) (hT : T.any (fun q => ρ == q.1 && (q.2 == -1 || q.2 == j)) = true) : my_fr T h h2 := by
  subst e
  intro k i hk
  rw [← p k i hk]
  show (if k = x ∧ i = j then y else h' k i) = h' k i
  by_cases q : k = x ∧ i = j
  · obtain ⟨rfl, rfl⟩ := q
    exfalso
    have : my_md T k i = true := by
      unfold my_md
      rw [hx.2.2]
      exact hT
    rw [hk] at this
    cases this
  · exact if_neg q
theorem my_fr.at {T : List (Nat × Int)} {h h' : my_H} {ρ : Nat} {x j : Int} (p : my_fr T h h') (hx : my_is ρ x) (hT : T.any (fun q => ρ == q.1 && (q.2 == -1 || q.2 == j)) = false) : h' x j = h x j := by
  refine p x j ?_
  unfold my_md
  rw [hx.2.2]
  exact hT
theorem my_up_self {h h' : my_H} {x j y : Int} (e : h' = my_up h x j y) : h' x j = y := by
  subst e
  exact if_pos ⟨rfl, rfl⟩
theorem my_up_fld {h h' : my_H} {x a j i y : Int} (e : h' = my_up h a j y) (hij : i ≠ j) : h' x i = h x i := by
  subst e
  exact if_neg (fun q => hij q.2)
theorem my_up_role {h h' : my_H} {ρ ρ' : Nat} {x a j i y : Int} (e : h' = my_up h a j y) (hx : my_is ρ x) (ha : my_is ρ' a) (hr : Nat.beq ρ ρ' = false) : h' x i = h x i := by
  subst e
  refine if_neg (fun q => ?_)
  have e1 := hx.2.2
  rw [q.1, ha.2.2] at e1
  rw [e1, Nat.beq_refl] at hr
  cases hr
end MYD
