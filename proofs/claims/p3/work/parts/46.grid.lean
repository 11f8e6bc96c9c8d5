/-! rules: what is seen lies in rows of 17: 8 values, the 8 cells they come from, a tag -/
section MYY
variable {l : Launch} {rho : Nat → Int32} {d m pc : Nat} {ls ls' ls0 st st' r as : List my_V} {h : my_H} {Q : my_H → my_V → Prop} {ins : Instr} {a b w nL np ci : Nat} {rt : Option FieldType}
def my_gE : List my_E := [(0, -2147483648, 2147483647), (0, -2147483648, 2147483647), (0, -2147483648, 2147483647), (0, -2147483648, 2147483647), (0, -2147483648, 2147483647), (0, -2147483648, 2147483647), (0, -2147483648, 2147483647), (0, -2147483648, 2147483647), (0, -1, 239), (0, -1, 239), (0, -1, 239), (0, -1, 239), (0, -1, 239), (0, -1, 239), (0, -1, 239), (0, -1, 239), (0, 0, 19)]
theorem my_gV {c : Nat} (h : c ≤ 7) : my_gE[c]? = some (0, -2147483648, 2147483647) := by
  match c, h with
  | 0, _ => rfl
  | 1, _ => rfl
  | 2, _ => rfl
  | 3, _ => rfl
  | 4, _ => rfl
  | 5, _ => rfl
  | 6, _ => rfl
  | 7, _ => rfl
  | c + 8, h => exact absurd h (by omega)
theorem my_gS {c : Nat} (h1 : 8 ≤ c) (h : c ≤ 15) : my_gE[c]? = some (0, -1, 239) := by
  match c, h1, h with
  | 8, _, _ => rfl
  | 9, _, _ => rfl
  | 10, _, _ => rfl
  | 11, _, _ => rfl
  | 12, _, _ => rfl
  | 13, _, _ => rfl
  | 14, _, _ => rfl
  | 15, _, _ => rfl
  | c + 16, _, h => exact absurd h (by omega)
theorem my_gA (c : Nat) : ∃ e, my_gE[c % my_gE.length]? = some e ∧ e.1 = 0 := by
  have hl : my_gE.length = 17 := rfl
  rw [hl]
  have h17 : c % 17 < 17 := Nat.mod_lt _ (by decide)
  by_cases h1 : c % 17 ≤ 7
  · exact ⟨_, my_gV h1, rfl⟩
  · by_cases h2 : c % 17 ≤ 15
    · exact ⟨_, my_gS (by omega) h2, rfl⟩
    · have : c % 17 = 16 := by omega
      rw [this]
      exact ⟨_, rfl, rfl⟩
theorem my_toNat17 {i : Int} (h0 : 0 ≤ i) : ((i.toNat % 17 : Nat) : Int) = i % 17 := by omega
theorem w_gld {ρ : Nat} {e : my_E} {x i : Int} (hpg : mz_pg m pc = some (.iaload, a, b, w)) (hx : my_is ρ x) (hD : my_rd ρ = .inl (0, 204, my_gE)) (h0 : 0 ≤ i) (hn : i < 204) (he : my_gE[i.toNat % my_gE.length]? = some e) (h1 : e.1 = 0) (k : ∀ y, y = h x i → my_el e x y → wp l rho d m (pc + 1) ls ((0, y) :: r) h Q) : wp l rho d m pc ls ((0, i) :: (2, x) :: r) h Q := by
  obtain ⟨t, e2⟩ := e
  have h1 : t = 0 := h1
  subst h1
  exact w_ald (ty := .int) hx hD h0 (by omega) he hpg (fun H dd us g1 hj => by
    have ht : mx_isTy mz_P 0 .int = true := rfl
    simp [mx_s3, mx_aload, my_val, g1, ht, hj]) (fun _ q => q.2.2) (fun y e q => k y e q)
theorem w_gldA {ρ : Nat} {x i : Int} (hpg : mz_pg m pc = some (.iaload, a, b, w)) (hx : my_is ρ x) (hD : my_rd ρ = .inl (0, 204, my_gE)) (h0 : 0 ≤ i) (hn : i < 204) (k : ∀ y, y = h x i → -2147483648 ≤ y → y ≤ 2147483647 → wp l rho d m (pc + 1) ls ((0, y) :: r) h Q) : wp l rho d m pc ls ((0, i) :: (2, x) :: r) h Q := by
  obtain ⟨e, q1, q2⟩ := my_gA i.toNat
  refine w_gld hpg hx hD h0 hn q1 q2 (fun y e1 q => ?_)
  obtain ⟨t, e2⟩ := e
  have q2 : t = 0 := q2
  subst q2
  exact k y e1 q.2.2.1 q.2.2.2
theorem w_gldS {ρ : Nat} {x i : Int} (hpg : mz_pg m pc = some (.iaload, a, b, w)) (hx : my_is ρ x) (hD : my_rd ρ = .inl (0, 204, my_gE)) (h0 : 0 ≤ i) (hn : i < 204) (hm1 : 8 ≤ i % 17) (hm2 : i % 17 ≤ 15) (k : ∀ y, y = h x i → -1 ≤ y → y ≤ 239 → wp l rho d m (pc + 1) ls ((0, y) :: r) h Q) : wp l rho d m pc ls ((0, i) :: (2, x) :: r) h Q := by
  have := my_toNat17 h0
  exact w_gld hpg hx hD h0 hn (my_gS (c := i.toNat % 17) (by omega) (by omega)) rfl (fun y e q => k y e q.1 q.2.1)
theorem w_gldT {ρ : Nat} {x i : Int} (hpg : mz_pg m pc = some (.iaload, a, b, w)) (hx : my_is ρ x) (hD : my_rd ρ = .inl (0, 204, my_gE)) (h0 : 0 ≤ i) (hn : i < 204) (hm : i % 17 = 16) (k : ∀ y, y = h x i → 0 ≤ y → y ≤ 19 → wp l rho d m (pc + 1) ls ((0, y) :: r) h Q) : wp l rho d m pc ls ((0, i) :: (2, x) :: r) h Q := by
  have := my_toNat17 h0
  have e : i.toNat % my_gE.length = 16 := by
    show i.toNat % 17 = 16
    omega
  exact w_gld (e := (0, 0, 19)) hpg hx hD h0 hn (by rw [e]; rfl) rfl (fun y e q => k y e q.1 q.2.1)
theorem w_gst {ρ : Nat} {lo hi : Int} {x i y : Int} (hpg : mz_pg m pc = some (.iastore, a, b, w)) (hx : my_is ρ x) (hD : my_rd ρ = .inl (0, 204, my_gE)) (h0 : 0 ≤ i) (hn : i < 204) (he : my_gE[i.toNat % my_gE.length]? = some (0, lo, hi)) (hl : lo ≤ y) (hh : y ≤ hi) (k : ∀ h', h' = my_up h x i y → wp l rho d m (pc + 1) ls r h' Q) : wp l rho d m pc ls ((0, y) :: (0, i) :: (2, x) :: r) h Q := fun a1 a2 =>
  w_ast (e := (0, lo, hi)) hx hD h0 (by omega) he ⟨hl, hh, a2.c.1⟩ hpg (fun H dd us g1 hj => by
    have ht : mx_isTy mz_P 0 .int = true := rfl
    simp [mx_s3, mx_astore, my_val, g1, ht, hj, mx_isI]) k a1 a2
theorem w_gstV {ρ : Nat} {x i y : Int} (hpg : mz_pg m pc = some (.iastore, a, b, w)) (hx : my_is ρ x) (hD : my_rd ρ = .inl (0, 204, my_gE)) (h0 : 0 ≤ i) (hn : i < 204) (hm : i % 17 ≤ 7) (k : ∀ h', h' = my_up h x i y → wp l rho d m (pc + 1) ls r h' Q) : wp l rho d m pc ls ((0, y) :: (0, i) :: (2, x) :: r) h Q := fun a1 a2 => by
  have := my_toNat17 h0
  have hy : -2147483648 ≤ y ∧ y ≤ 2147483647 := a2.c.1
  exact w_gst hpg hx hD h0 hn (my_gV (c := i.toNat % 17) (by omega)) hy.1 hy.2 k a1 a2
theorem w_gstS {ρ : Nat} {x i y : Int} (hpg : mz_pg m pc = some (.iastore, a, b, w)) (hx : my_is ρ x) (hD : my_rd ρ = .inl (0, 204, my_gE)) (h0 : 0 ≤ i) (hn : i < 204) (hm1 : 8 ≤ i % 17) (hm2 : i % 17 ≤ 15) (hl : -1 ≤ y) (hh : y ≤ 239) (k : ∀ h', h' = my_up h x i y → wp l rho d m (pc + 1) ls r h' Q) : wp l rho d m pc ls ((0, y) :: (0, i) :: (2, x) :: r) h Q := by
  have := my_toNat17 h0
  exact w_gst hpg hx hD h0 hn (my_gS (c := i.toNat % 17) (by omega) (by omega)) hl hh k
theorem w_gstT {ρ : Nat} {x i y : Int} (hpg : mz_pg m pc = some (.iastore, a, b, w)) (hx : my_is ρ x) (hD : my_rd ρ = .inl (0, 204, my_gE)) (h0 : 0 ≤ i) (hn : i < 204) (hm : i % 17 = 16) (hl : 0 ≤ y) (hh : y ≤ 19) (k : ∀ h', h' = my_up h x i y → wp l rho d m (pc + 1) ls r h' Q) : wp l rho d m pc ls ((0, y) :: (0, i) :: (2, x) :: r) h Q := by
  have := my_toNat17 h0
  have e : i.toNat % my_gE.length = 16 := by
    show i.toNat % 17 = 16
    omega
  exact w_gst (lo := 0) (hi := 19) hpg hx hD h0 hn (by rw [e]; rfl) hl hh k
/-- rows of what is seen are copied -/
theorem w_cpG {q ρ0 ρ1 : Nat} {k0 sp k1 dp n : Int} (hpg : mz_pg m pc = some (.invokestatic q, 0, b, w)) (hx0 : my_is ρ0 k0) (hD0 : my_rd ρ0 = .inl (0, 204, my_gE)) (hx1 : my_is ρ1 k1) (hD1 : my_rd ρ1 = .inl (0, 204, my_gE)) (hs : 0 ≤ sp) (hd : 0 ≤ dp) (hn : 0 ≤ n) (h0 : sp + n ≤ 204) (h1 : dp + n ≤ 204) (hr8 : Nat.ble (r.map my_cat).sum 8 = true) (hm : sp % 17 = dp % 17)
    (k : ∀ h', h' = my_cp h k0 sp k1 dp n → wp l rho (d + 1) m (pc + 3) ls r h' Q) : wp l rho (d + 1) m pc ls ((0, n) :: (0, dp) :: (2, k1) :: (0, sp) :: (2, k0) :: r) h Q :=
  w_cp hpg hx0 hD0 hx1 hD1 hs hd hn (by omega) (by omega) hr8 (fun j => (my_gA j).imp (fun _ q => q.1)) (fun j e0 e1 _ q0 q1 q2 => by
    have e : (sp.toNat + j) % my_gE.length = (dp.toNat + j) % my_gE.length := by
      show (sp.toNat + j) % 17 = (dp.toNat + j) % 17
      omega
    rw [e, q1] at q0
    cases q0
    obtain ⟨e', p1, p2⟩ := my_gA (dp.toNat + j)
    rw [q1] at p1
    cases p1
    obtain ⟨t, u⟩ := e0
    have p2 : t = 0 := p2
    subst p2
    exact ⟨rfl, q2⟩) k
/-- values are copied into a row -/
theorem w_cpV {q ρ0 ρ1 n0 : Nat} {lo0 hi0 k0 sp k1 dp n : Int} (hpg : mz_pg m pc = some (.invokestatic q, 0, b, w)) (hx0 : my_is ρ0 k0) (hD0 : my_rd ρ0 = .inl (0, n0, [(0, lo0, hi0)])) (hx1 : my_is ρ1 k1) (hD1 : my_rd ρ1 = .inl (0, 204, my_gE)) (hs : 0 ≤ sp) (hd : 0 ≤ dp) (hn : 0 ≤ n) (h0 : sp + n ≤ n0) (h1 : dp + n ≤ 204) (hr8 : Nat.ble (r.map my_cat).sum 8 = true) (hm : dp % 17 + n ≤ 8)
    (k : ∀ h', h' = my_cp h k0 sp k1 dp n → wp l rho (d + 1) m (pc + 3) ls r h' Q) : wp l rho (d + 1) m pc ls ((0, n) :: (0, dp) :: (2, k1) :: (0, sp) :: (2, k0) :: r) h Q :=
  w_cp hpg hx0 hD0 hx1 hD1 hs hd hn h0 (by omega) hr8 (fun j => ⟨(0, lo0, hi0), by simp [Nat.mod_one]⟩) (fun j e0 e1 hj q0 q1 q2 => by
    simp only [List.length_cons, List.length_nil, Nat.zero_add, Nat.mod_one, List.getElem?_cons_zero, Option.some.injEq] at q0
    subst q0
    have e : (dp.toNat + j) % my_gE.length ≤ 7 := by
      show (dp.toNat + j) % 17 ≤ 7
      omega
    rw [my_gV e] at q1
    cases q1
    exact ⟨rfl, q2.2.2.1, q2.2.2.2, q2.2.2⟩) k
/-- any int may be written here -/
theorem w_iastA {ρ n : Nat} {x i y : Int} (hpg : mz_pg m pc = some (.iastore, a, b, w)) (hx : my_is ρ x) (hD : my_rd ρ = .inl (0, n, [(0, -2147483648, 2147483647)])) (h0 : 0 ≤ i) (hn : i < n) (k : ∀ h', h' = my_up h x i y → wp l rho d m (pc + 1) ls r h' Q) : wp l rho d m pc ls ((0, y) :: (0, i) :: (2, x) :: r) h Q := fun a1 a2 => by
  have hy : -2147483648 ≤ y ∧ y ≤ 2147483647 := a2.c.1
  exact w_iast hpg hx hD h0 hn hy.1 hy.2 k a1 a2
theorem w_putA {q ρ : Nat} {fl : List my_E} {x y : Int} (hpg : mz_pg m pc = some (.putfield q, a, b, w)) (hx : my_is ρ x) (hD : my_rd ρ = .inr (a, fl)) (hb : fl[b]? = some (0, -2147483648, 2147483647)) (ht : mz_ft a b = .int) (k : ∀ h', h' = my_up h x b y → wp l rho d m (pc + 3) ls r h' Q) : wp l rho d m pc ls ((0, y) :: (2, x) :: r) h Q := fun a1 a2 => by
  have hy : -2147483648 ≤ y ∧ y ≤ 2147483647 := a2.c.1
  exact w_putI hpg hx hD hb hy.1 hy.2 ht k a1 a2
end MYY
