/-! rules: branches, the heap, calls -/
section MYB
variable {l : Launch} {rho : Nat → Int32} {d m pc : Nat} {ls ls' st st' r : List my_V} {h : my_H} {Q : my_H → my_V → Prop} {ins : Instr} {a b w nL np ci : Nat} {rt : Option FieldType}
theorem my_toInt {x : Int} (h : my_in (0, x)) : (Int32.ofInt x).toInt = x := by
  obtain ⟨h1, h2⟩ := h
  exact Int32.toInt_ofInt_of_le (by omega) (by omega)
theorem my_eqI {x y : Int} (hx : my_in (0, x)) (hy : my_in (0, y)) : Int32.ofInt x = Int32.ofInt y ↔ x = y := by
  rw [← Int32.toInt_inj, my_toInt hx, my_toInt hy]
theorem my_ltI {x y : Int} (hx : my_in (0, x)) (hy : my_in (0, y)) : Int32.ofInt x < Int32.ofInt y ↔ x < y := by
  rw [Int32.lt_iff_toInt_lt, my_toInt hx, my_toInt hy]
theorem my_in0 : my_in (0, 0) := ⟨by decide, by decide⟩
theorem w_if {cd : Jvm.ClassFile.Cond} {off : Int} {t : Nat} {x : Int} (hpg : mz_pg m pc = some (.ifCond cd off, a, b, w)) (ht : mx_tg pc off = some t) (k1 : my_in (0, x) → mx_cmp cd (Int32.ofInt x) 0 = true → wp l rho d m t ls r h Q) (k2 : my_in (0, x) → mx_cmp cd (Int32.ofInt x) 0 = false → wp l rho d m (pc + 3) ls r h Q) : wp l rho d m pc ls ((0, x) :: r) h Q := by
  intro a1 a2 L H a3 a4
  obtain ⟨c1, c2⟩ := a2.c
  cases hc : mx_cmp cd (Int32.ofInt x) 0 with
  | true =>
    obtain ⟨pc', L2, st2, H', h', i, v, b1, b2⟩ := k1 c1 hc a1 c2 L H a3 a4
    exact ⟨pc', L2, st2, H', h', i, v, ok_br hpg (by simp only [mx_s2, ht, List.map_cons, my_val, hc, if_true]) b1, b2⟩
  | false =>
    obtain ⟨pc', L2, st2, H', h', i, v, b1, b2⟩ := k2 c1 hc a1 c2 L H a3 a4
    exact ⟨pc', L2, st2, H', h', i, v, ok_br hpg (by simp [mx_s2, ht, my_val, hc]) b1, b2⟩
theorem w_ic {cd : Jvm.ClassFile.Cond} {off : Int} {t : Nat} {x y : Int} (hpg : mz_pg m pc = some (.if_icmp cd off, a, b, w)) (ht : mx_tg pc off = some t) (k1 : my_in (0, x) → my_in (0, y) → mx_cmp cd (Int32.ofInt x) (Int32.ofInt y) = true → wp l rho d m t ls r h Q) (k2 : my_in (0, x) → my_in (0, y) → mx_cmp cd (Int32.ofInt x) (Int32.ofInt y) = false → wp l rho d m (pc + 3) ls r h Q) : wp l rho d m pc ls ((0, y) :: (0, x) :: r) h Q := by
  intro a1 a2 L H a3 a4
  obtain ⟨c1, c2⟩ := a2.c
  obtain ⟨c3, c4⟩ := c2.c
  cases hc : mx_cmp cd (Int32.ofInt x) (Int32.ofInt y) with
  | true =>
    obtain ⟨pc', L2, st2, H', h', i, v, b1, b2⟩ := k1 c3 c1 hc a1 c4 L H a3 a4
    exact ⟨pc', L2, st2, H', h', i, v, ok_br hpg (by simp only [mx_s2, ht, List.map_cons, my_val, hc, if_true]) b1, b2⟩
  | false =>
    obtain ⟨pc', L2, st2, H', h', i, v, b1, b2⟩ := k2 c3 c1 hc a1 c4 L H a3 a4
    exact ⟨pc', L2, st2, H', h', i, v, ok_br hpg (by simp [mx_s2, ht, my_val, hc]) b1, b2⟩
theorem my_zero : (0 : Int32) = Int32.ofInt 0 := rfl
theorem w_ifeq {off : Int} {t : Nat} {x : Int} (hpg : mz_pg m pc = some (.ifCond .eq off, a, b, w)) (ht : mx_tg pc off = some t) (k1 : x = 0 → wp l rho d m t ls r h Q) (k2 : ¬ x = 0 → wp l rho d m (pc + 3) ls r h Q) : wp l rho d m pc ls ((0, x) :: r) h Q :=
  w_if hpg ht (fun q1 e => k1 (by rw [my_zero] at e; simp only [mx_cmp, decide_eq_true_eq, decide_eq_false_iff_not, Bool.not_eq_true', Bool.not_eq_false', (my_eqI q1 my_in0)] at e; omega)) (fun q1 e => k2 (by rw [my_zero] at e; simp only [mx_cmp, decide_eq_true_eq, decide_eq_false_iff_not, Bool.not_eq_true', Bool.not_eq_false', (my_eqI q1 my_in0)] at e; omega))
theorem w_iceq {off : Int} {t : Nat} {x y : Int} (hpg : mz_pg m pc = some (.if_icmp .eq off, a, b, w)) (ht : mx_tg pc off = some t) (k1 : x = y → wp l rho d m t ls r h Q) (k2 : ¬ x = y → wp l rho d m (pc + 3) ls r h Q) : wp l rho d m pc ls ((0, y) :: (0, x) :: r) h Q :=
  w_ic hpg ht (fun q1 q2 e => k1 (by simp only [mx_cmp, decide_eq_true_eq, decide_eq_false_iff_not, Bool.not_eq_true', Bool.not_eq_false', (my_eqI q1 q2)] at e; omega)) (fun q1 q2 e => k2 (by simp only [mx_cmp, decide_eq_true_eq, decide_eq_false_iff_not, Bool.not_eq_true', Bool.not_eq_false', (my_eqI q1 q2)] at e; omega))
theorem w_ifne {off : Int} {t : Nat} {x : Int} (hpg : mz_pg m pc = some (.ifCond .ne off, a, b, w)) (ht : mx_tg pc off = some t) (k1 : ¬ x = 0 → wp l rho d m t ls r h Q) (k2 : x = 0 → wp l rho d m (pc + 3) ls r h Q) : wp l rho d m pc ls ((0, x) :: r) h Q :=
  w_if hpg ht (fun q1 e => k1 (by rw [my_zero] at e; simp only [mx_cmp, decide_eq_true_eq, decide_eq_false_iff_not, Bool.not_eq_true', Bool.not_eq_false', (my_eqI q1 my_in0)] at e; omega)) (fun q1 e => k2 (by rw [my_zero] at e; simp only [mx_cmp, decide_eq_true_eq, decide_eq_false_iff_not, Bool.not_eq_true', Bool.not_eq_false', (my_eqI q1 my_in0)] at e; omega))
theorem w_icne {off : Int} {t : Nat} {x y : Int} (hpg : mz_pg m pc = some (.if_icmp .ne off, a, b, w)) (ht : mx_tg pc off = some t) (k1 : ¬ x = y → wp l rho d m t ls r h Q) (k2 : x = y → wp l rho d m (pc + 3) ls r h Q) : wp l rho d m pc ls ((0, y) :: (0, x) :: r) h Q :=
  w_ic hpg ht (fun q1 q2 e => k1 (by simp only [mx_cmp, decide_eq_true_eq, decide_eq_false_iff_not, Bool.not_eq_true', Bool.not_eq_false', (my_eqI q1 q2)] at e; omega)) (fun q1 q2 e => k2 (by simp only [mx_cmp, decide_eq_true_eq, decide_eq_false_iff_not, Bool.not_eq_true', Bool.not_eq_false', (my_eqI q1 q2)] at e; omega))
theorem w_iflt {off : Int} {t : Nat} {x : Int} (hpg : mz_pg m pc = some (.ifCond .lt off, a, b, w)) (ht : mx_tg pc off = some t) (k1 : x < 0 → wp l rho d m t ls r h Q) (k2 : 0 ≤ x → wp l rho d m (pc + 3) ls r h Q) : wp l rho d m pc ls ((0, x) :: r) h Q :=
  w_if hpg ht (fun q1 e => k1 (by rw [my_zero] at e; simp only [mx_cmp, decide_eq_true_eq, decide_eq_false_iff_not, Bool.not_eq_true', Bool.not_eq_false', (my_ltI q1 my_in0)] at e; omega)) (fun q1 e => k2 (by rw [my_zero] at e; simp only [mx_cmp, decide_eq_true_eq, decide_eq_false_iff_not, Bool.not_eq_true', Bool.not_eq_false', (my_ltI q1 my_in0)] at e; omega))
theorem w_iclt {off : Int} {t : Nat} {x y : Int} (hpg : mz_pg m pc = some (.if_icmp .lt off, a, b, w)) (ht : mx_tg pc off = some t) (k1 : x < y → wp l rho d m t ls r h Q) (k2 : y ≤ x → wp l rho d m (pc + 3) ls r h Q) : wp l rho d m pc ls ((0, y) :: (0, x) :: r) h Q :=
  w_ic hpg ht (fun q1 q2 e => k1 (by simp only [mx_cmp, decide_eq_true_eq, decide_eq_false_iff_not, Bool.not_eq_true', Bool.not_eq_false', (my_ltI q1 q2)] at e; omega)) (fun q1 q2 e => k2 (by simp only [mx_cmp, decide_eq_true_eq, decide_eq_false_iff_not, Bool.not_eq_true', Bool.not_eq_false', (my_ltI q1 q2)] at e; omega))
theorem w_ifge {off : Int} {t : Nat} {x : Int} (hpg : mz_pg m pc = some (.ifCond .ge off, a, b, w)) (ht : mx_tg pc off = some t) (k1 : 0 ≤ x → wp l rho d m t ls r h Q) (k2 : x < 0 → wp l rho d m (pc + 3) ls r h Q) : wp l rho d m pc ls ((0, x) :: r) h Q :=
  w_if hpg ht (fun q1 e => k1 (by rw [my_zero] at e; simp only [mx_cmp, decide_eq_true_eq, decide_eq_false_iff_not, Bool.not_eq_true', Bool.not_eq_false', (my_ltI q1 my_in0)] at e; omega)) (fun q1 e => k2 (by rw [my_zero] at e; simp only [mx_cmp, decide_eq_true_eq, decide_eq_false_iff_not, Bool.not_eq_true', Bool.not_eq_false', (my_ltI q1 my_in0)] at e; omega))
theorem w_icge {off : Int} {t : Nat} {x y : Int} (hpg : mz_pg m pc = some (.if_icmp .ge off, a, b, w)) (ht : mx_tg pc off = some t) (k1 : y ≤ x → wp l rho d m t ls r h Q) (k2 : x < y → wp l rho d m (pc + 3) ls r h Q) : wp l rho d m pc ls ((0, y) :: (0, x) :: r) h Q :=
  w_ic hpg ht (fun q1 q2 e => k1 (by simp only [mx_cmp, decide_eq_true_eq, decide_eq_false_iff_not, Bool.not_eq_true', Bool.not_eq_false', (my_ltI q1 q2)] at e; omega)) (fun q1 q2 e => k2 (by simp only [mx_cmp, decide_eq_true_eq, decide_eq_false_iff_not, Bool.not_eq_true', Bool.not_eq_false', (my_ltI q1 q2)] at e; omega))
theorem w_ifgt {off : Int} {t : Nat} {x : Int} (hpg : mz_pg m pc = some (.ifCond .gt off, a, b, w)) (ht : mx_tg pc off = some t) (k1 : 0 < x → wp l rho d m t ls r h Q) (k2 : x ≤ 0 → wp l rho d m (pc + 3) ls r h Q) : wp l rho d m pc ls ((0, x) :: r) h Q :=
  w_if hpg ht (fun q1 e => k1 (by rw [my_zero] at e; simp only [mx_cmp, decide_eq_true_eq, decide_eq_false_iff_not, Bool.not_eq_true', Bool.not_eq_false', (my_ltI my_in0 q1)] at e; omega)) (fun q1 e => k2 (by rw [my_zero] at e; simp only [mx_cmp, decide_eq_true_eq, decide_eq_false_iff_not, Bool.not_eq_true', Bool.not_eq_false', (my_ltI my_in0 q1)] at e; omega))
theorem w_icgt {off : Int} {t : Nat} {x y : Int} (hpg : mz_pg m pc = some (.if_icmp .gt off, a, b, w)) (ht : mx_tg pc off = some t) (k1 : y < x → wp l rho d m t ls r h Q) (k2 : x ≤ y → wp l rho d m (pc + 3) ls r h Q) : wp l rho d m pc ls ((0, y) :: (0, x) :: r) h Q :=
  w_ic hpg ht (fun q1 q2 e => k1 (by simp only [mx_cmp, decide_eq_true_eq, decide_eq_false_iff_not, Bool.not_eq_true', Bool.not_eq_false', (my_ltI q2 q1)] at e; omega)) (fun q1 q2 e => k2 (by simp only [mx_cmp, decide_eq_true_eq, decide_eq_false_iff_not, Bool.not_eq_true', Bool.not_eq_false', (my_ltI q2 q1)] at e; omega))
theorem w_ifle {off : Int} {t : Nat} {x : Int} (hpg : mz_pg m pc = some (.ifCond .le off, a, b, w)) (ht : mx_tg pc off = some t) (k1 : x ≤ 0 → wp l rho d m t ls r h Q) (k2 : 0 < x → wp l rho d m (pc + 3) ls r h Q) : wp l rho d m pc ls ((0, x) :: r) h Q :=
  w_if hpg ht (fun q1 e => k1 (by rw [my_zero] at e; simp only [mx_cmp, decide_eq_true_eq, decide_eq_false_iff_not, Bool.not_eq_true', Bool.not_eq_false', (my_ltI my_in0 q1)] at e; omega)) (fun q1 e => k2 (by rw [my_zero] at e; simp only [mx_cmp, decide_eq_true_eq, decide_eq_false_iff_not, Bool.not_eq_true', Bool.not_eq_false', (my_ltI my_in0 q1)] at e; omega))
theorem w_icle {off : Int} {t : Nat} {x y : Int} (hpg : mz_pg m pc = some (.if_icmp .le off, a, b, w)) (ht : mx_tg pc off = some t) (k1 : x ≤ y → wp l rho d m t ls r h Q) (k2 : y < x → wp l rho d m (pc + 3) ls r h Q) : wp l rho d m pc ls ((0, y) :: (0, x) :: r) h Q :=
  w_ic hpg ht (fun q1 q2 e => k1 (by simp only [mx_cmp, decide_eq_true_eq, decide_eq_false_iff_not, Bool.not_eq_true', Bool.not_eq_false', (my_ltI q2 q1)] at e; omega)) (fun q1 q2 e => k2 (by simp only [mx_cmp, decide_eq_true_eq, decide_eq_false_iff_not, Bool.not_eq_true', Bool.not_eq_false', (my_ltI q2 q1)] at e; omega))
theorem w_goto {off : Int} {t : Nat} (hpg : mz_pg m pc = some (.goto off, a, b, w)) (ht : mx_tg pc off = some t) (k : wp l rho d m t ls st h Q) : wp l rho d m pc ls st h Q := by
  intro a1 a2 L H a3 a4
  obtain ⟨pc', L2, st2, H', h', i, v, b1, b2⟩ := k a1 a2 L H a3 a4
  exact ⟨pc', L2, st2, H', h', i, v, ok_br hpg (by simp only [mx_s2, ht, Option.map_some]) b1, b2⟩
theorem my_HR.obj {H : mx_H} {ρ ci : Nat} {fl : List my_E} {x : Int} (hR : my_HR H h) (hx : my_is ρ x) (hD : my_rd ρ = .inr (ci, fl)) : ∃ fs : List Value, H[x.toNat]? = some (.inr (ci, fs)) ∧ fs.length = fl.length ∧ ∀ (j : Nat) (e : my_E), fl[j]? = some e → fs[j]? = some (my_val (e.1, h x j)) ∧ my_el e x (h x j) := by
  obtain ⟨x0, x1, x2⟩ := hx
  obtain ⟨c, c1, c2⟩ := hR x.toNat x1
  rw [x2, hD, Int.toNat_of_nonneg x0] at c2
  obtain ⟨fs, rfl, f1, f2⟩ := c2
  exact ⟨fs, c1, f1, f2⟩
theorem my_HR.arr {H : mx_H} {ρ t n : Nat} {es : List my_E} {x : Int} (hR : my_HR H h) (hx : my_is ρ x) (hD : my_rd ρ = .inl (t, n, es)) : ∃ (dd : Value) (us : List (Nat × Value)), H[x.toNat]? = some (.inl (t, n, dd, us)) ∧ ∀ (j : Nat) (e : my_E), j < n → es[j % es.length]? = some e → mx_at dd us j = my_val (e.1, h x j) ∧ my_el e x (h x j) := by
  obtain ⟨x0, x1, x2⟩ := hx
  obtain ⟨c, c1, c2⟩ := hR x.toNat x1
  rw [x2, hD, Int.toNat_of_nonneg x0] at c2
  obtain ⟨dd, us, rfl, f2⟩ := c2
  exact ⟨dd, us, c1, f2⟩
/-- one cell of one object is written -/
theorem my_HR.upO {H : mx_H} {ρ ci b : Nat} {fl : List my_E} {e : my_E} {fs : List Value} {x y : Int} (hR : my_HR H h) (hx : my_is ρ x) (hD : my_rd ρ = .inr (ci, fl)) (hH : H[x.toNat]? = some (.inr (ci, fs))) (hb : fl[b]? = some e) (he : my_el e x y) : my_HR (H.set x.toNat (.inr (ci, fs.set b (my_val (e.1, y))))) (my_up h x b y) := by
  obtain ⟨fs', g1, g2, g3⟩ := hR.obj hx hD
  rw [hH] at g1
  cases g1
  intro k hk
  by_cases hkx : k = x.toNat
  · subst hkx
    refine ⟨_, List.getElem?_set_self (List.getElem?_eq_some_iff.mp hH).1, ?_⟩
    rw [hx.2.2, hD, Int.toNat_of_nonneg hx.1]
    refine ⟨_, rfl, by rw [List.length_set]; exact g2, fun j e' hj => ?_⟩
    by_cases hjb : j = b
    · subst hjb
      rw [hb] at hj
      cases hj
      have hlt : j < fs.length := by rw [g2]; exact (List.getElem?_eq_some_iff.mp hb).1
      simp only [my_up, and_self, if_true]
      exact ⟨List.getElem?_set_self hlt, he⟩
    · have hne : ¬ ((x = x) ∧ ((j : Int) = (b : Int))) := fun q => hjb (by omega)
      rw [show my_up h x b y x (j : Int) = h x (j : Int) from if_neg hne, List.getElem?_set_ne (fun q => hjb q.symm)]
      exact g3 j e' hj
  · obtain ⟨c, c1, c2⟩ := hR k hk
    refine ⟨c, by rw [List.getElem?_set_ne (fun q => hkx q.symm)]; exact c1, ?_⟩
    have e1 : my_up h x b y (k : Int) = h (k : Int) := by
      funext j
      have hne : ¬ ((k : Int) = x ∧ j = (b : Int)) := fun q => hkx (by have := q.1; have := hx.1; omega)
      simp only [my_up, if_neg hne]
    rw [e1]; exact c2
theorem my_HR.upA {H : mx_H} {ρ t n i : Nat} {es : List my_E} {e : my_E} {dd : Value} {us : List (Nat × Value)} {x y : Int} (hR : my_HR H h) (hx : my_is ρ x) (hD : my_rd ρ = .inl (t, n, es)) (hH : H[x.toNat]? = some (.inl (t, n, dd, us))) (hb : es[i % es.length]? = some e) (he : my_el e x y) : my_HR (H.set x.toNat (.inl (t, n, dd, mx_up dd us i (my_val (e.1, y))))) (my_up h x i y) := by
  obtain ⟨dd', us', g1, g3⟩ := hR.arr hx hD
  rw [hH] at g1
  cases g1
  intro k hk
  by_cases hkx : k = x.toNat
  · subst hkx
    refine ⟨_, List.getElem?_set_self (List.getElem?_eq_some_iff.mp hH).1, ?_⟩
    rw [hx.2.2, hD, Int.toNat_of_nonneg hx.1]
    refine ⟨_, _, rfl, fun j e' hj hj2 => ?_⟩
    rw [mx_at_up]
    by_cases hjb : j = i
    · subst hjb
      rw [hb] at hj2
      cases hj2
      simp only [my_up, and_self, if_true]
      exact ⟨trivial, he⟩
    · have hne : ¬ ((x = x) ∧ ((j : Int) = (i : Int))) := fun q => hjb (by omega)
      rw [show my_up h x i y x (j : Int) = h x (j : Int) from if_neg hne, if_neg hjb]
      exact g3 j e' hj hj2
  · obtain ⟨c, c1, c2⟩ := hR k hk
    refine ⟨c, by rw [List.getElem?_set_ne (fun q => hkx q.symm)]; exact c1, ?_⟩
    have e1 : my_up h x i y (k : Int) = h (k : Int) := by
      funext j
      have hne : ¬ ((k : Int) = x ∧ j = (i : Int)) := fun q => hkx (by have := q.1; have := hx.1; omega)
      simp only [my_up, if_neg hne]
    rw [e1]; exact c2
/-- a field is read -/
theorem w_get {q ρ : Nat} {fl : List my_E} {e : my_E} {x : Int} (hpg : mz_pg m pc = some (.getfield q, a, b, w)) (hx : my_is ρ x) (hD : my_rd ρ = .inr (a, fl)) (hb : fl[b]? = some e) (hin : ∀ y, my_el e x y → my_in (e.1, y)) (k : ∀ y, y = h x b → my_el e x y → wp l rho d m (pc + 3) ls ((e.1, y) :: r) h Q) : wp l rho d m pc ls ((2, x) :: r) h Q := by
  intro a1 a2 L H a3 a4
  obtain ⟨fs, g1, g2, g3⟩ := a4.obj hx hD
  obtain ⟨g4, g5⟩ := g3 b e hb
  obtain ⟨pc', L2, st2, H', h', i, v, b1, b2⟩ := k _ rfl g5 a1 (a2.c.2.p (hin _ g5)) L H a3 a4
  exact ⟨pc', L2, st2, H', h', i, v, ok_get hpg g1 g4 b1, b2⟩
theorem w_getI {q ρ : Nat} {fl : List my_E} {lo hi x : Int} (hpg : mz_pg m pc = some (.getfield q, a, b, w)) (hx : my_is ρ x) (hD : my_rd ρ = .inr (a, fl)) (hb : fl[b]? = some (0, lo, hi)) (k : ∀ y, y = h x b → lo ≤ y → y ≤ hi → wp l rho d m (pc + 3) ls ((0, y) :: r) h Q) : wp l rho d m pc ls ((2, x) :: r) h Q :=
  w_get hpg hx hD hb (fun _ q => q.2.2) (fun y e q => k y e q.1 q.2.1)
theorem w_getR {q ρ : Nat} {fl : List my_E} {ρ' hi x : Int} (hpg : mz_pg m pc = some (.getfield q, a, b, w)) (hx : my_is ρ x) (hD : my_rd ρ = .inr (a, fl)) (hb : fl[b]? = some (2, ρ', hi)) (k : ∀ y, y = h x b → my_is ρ'.toNat y → wp l rho d m (pc + 3) ls ((2, y) :: r) h Q) : wp l rho d m pc ls ((2, x) :: r) h Q :=
  w_get hpg hx hD hb (fun _ q => q.1.1) (fun y e q => k y e q.1)
/-- a field that always names the object so far on -/
theorem w_getX {q ρ : Nat} {fl : List my_E} {ρ' δ x v : Int} (hpg : mz_pg m pc = some (.getfield q, a, b, w)) (hx : my_is ρ x) (hD : my_rd ρ = .inr (a, fl)) (hb : fl[b]? = some (2, ρ', δ)) (hδ : δ ≠ 0) (ev : v = x + δ) (k : wp l rho d m (pc + 3) ls ((2, v) :: r) h Q) : wp l rho d m pc ls ((2, x) :: r) h Q :=
  w_get hpg hx hD hb (fun _ q => q.1.1) (fun y _ q => by
    have e1 : y = x + δ := q.2.resolve_left hδ
    rw [e1, ← ev]
    exact k)
/-- a field is written -/
theorem w_put {q ρ : Nat} {fl : List my_E} {e : my_E} {x y : Int} (hpg : mz_pg m pc = some (.putfield q, a, b, w)) (hx : my_is ρ x) (hD : my_rd ρ = .inr (a, fl)) (hb : fl[b]? = some e) (he : my_el e x y) (hf : mx_fit (mz_ft a b) (my_val (e.1, y)) = true) (k : ∀ h', h' = my_up h x b y → wp l rho d m (pc + 3) ls r h' Q) : wp l rho d m pc ls ((e.1, y) :: (2, x) :: r) h Q := by
  intro a1 a2 L H a3 a4
  obtain ⟨fs, g1, g2, g3⟩ := a4.obj hx hD
  obtain ⟨pc', L2, st2, H', h', i, v, b1, b2, b3, b4, b5, b6⟩ := k _ rfl a1 a2.c.2.c.2 L _ a3 (a4.upO hx hD g1 hb he)
  exact ⟨pc', L2, st2, H', h', i, v, ok_put hpg g1 (by rw [g2]; exact (List.getElem?_eq_some_iff.mp hb).1) hf b1, b2, b3, b4, by rw [b5, List.length_set], b6⟩
theorem w_putI {q ρ : Nat} {fl : List my_E} {lo hi x y : Int} (hpg : mz_pg m pc = some (.putfield q, a, b, w)) (hx : my_is ρ x) (hD : my_rd ρ = .inr (a, fl)) (hb : fl[b]? = some (0, lo, hi)) (hl : lo ≤ y) (hh : y ≤ hi) (ht : mz_ft a b = .int) (k : ∀ h', h' = my_up h x b y → wp l rho d m (pc + 3) ls r h' Q) : wp l rho d m pc ls ((0, y) :: (2, x) :: r) h Q := fun a1 a2 =>
  w_put (e := (0, lo, hi)) hpg hx hD hb ⟨hl, hh, a2.c.1⟩ (by rw [ht]; rfl) k a1 a2
theorem my_01 {y : Int} (h1 : 0 ≤ y) (h2 : y ≤ 1) : mx_01 (my_val (0, y)) = true := by
  have : y = 0 ∨ y = 1 := by omega
  rcases this with rfl | rfl <;> rfl
theorem w_putB {q ρ : Nat} {fl : List my_E} {x y : Int} (hpg : mz_pg m pc = some (.putfield q, a, b, w)) (hx : my_is ρ x) (hD : my_rd ρ = .inr (a, fl)) (hb : fl[b]? = some (0, 0, 1)) (hl : 0 ≤ y) (hh : y ≤ 1) (ht : mz_ft a b = .boolean) (k : ∀ h', h' = my_up h x b y → wp l rho d m (pc + 3) ls r h' Q) : wp l rho d m pc ls ((0, y) :: (2, x) :: r) h Q := fun a1 a2 =>
  w_put (e := (0, 0, 1)) hpg hx hD hb ⟨hl, hh, a2.c.1⟩ (by rw [ht]; exact my_01 hl hh) k a1 a2
theorem my_idx {n : Nat} {i : Int} (h : my_in (0, i)) (h1 : 0 ≤ i) (h2 : i < n) : mx_idx n (Int32.ofInt i) = some i.toNat := by
  have e0 : ¬ (Int32.ofInt i < 0) := by
    rw [my_zero, my_ltI h my_in0]; omega
  have e1 : (Int32.ofInt i).toNatClampNeg = i.toNat := by
    show (Int32.ofInt i).toInt.toNat = i.toNat
    rw [my_toInt h]
  simp only [mx_idx, e0, e1, false_or]
  rw [if_neg (by omega)]
/-- an element is read -/
theorem w_ald {ty : FieldType} {ρ n : Nat} {t : Nat} {es : List my_E} {e : my_E} {x i : Int} (hx : my_is ρ x) (hD : my_rd ρ = .inl (t, n, es)) (h0 : 0 ≤ i) (hn : i < n) (he : es[i.toNat % es.length]? = some e) (hpg : mz_pg m pc = some (ins, a, b, w)) (hs : ∀ (H : mx_H) (dd : Value) (us : List (Nat × Value)), H[x.toNat]? = some (.inl (t, n, dd, us)) → mx_idx n (Int32.ofInt i) = some i.toNat → mx_s3 mz_P d ins a b [] H (((0, i) :: (2, x) :: r : List my_V).map my_val) = some (H, mx_at dd us i.toNat :: r.map my_val)) (hin : ∀ y, my_el e x y → my_in (e.1, y)) (k : ∀ y, y = h x i → my_el e x y → wp l rho d m (pc + mx_len ins) ls ((e.1, y) :: r) h Q) : wp l rho d m pc ls ((0, i) :: (2, x) :: r) h Q := by
  intro a1 a2 L H a3 a4
  obtain ⟨dd, us, g1, g3⟩ := a4.arr hx hD
  have hi : my_in (0, i) := a2.c.1
  have hj := my_idx (n := n) hi h0 hn
  obtain ⟨g4, g5⟩ := g3 i.toNat e (by omega) he
  rw [Int.toNat_of_nonneg h0] at g4 g5
  obtain ⟨pc', L2, st2, H', h', i2, v, b1, b2⟩ := k _ rfl g5 a1 (a2.c.2.c.2.p (hin _ g5)) L H a3 a4
  exact ⟨pc', L2, st2, H', h', i2, v, ok_s3 hpg (by rw [hs H dd us g1 hj, g4]; rfl) rfl rfl b1, b2⟩
theorem w_iald {ρ n : Nat} {lo hi x i : Int} (hpg : mz_pg m pc = some (.iaload, a, b, w)) (hx : my_is ρ x) (hD : my_rd ρ = .inl (0, n, [(0, lo, hi)])) (h0 : 0 ≤ i) (hn : i < n) (k : ∀ y, y = h x i → lo ≤ y → y ≤ hi → wp l rho d m (pc + 1) ls ((0, y) :: r) h Q) : wp l rho d m pc ls ((0, i) :: (2, x) :: r) h Q :=
  w_ald (ty := .int) hx hD h0 hn (e := (0, lo, hi)) (by simp [Nat.mod_one]) hpg (fun H dd us g1 hj => by
    have ht : mx_isTy mz_P 0 .int = true := rfl
    simp [mx_s3, mx_aload, my_val, g1, ht, hj]) (fun _ q => q.2.2) (fun y e q => k y e q.1 q.2.1)
theorem w_bald {ρ n : Nat} {lo hi x i : Int} (hpg : mz_pg m pc = some (.baload, a, b, w)) (hx : my_is ρ x) (hD : my_rd ρ = .inl (1, n, [(0, lo, hi)])) (h0 : 0 ≤ i) (hn : i < n) (k : ∀ y, y = h x i → lo ≤ y → y ≤ hi → wp l rho d m (pc + 1) ls ((0, y) :: r) h Q) : wp l rho d m pc ls ((0, i) :: (2, x) :: r) h Q :=
  w_ald (ty := .boolean) hx hD h0 hn (e := (0, lo, hi)) (by simp [Nat.mod_one]) hpg (fun H dd us g1 hj => by
    have ht : mx_isTy mz_P 1 .boolean = true := rfl
    simp [mx_s3, mx_aload, my_val, g1, ht, hj]) (fun _ q => q.2.2) (fun y e q => k y e q.1 q.2.1)
theorem w_yald {ρ n : Nat} {lo hi x i : Int} (hpg : mz_pg m pc = some (.baload, a, b, w)) (hx : my_is ρ x) (hD : my_rd ρ = .inl (3, n, [(0, lo, hi)])) (h0 : 0 ≤ i) (hn : i < n) (k : ∀ y, y = h x i → lo ≤ y → y ≤ hi → wp l rho d m (pc + 1) ls ((0, y) :: r) h Q) : wp l rho d m pc ls ((0, i) :: (2, x) :: r) h Q :=
  w_ald (ty := .byte) hx hD h0 hn (e := (0, lo, hi)) (by simp [Nat.mod_one]) hpg (fun H dd us g1 hj => by
    have ht : mx_isTy mz_P 3 .byte = true := rfl
    have ht2 : mx_isTy mz_P 3 .boolean = false := rfl
    simp [mx_s3, mx_aload, my_val, g1, ht, ht2, hj]) (fun _ q => q.2.2) (fun y e q => k y e q.1 q.2.1)
theorem w_lald {ρ n : Nat} {lo hi x i : Int} (hpg : mz_pg m pc = some (.laload, a, b, w)) (hx : my_is ρ x) (hD : my_rd ρ = .inl (2, n, [(1, lo, hi)])) (h0 : 0 ≤ i) (hn : i < n) (k : ∀ y, y = h x i → my_in (1, y) → wp l rho d m (pc + 1) ls ((1, y) :: r) h Q) : wp l rho d m pc ls ((0, i) :: (2, x) :: r) h Q :=
  w_ald (ty := .long) hx hD h0 hn (e := (1, lo, hi)) (by simp [Nat.mod_one]) hpg (fun H dd us g1 hj => by
    have ht : mx_isTy mz_P 2 .long = true := rfl
    simp [mx_s3, mx_aload, my_val, g1, ht, hj]) (fun _ q => q) (fun y e q => k y e q)
theorem w_aald {ρ n t : Nat} {C : String} {ρ' hi x i : Int} (hpg : mz_pg m pc = some (.aaload, a, b, w)) (hx : my_is ρ x) (hD : my_rd ρ = .inl (t, n, [(2, ρ', hi)])) (hT : mz_TY[t]? = some (.object C)) (h0 : 0 ≤ i) (hn : i < n) (k : ∀ y, y = h x i → my_is ρ'.toNat y → wp l rho d m (pc + 1) ls ((2, y) :: r) h Q) : wp l rho d m pc ls ((0, i) :: (2, x) :: r) h Q :=
  w_ald (ty := .int) hx hD h0 hn (e := (2, ρ', hi)) (by simp [Nat.mod_one]) hpg (fun H dd us g1 hj => by
    have ht : (mx_TY mz_P)[t]? = some (.object C) := hT
    simp [mx_s3, mx_qload, my_val, g1, ht, hj]) (fun _ q => q.1.1) (fun y e q => k y e q.1)
/-- an element is written -/
theorem w_ast {ρ n t : Nat} {es : List my_E} {e : my_E} {x i y : Int} (hx : my_is ρ x) (hD : my_rd ρ = .inl (t, n, es)) (h0 : 0 ≤ i) (hn : i < n) (he : es[i.toNat % es.length]? = some e) (hy : my_el e x y) (hpg : mz_pg m pc = some (ins, a, b, w)) (hs : ∀ (H : mx_H) (dd : Value) (us : List (Nat × Value)), H[x.toNat]? = some (.inl (t, n, dd, us)) → mx_idx n (Int32.ofInt i) = some i.toNat → mx_s3 mz_P d ins a b [] H (((e.1, y) :: (0, i) :: (2, x) :: r : List my_V).map my_val) = some (H.set x.toNat (.inl (t, n, dd, mx_up dd us i.toNat (my_val (e.1, y)))), r.map my_val)) (k : ∀ h', h' = my_up h x i y → wp l rho d m (pc + mx_len ins) ls r h' Q) : wp l rho d m pc ls ((e.1, y) :: (0, i) :: (2, x) :: r) h Q := by
  intro a1 a2 L H a3 a4
  obtain ⟨dd, us, g1, g3⟩ := a4.arr hx hD
  have hi : my_in (0, i) := a2.c.2.c.1
  have hj := my_idx (n := n) hi h0 hn
  have hR := a4.upA (i := i.toNat) hx hD g1 he hy
  rw [Int.toNat_of_nonneg h0] at hR
  obtain ⟨pc', L2, st2, H', h', i2, v, b1, b2, b3, b4, b5, b6⟩ := k _ rfl a1 a2.c.2.c.2.c.2 L _ a3 hR
  exact ⟨pc', L2, st2, H', h', i2, v, ok_s3 hpg (hs H dd us g1 hj) (by rw [List.length_set]) (mx_sz_set g1 rfl) b1, b2, b3, b4, by rw [b5, List.length_set], b6⟩
theorem w_iast {ρ n : Nat} {lo hi x i y : Int} (hpg : mz_pg m pc = some (.iastore, a, b, w)) (hx : my_is ρ x) (hD : my_rd ρ = .inl (0, n, [(0, lo, hi)])) (h0 : 0 ≤ i) (hn : i < n) (hl : lo ≤ y) (hh : y ≤ hi) (k : ∀ h', h' = my_up h x i y → wp l rho d m (pc + 1) ls r h' Q) : wp l rho d m pc ls ((0, y) :: (0, i) :: (2, x) :: r) h Q := fun a1 a2 =>
  w_ast (e := (0, lo, hi)) hx hD h0 hn (by simp [Nat.mod_one]) ⟨hl, hh, a2.c.1⟩ hpg (fun H dd us g1 hj => by
    have ht : mx_isTy mz_P 0 .int = true := rfl
    simp [mx_s3, mx_astore, my_val, g1, ht, hj, mx_isI]) k a1 a2
theorem w_bast {ρ n : Nat} {x i y : Int} (hpg : mz_pg m pc = some (.bastore, a, b, w)) (hx : my_is ρ x) (hD : my_rd ρ = .inl (1, n, [(0, 0, 1)])) (h0 : 0 ≤ i) (hn : i < n) (hl : 0 ≤ y) (hh : y ≤ 1) (k : ∀ h', h' = my_up h x i y → wp l rho d m (pc + 1) ls r h' Q) : wp l rho d m pc ls ((0, y) :: (0, i) :: (2, x) :: r) h Q := fun a1 a2 =>
  w_ast (e := (0, 0, 1)) hx hD h0 hn (by simp [Nat.mod_one]) ⟨hl, hh, a2.c.1⟩ hpg (fun H dd us g1 hj => by
    have ht : mx_isTy mz_P 1 .boolean = true := rfl
    have h01 := my_01 hl hh
    simp only [my_val] at h01
    simp [mx_s3, mx_astore, my_val, g1, ht, hj, h01]) k a1 a2
theorem w_last {ρ n : Nat} {lo hi x i y : Int} (hpg : mz_pg m pc = some (.lastore, a, b, w)) (hx : my_is ρ x) (hD : my_rd ρ = .inl (2, n, [(1, lo, hi)])) (h0 : 0 ≤ i) (hn : i < n) (k : ∀ h', h' = my_up h x i y → wp l rho d m (pc + 1) ls r h' Q) : wp l rho d m pc ls ((1, y) :: (0, i) :: (2, x) :: r) h Q := fun a1 a2 =>
  w_ast (e := (1, lo, hi)) hx hD h0 hn (by simp [Nat.mod_one]) a2.c.1 hpg (fun H dd us g1 hj => by
    have ht : mx_isTy mz_P 2 .long = true := rfl
    simp [mx_s3, mx_astore, my_val, g1, ht, hj, mx_isJ]) k a1 a2
theorem w_alen {ρ n t : Nat} {es : List my_E} {x : Int} (hpg : mz_pg m pc = some (.arraylength, a, b, w)) (hx : my_is ρ x) (hD : my_rd ρ = .inl (t, n, es)) (hn : n ≤ 100000) (k : wp l rho d m (pc + 1) ls ((0, (n : Int)) :: r) h Q) : wp l rho d m pc ls ((2, x) :: r) h Q := by
  intro a1 a2 L H a3 a4
  obtain ⟨dd, us, g1, g3⟩ := a4.arr hx hD
  obtain ⟨pc', L2, st2, H', h', i2, v, b1, b2⟩ := k a1 (a2.c.2.p ⟨by omega, by omega⟩) L H a3 a4
  refine ⟨pc', L2, st2, H', h', i2, v, ok_s3 hpg ?_ rfl rfl b1, b2⟩
  have e : Int32.ofNat n = Int32.ofInt (n : Int) := (Int32.ofInt_eq_ofNat ..).symm
  simp [mx_s3, my_val, g1, e]
/-- a method's end -/
theorem w_iret {x : Int} (hpg : mz_pg m pc = some (.ireturn, a, b, w)) (hm : my_mm m nL (some .int) np ci) (k : Q h (0, x)) : wp l rho d m pc ls [(0, x)] h Q := by
  intro a1 a2 L H a3 a4
  exact ⟨pc, L, _, H, h, _, (0, x), mx_Ok.rf, hpg, by rw [hm.2.1]; rfl, a2.c.1, rfl, a4, k⟩
theorem w_bret {x : Int} (hpg : mz_pg m pc = some (.ireturn, a, b, w)) (hm : my_mm m nL (some .boolean) np ci) (hl : 0 ≤ x) (hh : x ≤ 1) (k : Q h (0, x)) : wp l rho d m pc ls [(0, x)] h Q := by
  intro a1 a2 L H a3 a4
  refine ⟨pc, L, _, H, h, _, (0, x), mx_Ok.rf, hpg, ?_, a2.c.1, rfl, a4, k⟩
  rw [hm.2.1]
  simp only [mx_rv, List.map_cons, List.map_nil, my_01 hl hh, if_true]
  rfl
theorem w_lret {x : Int} (hpg : mz_pg m pc = some (.lreturn, a, b, w)) (hm : my_mm m nL (some .long) np ci) (k : Q h (1, x)) : wp l rho d m pc ls [(1, x)] h Q := by
  intro a1 a2 L H a3 a4
  exact ⟨pc, L, _, H, h, _, (1, x), mx_Ok.rf, hpg, by rw [hm.2.1]; rfl, a2.c.1, rfl, a4, k⟩
theorem w_aret {x : Int} {C : String} (hpg : mz_pg m pc = some (.areturn, a, b, w)) (hm : my_mm m nL (some (.object C)) np ci) (k : Q h (2, x)) : wp l rho d m pc ls [(2, x)] h Q := by
  intro a1 a2 L H a3 a4
  exact ⟨pc, L, _, H, h, _, (2, x), mx_Ok.rf, hpg, by rw [hm.2.1]; rfl, a2.c.1, rfl, a4, k⟩
theorem w_vret (hpg : mz_pg m pc = some (.return_, a, b, w)) (hm : my_mm m nL (none) np ci) (k : Q h (9, 0)) : wp l rho d m pc ls [] h Q := by
  intro a1 a2 L H a3 a4
  exact ⟨pc, L, _, H, h, _, (9, 0), mx_Ok.rf, hpg, by rw [hm.2.1]; rfl, (by decide : (0 : Int) ≤ 0), rfl, a4, k⟩
end MYB
