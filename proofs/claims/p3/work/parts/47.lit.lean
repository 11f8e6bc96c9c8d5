/-! the same rules with a field's number as an int; cells that stay; what of a heap a saying rests on -/
section MYZ
variable {l : Launch} {rho : Nat → Int32} {d m pc : Nat} {ls ls' ls0 st st' r as : List my_V} {h : my_H} {Q : my_H → my_V → Prop} {ins : Instr} {a b w nL np ci : Nat} {rt : Option FieldType}
theorem v_getI {q ρ : Nat} {fl : List my_E} {j lo hi x : Int} (hpg : mz_pg m pc = some (.getfield q, a, b, w)) (hj : ((b : Nat) : Int) = j) (hx : my_is ρ x) (hD : my_rd ρ = .inr (a, fl)) (hb : fl[b]? = some (0, lo, hi)) (k : ∀ y, y = h x j → lo ≤ y → y ≤ hi → wp l rho d m (pc + 3) ls ((0, y) :: r) h Q) : wp l rho d m pc ls ((2, x) :: r) h Q := by
  subst hj
  exact w_getI hpg hx hD hb k
theorem v_getR {q ρ : Nat} {fl : List my_E} {j ρ' hi x : Int} (hpg : mz_pg m pc = some (.getfield q, a, b, w)) (hj : ((b : Nat) : Int) = j) (hx : my_is ρ x) (hD : my_rd ρ = .inr (a, fl)) (hb : fl[b]? = some (2, ρ', hi)) (k : ∀ y, y = h x j → my_is ρ'.toNat y → wp l rho d m (pc + 3) ls ((2, y) :: r) h Q) : wp l rho d m pc ls ((2, x) :: r) h Q := by
  subst hj
  exact w_getR hpg hx hD hb k
theorem v_putI {q ρ : Nat} {fl : List my_E} {j lo hi x y : Int} (hpg : mz_pg m pc = some (.putfield q, a, b, w)) (hj : ((b : Nat) : Int) = j) (hx : my_is ρ x) (hD : my_rd ρ = .inr (a, fl)) (hb : fl[b]? = some (0, lo, hi)) (hl : lo ≤ y) (hh : y ≤ hi) (ht : mz_ft a b = .int) (k : ∀ h', h' = my_up h x j y → wp l rho d m (pc + 3) ls r h' Q) : wp l rho d m pc ls ((0, y) :: (2, x) :: r) h Q := by
  subst hj
  exact w_putI hpg hx hD hb hl hh ht k
theorem v_putB {q ρ : Nat} {fl : List my_E} {j x y : Int} (hpg : mz_pg m pc = some (.putfield q, a, b, w)) (hj : ((b : Nat) : Int) = j) (hx : my_is ρ x) (hD : my_rd ρ = .inr (a, fl)) (hb : fl[b]? = some (0, 0, 1)) (hl : 0 ≤ y) (hh : y ≤ 1) (ht : mz_ft a b = .boolean) (k : ∀ h', h' = my_up h x j y → wp l rho d m (pc + 3) ls r h' Q) : wp l rho d m pc ls ((0, y) :: (2, x) :: r) h Q := by
  subst hj
  exact w_putB hpg hx hD hb hl hh ht k
theorem v_putA {q ρ : Nat} {fl : List my_E} {j x y : Int} (hpg : mz_pg m pc = some (.putfield q, a, b, w)) (hj : ((b : Nat) : Int) = j) (hx : my_is ρ x) (hD : my_rd ρ = .inr (a, fl)) (hb : fl[b]? = some (0, -2147483648, 2147483647)) (ht : mz_ft a b = .int) (k : ∀ h', h' = my_up h x j y → wp l rho d m (pc + 3) ls r h' Q) : wp l rho d m pc ls ((0, y) :: (2, x) :: r) h Q := by
  subst hj
  exact w_putA hpg hx hD hb ht k
theorem v_putR {q ρ : Nat} {fl : List my_E} {j ρ' x y : Int} {C : String} (hpg : mz_pg m pc = some (.putfield q, a, b, w)) (hj : ((b : Nat) : Int) = j) (hx : my_is ρ x) (hD : my_rd ρ = .inr (a, fl)) (hb : fl[b]? = some (2, ρ', 0)) (hy : my_is ρ'.toNat y) (ht : mz_ft a b = .object C) (k : ∀ h', h' = my_up h x j y → wp l rho d m (pc + 3) ls r h' Q) : wp l rho d m pc ls ((2, y) :: (2, x) :: r) h Q := by
  subst hj
  exact w_putR hpg hx hD hb hy ht k
/-- what a field may hold, unread -/
theorem v_know {ρ ci : Nat} {fl : List my_E} {j lo hi x : Int} (hj : ((b : Nat) : Int) = j) (hx : my_is ρ x) (hD : my_rd ρ = .inr (ci, fl)) (hb : fl[b]? = some (0, lo, hi)) (k : ∀ y, y = h x j → lo ≤ y → y ≤ hi → wp l rho d m pc ls st h Q) : wp l rho d m pc ls st h Q := by
  subst hj
  intro a1 a2 L H a3 a4
  obtain ⟨fs, g1, g2, g3⟩ := a4.obj hx hD
  obtain ⟨g4, g5⟩ := g3 b _ hb
  exact k _ rfl g5.1 g5.2.1 a1 a2 L H a3 a4
/-- what an element may be, unread -/
theorem v_knowA {ρ n t : Nat} {lo hi x : Int} (hx : my_is ρ x) (hD : my_rd ρ = .inl (t, n, [(0, lo, hi)])) (k : (∀ i : Int, 0 ≤ i → i < n → lo ≤ h x i ∧ h x i ≤ hi) → wp l rho d m pc ls st h Q) : wp l rho d m pc ls st h Q := by
  intro a1 a2 L H a3 a4
  obtain ⟨dd, us, g1, g3⟩ := a4.arr hx hD
  refine k (fun i h0 hn => ?_) a1 a2 L H a3 a4
  have := (g3 i.toNat (0, lo, hi) (by omega) (by simp [Nat.mod_one])).2
  rw [Int.toNat_of_nonneg h0] at this
  exact ⟨this.1, this.2.1⟩
theorem v_alen {ρ n t : Nat} {es : List my_E} {j x : Int} (hpg : mz_pg m pc = some (.arraylength, a, b, w)) (hj : ((n : Nat) : Int) = j) (hx : my_is ρ x) (hD : my_rd ρ = .inl (t, n, es)) (hn : n ≤ 100000) (k : wp l rho d m (pc + 1) ls ((0, j) :: r) h Q) : wp l rho d m pc ls ((2, x) :: r) h Q := by
  subst hj
  exact w_alen hpg hx hD hn k
theorem my_up_ne {h h' : my_H} {x a j i y : Int} (e : h' = my_up h a j y) (hn : ¬ (x = a ∧ i = j)) : h' x i = h x i := by
  subst e
  exact if_neg hn
theorem my_cp_ne {h h' : my_H} {x i k0 sp k1 dp n : Int} (e : h' = my_cp h k0 sp k1 dp n) (hn : ¬ (x = k1 ∧ dp ≤ i ∧ i < dp + n)) : h' x i = h x i := by
  subst e
  exact if_neg hn
theorem my_cp_in {h h' : my_H} {i k0 sp k1 dp n : Int} (e : h' = my_cp h k0 sp k1 dp n) (h1 : dp ≤ i) (h2 : i < dp + n) : h' k1 i = h k0 (sp + (i - dp)) := by
  subst e
  exact if_pos ⟨rfl, h1, h2⟩
/-- two heaps agree on the cells of these roles (and fields; -1: all) -/
def my_ag (F : List (Nat × Int)) (h h' : my_H) : Prop := ∀ k j : Int, my_md F k j = true → h' k j = h k j
theorem my_ag.at {F : List (Nat × Int)} {h h' : my_H} {ρ : Nat} {x j : Int} (p : my_ag F h h') (hx : my_is ρ x) (hF : F.any (fun q => ρ == q.1 && (q.2 == -1 || q.2 == j)) = true) : h' x j = h x j := by
  refine p x j ?_
  unfold my_md
  rw [hx.2.2]
  exact hF
def my_dis (T F : List (Nat × Int)) : Bool := T.all (fun q => F.all (fun u => !(q.1 == u.1 && (u.2 == -1 || q.2 == -1 || u.2 == q.2))))
theorem my_ag.fr {T F : List (Nat × Int)} {h h' : my_H} (p : my_fr T h h') (hd : my_dis T F = true) : my_ag F h h' := by
  intro k j hk
  refine p k j ?_
  cases hq : my_md T k j with
  | false => rfl
  | true =>
    exfalso
    obtain ⟨q, q1, q2⟩ := List.any_eq_true.mp hq
    obtain ⟨u, u1, u2⟩ := List.any_eq_true.mp hk
    have h3 := List.all_eq_true.mp (List.all_eq_true.mp hd q q1) u u1
    simp only [Bool.and_eq_true, Bool.or_eq_true, beq_iff_eq] at q2 u2
    have e1 : (q.1 == u.1) = true := by rw [beq_iff_eq, ← q2.1, ← u2.1]
    have e2 : (u.2 == -1 || q.2 == -1 || u.2 == q.2) = true := by
      simp only [Bool.or_eq_true, beq_iff_eq]
      rcases u2.2 with e | e
      · exact Or.inl (Or.inl e)
      · rcases q2.2 with e3 | e3
        · exact Or.inl (Or.inr e3)
        · exact Or.inr (e.trans e3.symm)
    rw [e1, e2] at h3
    cases h3
theorem my_ag.up {F : List (Nat × Int)} {h h' : my_H} {ρ : Nat} {x j y : Int} (e : h' = my_up h x j y) (hx : my_is ρ x) (hF : F.any (fun q => ρ == q.1 && (q.2 == -1 || q.2 == j)) = false) : my_ag F h h' := by
  intro k i hk
  subst e
  refine if_neg (fun q => ?_)
  obtain ⟨rfl, rfl⟩ := q
  unfold my_md at hk
  rw [hx.2.2, hF] at hk
  cases hk
theorem my_ag.cp {F : List (Nat × Int)} {h h' : my_H} {ρ : Nat} {k0 sp k1 dp n : Int} (e : h' = my_cp h k0 sp k1 dp n) (hx : my_is ρ k1) (hF : F.any (fun q => ρ == q.1) = false) : my_ag F h h' := by
  intro k i hk
  subst e
  refine if_neg (fun q => ?_)
  obtain ⟨rfl, -⟩ := q
  unfold my_md at hk
  rw [hx.2.2] at hk
  obtain ⟨u, u1, u2⟩ := List.any_eq_true.mp hk
  have : F.any (fun q => ρ == q.1) = true := by
    refine List.any_eq_true.mpr ⟨u, u1, ?_⟩
    simp only [Bool.and_eq_true] at u2
    exact u2.1
  rw [hF] at this
  cases this
theorem my_ag.tr {F : List (Nat × Int)} {h1 h2 h3 : my_H} (p : my_ag F h1 h2) (q : my_ag F h2 h3) : my_ag F h1 h3 := fun k j hk => (q k j hk).trans (p k j hk)
theorem my_ag.mo {F G : List (Nat × Int)} {h1 h2 : my_H} (p : my_ag F h1 h2) (hT : G.all (fun q => F.any (fun u => q.1 == u.1 && (u.2 == -1 || u.2 == q.2))) = true) : my_ag G h1 h2 := by
  intro k j hk
  refine p k j ?_
  obtain ⟨q, q1, q2⟩ := List.any_eq_true.mp hk
  obtain ⟨u, u1, u2⟩ := List.any_eq_true.mp (List.all_eq_true.mp hT q q1)
  simp only [Bool.and_eq_true, Bool.or_eq_true, beq_iff_eq] at q2 u2
  refine List.any_eq_true.mpr ⟨u, u1, ?_⟩
  simp only [Bool.and_eq_true, Bool.or_eq_true, beq_iff_eq]
  refine ⟨q2.1.trans u2.1, ?_⟩
  rcases u2.2 with e | e
  · exact Or.inl e
  · rcases q2.2 with e3 | e3
    · exact Or.inl (by omega)
    · exact Or.inr (by omega)
theorem my_isOff {ρ ρ' : Nat} {δ : Nat} {x : Int} (hx : my_is ρ x) (hall : (List.range my_N).all (fun k => !(my_ot k == ρ) || (my_ot (k + δ) == ρ' && Nat.blt (k + δ) my_N)) = true) : my_is ρ' (x + δ) := by
  obtain ⟨h0, h1, h2⟩ := hx
  have h3 := List.all_eq_true.mp hall x.toNat (List.mem_range.mpr h1)
  rw [h2] at h3
  simp only [beq_self_eq_true, Bool.not_true, Bool.false_or, Bool.and_eq_true, beq_iff_eq] at h3
  have e : (x + δ).toNat = x.toNat + δ := by omega
  exact ⟨by omega, by rw [e]; exact Nat.blt_eq.mp h3.2, by rw [e]; exact h3.1⟩
/-- only the object from x on, n numbers far, has changed -/
def my_fx (x n : Int) (h h' : my_H) : Prop := ∀ k j : Int, (k < x ∨ x + n < k) → h' k j = h k j
theorem my_fx.rf {x n : Int} {h : my_H} : my_fx x n h h := fun _ _ _ => rfl
theorem my_fx.tr {x n : Int} {h1 h2 h3 : my_H} (p : my_fx x n h1 h2) (q : my_fx x n h2 h3) : my_fx x n h1 h3 := fun k j hk => (q k j hk).trans (p k j hk)
theorem my_fx.up {x n a j y : Int} {h h' h2 : my_H} (p : my_fx x n h h') (e : h2 = my_up h' a j y) (ha : x ≤ a ∧ a ≤ x + n) : my_fx x n h h2 := by
  subst e
  intro k i hk
  rw [← p k i hk]
  exact if_neg (fun q => by omega)
theorem my_fx.cp {x n k0 sp k1 dp c : Int} {h h' h2 : my_H} (p : my_fx x n h h') (e : h2 = my_cp h' k0 sp k1 dp c) (ha : x ≤ k1 ∧ k1 ≤ x + n) : my_fx x n h h2 := by
  subst e
  intro k i hk
  rw [← p k i hk]
  exact if_neg (fun q => by omega)
theorem my_fx.at {x n k j : Int} {h h' : my_H} (p : my_fx x n h h') (hk : k < x ∨ x + n < k) : h' k j = h k j := p k j hk
end MYZ
