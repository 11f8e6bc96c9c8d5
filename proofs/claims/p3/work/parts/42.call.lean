/-! rules: calls -/
section MYC
variable {l : Launch} {rho : Nat → Int32} {d m pc : Nat} {ls ls' ls0 st st' r as : List my_V} {h : my_H} {Q : my_H → my_V → Prop} {ins : Instr} {a b w nL np ci : Nat} {rt : Option FieldType}
def my_lay : List my_V → List my_V
  | [] => []
  | v :: r => match v.1 with
    | 1 => v :: (9, 0) :: my_lay r
    | _ => v :: my_lay r
def my_cat (v : my_V) : Nat := match v.1 with
  | 1 => 2
  | _ => 1
theorem my_cat_eq (v : my_V) : mx_cat (my_val v) = my_cat v := by
  obtain ⟨t, x⟩ := v
  match t with
  | 0 => rfl
  | 1 => rfl
  | 2 => rfl
  | t + 3 => rfl
theorem my_cats (vs : List my_V) : ((vs.map my_val).map mx_cat).sum = (vs.map my_cat).sum := by
  rw [List.map_map]
  congr 1
  exact List.map_congr_left (fun v _ => my_cat_eq v)
theorem my_lay_at (k : Nat) : ∀ (as : List my_V) (i j : Nat) (v : my_V), (my_lay as ++ List.replicate k (9, 0))[j]? = some v → v.1 < 9 → mx_look (mx_args i (as.map my_val)) (i + j) = some (my_val v)
  | [], i, j, v, hv, h9 => by
    simp only [my_lay, List.nil_append] at hv
    rw [List.getElem?_replicate] at hv
    split at hv
    next => cases hv; simp at h9
    next => cases hv
  | u :: as, i, j, v, hv, h9 => by
    obtain ⟨t, x⟩ := u
    by_cases ht : t = 1
    · subst ht
      simp only [my_lay, List.cons_append] at hv
      simp only [List.map_cons, mx_args, mx_look]
      match j, hv with
      | 0, hv => cases hv; simp
      | 1, hv => cases hv; simp at h9
      | j + 2, hv =>
        have e : Nat.beq i (i + (j + 2)) = false := by
          cases hq : Nat.beq i (i + (j + 2)) with
          | false => rfl
          | true => have := Nat.eq_of_beq_eq_true hq; omega
        rw [e, cond_false]
        have ih := my_lay_at k as (i + mx_cat (my_val (1, x))) j v hv h9
        have e2 : i + mx_cat (my_val (1, x)) + j = i + (j + 2) := by
          have : mx_cat (my_val (1, x)) = 2 := rfl
          omega
        rw [e2] at ih
        exact ih
    · have e3 : my_lay ((t, x) :: as) = (t, x) :: my_lay as := by
        match t, ht with
        | 0, _ => rfl
        | 1, ht => exact absurd rfl ht
        | t + 2, _ => rfl
      have e4 : mx_cat (my_val (t, x)) = 1 := by
        rw [my_cat_eq]
        match t, ht with
        | 0, _ => rfl
        | 1, ht => exact absurd rfl ht
        | t + 2, _ => rfl
      rw [e3] at hv
      simp only [List.map_cons, mx_args, mx_look]
      match j, hv with
      | 0, hv => cases hv; simp
      | j + 1, hv =>
        have e : Nat.beq i (i + (j + 1)) = false := by
          cases hq : Nat.beq i (i + (j + 1)) with
          | false => rfl
          | true => have := Nat.eq_of_beq_eq_true hq; omega
        rw [e, cond_false]
        have ih := my_lay_at k as (i + mx_cat (my_val (t, x))) j v hv h9
        have e2 : i + mx_cat (my_val (t, x)) + j = i + (j + 1) := by rw [e4]; omega
        rw [e2] at ih
        exact ih
theorem my_lay_LR (as : List my_V) (k : Nat) : my_LR (my_lay as ++ List.replicate k (9, 0)) (mx_args 0 (as.map my_val)) := by
  intro i v hv h9
  have := my_lay_at k as 0 i v hv h9
  rwa [Nat.zero_add] at this
theorem my_lay_all : ∀ (as : List my_V) (k : Nat), my_all as → my_all (my_lay as ++ List.replicate k (9, 0))
  | [], k, _ => by
    intro v hv
    simp only [my_lay, List.nil_append] at hv
    rw [List.eq_of_mem_replicate hv]
    exact (by decide : (0 : Int) ≤ 0)
  | u :: as, k, hu => by
    have ih := my_lay_all as k hu.c.2
    obtain ⟨t, x⟩ := u
    match t, hu with
    | 0, hu => exact ih.p hu.c.1
    | 1, hu => exact (ih.p (v := (9, 0)) (by decide : (0 : Int) ≤ 0)).p hu.c.1
    | t + 2, hu => exact ih.p hu.c.1
theorem my_all.app {u v : List my_V} (h : my_all (u ++ v)) : my_all u ∧ my_all v := ⟨fun x hx => h x (List.mem_append_left _ hx), fun x hx => h x (List.mem_append_right _ hx)⟩
theorem my_all.rev {u : List my_V} (h : my_all u) : my_all u.reverse := fun x hx => h x (List.mem_reverse.mp hx)
theorem my_push_map (v : my_V) (r : List my_V) : (my_ret v).toList ++ r.map my_val = (my_push v r).map my_val := by
  obtain ⟨t, x⟩ := v
  by_cases ht : t = 9
  · subst ht; rfl
  · have e1 : my_ret (t, x) = some (my_val (t, x)) := by simp only [my_ret, ht, if_false]
    have e2 : my_push (t, x) r = (t, x) :: r := by
      unfold my_push
      split
      next q => exact absurd q ht
      next => rfl
    rw [e1, e2]; rfl
theorem my_push_all {v : my_V} {r : List my_V} (hv : my_in v) (hr : my_all r) : my_all (my_push v r) := by
  unfold my_push
  split
  next => exact hr
  next => exact hr.p hv
/-- a call on an object -/
theorem w_inv {q ρ cx k : Nat} {fl : List my_E} {x : Int} (hpg : mz_pg m pc = some (.invokevirtual q, a, b, w)) (hm : my_mm b nL rt np cx) (est : st = as ++ (2, x) :: r) (hx : my_is ρ x) (hD : my_rd ρ = .inr (cx, fl)) (ha : Nat.blt 0 a = true) (hnp : as.length = np) (hr8 : Nat.ble (r.map my_cat).sum 8 = true) (hnl : Nat.ble (1 + (as.map my_cat).sum) nL = true) (e0 : ls0 = my_lay ((2, x) :: as.reverse) ++ List.replicate k (9, 0))
    (kk : wp l rho d b 0 ls0 [] h (fun h' v => wp l rho (d + 1) m (pc + 3) ls (my_push v r) h' Q)) : wp l rho (d + 1) m pc ls st h Q := by
  intro a1 a2 L H a3 a4
  subst est; subst e0
  obtain ⟨fs, g1, g2, g3⟩ := a4.obj hx hD
  obtain ⟨c1, c2⟩ := a2.app
  obtain ⟨c3, c4⟩ := c2.c
  obtain ⟨pc1, L1, st1, H1, h1, ⟨i1, i2, i3, i4⟩, v1, b1, b2, b3, b4, b5, b6, b7⟩ := kk (my_lay_all _ _ (c1.rev.p c3)) (fun _ hv => by cases hv) _ H (my_lay_LR _ _) a4
  obtain ⟨pc2, L2, st2, H2, h2, i5, v2, d1, d2, d3, d4, d5, d6⟩ := b7 a1 (my_push_all b4 c4) L H1 a3 b6
  refine ⟨pc2, L2, st2, H2, h2, i5, v2, ok_call (mc1 := 0) (ms1 := 0) hpg (as := ((2, x) :: as.reverse).map my_val) (r := r.map my_val) ?_ b1 b2 b3 (by rw [my_push_map]; exact d1), d2, d3, d4, by rw [d5, b5], d6⟩
  have f1 : (((as ++ (2, x) :: r).map my_val).drop np) = .ref x.toNat :: r.map my_val := by
    rw [List.map_append, ← hnp, ← List.length_map (as := as) my_val, List.drop_left]; rfl
  have f2 : (((as ++ (2, x) :: r).map my_val).take np) = as.map my_val := by
    rw [List.map_append, ← hnp, ← List.length_map (as := as) my_val, List.take_left]
  simp only [mx_s4]
  rw [show (mx_mt mz_P b).2.2.2.2.1 = np from hm.2.2.1, f1, f2]
  simp only [g1]
  rw [if_pos ⟨Nat.blt_eq.mp ha, hm.2.2.2.symm, by rw [my_cats]; exact Nat.le_of_ble_eq_true hr8, by rw [my_cats, show (mx_mt mz_P b).2.2.1 = nL from hm.1]; exact Nat.le_of_ble_eq_true hnl⟩]
  rw [List.map_cons, List.map_reverse]; rfl
/-- a static call -/
theorem w_inS {q k : Nat} (hpg : mz_pg m pc = some (.invokestatic q, a, b, w)) (hm : my_mm b nL rt np ci) (est : st = as ++ r) (ha : Nat.blt 0 a = true) (hnp : as.length = np) (hr8 : Nat.ble (r.map my_cat).sum 8 = true) (hnl : Nat.ble ((as.map my_cat).sum) nL = true) (e0 : ls0 = my_lay as.reverse ++ List.replicate k (9, 0))
    (kk : wp l rho d b 0 ls0 [] h (fun h' v => wp l rho (d + 1) m (pc + 3) ls (my_push v r) h' Q)) : wp l rho (d + 1) m pc ls st h Q := by
  intro a1 a2 L H a3 a4
  subst est; subst e0
  obtain ⟨c1, c4⟩ := a2.app
  obtain ⟨pc1, L1, st1, H1, h1, ⟨i1, i2, i3, i4⟩, v1, b1, b2, b3, b4, b5, b6, b7⟩ := kk (my_lay_all _ _ c1.rev) (fun _ hv => by cases hv) _ H (my_lay_LR _ _) a4
  obtain ⟨pc2, L2, st2, H2, h2, i5, v2, d1, d2, d3, d4, d5, d6⟩ := b7 a1 (my_push_all b4 c4) L H1 a3 b6
  refine ⟨pc2, L2, st2, H2, h2, i5, v2, ok_call (mc1 := 0) (ms1 := 0) hpg (as := (as.reverse).map my_val) (r := r.map my_val) ?_ b1 b2 b3 (by rw [my_push_map]; exact d1), d2, d3, d4, by rw [d5, b5], d6⟩
  have f1 : (((as ++ r).map my_val).drop np) = r.map my_val := by
    rw [List.map_append, ← hnp, ← List.length_map (as := as) my_val, List.drop_left]
  have f2 : (((as ++ r).map my_val).take np) = as.map my_val := by
    rw [List.map_append, ← hnp, ← List.length_map (as := as) my_val, List.take_left]
  simp only [mx_s4]
  rw [show (mx_mt mz_P b).2.2.2.2.1 = np from hm.2.2.1, f1, f2]
  rw [if_pos ⟨Nat.blt_eq.mp ha, by rw [List.length_map, List.length_append]; omega, by rw [my_cats]; exact Nat.le_of_ble_eq_true hr8, by rw [my_cats, show (mx_mt mz_P b).2.2.1 = nL from hm.1]; exact Nat.le_of_ble_eq_true hnl⟩]
  rw [List.map_reverse]
end MYC
