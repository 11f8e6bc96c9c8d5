/-! the class's value: it throws, or it answers -/
section MRQ
/-- from here value comes to its throw, or to its answer, and nothing that we look at has changed -/
def wq (l : Launch) (rho : Nat → Int32) (d pc : Nat) (ls st : List my_V) (h : my_H) : Prop :=
  my_all ls → my_all st → ∀ (L : mx_L) (H : mx_H), my_LR ls L → my_HR H h →
    (∃ (L1 : mx_L) (H1 : mx_H), mx_Ok l mz_P mz_G mz_tb rho d 142 pc L (st.map my_val) H 24 L1 [] H1 0 0 ∧ my_HR H1 h) ∨
    (∃ (pc' : Nat) (L' : mx_L) (st' : List Value) (H' : mx_H) (i : mx_I) (z : Int), mx_Ok l mz_P mz_G mz_tb rho d 142 pc L (st.map my_val) H pc' L' st' H' 0 0 ∧ mz_pg 142 pc' = some i ∧ mx_rv i.1 (mz_mt 142).2.2.2.1 st' = some (some (my_val (0, z))) ∧ my_in (0, z) ∧ my_HR H' h)
variable {l : Launch} {rho : Nat → Int32} {d pc pc' : Nat} {ls ls' st st' r as ls0 : List my_V} {h : my_H} {ins : Instr} {a b w nL np ci : Nat} {rt : Option FieldType}
theorem q_seg (sgm : my_all ls → my_all st → ∀ (L : mx_L) (H : mx_H), my_LR ls L → my_HR H h → ∃ (L' : mx_L) (H' : mx_H), (∀ (pc2 : Nat) (L2 : mx_L) (st2 : List Value) (H2 : mx_H), mx_Ok l mz_P mz_G mz_tb rho d 142 pc' L' (st'.map my_val) H' pc2 L2 st2 H2 0 0 → mx_Ok l mz_P mz_G mz_tb rho d 142 pc L (st.map my_val) H pc2 L2 st2 H2 0 0) ∧ my_all ls' ∧ my_all st' ∧ my_LR ls' L' ∧ my_HR H' h) (k : wq l rho d pc' ls' st' h) : wq l rho d pc ls st h := by
  intro a1 a2 L H a3 a4
  obtain ⟨L', H', ok, c1, c2, c3, c4⟩ := sgm a1 a2 L H a3 a4
  rcases k c1 c2 L' H' c3 c4 with ⟨L1, H1, g1, g2⟩ | ⟨p2, L2, s2, H2, i, z, g1, g2⟩
  · exact Or.inl ⟨L1, H1, ok _ _ _ _ g1, g2⟩
  · exact Or.inr ⟨p2, L2, s2, H2, i, z, ok _ _ _ _ g1, g2⟩
theorem q_s1 (hpg : mz_pg 142 pc = some (ins, a, b, w)) (h1 : my_all ls → my_all st → ∀ L, my_LR ls L → my_all ls' ∧ my_all st' ∧ ∃ L', mx_s1 (mz_mt 142).2.2.1 ins L (st.map my_val) = some (L', st'.map my_val) ∧ my_LR ls' L') (k : wq l rho d (pc + mx_len ins) ls' st' h) : wq l rho d pc ls st h :=
  q_seg (fun a1 a2 L H a3 a4 => by
    obtain ⟨g1, g2, L', g3, g4⟩ := h1 a1 a2 L a3
    exact ⟨L', H, fun _ _ _ _ ok => ok_s1 hpg g3 ok, g1, g2, g4, a4⟩) k
theorem q_iload_n {i : Fin 4} {x : Int} (hpg : mz_pg 142 pc = some (.iload_n i, a, b, w)) (hi : ls[i.val]? = some (0, x)) (k : wq l rho d (pc + 1) ls ((0, x) :: st) h) : wq l rho d pc ls st h :=
  q_s1 (ls' := ls) (st' := (0, x) :: st) hpg (fun a1 a2 L a3 => ⟨a1, a2.p (a1.g hi), L, my_ld (t := mx_isI) a3 hi (Nat.blt_eq.mp rfl) rfl, a3⟩) k
theorem q_aload_n {i : Fin 4} {x : Int} (hpg : mz_pg 142 pc = some (.aload_n i, a, b, w)) (hi : ls[i.val]? = some (2, x)) (k : wq l rho d (pc + 1) ls ((2, x) :: st) h) : wq l rho d pc ls st h :=
  q_s1 (ls' := ls) (st' := (2, x) :: st) hpg (fun a1 a2 L a3 => ⟨a1, a2.p (a1.g hi), L, my_ld (t := mx_isA) a3 hi (Nat.blt_eq.mp rfl) rfl, a3⟩) k
theorem q_getX {q ρ : Nat} {fl : List my_E} {ρ' δ x v : Int} (hpg : mz_pg 142 pc = some (.getfield q, a, b, w)) (hx : my_is ρ x) (hD : my_rd ρ = .inr (a, fl)) (hb : fl[b]? = some (2, ρ', δ)) (hδ : δ ≠ 0) (ev : v = x + δ) (k : wq l rho d (pc + 3) ls ((2, v) :: r) h) : wq l rho d pc ls ((2, x) :: r) h :=
  q_seg (st' := (2, v) :: r) (fun a1 a2 L H a3 a4 => by
    obtain ⟨fs, g1, g2, g3⟩ := a4.obj hx hD
    obtain ⟨g4, g5⟩ := g3 b _ hb
    have e1 : h x b = v := (g5.2.resolve_left hδ).trans ev.symm
    rw [e1] at g4 g5
    exact ⟨L, H, fun _ _ _ _ ok => ok_get hpg g1 g4 ok, a1, a2.c.2.p g5.1.1, a3, a4⟩) k
theorem q_br {t : Nat} (hpg : mz_pg 142 pc = some (ins, a, b, w)) (hb : my_all st → mx_s2 ins pc [] (st.map my_val) = some [([], t, r.map my_val)] ∧ my_all r) (k : wq l rho d t ls r h) : wq l rho d pc ls st h :=
  q_seg (fun a1 a2 L H a3 a4 => ⟨L, H, fun _ _ _ _ ok => ok_br hpg (hb a2).1 ok, a1, (hb a2).2, a3, a4⟩) k
theorem q_if {cd : Jvm.ClassFile.Cond} {off : Int} {t : Nat} {x : Int} (hpg : mz_pg 142 pc = some (.ifCond cd off, a, b, w)) (ht : mx_tg pc off = some t) (k1 : mx_cmp cd (Int32.ofInt x) 0 = true → wq l rho d t ls r h) (k2 : mx_cmp cd (Int32.ofInt x) 0 = false → wq l rho d (pc + 3) ls r h) : wq l rho d pc ls ((0, x) :: r) h := by
  intro a1 a2
  obtain ⟨c1, c2⟩ := a2.c
  cases hc : mx_cmp cd (Int32.ofInt x) 0 with
  | true => exact q_br hpg (fun _ => ⟨by simp only [mx_s2, ht, List.map_cons, my_val, hc, if_true], c2⟩) (k1 hc) a1 a2
  | false => exact q_br hpg (fun _ => ⟨by simp [mx_s2, ht, my_val, hc], c2⟩) (k2 hc) a1 a2
theorem q_inv {q ρ cx k : Nat} {fl : List my_E} {x : Int} (hpg : mz_pg 142 pc = some (.invokevirtual q, a, b, w)) (hm : my_mm b nL rt np cx) (est : st = as ++ (2, x) :: r) (hx : my_is ρ x) (hD : my_rd ρ = .inr (cx, fl)) (ha : Nat.blt 0 a = true) (hnp : as.length = np) (hr8 : Nat.ble (r.map my_cat).sum 8 = true) (hnl : Nat.ble (1 + (as.map my_cat).sum) nL = true) (e0 : ls0 = my_lay ((2, x) :: as.reverse) ++ List.replicate k (9, 0))
    (kk : wp l rho d b 0 ls0 [] h (fun h' v => h' = h ∧ wq l rho (d + 1) (pc + 3) ls (my_push v r) h)) : wq l rho (d + 1) pc ls st h := by
  intro a1 a2 L H a3 a4
  subst est; subst e0
  obtain ⟨fs, g1, g2, g3⟩ := a4.obj hx hD
  obtain ⟨c1, c2⟩ := a2.app
  obtain ⟨c3, c4⟩ := c2.c
  obtain ⟨pc1, L1, st1, H1, h1, ⟨i1, i2, i3, i4⟩, v1, b1, b2, b3, b4, b5, b6, rfl, b7⟩ := kk (my_lay_all _ _ (c1.rev.p c3)) (fun _ hv => by cases hv) _ H (my_lay_LR _ _) a4
  have f4 : mx_s4 mz_P (.invokevirtual q) a b H ((as ++ (2, x) :: r).map my_val) = some (((2, x) :: as.reverse).map my_val, r.map my_val) := by
    have f1 : (((as ++ (2, x) :: r).map my_val).drop np) = .ref x.toNat :: r.map my_val := by
      rw [List.map_append, ← hnp, ← List.length_map (as := as) my_val, List.drop_left]; rfl
    have f2 : (((as ++ (2, x) :: r).map my_val).take np) = as.map my_val := by
      rw [List.map_append, ← hnp, ← List.length_map (as := as) my_val, List.take_left]
    simp only [mx_s4]
    rw [show (mx_mt mz_P b).2.2.2.2.1 = np from hm.2.2.1, f1, f2]
    simp only [g1]
    rw [if_pos ⟨Nat.blt_eq.mp ha, hm.2.2.2.symm, by rw [my_cats]; exact Nat.le_of_ble_eq_true hr8, by rw [my_cats, show (mx_mt mz_P b).2.2.1 = nL from hm.1]; exact Nat.le_of_ble_eq_true hnl⟩]
    rw [List.map_cons, List.map_reverse]; rfl
  rcases b7 a1 (my_push_all b4 c4) L H1 a3 b6 with ⟨L2, H2, k1, k2⟩ | ⟨p2, L2, s2, H2, i, z, k1, k2⟩
  · exact Or.inl ⟨L2, H2, ok_call (mc1 := 0) (ms1 := 0) (mc := 0) (ms := 0) hpg f4 b1 b2 b3 (by rw [my_push_map]; exact k1), k2⟩
  · exact Or.inr ⟨p2, L2, s2, H2, i, z, ok_call (mc1 := 0) (ms1 := 0) (mc := 0) (ms := 0) hpg f4 b1 b2 b3 (by rw [my_push_map]; exact k1), k2⟩
theorem q_thr : wq l rho d 24 ls [] h := fun _ _ L H _ a4 => Or.inl ⟨L, H, mx_Ok.rf, a4⟩
theorem q_w (k : wp l rho d 142 pc ls st h (fun h' v => h' = h ∧ v.1 = 0)) : wq l rho d pc ls st h := by
  intro a1 a2 L H a3 a4
  obtain ⟨pc', L', st', H', h', i, ⟨v1, v2⟩, b1, b2, b3, b4, b5, b6, rfl, rfl⟩ := k a1 a2 L H a3 a4
  exact Or.inr ⟨pc', L', st', H', i, v2, b1, b2, b3, b4, b6⟩
/-- value, from its first instruction -/
theorem q_value {x1 x2 x3 : Int} : wq l rho (d + 2) 0 [(2, 0), (0, x1), (0, x2), (0, x3)] [] h := by
  refine q_aload_n gz_142_0 rfl ?_
  refine q_getX (v := 1) gz_142_1 is_0 rd_9 rfl (by decide) rfl ?_
  refine q_iload_n gz_142_4 rfl ?_
  refine q_iload_n gz_142_5 rfl ?_
  refine q_inv (k := 0) (as := [(0, x3), (0, x1)]) (r := []) (x := 1) (ls0 := [(2, 1), (0, x1), (0, x3)]) gz_142_6 gm_27 rfl is_1 rd_3 rfl rfl rfl rfl rfl (c_Laws_has ⟨rfl, ?_⟩ (fun p1 p2 p3 p4 => ⟨rfl, ?_⟩))
  · exact q_if (t := 24) gz_142_9 rfl (fun _ => q_thr) (fun u => absurd u (by decide))
  · refine q_if (t := 24) gz_142_9 rfl (fun u => absurd u (by decide)) (fun _ => ?_)
    refine q_aload_n gz_142_12 rfl ?_
    refine q_getX (v := 7) gz_142_13 is_0 rd_9 rfl (by decide) rfl ?_
    refine q_iload_n gz_142_16 rfl ?_
    refine q_iload_n gz_142_17 rfl ?_
    refine q_inv (k := 0) (as := [(0, x2), (0, x1)]) (r := []) (x := 7) (ls0 := [(2, 7), (0, x1), (0, x2)]) gz_142_18 gm_15 rfl is_7 rd_6 rfl rfl rfl rfl rfl (c_Rows_has is_7 p1 p2 ⟨rfl, ?_⟩ (fun p5 p6 => ⟨rfl, ?_⟩))
    · exact q_if (t := 32) gz_142_21 rfl (fun u => absurd u (by decide)) (fun _ => q_thr)
    · refine q_if (t := 32) gz_142_21 rfl (fun _ => ?_) (fun u => absurd u (by decide))
      refine q_w ?_
      refine w_aload_n gz_142_32 rfl ?_
      refine w_getX (v := 7) gz_142_33 is_0 rd_9 rfl (by decide) rfl ?_
      refine w_getX (v := 8) gz_142_36 is_7 rd_6 rfl (by decide) rfl ?_
      refine w_iload_n gz_142_39 rfl ?_
      refine w_iload_n gz_142_40 rfl ?_
      refine w_inS (k := 0) (as := [(0, x2), (0, x1)]) (r := [(2, 8)]) (ls0 := [(0, x1), (0, x2)]) gz_142_41 gm_17 rfl rfl rfl rfl rfl rfl ?_
      refine w_iload_n gz_17_0 rfl ?_
      refine w_bipush gz_17_1 (by decide) ?_
      refine w_imul gz_17_3 ⟨by omega, by omega⟩ ?_
      refine w_iload_n gz_17_4 rfl ?_
      refine w_iadd gz_17_5 ⟨by omega, by omega⟩ ?_
      refine w_iconst gz_17_6 (by decide) ?_
      refine w_imul gz_17_7 ⟨by omega, by omega⟩ ?_
      refine w_iret gz_17_8 gm_17 ?_
      show wp l rho (d + 2) 142 44 [(2, 0), (0, x1), (0, x2), (0, x3)] [(0, (x1 * 20 + x2) * 4), (2, 8)] h _
      refine w_iload_n gz_142_44 rfl ?_
      refine w_iadd gz_142_45 ⟨by omega, by omega⟩ ?_
      refine w_iald gz_142_46 is_8 rd_30 (by omega) (by omega) (fun v4 ev4 pv4 qv4 => ?_)
      exact w_iret gz_142_47 gm_142 ⟨rfl, rfl⟩
end MRQ
