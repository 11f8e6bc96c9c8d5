/-! wall, exactly (printed by wip/gen/mkwall.py) -/
section MYW
theorem c_ThroughWindow_wall3 {l : Launch} {rho : Nat → Int32} {d : Nat} {h : my_H} {Q : my_H → my_V → Prop} {x1 x2 : Int} (k0 : ¬(0 ≤ x1 ∧ x1 ≤ 2 ∧ h 2 x1 ≤ 0 ∧ 1 ≤ x2 ∧ x2 ≤ 4) → Q h (0, 0)) (k1 : ∀ (h' : my_H), my_fr [(25, -1)] h h' → 0 ≤ x1 → x1 ≤ 2 → h 2 x1 ≤ 0 → 1 ≤ x2 → x2 ≤ 4 → h' = my_up h 2 x1 x2 → Q h' (0, 1)) : wp l rho (d + 1) 12 0 [(2, 0), (0, x1), (0, x2)] [] h Q := by
  refine w_iload_n gz_12_0 rfl ?_
  refine w_iflt (t := 30) gz_12_1 rfl (fun u1 => ?_) (fun u1 => ?_)
  ·
    refine w_iconst gz_12_30 (by decide) ?_
    exact w_bret gz_12_31 gm_12 (by omega) (by omega) (k0 (fun q => by omega))
  ·
    refine w_iload_n gz_12_4 rfl ?_
    refine w_iconst gz_12_5 (by decide) ?_
    refine w_icge (t := 30) gz_12_6 rfl (fun u2 => ?_) (fun u2 => ?_)
    ·
      refine w_iconst gz_12_30 (by decide) ?_
      exact w_bret gz_12_31 gm_12 (by omega) (by omega) (k0 (fun q => by omega))
    ·
      refine w_aload_n gz_12_9 rfl ?_
      refine w_getX (v := 1) gz_12_10 is_0 rd_9 rfl (by decide) rfl ?_
      refine w_iload_n gz_12_13 rfl ?_
      refine w_inv (k := 0) (as := [(0, x1)]) (r := []) (x := 1) (ls0 := [(2, 1), (0, x1)]) gz_12_14 gm_13 rfl is_1 rd_3 rfl rfl rfl rfl rfl ?_
      refine w_iload_n gz_13_0 rfl ?_
      refine w_iflt (t := 22) gz_13_1 rfl (fun u4 => by exfalso; omega) (fun u4 => ?_)
      refine w_iload_n gz_13_4 rfl ?_
      refine w_iconst gz_13_5 (by decide) ?_
      refine w_icge (t := 22) gz_13_6 rfl (fun u5 => by exfalso; omega) (fun u5 => ?_)
      refine w_aload_n gz_13_9 rfl ?_
      refine w_getX (v := 2) gz_13_10 is_1 rd_3 rfl (by decide) rfl ?_
      refine w_iload_n gz_13_13 rfl ?_
      refine w_iald gz_13_14 is_2 rd_25 (by omega) (by omega) (fun v7 ev7 pv7 qv7 => ?_)
      refine w_ifle (t := 22) gz_13_15 rfl (fun u8 => ?_) (fun u8 => ?_)
      ·
        refine w_iconst gz_13_22 (by decide) ?_
        refine w_bret gz_13_23 gm_13 (by omega) (by omega) ?_
        show wp l rho (d + 1) 12 17 [(2, 0), (0, x1), (0, x2)] [(0, 0)] h Q
        refine w_ifne (t := 30) gz_12_17 rfl (fun u9 => by exfalso; omega) (fun u9 => ?_)
        refine w_iload_n gz_12_20 rfl ?_
        refine w_iconst gz_12_21 (by decide) ?_
        refine w_iclt (t := 30) gz_12_22 rfl (fun u10 => ?_) (fun u10 => ?_)
        ·
          refine w_iconst gz_12_30 (by decide) ?_
          exact w_bret gz_12_31 gm_12 (by omega) (by omega) (k0 (fun q => by omega))
        ·
          refine w_iload_n gz_12_25 rfl ?_
          refine w_iconst gz_12_26 (by decide) ?_
          refine w_icle (t := 32) gz_12_27 rfl (fun u11 => ?_) (fun u11 => ?_)
          ·
            refine w_aload_n gz_12_32 rfl ?_
            refine w_getX (v := 1) gz_12_33 is_0 rd_9 rfl (by decide) rfl ?_
            refine w_getX (v := 2) gz_12_36 is_1 rd_3 rfl (by decide) rfl ?_
            refine w_iload_n gz_12_39 rfl ?_
            refine w_iload_n gz_12_40 rfl ?_
            refine w_iast gz_12_41 is_2 rd_25 (by omega) (by omega) (by omega) (by omega) (fun h14 fh14 => ?_)
            have gh14 : my_fr [(25, -1)] h h14 := my_fr.up my_fr.rf is_2 fh14 rfl
            refine w_iconst gz_12_42 (by decide) ?_
            exact w_bret gz_12_43 gm_12 (by omega) (by omega) (k1 h14 (gh14) (by omega) (by omega) (by omega) (by omega) (by omega) fh14)
          ·
            refine w_iconst gz_12_30 (by decide) ?_
            exact w_bret gz_12_31 gm_12 (by omega) (by omega) (k0 (fun q => by omega))
      ·
        refine w_iconst gz_13_18 (by decide) ?_
        refine w_goto (t := 23) gz_13_19 rfl ?_
        refine w_bret gz_13_23 gm_13 (by omega) (by omega) ?_
        show wp l rho (d + 1) 12 17 [(2, 0), (0, x1), (0, x2)] [(0, 1)] h Q
        refine w_ifne (t := 30) gz_12_17 rfl (fun u15 => ?_) (fun u15 => by exfalso; omega)
        refine w_iconst gz_12_30 (by decide) ?_
        exact w_bret gz_12_31 gm_12 (by omega) (by omega) (k0 (fun q => by omega))
theorem c_Model_wall3 {l : Launch} {rho : Nat → Int32} {d : Nat} {h : my_H} {Q : my_H → my_V → Prop} {x1 x2 : Int} (n_Mw : Mw h) (n_Mw3 : Mw3 h) (k0 : ∀ (h' : my_H), my_fr [(10, 0)] h h' → ¬(0 ≤ x1 ∧ x1 ≤ 2 ∧ h 157 x1 ≤ 0 ∧ 1 ≤ x2 ∧ x2 ≤ 4) → Mw h' → Mw3 h' → Q h' (0, 0)) (k1 : ∀ (h' : my_H), my_fr [(10, 0), (56, -1)] h h' → 0 ≤ x1 → x1 ≤ 2 → h 157 x1 ≤ 0 → 1 ≤ x2 → x2 ≤ 4 → h' 157 x1 = x2 → (∀ j : Int, j ≠ x1 → h' 157 j = h 157 j) → Mw h' → Mw3 h' → Q h' (0, 1)) : wp l rho (d + 1) 146 0 [(2, 151), (0, x1), (0, x2)] [] h Q := by
  refine w_aload_n gz_146_0 rfl ?_
  refine w_iconst gz_146_1 (by decide) ?_
  refine v_putI (j := 0) gz_146_2 rfl is_151 rd_10 rfl (by omega) (by omega) rfl (fun h1 fh1 => ?_)
  have gh1 : my_fr [(10, 0), (56, -1)] h h1 := my_fr.up my_fr.rf is_151 fh1 rfl
  have gk1 : my_fr [(10, 0)] h h1 := my_fr.up my_fr.rf is_151 fh1 rfl
  have e17 : ∀ j : Int, h1 157 j = h 157 j := fun j => my_up_role fh1 is_157 is_151 rfl
  have e18 := e17 x1
  have Mw_h1 : Mw h1 := Mw_ag (my_ag.up fh1 is_151 rfl) n_Mw
  have Mw3_h1 : Mw3 h1 := Mw3_ag (my_ag.up fh1 is_151 rfl) n_Mw3
  refine w_iload_n gz_146_5 rfl ?_
  refine w_iconst gz_146_6 (by decide) ?_
  refine w_iconst gz_146_7 (by decide) ?_
  refine w_inS (k := 0) (as := [(0, 2), (0, 0), (0, x1)]) (r := []) (ls0 := [(0, x1), (0, 0), (0, 2)]) gz_146_8 gm_147 rfl rfl rfl rfl rfl rfl ?_
  refine w_iload_n gz_147_0 rfl ?_
  refine w_iload_n gz_147_1 rfl ?_
  refine w_iclt (t := 14) gz_147_2 rfl (fun u2 => ?_) (fun u2 => ?_)
  ·
    refine w_iconst gz_147_14 (by decide) ?_
    refine w_bret gz_147_15 gm_147 (by omega) (by omega) ?_
    show wp l rho (d + 1) 146 11 [(2, 151), (0, x1), (0, x2)] [(0, 0)] h1 Q
    refine w_ifeq (t := 32) gz_146_11 rfl (fun u3 => ?_) (fun u3 => by exfalso; omega)
    refine w_iconst gz_146_32 (by decide) ?_
    have c4 := (my_up_self fh1)
    exact w_bret gz_146_33 gm_146 (by omega) (by omega) (k0 h1 gk1 (fun q => by omega) Mw_h1 Mw3_h1)
  ·
    refine w_iload_n gz_147_5 rfl ?_
    refine w_iload_n gz_147_6 rfl ?_
    refine w_icgt (t := 14) gz_147_7 rfl (fun u5 => ?_) (fun u5 => ?_)
    ·
      refine w_iconst gz_147_14 (by decide) ?_
      refine w_bret gz_147_15 gm_147 (by omega) (by omega) ?_
      show wp l rho (d + 1) 146 11 [(2, 151), (0, x1), (0, x2)] [(0, 0)] h1 Q
      refine w_ifeq (t := 32) gz_146_11 rfl (fun u6 => ?_) (fun u6 => by exfalso; omega)
      refine w_iconst gz_146_32 (by decide) ?_
      have c7 := (my_up_self fh1)
      exact w_bret gz_146_33 gm_146 (by omega) (by omega) (k0 h1 gk1 (fun q => by omega) Mw_h1 Mw3_h1)
    ·
      refine w_iconst gz_147_10 (by decide) ?_
      refine w_goto (t := 15) gz_147_11 rfl ?_
      refine w_bret gz_147_15 gm_147 (by omega) (by omega) ?_
      show wp l rho (d + 1) 146 11 [(2, 151), (0, x1), (0, x2)] [(0, 1)] h1 Q
      refine w_ifeq (t := 32) gz_146_11 rfl (fun u8 => by exfalso; omega) (fun u8 => ?_)
      refine w_iload_n gz_146_14 rfl ?_
      refine w_iconst gz_146_15 (by decide) ?_
      refine w_iconst gz_146_16 (by decide) ?_
      refine w_inS (k := 0) (as := [(0, 4), (0, 1), (0, x2)]) (r := []) (ls0 := [(0, x2), (0, 1), (0, 4)]) gz_146_17 gm_147 rfl rfl rfl rfl rfl rfl ?_
      refine w_iload_n gz_147_0 rfl ?_
      refine w_iload_n gz_147_1 rfl ?_
      refine w_iclt (t := 14) gz_147_2 rfl (fun u9 => ?_) (fun u9 => ?_)
      ·
        refine w_iconst gz_147_14 (by decide) ?_
        refine w_bret gz_147_15 gm_147 (by omega) (by omega) ?_
        show wp l rho (d + 1) 146 20 [(2, 151), (0, x1), (0, x2)] [(0, 0)] h1 Q
        refine w_ifeq (t := 32) gz_146_20 rfl (fun u10 => ?_) (fun u10 => by exfalso; omega)
        refine w_iconst gz_146_32 (by decide) ?_
        have c11 := (my_up_self fh1)
        exact w_bret gz_146_33 gm_146 (by omega) (by omega) (k0 h1 gk1 (fun q => by omega) Mw_h1 Mw3_h1)
      ·
        refine w_iload_n gz_147_5 rfl ?_
        refine w_iload_n gz_147_6 rfl ?_
        refine w_icgt (t := 14) gz_147_7 rfl (fun u12 => ?_) (fun u12 => ?_)
        ·
          refine w_iconst gz_147_14 (by decide) ?_
          refine w_bret gz_147_15 gm_147 (by omega) (by omega) ?_
          show wp l rho (d + 1) 146 20 [(2, 151), (0, x1), (0, x2)] [(0, 0)] h1 Q
          refine w_ifeq (t := 32) gz_146_20 rfl (fun u13 => ?_) (fun u13 => by exfalso; omega)
          refine w_iconst gz_146_32 (by decide) ?_
          have c14 := (my_up_self fh1)
          exact w_bret gz_146_33 gm_146 (by omega) (by omega) (k0 h1 gk1 (fun q => by omega) Mw_h1 Mw3_h1)
        ·
          refine w_iconst gz_147_10 (by decide) ?_
          refine w_goto (t := 15) gz_147_11 rfl ?_
          refine w_bret gz_147_15 gm_147 (by omega) (by omega) ?_
          show wp l rho (d + 1) 146 20 [(2, 151), (0, x1), (0, x2)] [(0, 1)] h1 Q
          refine w_ifeq (t := 32) gz_146_20 rfl (fun u15 => by exfalso; omega) (fun u15 => ?_)
          refine w_aload_n gz_146_23 rfl ?_
          refine w_getX (v := 157) gz_146_24 is_151 rd_10 rfl (by decide) rfl ?_
          refine w_iload_n gz_146_27 rfl ?_
          refine w_iald gz_146_28 is_157 rd_56 (by omega) (by omega) (fun v17 ev17 pv17 qv17 => ?_)
          refine w_ifle (t := 34) gz_146_29 rfl (fun u18 => ?_) (fun u18 => ?_)
          ·
            refine w_aload_n gz_146_34 rfl ?_
            refine w_getX (v := 157) gz_146_35 is_151 rd_10 rfl (by decide) rfl ?_
            refine w_iload_n gz_146_38 rfl ?_
            refine w_iload_n gz_146_39 rfl ?_
            refine w_iast gz_146_40 is_157 rd_56 (by omega) (by omega) (by omega) (by omega) (fun h20 fh20 => ?_)
            have gh20 : my_fr [(10, 0), (56, -1)] h h20 := my_fr.up gh1 is_157 fh20 rfl
            have Mw_h20t21 : Mw h20 := (Mw3_wall fh20 (by omega) Mw3_h1).mw
            have Mw3_h20t22 : Mw3 h20 := Mw3_wall fh20 (by omega) Mw3_h1
            refine w_iconst gz_146_41 (by decide) ?_
            have c23 := ((my_up_role fh20 is_151 is_157 rfl).trans (my_up_self fh1))
            exact w_bret gz_146_42 gm_146 (by omega) (by omega) (k1 h20 (gh20) (by omega) (by omega) (by omega) (by omega) (by omega) (my_up_self fh20) (fun j hj => by rw [fh20]; unfold my_up; rw [if_neg (fun q => hj q.2)]; exact e17 j) Mw_h20t21 Mw3_h20t22)
          ·
            refine w_iconst gz_146_32 (by decide) ?_
            have c24 := (my_up_self fh1)
            exact w_bret gz_146_33 gm_146 (by omega) (by omega) (k0 h1 gk1 (fun q => by omega) Mw_h1 Mw3_h1)
/-- walls have their columns alike -/
def Ceq (h : my_H) : Prop := ∀ w : Int, 0 ≤ w → w ≤ 2 → h 2 w = h 157 w
theorem Ceq_ag {h h' : my_H} (g : my_ag [(25, -1), (56, -1)] h h') (p : Ceq h) : Ceq h' := by
  intro w w0 w2
  rw [g.at is_2 rfl, g.at is_157 rfl]
  exact p w w0 w2
theorem Ceq_wall {h h1 h2 : my_H} {x1 x2 : Int} (p : Ceq h) (e1 : h1 = my_up h 2 x1 x2) (g : my_fr [(10, 0), (56, -1)] h1 h2) (e2 : h2 157 x1 = x2) (e3 : ∀ j : Int, j ≠ x1 → h2 157 j = h1 157 j) : Ceq h2 := by
  intro w w0 w2
  have a1 : h2 2 w = h1 2 w := g.at is_2 rfl
  by_cases q : w = x1
  · subst q
    rw [a1, e2, e1]
    unfold my_up
    rw [if_pos ⟨rfl, rfl⟩]
  · have a2 : h1 157 w = h 157 w := my_up_role e1 is_157 is_2 rfl
    rw [a1, e3 w q, a2, ← p w w0 w2, e1]
    unfold my_up
    rw [if_neg (fun z => q z.2)]
end MYW
