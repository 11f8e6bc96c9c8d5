/-! contracts, printed by wip/gen/gy.py -/
section MYN0
theorem c_Desk_isChangeable {l : Launch} {rho : Nat → Int32} {d : Nat} {h : my_H} {Q : my_H → my_V → Prop} {x1 : Int} (t1 : my_is 4 x1) (hc0 : 0 ≤ h 111 2) (k0 : Q h (0, 0)) (k1 : Q h (0, 1)) : wp l rho (d + 1) 101 0 [(2, 94), (2, x1)] [] h Q := by
  refine w_aload_n gz_101_0 rfl ?_
  refine w_getX (v := 111) gz_101_1 is_94 rd_2 rfl (by decide) rfl ?_
  refine v_getI (j := 4) gz_101_4 rfl is_111 rd_7 rfl (fun v2 ev2 pv2 qv2 => ?_)
  refine w_ifle (t := 81) gz_101_7 rfl (fun u3 => ?_) (fun u3 => ?_)
  ·
    refine w_iconst gz_101_81 (by decide) ?_
    exact w_bret gz_101_82 gm_101 (by omega) (by omega) (k0 )
  ·
    refine w_aload_n gz_101_10 rfl ?_
    refine w_getX (v := 111) gz_101_11 is_94 rd_2 rfl (by decide) rfl ?_
    refine v_getI (j := 4) gz_101_14 rfl is_111 rd_7 rfl (fun v5 ev5 pv5 qv5 => ?_)
    have zv5 := ev5.trans ev2.symm
    refine w_aload_n gz_101_17 rfl ?_
    refine w_getX (v := 1) gz_101_18 is_94 rd_2 rfl (by decide) rfl ?_
    refine w_getX (v := 2) gz_101_21 is_1 rd_3 rfl (by decide) rfl ?_
    refine w_aload_n gz_101_24 rfl ?_
    refine w_getX (v := 111) gz_101_25 is_94 rd_2 rfl (by decide) rfl ?_
    refine v_getI (j := 2) gz_101_28 rfl is_111 rd_7 rfl (fun v9 ev9 pv9 qv9 => ?_)
    have hi10 : 0 ≤ v9 := by omega
    have hi11 : v9 ≤ 2 := by omega
    refine w_iald gz_101_31 is_2 rd_25 (by omega) (by omega) (fun v12 ev12 pv12 qv12 => ?_)
    refine w_icge (t := 81) gz_101_32 rfl (fun u13 => ?_) (fun u13 => ?_)
    ·
      refine w_iconst gz_101_81 (by decide) ?_
      exact w_bret gz_101_82 gm_101 (by omega) (by omega) (k0 )
    ·
      refine w_aload_n gz_101_35 rfl ?_
      refine v_getI (j := 6) gz_101_36 rfl t1 rd_4 rfl (fun v14 ev14 pv14 qv14 => ?_)
      refine w_i2l gz_101_39 ?_
      refine w_aload_n gz_101_40 rfl ?_
      refine w_getX (v := 111) gz_101_41 is_94 rd_2 rfl (by decide) rfl ?_
      refine v_getI (j := 2) gz_101_44 rfl is_111 rd_7 rfl (fun v16 ev16 pv16 qv16 => ?_)
      have zv16 := ev16.trans ev9.symm
      refine w_inS (k := 0) (as := [(0, v16), (1, v14)]) (r := []) (ls0 := [(1, v14), (9, 0), (0, v16)]) gz_101_47 gm_69 rfl rfl rfl rfl rfl rfl ?_
      refine w_lload_n gz_69_0 rfl ?_
      refine w_iload_n gz_69_1 rfl ?_
      refine w_jshf gz_69_2 (fun _ => rfl) rfl (fun v17 pv17 => ?_)
      refine w_lconst gz_69_3 ?_
      refine w_jany2 gz_69_4 (fun _ => rfl) rfl (fun v18 pv18 => ?_)
      refine w_lconst gz_69_5 ?_
      refine w_lcmp gz_69_6 (fun v19 pv19 qv19 => ?_)
      refine w_ifeq (t := 14) gz_69_7 rfl (fun u20 => ?_) (fun u20 => ?_)
      ·
        refine w_iconst gz_69_14 (by decide) ?_
        refine w_bret gz_69_15 gm_69 (by omega) (by omega) ?_
        show wp l rho (d + 1) 101 50 [(2, 94), (2, x1)] [(0, 0)] h Q
        refine w_ifeq (t := 81) gz_101_50 rfl (fun u21 => ?_) (fun u21 => by exfalso; omega)
        refine w_iconst gz_101_81 (by decide) ?_
        exact w_bret gz_101_82 gm_101 (by omega) (by omega) (k0 )
      ·
        refine w_iconst gz_69_10 (by decide) ?_
        refine w_goto (t := 15) gz_69_11 rfl ?_
        refine w_bret gz_69_15 gm_69 (by omega) (by omega) ?_
        show wp l rho (d + 1) 101 50 [(2, 94), (2, x1)] [(0, 1)] h Q
        refine w_ifeq (t := 81) gz_101_50 rfl (fun u22 => by exfalso; omega) (fun u22 => ?_)
        refine w_aload_n gz_101_53 rfl ?_
        refine w_getX (v := 95) gz_101_54 is_94 rd_2 rfl (by decide) rfl ?_
        refine w_aload_n gz_101_57 rfl ?_
        refine w_getX (v := 111) gz_101_58 is_94 rd_2 rfl (by decide) rfl ?_
        refine v_getI (j := 2) gz_101_61 rfl is_111 rd_7 rfl (fun v25 ev25 pv25 qv25 => ?_)
        have zv25 := ev25.trans ev16.symm
        refine w_aload_n gz_101_64 rfl ?_
        refine w_getX (v := 111) gz_101_65 is_94 rd_2 rfl (by decide) rfl ?_
        refine v_getI (j := 3) gz_101_68 rfl is_111 rd_7 rfl (fun v27 ev27 pv27 qv27 => ?_)
        refine w_inv (k := 0) (as := [(0, v27), (0, v25)]) (r := []) (x := 95) (ls0 := [(2, 95), (0, v25), (0, v27)]) gz_101_71 gm_15 rfl is_95 rd_6 rfl rfl rfl rfl rfl ?_
        refine w_iload_n gz_15_0 rfl ?_
        refine w_iflt (t := 31) gz_15_1 rfl (fun u28 => ?_) (fun u28 => ?_)
        ·
          refine w_iconst gz_15_31 (by decide) ?_
          refine w_bret gz_15_32 gm_15 (by omega) (by omega) ?_
          show wp l rho (d + 1) 101 74 [(2, 94), (2, x1)] [(0, 0)] h Q
          refine w_ifeq (t := 81) gz_101_74 rfl (fun u29 => ?_) (fun u29 => by exfalso; omega)
          refine w_iconst gz_101_81 (by decide) ?_
          exact w_bret gz_101_82 gm_101 (by omega) (by omega) (k0 )
        ·
          refine w_iload_n gz_15_4 rfl ?_
          refine w_bipush gz_15_5 (by decide) ?_
          refine w_icge (t := 31) gz_15_7 rfl (fun u30 => by exfalso; omega) (fun u30 => ?_)
          refine w_aload_n gz_15_10 rfl ?_
          refine w_getX (v := 96) gz_15_11 is_95 rd_6 rfl (by decide) rfl ?_
          refine w_iload_n gz_15_14 rfl ?_
          refine w_bipush gz_15_15 (by decide) ?_
          refine w_imul gz_15_17 ⟨by omega, by omega⟩ ?_
          refine w_iload_n gz_15_18 rfl ?_
          refine w_iadd gz_15_19 ⟨by omega, by omega⟩ ?_
          refine w_iconst gz_15_20 (by decide) ?_
          refine w_imul gz_15_21 ⟨by omega, by omega⟩ ?_
          refine w_iald gz_15_22 is_96 rd_30 (by omega) (by omega) (fun v32 ev32 pv32 qv32 => ?_)
          refine w_iconst gz_15_23 (by decide) ?_
          refine w_iceq (t := 31) gz_15_24 rfl (fun u33 => ?_) (fun u33 => ?_)
          ·
            refine w_iconst gz_15_31 (by decide) ?_
            refine w_bret gz_15_32 gm_15 (by omega) (by omega) ?_
            show wp l rho (d + 1) 101 74 [(2, 94), (2, x1)] [(0, 0)] h Q
            refine w_ifeq (t := 81) gz_101_74 rfl (fun u34 => ?_) (fun u34 => by exfalso; omega)
            refine w_iconst gz_101_81 (by decide) ?_
            exact w_bret gz_101_82 gm_101 (by omega) (by omega) (k0 )
          ·
            refine w_iconst gz_15_27 (by decide) ?_
            refine w_goto (t := 32) gz_15_28 rfl ?_
            refine w_bret gz_15_32 gm_15 (by omega) (by omega) ?_
            show wp l rho (d + 1) 101 74 [(2, 94), (2, x1)] [(0, 1)] h Q
            refine w_ifeq (t := 81) gz_101_74 rfl (fun u35 => by exfalso; omega) (fun u35 => ?_)
            refine w_iconst gz_101_77 (by decide) ?_
            refine w_goto (t := 82) gz_101_78 rfl ?_
            exact w_bret gz_101_82 gm_101 (by omega) (by omega) (k1 )
theorem c_Clerks_clerkAt {l : Launch} {rho : Nat → Int32} {d : Nat} {h : my_H} {Q : my_H → my_V → Prop} {x1 x2 : Int} (a1 : 0 ≤ x1) (b1 : x1 ≤ 5) (a2 : 0 ≤ x2) (b2 : x2 ≤ 2) (k0 : ∀ (y : Int), 0 ≤ y → y ≤ 2 → Q h (0, y)) : wp l rho d 130 0 [(2, 120), (0, x1), (0, x2)] [] h Q := by
  refine w_aload_n gz_130_0 rfl ?_
  refine w_getX (v := 124) gz_130_1 is_120 rd_0 rfl (by decide) rfl ?_
  refine w_gsO ?_
  refine w_iload_n gz_130_7 rfl ?_
  refine w_iconst gz_130_8 (by decide) ?_
  refine w_imul gz_130_9 ⟨by omega, by omega⟩ ?_
  refine w_iload_n gz_130_10 rfl ?_
  refine w_iadd gz_130_11 ⟨by omega, by omega⟩ ?_
  refine w_iaO gz_130_12 (by omega) (by omega) (fun v1 pv1 qv1 => ?_)
  refine w_iald gz_130_13 is_124 rd_49 (by omega) (by omega) (fun v2 ev2 pv2 qv2 => ?_)
  exact w_iret gz_130_14 gm_130 (k0 _ (by omega) (by omega))
theorem c_Clerks_endOrder {l : Launch} {rho : Nat → Int32} {d : Nat} {h : my_H} {Q : my_H → my_V → Prop} {x1 x2 : Int} (t1 : my_is 6 x1) (a2 : 0 ≤ x2) (b2 : x2 ≤ 3) (hec : h 120 6 ≤ 5) (k0 : ∀ (h' : my_H), my_fr [(0, 6), (0, 8), (0, 9), (30, -1), (31, -1)] h h' → 0 ≤ h' 120 9 → h' 120 6 ≤ h 120 6 + 1 → Q h' (9, 0)) : wp l rho (d + 2) 131 0 [(2, 120), (2, x1), (0, x2), (9, 0)] [] h Q := by
  refine v_know (x := 120) (j := 6) (b := 6) rfl is_120 rd_0 rfl (fun k120_6 ek120_6 pk120_6 qk120_6 => ?_)
  have J33_0 : ∀ (n : Nat) (p33_0 p33_1 p33_2 p33_3 : Int) (h33_0 : my_H), my_fr [(0, 6), (0, 8), (0, 9), (30, -1), (31, -1)] h h33_0 → 0 ≤ p33_0 → p33_0 ≤ 6 → 0 ≤ p33_3 → 0 ≤ p33_1 → p33_1 ≤ 3 → p33_0 ≤ k120_6 → p33_1 ≤ p33_3 → p33_1 ≤ x2 → x2 ≤ p33_3 → h33_0 120 4 = p33_1 → h33_0 120 6 = k120_6 → h33_0 120 8 = p33_2 → h33_0 120 9 = p33_3 → 7 - p33_0 ≤ (n : Int) → wp l rho (d + 2) 131 33 [(2, 120), (2, x1), (0, x2), (0, p33_0)] [] h33_0 Q := by
    intro n
    induction n with
    | zero => intro p33_0 p33_1 p33_2 p33_3 h33_0 gh_33_0 q0_33_0 q1_33_0 q2_33_0 q3_33_0 q4_33_0 q5_33_0 q6_33_0 q7_33_0 q8_33_0 c120_4_33_0 c120_6_33_0 c120_8_33_0 c120_9_33_0 hm_33_0; exfalso; omega
    | succ n ih_33_0 =>
      intro p33_0 p33_1 p33_2 p33_3 h33_0 gh_33_0 q0_33_0 q1_33_0 q2_33_0 q3_33_0 q4_33_0 q5_33_0 q6_33_0 q7_33_0 q8_33_0 c120_4_33_0 c120_6_33_0 c120_8_33_0 c120_9_33_0 hm_33_0
      refine w_iload_n gz_131_33 rfl ?_
      refine w_aload_n gz_131_34 rfl ?_
      refine v_getI (j := 6) gz_131_35 rfl is_120 rd_0 rfl (fun v1 ev1 pv1 qv1 => ?_)
      have zv1 := ev1.trans c120_6_33_0
      refine w_icge (t := 61) gz_131_38 rfl (fun u2 => ?_) (fun u2 => ?_)
      ·
        refine w_aload_n gz_131_61 rfl ?_
        refine w_getX (v := 125) gz_131_62 is_120 rd_0 rfl (by decide) rfl ?_
        refine w_aload_n gz_131_65 rfl ?_
        refine w_dup gz_131_66 rfl ?_
        refine v_getI (j := 6) gz_131_67 rfl is_120 rd_0 rfl (fun v4 ev4 pv4 qv4 => ?_)
        have zv4 := ev4.trans ev1.symm
        refine w_dupx gz_131_70 rfl rfl ?_
        refine w_iconst gz_131_71 (by decide) ?_
        refine w_iadd gz_131_72 ⟨by omega, by omega⟩ ?_
        have hi5 : 0 ≤ (v4 + 1) := by omega
        have hi6 : (v4 + 1) ≤ 6 := by omega
        refine v_putI (j := 6) gz_131_73 rfl is_120 rd_0 rfl (by omega) (by omega) rfl (fun h7 fh7 => ?_)
        have gh7 : my_fr [(0, 6), (0, 8), (0, 9), (30, -1), (31, -1)] h h7 := my_fr.up gh_33_0 is_120 fh7 rfl
        have hi8 : 0 ≤ v4 := by omega
        have hi9 : v4 ≤ 5 := by omega
        refine w_aald gz_131_76 is_125 rd_50 rfl (by omega) (by omega) (fun v10 ev10 tv10 => ?_)
        refine w_aload_n gz_131_77 rfl ?_
        refine w_inv (k := 0) (as := [(2, x1)]) (r := []) (x := v10) (ls0 := [(2, v10), (2, x1)]) gz_131_78 gm_25 rfl tv10 rd_6 rfl rfl rfl rfl rfl ?_
        refine w_aload_n gz_25_0 rfl ?_
        refine w_getX (v := (x1 + 1)) gz_25_1 t1 rd_6 rfl (by decide) rfl ?_
        refine w_iconst gz_25_4 (by decide) ?_
        refine w_aload_n gz_25_5 rfl ?_
        refine w_getX (v := (v10 + 1)) gz_25_6 tv10 rd_6 rfl (by decide) rfl ?_
        refine w_iconst gz_25_9 (by decide) ?_
        refine w_aload_n gz_25_10 rfl ?_
        refine w_getX (v := (v10 + 1)) gz_25_11 tv10 rd_6 rfl (by decide) rfl ?_
        refine v_alen (j := 240) gz_25_14 rfl (ix_6_1 tv10) rd_30 (by decide) ?_
        refine w_cpU gz_25_15 (ix_6_1 t1) rd_30 (ix_6_1 tv10) rd_30 (by omega) (by omega) (by omega) (by omega) (by omega) rfl (by decide) (by decide) (fun h14 fh14 => ?_)
        have gh14 : my_fr [(0, 6), (0, 8), (0, 9), (30, -1), (31, -1)] h h14 := my_fr.cp gh7 (ix_6_1 tv10) fh14 rfl
        refine w_aload_n gz_25_18 rfl ?_
        refine w_getX (v := (x1 + 2)) gz_25_19 t1 rd_6 rfl (by decide) rfl ?_
        refine w_iconst gz_25_22 (by decide) ?_
        refine w_aload_n gz_25_23 rfl ?_
        refine w_getX (v := (v10 + 2)) gz_25_24 tv10 rd_6 rfl (by decide) rfl ?_
        refine w_iconst gz_25_27 (by decide) ?_
        refine w_aload_n gz_25_28 rfl ?_
        refine w_getX (v := (v10 + 2)) gz_25_29 tv10 rd_6 rfl (by decide) rfl ?_
        refine v_alen (j := 3) gz_25_32 rfl (ix_6_2 tv10) rd_31 (by decide) ?_
        refine w_cpU gz_25_33 (ix_6_2 t1) rd_31 (ix_6_2 tv10) rd_31 (by omega) (by omega) (by omega) (by omega) (by omega) rfl (by decide) (by decide) (fun h18 fh18 => ?_)
        have gh18 : my_fr [(0, 6), (0, 8), (0, 9), (30, -1), (31, -1)] h h18 := my_fr.cp gh14 (ix_6_2 tv10) fh18 rfl
        refine w_vret gz_25_36 gm_25 ?_
        show wp l rho (d + 2) 131 81 [(2, 120), (2, x1), (0, x2), (0, p33_0)] [] h18 Q
        have ce19 : h18 120 6 = (v4 + 1) := ((my_cp_role fh18 is_120 (ix_6_2 tv10) rfl).trans ((my_cp_role fh14 is_120 (ix_6_1 tv10) rfl).trans (my_up_self fh7)))
        have c20 := ((my_cp_role fh18 is_120 (ix_6_2 tv10) rfl).trans ((my_cp_role fh14 is_120 (ix_6_1 tv10) rfl).trans ((my_up_fld fh7 (by decide)).trans c120_9_33_0)))
        exact w_vret gz_131_81 gm_131 (k0 h18 (gh18) (by omega) (by first | assumption | omega | (subst_vars; omega)))
      ·
        refine w_aload_n gz_131_41 rfl ?_
        refine w_getX (v := 125) gz_131_42 is_120 rd_0 rfl (by decide) rfl ?_
        refine w_iload_n gz_131_45 rfl ?_
        refine w_aald gz_131_46 is_125 rd_50 rfl (by omega) (by omega) (fun v22 ev22 tv22 => ?_)
        refine w_aload_n gz_131_47 rfl ?_
        refine w_inv (k := 1) (as := [(2, x1)]) (r := []) (x := v22) (ls0 := [(2, v22), (2, x1), (9, 0)]) gz_131_48 gm_116 rfl tv22 rd_6 rfl rfl rfl rfl rfl (c_Rows_same (d := (d + 1)) (x0 := v22) (x1 := x1) tv22 t1 ?_ ?_)
        ·
          show wp l rho (d + 2) 131 51 [(2, 120), (2, x1), (0, x2), (0, p33_0)] [(0, 0)] h33_0 Q
          refine w_ifeq (t := 55) gz_131_51 rfl (fun u23 => ?_) (fun u23 => by exfalso; omega)
          refine w_iinc (ls' := [(2, 120), (2, x1), (0, x2), (0, (p33_0 + 1))]) gz_131_55 rfl gm_131 rfl rfl rfl ⟨by omega, by omega⟩ ?_
          refine w_goto (t := 33) gz_131_58 rfl ?_
          exact ih_33_0 ((p33_0 + 1)) (p33_1) (p33_2) (p33_3) h33_0 (gh_33_0) (by omega) (by omega) (by omega) (by omega) (by omega) (by omega) (by omega) (by omega) (by omega) (c120_4_33_0.trans (by omega)) (ev1.symm.trans (by omega)) (c120_8_33_0.trans (by omega)) (c120_9_33_0.trans (by omega)) (by omega)
        ·
          show wp l rho (d + 2) 131 51 [(2, 120), (2, x1), (0, x2), (0, p33_0)] [(0, 1)] h33_0 Q
          refine w_ifeq (t := 55) gz_131_51 rfl (fun u24 => by exfalso; omega) (fun u24 => ?_)
          have ce25 : h33_0 120 6 = v1 := ev1.symm
          have c26 := c120_9_33_0
          exact w_vret gz_131_54 gm_131 (k0 h33_0 (gh_33_0) (by omega) (by first | assumption | omega | (subst_vars; omega)))
  refine w_aload_n gz_131_0 rfl ?_
  refine w_aload_n gz_131_1 rfl ?_
  refine v_getI (j := 9) gz_131_2 rfl is_120 rd_0 rfl (fun v27 ev27 pv27 qv27 => ?_)
  refine w_iload_n gz_131_5 rfl ?_
  refine w_inS (k := 0) (as := [(0, x2), (0, v27)]) (r := [(2, 120)]) (ls0 := [(0, v27), (0, x2)]) gz_131_6 gm_132 rfl rfl rfl rfl rfl rfl ?_
  refine w_iload_n gz_132_0 rfl ?_
  refine w_iload_n gz_132_1 rfl ?_
  refine w_iclt (t := 9) gz_132_2 rfl (fun u28 => ?_) (fun u28 => ?_)
  ·
    refine w_iload_n gz_132_9 rfl ?_
    refine w_iret gz_132_10 gm_132 ?_
    show wp l rho (d + 2) 131 9 [(2, 120), (2, x1), (0, x2), (9, 0)] [(0, x2), (2, 120)] h Q
    refine v_putA (j := 9) gz_131_9 rfl is_120 rd_0 rfl rfl (fun h29 fh29 => ?_)
    have gh29 : my_fr [(0, 6), (0, 8), (0, 9), (30, -1), (31, -1)] h h29 := my_fr.up my_fr.rf is_120 fh29 rfl
    refine w_iload_n gz_131_12 rfl ?_
    refine w_aload_n gz_131_13 rfl ?_
    refine v_getI (j := 4) gz_131_14 rfl is_120 rd_0 rfl (fun v30 ev30 pv30 qv30 => ?_)
    refine w_icge (t := 21) gz_131_17 rfl (fun u31 => ?_) (fun u31 => ?_)
    ·
      refine w_aload_n gz_131_21 rfl ?_
      refine w_dup gz_131_22 rfl ?_
      refine v_getI (j := 8) gz_131_23 rfl is_120 rd_0 rfl (fun v32 ev32 pv32 qv32 => ?_)
      refine w_iconst gz_131_26 (by decide) ?_
      refine w_ianyA gz_131_27 (fun v33 pv33 qv33 => ?_)
      refine v_putA (j := 8) gz_131_28 rfl is_120 rd_0 rfl rfl (fun h34 fh34 => ?_)
      have gh34 : my_fr [(0, 6), (0, 8), (0, 9), (30, -1), (31, -1)] h h34 := my_fr.up gh29 is_120 fh34 rfl
      refine w_iconst gz_131_31 (by decide) ?_
      refine w_istore_n (ls' := [(2, 120), (2, x1), (0, x2), (0, 0)]) gz_131_32 gm_131 rfl rfl rfl ?_
      exact J33_0 7 (0) (v30) (v33) (x2) h34 (gh34) (by omega) (by omega) (by omega) (by omega) (by omega) (by omega) (by omega) (by omega) (by omega) (((my_up_fld fh34 (by decide)).trans ev30.symm).trans (by omega)) (((my_up_fld fh34 (by decide)).trans ((my_up_fld fh29 (by decide)).trans ek120_6.symm)).trans (by omega)) ((my_up_self fh34).trans (by omega)) (((my_up_fld fh34 (by decide)).trans (my_up_self fh29)).trans (by omega)) (by omega)
    ·
      have ce35 : h29 120 6 = k120_6 := ((my_up_fld fh29 (by decide)).trans ek120_6.symm)
      have c36 := (my_up_self fh29)
      exact w_vret gz_131_20 gm_131 (k0 h29 (gh29) (by omega) (by first | assumption | omega | (subst_vars; omega)))
  ·
    refine w_iload_n gz_132_5 rfl ?_
    refine w_goto (t := 10) gz_132_6 rfl ?_
    refine w_iret gz_132_10 gm_132 ?_
    show wp l rho (d + 2) 131 9 [(2, 120), (2, x1), (0, x2), (9, 0)] [(0, v27), (2, 120)] h Q
    refine v_putA (j := 9) gz_131_9 rfl is_120 rd_0 rfl rfl (fun h37 fh37 => ?_)
    have gh37 : my_fr [(0, 6), (0, 8), (0, 9), (30, -1), (31, -1)] h h37 := my_fr.up my_fr.rf is_120 fh37 rfl
    refine w_iload_n gz_131_12 rfl ?_
    refine w_aload_n gz_131_13 rfl ?_
    refine v_getI (j := 4) gz_131_14 rfl is_120 rd_0 rfl (fun v38 ev38 pv38 qv38 => ?_)
    refine w_icge (t := 21) gz_131_17 rfl (fun u39 => ?_) (fun u39 => ?_)
    ·
      refine w_aload_n gz_131_21 rfl ?_
      refine w_dup gz_131_22 rfl ?_
      refine v_getI (j := 8) gz_131_23 rfl is_120 rd_0 rfl (fun v40 ev40 pv40 qv40 => ?_)
      refine w_iconst gz_131_26 (by decide) ?_
      refine w_ianyA gz_131_27 (fun v41 pv41 qv41 => ?_)
      refine v_putA (j := 8) gz_131_28 rfl is_120 rd_0 rfl rfl (fun h42 fh42 => ?_)
      have gh42 : my_fr [(0, 6), (0, 8), (0, 9), (30, -1), (31, -1)] h h42 := my_fr.up gh37 is_120 fh42 rfl
      refine w_iconst gz_131_31 (by decide) ?_
      refine w_istore_n (ls' := [(2, 120), (2, x1), (0, x2), (0, 0)]) gz_131_32 gm_131 rfl rfl rfl ?_
      exact J33_0 7 (0) (v38) (v41) (v27) h42 (gh42) (by omega) (by omega) (by omega) (by omega) (by omega) (by omega) (by omega) (by omega) (by omega) (((my_up_fld fh42 (by decide)).trans ev38.symm).trans (by omega)) (((my_up_fld fh42 (by decide)).trans ((my_up_fld fh37 (by decide)).trans ek120_6.symm)).trans (by omega)) ((my_up_self fh42).trans (by omega)) (((my_up_fld fh42 (by decide)).trans (my_up_self fh37)).trans (by omega)) (by omega)
    ·
      have ce43 : h37 120 6 = k120_6 := ((my_up_fld fh37 (by decide)).trans ek120_6.symm)
      have c44 := (my_up_self fh37)
      exact w_vret gz_131_20 gm_131 (k0 h37 (gh37) (by omega) (by first | assumption | omega | (subst_vars; omega)))
theorem c_Model_takeWord_f1 {l : Launch} {rho : Nat → Int32} {d : Nat} {h : my_H} {Q : my_H → my_V → Prop} (xf : Int) (cf : h 151 8 = xf) (cf1 : 1 ≤ xf) (cf2 : xf ≤ 16005) (n_Tok : Tok h) (k0 : ∀ (h' : my_H), my_fr [(10, 7)] h h' → 1 ≤ h' 151 8 → h' 151 8 ≤ 16005 → h 151 7 ≤ h' 151 7 → Tok h' → Q h' (9, 0)) : wp l rho (d + 2) 175 0 [(2, 151), (0, 9)] [] h Q := by
  refine v_know (x := 151) (j := 7) (b := 7) rfl is_151 rd_10 rfl (fun k151_7 ek151_7 pk151_7 qk151_7 => ?_)
  refine w_aload_n gz_175_0 rfl ?_
  refine w_iload_n gz_175_1 rfl ?_
  refine w_inv (k := 1) (as := [(0, 9)]) (r := []) (x := 151) (ls0 := [(2, 151), (0, 9), (9, 0)]) gz_175_2 gm_176 rfl is_151 rd_10 rfl rfl rfl rfl rfl ?_
  refine w_aload_n gz_176_0 rfl ?_
  refine w_iload_n gz_176_1 rfl ?_
  refine w_inv (k := 0) (as := [(0, 9)]) (r := []) (x := 151) (ls0 := [(2, 151), (0, 9)]) gz_176_2 gm_177 rfl is_151 rd_10 rfl rfl rfl rfl rfl ?_
  refine w_aload_n gz_177_0 rfl ?_
  refine v_getI (j := 8) gz_177_1 rfl is_151 rd_10 rfl (fun v1 ev1 pv1 qv1 => ?_)
  have zv1 := ev1.trans cf
  refine w_ifne (t := 43) gz_177_4 rfl (fun u2 => ?_) (fun u2 => by exfalso; omega)
  refine w_iconst gz_177_43 (by decide) ?_
  refine w_bret gz_177_44 gm_177 (by omega) (by omega) ?_
  show wp l rho (d + 1) 176 5 [(2, 151), (0, 9), (9, 0)] [(0, 0)] h _
  refine w_istore_n (ls' := [(2, 151), (0, 9), (0, 0)]) gz_176_5 gm_176 rfl rfl rfl ?_
  refine w_aload_n gz_176_6 rfl ?_
  refine w_dup gz_176_7 rfl ?_
  refine v_getI (j := 7) gz_176_8 rfl is_151 rd_10 rfl (fun v3 ev3 pv3 qv3 => ?_)
  have zv3 := ev3.trans ek151_7.symm
  refine w_iload_n gz_176_11 rfl ?_
  refine w_ifeq (t := 19) gz_176_12 rfl (fun u4 => ?_) (fun u4 => by exfalso; omega)
  refine w_iconst gz_176_19 (by decide) ?_
  refine w_iadd gz_176_20 ⟨by omega, by omega⟩ ?_
  have hi5 : 0 ≤ (v3 + 0) := by have q := Tok_at n_Tok; omega
  have hi6 : (v3 + 0) ≤ 1001 := by have q := Tok_at n_Tok; omega
  refine v_putI (j := 7) gz_176_21 rfl is_151 rd_10 rfl (by omega) (by omega) rfl (fun h7 fh7 => ?_)
  have gh7 : my_fr [(10, 7)] h h7 := my_fr.up my_fr.rf is_151 fh7 rfl
  have Tok_h7t8 : Tok h7 := by first | exact Tok_inc n_Tok (by subst_vars; omega) (by omega) fh7 | exact Tok_set n_Tok (by omega) fh7
  refine w_iload_n gz_176_24 rfl ?_
  refine w_bret gz_176_25 gm_176 (by omega) (by omega) ?_
  show wp l rho (d + 2) 175 5 [(2, 151), (0, 9)] [(0, 0)] h7 Q
  refine w_ifne (t := 13) gz_175_5 rfl (fun u9 => by exfalso; omega) (fun u9 => ?_)
  refine w_aload_n gz_175_8 rfl ?_
  refine w_iconst gz_175_9 (by decide) ?_
  refine w_inv (k := 0) (as := [(0, 1)]) (r := []) (x := 151) (ls0 := [(2, 151), (0, 1)]) gz_175_10 gm_178 rfl is_151 rd_10 rfl rfl rfl rfl rfl ?_
  refine w_aload_n gz_178_0 rfl ?_
  refine v_getI (j := 8) gz_178_1 rfl is_151 rd_10 rfl (fun v10 ev10 pv10 qv10 => ?_)
  have zv10 := ev10.trans ((my_up_fld fh7 (by decide)).trans ev1.symm)
  refine w_ifne (t := 25) gz_178_4 rfl (fun u11 => ?_) (fun u11 => by exfalso; omega)
  refine w_vret gz_178_25 gm_178 ?_
  show wp l rho (d + 2) 175 13 [(2, 151), (0, 9)] [] h7 Q
  have ce12 : h7 151 7 = (v3 + 0) := (my_up_self fh7)
  have c13 := ev10.symm
  exact w_vret gz_175_13 gm_175 (k0 h7 (gh7) (by omega) (by omega) (by first | assumption | omega | (subst_vars; omega)) Tok_h7t8)
theorem c_Model_takeWord_f0 {l : Launch} {rho : Nat → Int32} {d : Nat} {h : my_H} {Q : my_H → my_V → Prop} {x1 : Int} (a1 : 0 ≤ x1) (b1 : x1 ≤ 9) (cf : h 151 8 = 0) (n_Tok : Tok h) (k0 : ∀ (h' : my_H), my_fr [(10, 7), (10, 8)] h h' → 1 ≤ h' 151 8 → h' 151 8 ≤ 16001 → h 151 7 ≤ h' 151 7 → Tok h' → Q h' (9, 0)) (k1 : ∀ (h' : my_H), my_fr [(10, 7), (10, 8)] h h' → 1 ≤ h' 151 7 → h' 151 7 ≤ 1001 → h' 151 8 = 0 → h 151 7 ≤ h' 151 7 → Tok h' → Q h' (9, 0)) : wp l rho (d + 2) 175 0 [(2, 151), (0, x1)] [] h Q := by
  refine v_know (x := 151) (j := 7) (b := 7) rfl is_151 rd_10 rfl (fun k151_7 ek151_7 pk151_7 qk151_7 => ?_)
  refine w_aload_n gz_175_0 rfl ?_
  refine w_iload_n gz_175_1 rfl ?_
  refine w_inv (k := 1) (as := [(0, x1)]) (r := []) (x := 151) (ls0 := [(2, 151), (0, x1), (9, 0)]) gz_175_2 gm_176 rfl is_151 rd_10 rfl rfl rfl rfl rfl ?_
  refine w_aload_n gz_176_0 rfl ?_
  refine w_iload_n gz_176_1 rfl ?_
  refine w_inv (k := 0) (as := [(0, x1)]) (r := []) (x := 151) (ls0 := [(2, 151), (0, x1)]) gz_176_2 gm_177 rfl is_151 rd_10 rfl rfl rfl rfl rfl ?_
  refine w_aload_n gz_177_0 rfl ?_
  refine v_getI (j := 8) gz_177_1 rfl is_151 rd_10 rfl (fun v1 ev1 pv1 qv1 => ?_)
  have zv1 := ev1.trans cf
  refine w_ifne (t := 43) gz_177_4 rfl (fun u2 => by exfalso; omega) (fun u2 => ?_)
  refine w_aload_n gz_177_7 rfl ?_
  refine w_getX (v := 153) gz_177_8 is_151 rd_10 rfl (by decide) rfl ?_
  refine w_aload_n gz_177_11 rfl ?_
  refine v_getI (j := 7) gz_177_12 rfl is_151 rd_10 rfl (fun v4 ev4 pv4 qv4 => ?_)
  have zv4 := ev4.trans ek151_7.symm
  refine w_iald gz_177_15 is_153 rd_52 (by omega) (by omega) (fun v5 ev5 pv5 qv5 => ?_)
  refine w_iconst gz_177_16 (by decide) ?_
  refine w_icne (t := 43) gz_177_17 rfl (fun u6 => ?_) (fun u6 => ?_)
  ·
    refine w_iconst gz_177_43 (by decide) ?_
    refine w_bret gz_177_44 gm_177 (by omega) (by omega) ?_
    show wp l rho (d + 1) 176 5 [(2, 151), (0, x1), (9, 0)] [(0, 0)] h _
    refine w_istore_n (ls' := [(2, 151), (0, x1), (0, 0)]) gz_176_5 gm_176 rfl rfl rfl ?_
    refine w_aload_n gz_176_6 rfl ?_
    refine w_dup gz_176_7 rfl ?_
    refine v_getI (j := 7) gz_176_8 rfl is_151 rd_10 rfl (fun v7 ev7 pv7 qv7 => ?_)
    have zv7 := ev7.trans ev4.symm
    refine w_iload_n gz_176_11 rfl ?_
    refine w_ifeq (t := 19) gz_176_12 rfl (fun u8 => ?_) (fun u8 => by exfalso; omega)
    refine w_iconst gz_176_19 (by decide) ?_
    refine w_iadd gz_176_20 ⟨by omega, by omega⟩ ?_
    have hi9 : 0 ≤ (v7 + 0) := by have q := Tok_at n_Tok; omega
    have hi10 : (v7 + 0) ≤ 1001 := by have q := Tok_at n_Tok; omega
    refine v_putI (j := 7) gz_176_21 rfl is_151 rd_10 rfl (by omega) (by omega) rfl (fun h11 fh11 => ?_)
    have gh11 : my_fr [(10, 7), (10, 8)] h h11 := my_fr.up my_fr.rf is_151 fh11 rfl
    have Tok_h11t12 : Tok h11 := by first | exact Tok_inc n_Tok (by subst_vars; omega) (by omega) fh11 | exact Tok_set n_Tok (by omega) fh11
    refine w_iload_n gz_176_24 rfl ?_
    refine w_bret gz_176_25 gm_176 (by omega) (by omega) ?_
    show wp l rho (d + 2) 175 5 [(2, 151), (0, x1)] [(0, 0)] h11 Q
    refine w_ifne (t := 13) gz_175_5 rfl (fun u13 => by exfalso; omega) (fun u13 => ?_)
    refine w_aload_n gz_175_8 rfl ?_
    refine w_iconst gz_175_9 (by decide) ?_
    refine w_inv (k := 0) (as := [(0, 1)]) (r := []) (x := 151) (ls0 := [(2, 151), (0, 1)]) gz_175_10 gm_178 rfl is_151 rd_10 rfl rfl rfl rfl rfl ?_
    refine w_aload_n gz_178_0 rfl ?_
    refine v_getI (j := 8) gz_178_1 rfl is_151 rd_10 rfl (fun v14 ev14 pv14 qv14 => ?_)
    have zv14 := ev14.trans ((my_up_fld fh11 (by decide)).trans ev1.symm)
    refine w_ifne (t := 25) gz_178_4 rfl (fun u15 => by exfalso; omega) (fun u15 => ?_)
    refine w_aload_n gz_178_7 rfl ?_
    refine w_iload_n gz_178_8 rfl ?_
    refine w_bipush gz_178_9 (by decide) ?_
    refine w_aload_n gz_178_11 rfl ?_
    refine w_getX (v := 154) gz_178_12 is_151 rd_10 rfl (by decide) rfl ?_
    refine w_aload_n gz_178_15 rfl ?_
    refine v_getI (j := 7) gz_178_16 rfl is_151 rd_10 rfl (fun v17 ev17 pv17 qv17 => ?_)
    have zv17 := ev17.trans (my_up_self fh11)
    refine w_iald gz_178_19 is_154 rd_53 (by omega) (by omega) (fun v18 ev18 pv18 qv18 => ?_)
    refine w_imul gz_178_20 ⟨by omega, by omega⟩ ?_
    refine w_iadd gz_178_21 ⟨by omega, by omega⟩ ?_
    refine v_putI (j := 8) gz_178_22 rfl is_151 rd_10 rfl (by omega) (by omega) rfl (fun h19 fh19 => ?_)
    have gh19 : my_fr [(10, 7), (10, 8)] h h19 := my_fr.up gh11 is_151 fh19 rfl
    have Tok_h19 : Tok h19 := Tok_ag (my_ag.up fh19 is_151 rfl) Tok_h11t12
    refine w_vret gz_178_25 gm_178 ?_
    show wp l rho (d + 2) 175 13 [(2, 151), (0, x1)] [] h19 Q
    have ce20 : h19 151 7 = v17 := ((my_up_fld fh19 (by decide)).trans ev17.symm)
    have c21 := (my_up_self fh19)
    exact w_vret gz_175_13 gm_175 (k0 h19 (gh19) (by omega) (by omega) (by first | assumption | omega | (subst_vars; omega)) Tok_h19)
  ·
    refine w_aload_n gz_177_20 rfl ?_
    refine w_getX (v := 155) gz_177_21 is_151 rd_10 rfl (by decide) rfl ?_
    refine w_aload_n gz_177_24 rfl ?_
    refine v_getI (j := 7) gz_177_25 rfl is_151 rd_10 rfl (fun v23 ev23 pv23 qv23 => ?_)
    have zv23 := ev23.trans ev4.symm
    refine w_lald gz_177_28 is_155 rd_54 (by omega) (by omega) (fun v24 ev24 pv24 => ?_)
    refine w_aload_n gz_177_29 rfl ?_
    refine w_getX (v := 156) gz_177_30 is_151 rd_10 rfl (by decide) rfl ?_
    refine w_iload_n gz_177_33 rfl ?_
    refine w_lald gz_177_34 is_156 rd_55 (by omega) (by omega) (fun v26 ev26 pv26 => ?_)
    refine w_lcmp gz_177_35 (fun v27 pv27 qv27 => ?_)
    refine w_ifne (t := 43) gz_177_36 rfl (fun u28 => ?_) (fun u28 => ?_)
    ·
      refine w_iconst gz_177_43 (by decide) ?_
      refine w_bret gz_177_44 gm_177 (by omega) (by omega) ?_
      show wp l rho (d + 1) 176 5 [(2, 151), (0, x1), (9, 0)] [(0, 0)] h _
      refine w_istore_n (ls' := [(2, 151), (0, x1), (0, 0)]) gz_176_5 gm_176 rfl rfl rfl ?_
      refine w_aload_n gz_176_6 rfl ?_
      refine w_dup gz_176_7 rfl ?_
      refine v_getI (j := 7) gz_176_8 rfl is_151 rd_10 rfl (fun v29 ev29 pv29 qv29 => ?_)
      have zv29 := ev29.trans ev23.symm
      refine w_iload_n gz_176_11 rfl ?_
      refine w_ifeq (t := 19) gz_176_12 rfl (fun u30 => ?_) (fun u30 => by exfalso; omega)
      refine w_iconst gz_176_19 (by decide) ?_
      refine w_iadd gz_176_20 ⟨by omega, by omega⟩ ?_
      have hi31 : 0 ≤ (v29 + 0) := by have q := Tok_at n_Tok; omega
      have hi32 : (v29 + 0) ≤ 1001 := by have q := Tok_at n_Tok; omega
      refine v_putI (j := 7) gz_176_21 rfl is_151 rd_10 rfl (by omega) (by omega) rfl (fun h33 fh33 => ?_)
      have gh33 : my_fr [(10, 7), (10, 8)] h h33 := my_fr.up my_fr.rf is_151 fh33 rfl
      have Tok_h33t34 : Tok h33 := by first | exact Tok_inc n_Tok (by subst_vars; omega) (by omega) fh33 | exact Tok_set n_Tok (by omega) fh33
      refine w_iload_n gz_176_24 rfl ?_
      refine w_bret gz_176_25 gm_176 (by omega) (by omega) ?_
      show wp l rho (d + 2) 175 5 [(2, 151), (0, x1)] [(0, 0)] h33 Q
      refine w_ifne (t := 13) gz_175_5 rfl (fun u35 => by exfalso; omega) (fun u35 => ?_)
      refine w_aload_n gz_175_8 rfl ?_
      refine w_iconst gz_175_9 (by decide) ?_
      refine w_inv (k := 0) (as := [(0, 1)]) (r := []) (x := 151) (ls0 := [(2, 151), (0, 1)]) gz_175_10 gm_178 rfl is_151 rd_10 rfl rfl rfl rfl rfl ?_
      refine w_aload_n gz_178_0 rfl ?_
      refine v_getI (j := 8) gz_178_1 rfl is_151 rd_10 rfl (fun v36 ev36 pv36 qv36 => ?_)
      have zv36 := ev36.trans ((my_up_fld fh33 (by decide)).trans ev1.symm)
      refine w_ifne (t := 25) gz_178_4 rfl (fun u37 => by exfalso; omega) (fun u37 => ?_)
      refine w_aload_n gz_178_7 rfl ?_
      refine w_iload_n gz_178_8 rfl ?_
      refine w_bipush gz_178_9 (by decide) ?_
      refine w_aload_n gz_178_11 rfl ?_
      refine w_getX (v := 154) gz_178_12 is_151 rd_10 rfl (by decide) rfl ?_
      refine w_aload_n gz_178_15 rfl ?_
      refine v_getI (j := 7) gz_178_16 rfl is_151 rd_10 rfl (fun v39 ev39 pv39 qv39 => ?_)
      have zv39 := ev39.trans (my_up_self fh33)
      refine w_iald gz_178_19 is_154 rd_53 (by omega) (by omega) (fun v40 ev40 pv40 qv40 => ?_)
      refine w_imul gz_178_20 ⟨by omega, by omega⟩ ?_
      refine w_iadd gz_178_21 ⟨by omega, by omega⟩ ?_
      refine v_putI (j := 8) gz_178_22 rfl is_151 rd_10 rfl (by omega) (by omega) rfl (fun h41 fh41 => ?_)
      have gh41 : my_fr [(10, 7), (10, 8)] h h41 := my_fr.up gh33 is_151 fh41 rfl
      have Tok_h41 : Tok h41 := Tok_ag (my_ag.up fh41 is_151 rfl) Tok_h33t34
      refine w_vret gz_178_25 gm_178 ?_
      show wp l rho (d + 2) 175 13 [(2, 151), (0, x1)] [] h41 Q
      have ce42 : h41 151 7 = v39 := ((my_up_fld fh41 (by decide)).trans ev39.symm)
      have c43 := (my_up_self fh41)
      exact w_vret gz_175_13 gm_175 (k0 h41 (gh41) (by omega) (by omega) (by first | assumption | omega | (subst_vars; omega)) Tok_h41)
    ·
      refine w_iconst gz_177_39 (by decide) ?_
      refine w_goto (t := 44) gz_177_40 rfl ?_
      refine w_bret gz_177_44 gm_177 (by omega) (by omega) ?_
      show wp l rho (d + 1) 176 5 [(2, 151), (0, x1), (9, 0)] [(0, 1)] h _
      refine w_istore_n (ls' := [(2, 151), (0, x1), (0, 1)]) gz_176_5 gm_176 rfl rfl rfl ?_
      refine w_aload_n gz_176_6 rfl ?_
      refine w_dup gz_176_7 rfl ?_
      refine v_getI (j := 7) gz_176_8 rfl is_151 rd_10 rfl (fun v44 ev44 pv44 qv44 => ?_)
      have zv44 := ev44.trans ev23.symm
      refine w_iload_n gz_176_11 rfl ?_
      refine w_ifeq (t := 19) gz_176_12 rfl (fun u45 => by exfalso; omega) (fun u45 => ?_)
      refine w_iconst gz_176_15 (by decide) ?_
      refine w_goto (t := 20) gz_176_16 rfl ?_
      refine w_iadd gz_176_20 ⟨by omega, by omega⟩ ?_
      have hi46 : 0 ≤ (v44 + 1) := by have q := Tok_at n_Tok; omega
      have hi47 : (v44 + 1) ≤ 1001 := by have q := Tok_at n_Tok; omega
      refine v_putI (j := 7) gz_176_21 rfl is_151 rd_10 rfl (by omega) (by omega) rfl (fun h48 fh48 => ?_)
      have gh48 : my_fr [(10, 7), (10, 8)] h h48 := my_fr.up my_fr.rf is_151 fh48 rfl
      have Tok_h48t49 : Tok h48 := by first | exact Tok_inc n_Tok (by subst_vars; omega) (by omega) fh48 | exact Tok_set n_Tok (by omega) fh48
      refine w_iload_n gz_176_24 rfl ?_
      refine w_bret gz_176_25 gm_176 (by omega) (by omega) ?_
      show wp l rho (d + 2) 175 5 [(2, 151), (0, x1)] [(0, 1)] h48 Q
      refine w_ifne (t := 13) gz_175_5 rfl (fun u50 => ?_) (fun u50 => by exfalso; omega)
      have ce51 : h48 151 7 = (v44 + 1) := (my_up_self fh48)
      have c52 := (my_up_self fh48)
      have c53 := ((my_up_fld fh48 (by decide)).trans ev1.symm)
      exact w_vret gz_175_13 gm_175 (k1 h48 (gh48) (by omega) (by omega) (by omega) (by first | assumption | omega | (subst_vars; omega)) Tok_h48t49)
theorem c_Model_takeSign_f1 {l : Launch} {rho : Nat → Int32} {d : Nat} {h : my_H} {Q : my_H → my_V → Prop} (xf : Int) (cf : h 151 8 = xf) (cf1 : 1 ≤ xf) (cf2 : xf ≤ 16005) (n_Tok : Tok h) (k0 : 1 ≤ h 151 8 → h 151 8 ≤ 16005 → h 151 7 ≤ h 151 7 → Tok h → Q h (9, 0)) : wp l rho (d + 1) 183 0 [(2, 151), (0, 59)] [] h Q := by
  refine v_know (x := 151) (j := 7) (b := 7) rfl is_151 rd_10 rfl (fun k151_7 ek151_7 pk151_7 qk151_7 => ?_)
  refine w_aload_n gz_183_0 rfl ?_
  refine w_iload_n gz_183_1 rfl ?_
  refine w_inv (k := 0) (as := [(0, 59)]) (r := []) (x := 151) (ls0 := [(2, 151), (0, 59)]) gz_183_2 gm_184 rfl is_151 rd_10 rfl rfl rfl rfl rfl ?_
  refine w_aload_n gz_184_0 rfl ?_
  refine v_getI (j := 8) gz_184_1 rfl is_151 rd_10 rfl (fun v1 ev1 pv1 qv1 => ?_)
  have zv1 := ev1.trans cf
  refine w_ifne (t := 39) gz_184_4 rfl (fun u2 => ?_) (fun u2 => by exfalso; omega)
  refine w_iconst gz_184_39 (by decide) ?_
  refine w_bret gz_184_40 gm_184 (by omega) (by omega) ?_
  show wp l rho (d + 1) 183 5 [(2, 151), (0, 59)] [(0, 0)] h Q
  refine w_ifeq (t := 21) gz_183_5 rfl (fun u3 => ?_) (fun u3 => by exfalso; omega)
  refine w_aload_n gz_183_21 rfl ?_
  refine w_iconst gz_183_22 (by decide) ?_
  refine w_inv (k := 0) (as := [(0, 1)]) (r := []) (x := 151) (ls0 := [(2, 151), (0, 1)]) gz_183_23 gm_178 rfl is_151 rd_10 rfl rfl rfl rfl rfl ?_
  refine w_aload_n gz_178_0 rfl ?_
  refine v_getI (j := 8) gz_178_1 rfl is_151 rd_10 rfl (fun v4 ev4 pv4 qv4 => ?_)
  have zv4 := ev4.trans ev1.symm
  refine w_ifne (t := 25) gz_178_4 rfl (fun u5 => ?_) (fun u5 => by exfalso; omega)
  refine w_vret gz_178_25 gm_178 ?_
  show wp l rho (d + 1) 183 26 [(2, 151), (0, 59)] [] h Q
  have ce6 : h 151 7 = k151_7 := ek151_7.symm
  have c7 := ev4.symm
  exact w_vret gz_183_26 gm_183 (k0 (by omega) (by omega) (by first | assumption | omega | (subst_vars; omega)) n_Tok)
theorem c_Model_takeSign_f0 {l : Launch} {rho : Nat → Int32} {d : Nat} {h : my_H} {Q : my_H → my_V → Prop} (cf : h 151 8 = 0) (n_Tok : Tok h) (k0 : ∀ (h' : my_H), my_fr [(10, 7), (10, 8)] h h' → 1 ≤ h' 151 8 → h' 151 8 ≤ 16001 → h 151 7 ≤ h' 151 7 → Tok h' → Q h' (9, 0)) (k1 : ∀ (h' : my_H), my_fr [(10, 7), (10, 8)] h h' → 1 ≤ h' 151 7 → h' 151 7 ≤ 1001 → h' 151 8 = 0 → h 151 7 ≤ h' 151 7 → Tok h' → Q h' (9, 0)) : wp l rho (d + 1) 183 0 [(2, 151), (0, 59)] [] h Q := by
  refine v_know (x := 151) (j := 7) (b := 7) rfl is_151 rd_10 rfl (fun k151_7 ek151_7 pk151_7 qk151_7 => ?_)
  refine w_aload_n gz_183_0 rfl ?_
  refine w_iload_n gz_183_1 rfl ?_
  refine w_inv (k := 0) (as := [(0, 59)]) (r := []) (x := 151) (ls0 := [(2, 151), (0, 59)]) gz_183_2 gm_184 rfl is_151 rd_10 rfl rfl rfl rfl rfl ?_
  refine w_aload_n gz_184_0 rfl ?_
  refine v_getI (j := 8) gz_184_1 rfl is_151 rd_10 rfl (fun v1 ev1 pv1 qv1 => ?_)
  have zv1 := ev1.trans cf
  refine w_ifne (t := 39) gz_184_4 rfl (fun u2 => by exfalso; omega) (fun u2 => ?_)
  refine w_aload_n gz_184_7 rfl ?_
  refine w_getX (v := 153) gz_184_8 is_151 rd_10 rfl (by decide) rfl ?_
  refine w_aload_n gz_184_11 rfl ?_
  refine v_getI (j := 7) gz_184_12 rfl is_151 rd_10 rfl (fun v4 ev4 pv4 qv4 => ?_)
  have zv4 := ev4.trans ek151_7.symm
  refine w_iald gz_184_15 is_153 rd_52 (by omega) (by omega) (fun v5 ev5 pv5 qv5 => ?_)
  refine w_iconst gz_184_16 (by decide) ?_
  refine w_icne (t := 39) gz_184_17 rfl (fun u6 => ?_) (fun u6 => ?_)
  ·
    refine w_iconst gz_184_39 (by decide) ?_
    refine w_bret gz_184_40 gm_184 (by omega) (by omega) ?_
    show wp l rho (d + 1) 183 5 [(2, 151), (0, 59)] [(0, 0)] h Q
    refine w_ifeq (t := 21) gz_183_5 rfl (fun u7 => ?_) (fun u7 => by exfalso; omega)
    refine w_aload_n gz_183_21 rfl ?_
    refine w_iconst gz_183_22 (by decide) ?_
    refine w_inv (k := 0) (as := [(0, 1)]) (r := []) (x := 151) (ls0 := [(2, 151), (0, 1)]) gz_183_23 gm_178 rfl is_151 rd_10 rfl rfl rfl rfl rfl ?_
    refine w_aload_n gz_178_0 rfl ?_
    refine v_getI (j := 8) gz_178_1 rfl is_151 rd_10 rfl (fun v8 ev8 pv8 qv8 => ?_)
    have zv8 := ev8.trans ev1.symm
    refine w_ifne (t := 25) gz_178_4 rfl (fun u9 => by exfalso; omega) (fun u9 => ?_)
    refine w_aload_n gz_178_7 rfl ?_
    refine w_iload_n gz_178_8 rfl ?_
    refine w_bipush gz_178_9 (by decide) ?_
    refine w_aload_n gz_178_11 rfl ?_
    refine w_getX (v := 154) gz_178_12 is_151 rd_10 rfl (by decide) rfl ?_
    refine w_aload_n gz_178_15 rfl ?_
    refine v_getI (j := 7) gz_178_16 rfl is_151 rd_10 rfl (fun v11 ev11 pv11 qv11 => ?_)
    have zv11 := ev11.trans ev4.symm
    refine w_iald gz_178_19 is_154 rd_53 (by omega) (by omega) (fun v12 ev12 pv12 qv12 => ?_)
    refine w_imul gz_178_20 ⟨by omega, by omega⟩ ?_
    refine w_iadd gz_178_21 ⟨by omega, by omega⟩ ?_
    refine v_putI (j := 8) gz_178_22 rfl is_151 rd_10 rfl (by omega) (by omega) rfl (fun h13 fh13 => ?_)
    have gh13 : my_fr [(10, 7), (10, 8)] h h13 := my_fr.up my_fr.rf is_151 fh13 rfl
    have Tok_h13 : Tok h13 := Tok_ag (my_ag.up fh13 is_151 rfl) n_Tok
    refine w_vret gz_178_25 gm_178 ?_
    show wp l rho (d + 1) 183 26 [(2, 151), (0, 59)] [] h13 Q
    have ce14 : h13 151 7 = v11 := ((my_up_fld fh13 (by decide)).trans ev11.symm)
    have c15 := (my_up_self fh13)
    exact w_vret gz_183_26 gm_183 (k0 h13 (gh13) (by omega) (by omega) (by first | assumption | omega | (subst_vars; omega)) Tok_h13)
  ·
    refine w_aload_n gz_184_20 rfl ?_
    refine w_getX (v := 155) gz_184_21 is_151 rd_10 rfl (by decide) rfl ?_
    refine w_aload_n gz_184_24 rfl ?_
    refine v_getI (j := 7) gz_184_25 rfl is_151 rd_10 rfl (fun v17 ev17 pv17 qv17 => ?_)
    have zv17 := ev17.trans ev4.symm
    refine w_lald gz_184_28 is_155 rd_54 (by omega) (by omega) (fun v18 ev18 pv18 => ?_)
    refine w_iload_n gz_184_29 rfl ?_
    refine w_i2l gz_184_30 ?_
    refine w_lcmp gz_184_31 (fun v19 pv19 qv19 => ?_)
    refine w_ifne (t := 39) gz_184_32 rfl (fun u20 => ?_) (fun u20 => ?_)
    ·
      refine w_iconst gz_184_39 (by decide) ?_
      refine w_bret gz_184_40 gm_184 (by omega) (by omega) ?_
      show wp l rho (d + 1) 183 5 [(2, 151), (0, 59)] [(0, 0)] h Q
      refine w_ifeq (t := 21) gz_183_5 rfl (fun u21 => ?_) (fun u21 => by exfalso; omega)
      refine w_aload_n gz_183_21 rfl ?_
      refine w_iconst gz_183_22 (by decide) ?_
      refine w_inv (k := 0) (as := [(0, 1)]) (r := []) (x := 151) (ls0 := [(2, 151), (0, 1)]) gz_183_23 gm_178 rfl is_151 rd_10 rfl rfl rfl rfl rfl ?_
      refine w_aload_n gz_178_0 rfl ?_
      refine v_getI (j := 8) gz_178_1 rfl is_151 rd_10 rfl (fun v22 ev22 pv22 qv22 => ?_)
      have zv22 := ev22.trans ev1.symm
      refine w_ifne (t := 25) gz_178_4 rfl (fun u23 => by exfalso; omega) (fun u23 => ?_)
      refine w_aload_n gz_178_7 rfl ?_
      refine w_iload_n gz_178_8 rfl ?_
      refine w_bipush gz_178_9 (by decide) ?_
      refine w_aload_n gz_178_11 rfl ?_
      refine w_getX (v := 154) gz_178_12 is_151 rd_10 rfl (by decide) rfl ?_
      refine w_aload_n gz_178_15 rfl ?_
      refine v_getI (j := 7) gz_178_16 rfl is_151 rd_10 rfl (fun v25 ev25 pv25 qv25 => ?_)
      have zv25 := ev25.trans ev17.symm
      refine w_iald gz_178_19 is_154 rd_53 (by omega) (by omega) (fun v26 ev26 pv26 qv26 => ?_)
      refine w_imul gz_178_20 ⟨by omega, by omega⟩ ?_
      refine w_iadd gz_178_21 ⟨by omega, by omega⟩ ?_
      refine v_putI (j := 8) gz_178_22 rfl is_151 rd_10 rfl (by omega) (by omega) rfl (fun h27 fh27 => ?_)
      have gh27 : my_fr [(10, 7), (10, 8)] h h27 := my_fr.up my_fr.rf is_151 fh27 rfl
      have Tok_h27 : Tok h27 := Tok_ag (my_ag.up fh27 is_151 rfl) n_Tok
      refine w_vret gz_178_25 gm_178 ?_
      show wp l rho (d + 1) 183 26 [(2, 151), (0, 59)] [] h27 Q
      have ce28 : h27 151 7 = v25 := ((my_up_fld fh27 (by decide)).trans ev25.symm)
      have c29 := (my_up_self fh27)
      exact w_vret gz_183_26 gm_183 (k0 h27 (gh27) (by omega) (by omega) (by first | assumption | omega | (subst_vars; omega)) Tok_h27)
    ·
      refine w_iconst gz_184_35 (by decide) ?_
      refine w_goto (t := 40) gz_184_36 rfl ?_
      refine w_bret gz_184_40 gm_184 (by omega) (by omega) ?_
      show wp l rho (d + 1) 183 5 [(2, 151), (0, 59)] [(0, 1)] h Q
      refine w_ifeq (t := 21) gz_183_5 rfl (fun u30 => by exfalso; omega) (fun u30 => ?_)
      refine w_aload_n gz_183_8 rfl ?_
      refine w_dup gz_183_9 rfl ?_
      refine v_getI (j := 7) gz_183_10 rfl is_151 rd_10 rfl (fun v31 ev31 pv31 qv31 => ?_)
      have zv31 := ev31.trans ev17.symm
      refine w_iconst gz_183_13 (by decide) ?_
      refine w_iadd gz_183_14 ⟨by omega, by omega⟩ ?_
      have hi32 : 0 ≤ (v31 + 1) := by have q := Tok_at n_Tok; omega
      have hi33 : (v31 + 1) ≤ 1001 := by have q := Tok_at n_Tok; omega
      refine v_putI (j := 7) gz_183_15 rfl is_151 rd_10 rfl (by omega) (by omega) rfl (fun h34 fh34 => ?_)
      have gh34 : my_fr [(10, 7), (10, 8)] h h34 := my_fr.up my_fr.rf is_151 fh34 rfl
      have Tok_h34t35 : Tok h34 := by first | exact Tok_inc n_Tok (by subst_vars; omega) (by omega) fh34 | exact Tok_set n_Tok (by omega) fh34
      refine w_goto (t := 26) gz_183_18 rfl ?_
      have ce36 : h34 151 7 = (v31 + 1) := (my_up_self fh34)
      have c37 := (my_up_self fh34)
      have c38 := ((my_up_fld fh34 (by decide)).trans ev1.symm)
      exact w_vret gz_183_26 gm_183 (k1 h34 (gh34) (by omega) (by omega) (by omega) (by first | assumption | omega | (subst_vars; omega)) Tok_h34t35)
theorem c_Model_takeNumber_f1 {l : Launch} {rho : Nat → Int32} {d : Nat} {h : my_H} {Q : my_H → my_V → Prop} {x1 : Int} (a1 : (-1) ≤ x1) (b1 : x1 ≤ 19) (xf : Int) (cf : h 151 8 = xf) (cf1 : 1 ≤ xf) (cf2 : xf ≤ 16005) (n_Tok : Tok h) (k0 : 1 ≤ h 151 8 → h 151 8 ≤ 16005 → h 151 7 = h 151 7 → Tok h → Q h (0, 0)) : wp l rho (d + 1) 187 0 [(2, 151), (0, x1)] [] h Q := by
  refine v_know (x := 151) (j := 7) (b := 7) rfl is_151 rd_10 rfl (fun k151_7 ek151_7 pk151_7 qk151_7 => ?_)
  refine w_aload_n gz_187_0 rfl ?_
  refine v_getI (j := 8) gz_187_1 rfl is_151 rd_10 rfl (fun v1 ev1 pv1 qv1 => ?_)
  have zv1 := ev1.trans cf
  refine w_ifne (t := 28) gz_187_4 rfl (fun u2 => ?_) (fun u2 => by exfalso; omega)
  refine w_aload_n gz_187_28 rfl ?_
  refine v_getI (j := 8) gz_187_29 rfl is_151 rd_10 rfl (fun v3 ev3 pv3 qv3 => ?_)
  have zv3 := ev3.trans ev1.symm
  refine w_ifne (t := 55) gz_187_32 rfl (fun u4 => ?_) (fun u4 => by exfalso; omega)
  refine w_aload_n gz_187_55 rfl ?_
  refine v_getI (j := 8) gz_187_56 rfl is_151 rd_10 rfl (fun v5 ev5 pv5 qv5 => ?_)
  have zv5 := ev5.trans ev3.symm
  refine w_ifle (t := 64) gz_187_59 rfl (fun u6 => by exfalso; omega) (fun u6 => ?_)
  refine w_iconst gz_187_62 (by decide) ?_
  have ce7 : h 151 7 = k151_7 := ek151_7.symm
  have c8 := ev5.symm
  exact w_iret gz_187_63 gm_187 (k0 (by omega) (by omega) (by first | assumption | omega | (subst_vars; omega)) n_Tok)
theorem c_Model_takeNumber_f0 {l : Launch} {rho : Nat → Int32} {d : Nat} {h : my_H} {Q : my_H → my_V → Prop} {x1 : Int} (a1 : (-1) ≤ x1) (b1 : x1 ≤ 19) (cf : h 151 8 = 0) (n_Tok : Tok h) (k0 : ∀ (h' : my_H), my_fr [(10, 7), (10, 8)] h h' → 1 ≤ h' 151 8 → h' 151 8 ≤ 16004 → h' 151 7 = h 151 7 → Tok h' → Q h' (0, 0)) (k1 : ∀ (h' : my_H) (y : Int), my_fr [(10, 7), (10, 8)] h h' → 0 ≤ y → y ≤ 999 → 1 ≤ h' 151 7 → h' 151 7 ≤ 1001 → h' 151 8 = 0 → 0 ≤ y → y ≤ x1 → h' 151 7 = h 151 7 + 1 → Tok h' → Q h' (0, y)) : wp l rho (d + 1) 187 0 [(2, 151), (0, x1)] [] h Q := by
  refine v_know (x := 151) (j := 7) (b := 7) rfl is_151 rd_10 rfl (fun k151_7 ek151_7 pk151_7 qk151_7 => ?_)
  refine w_aload_n gz_187_0 rfl ?_
  refine v_getI (j := 8) gz_187_1 rfl is_151 rd_10 rfl (fun v1 ev1 pv1 qv1 => ?_)
  have zv1 := ev1.trans cf
  refine w_ifne (t := 28) gz_187_4 rfl (fun u2 => by exfalso; omega) (fun u2 => ?_)
  refine w_aload_n gz_187_7 rfl ?_
  refine w_getX (v := 153) gz_187_8 is_151 rd_10 rfl (by decide) rfl ?_
  refine w_aload_n gz_187_11 rfl ?_
  refine v_getI (j := 7) gz_187_12 rfl is_151 rd_10 rfl (fun v4 ev4 pv4 qv4 => ?_)
  have zv4 := ev4.trans ek151_7.symm
  refine w_iald gz_187_15 is_153 rd_52 (by omega) (by omega) (fun v5 ev5 pv5 qv5 => ?_)
  refine w_iconst gz_187_16 (by decide) ?_
  refine w_iceq (t := 28) gz_187_17 rfl (fun u6 => ?_) (fun u6 => ?_)
  ·
    refine w_aload_n gz_187_28 rfl ?_
    refine v_getI (j := 8) gz_187_29 rfl is_151 rd_10 rfl (fun v7 ev7 pv7 qv7 => ?_)
    have zv7 := ev7.trans ev1.symm
    refine w_ifne (t := 55) gz_187_32 rfl (fun u8 => by exfalso; omega) (fun u8 => ?_)
    refine w_aload_n gz_187_35 rfl ?_
    refine w_getX (v := 155) gz_187_36 is_151 rd_10 rfl (by decide) rfl ?_
    refine w_aload_n gz_187_39 rfl ?_
    refine v_getI (j := 7) gz_187_40 rfl is_151 rd_10 rfl (fun v10 ev10 pv10 qv10 => ?_)
    have zv10 := ev10.trans ev4.symm
    refine w_lald gz_187_43 is_155 rd_54 (by omega) (by omega) (fun v11 ev11 pv11 => ?_)
    refine w_iload_n gz_187_44 rfl ?_
    refine w_i2l gz_187_45 ?_
    refine w_lcmpE gz_187_46 (fun v12 pv12 qv12 xv12 => ?_)
    refine w_ifle (t := 55) gz_187_47 rfl (fun u13 => ?_) (fun u13 => ?_)
    ·
      refine w_aload_n gz_187_55 rfl ?_
      refine v_getI (j := 8) gz_187_56 rfl is_151 rd_10 rfl (fun v14 ev14 pv14 qv14 => ?_)
      have zv14 := ev14.trans ev7.symm
      refine w_ifle (t := 64) gz_187_59 rfl (fun u15 => ?_) (fun u15 => by exfalso; omega)
      refine w_aload_n gz_187_64 rfl ?_
      refine w_dup gz_187_65 rfl ?_
      refine v_getI (j := 7) gz_187_66 rfl is_151 rd_10 rfl (fun v16 ev16 pv16 qv16 => ?_)
      have zv16 := ev16.trans ev10.symm
      refine w_iconst gz_187_69 (by decide) ?_
      refine w_iadd gz_187_70 ⟨by omega, by omega⟩ ?_
      have tq := Tok_at n_Tok
      have hi17 : 0 ≤ (v16 + 1) := by have q := Tok_at n_Tok; omega
      have hi18 : (v16 + 1) ≤ 1001 := by have q := Tok_at n_Tok; omega
      refine v_putI (j := 7) gz_187_71 rfl is_151 rd_10 rfl (by omega) (by omega) rfl (fun h19 fh19 => ?_)
      have gh19 : my_fr [(10, 7), (10, 8)] h h19 := my_fr.up my_fr.rf is_151 fh19 rfl
      have Tok_h19t20 : Tok h19 := by first | exact Tok_inc n_Tok (by subst_vars; omega) (by omega) fh19 | exact Tok_set n_Tok (by omega) fh19
      refine w_aload_n gz_187_74 rfl ?_
      refine w_getX (v := 155) gz_187_75 is_151 rd_10 rfl (by decide) rfl ?_
      refine w_aload_n gz_187_78 rfl ?_
      refine v_getI (j := 7) gz_187_79 rfl is_151 rd_10 rfl (fun v22 ev22 pv22 qv22 => ?_)
      have zv22 := ev22.trans (my_up_self fh19)
      refine w_iconst gz_187_82 (by decide) ?_
      refine w_isub gz_187_83 ⟨by omega, by omega⟩ ?_
      have hi23 : 0 ≤ (v22 - 1) := by omega
      have hi24 : (v22 - 1) ≤ 1000 := by omega
      refine w_lald gz_187_84 is_155 rd_54 (by omega) (by omega) (fun v25 ev25 pv25 => ?_)
      have tb : 0 ≤ v25 ∧ v25 ≤ 999 ∧ v25 ≤ x1 := by
        subst_vars
        rw [my_up_ne rfl (by omega), Int.add_sub_cancel]
        have q := tq.2.2.2 (by omega)
        omega
      refine w_l2iE gz_187_85 (fun v26 pv26 qv26 xv26 => ?_)
      have hi27 : 0 ≤ v26 := by omega
      have hi28 : v26 ≤ 999 := by omega
      have ce29 : h19 151 7 = v22 := ev22.symm
      have c30 := ev22.symm
      have c31 := ((my_up_fld fh19 (by decide)).trans ev14.symm)
      exact w_iret gz_187_86 gm_187 (k1 h19 (v26) (gh19) (by omega) (by omega) (by omega) (by omega) (by omega) (by first | assumption | omega | (subst_vars; omega)) (by first | assumption | omega | (subst_vars; omega)) (by first | assumption | omega | (subst_vars; omega)) Tok_h19t20)
    ·
      refine w_aload_n gz_187_50 rfl ?_
      refine w_iconst gz_187_51 (by decide) ?_
      refine w_inv (k := 0) (as := [(0, 4)]) (r := []) (x := 151) (ls0 := [(2, 151), (0, 4)]) gz_187_52 gm_178 rfl is_151 rd_10 rfl rfl rfl rfl rfl ?_
      refine w_aload_n gz_178_0 rfl ?_
      refine v_getI (j := 8) gz_178_1 rfl is_151 rd_10 rfl (fun v32 ev32 pv32 qv32 => ?_)
      have zv32 := ev32.trans ev7.symm
      refine w_ifne (t := 25) gz_178_4 rfl (fun u33 => by exfalso; omega) (fun u33 => ?_)
      refine w_aload_n gz_178_7 rfl ?_
      refine w_iload_n gz_178_8 rfl ?_
      refine w_bipush gz_178_9 (by decide) ?_
      refine w_aload_n gz_178_11 rfl ?_
      refine w_getX (v := 154) gz_178_12 is_151 rd_10 rfl (by decide) rfl ?_
      refine w_aload_n gz_178_15 rfl ?_
      refine v_getI (j := 7) gz_178_16 rfl is_151 rd_10 rfl (fun v35 ev35 pv35 qv35 => ?_)
      have zv35 := ev35.trans ev10.symm
      refine w_iald gz_178_19 is_154 rd_53 (by omega) (by omega) (fun v36 ev36 pv36 qv36 => ?_)
      refine w_imul gz_178_20 ⟨by omega, by omega⟩ ?_
      refine w_iadd gz_178_21 ⟨by omega, by omega⟩ ?_
      refine v_putI (j := 8) gz_178_22 rfl is_151 rd_10 rfl (by omega) (by omega) rfl (fun h37 fh37 => ?_)
      have gh37 : my_fr [(10, 7), (10, 8)] h h37 := my_fr.up my_fr.rf is_151 fh37 rfl
      have Tok_h37 : Tok h37 := Tok_ag (my_ag.up fh37 is_151 rfl) n_Tok
      refine w_vret gz_178_25 gm_178 ?_
      show wp l rho (d + 1) 187 55 [(2, 151), (0, x1)] [] h37 Q
      refine w_aload_n gz_187_55 rfl ?_
      refine v_getI (j := 8) gz_187_56 rfl is_151 rd_10 rfl (fun v38 ev38 pv38 qv38 => ?_)
      have zv38 := ev38.trans (my_up_self fh37)
      refine w_ifle (t := 64) gz_187_59 rfl (fun u39 => by exfalso; omega) (fun u39 => ?_)
      refine w_iconst gz_187_62 (by decide) ?_
      have ce40 : h37 151 7 = v35 := ((my_up_fld fh37 (by decide)).trans ev35.symm)
      have c41 := ev38.symm
      exact w_iret gz_187_63 gm_187 (k0 h37 (gh37) (by omega) (by omega) (by first | assumption | omega | (subst_vars; omega)) Tok_h37)
  ·
    refine w_aload_n gz_187_20 rfl ?_
    refine w_iconst gz_187_21 (by decide) ?_
    refine w_inv (k := 0) (as := [(0, 1)]) (r := []) (x := 151) (ls0 := [(2, 151), (0, 1)]) gz_187_22 gm_178 rfl is_151 rd_10 rfl rfl rfl rfl rfl ?_
    refine w_aload_n gz_178_0 rfl ?_
    refine v_getI (j := 8) gz_178_1 rfl is_151 rd_10 rfl (fun v42 ev42 pv42 qv42 => ?_)
    have zv42 := ev42.trans ev1.symm
    refine w_ifne (t := 25) gz_178_4 rfl (fun u43 => by exfalso; omega) (fun u43 => ?_)
    refine w_aload_n gz_178_7 rfl ?_
    refine w_iload_n gz_178_8 rfl ?_
    refine w_bipush gz_178_9 (by decide) ?_
    refine w_aload_n gz_178_11 rfl ?_
    refine w_getX (v := 154) gz_178_12 is_151 rd_10 rfl (by decide) rfl ?_
    refine w_aload_n gz_178_15 rfl ?_
    refine v_getI (j := 7) gz_178_16 rfl is_151 rd_10 rfl (fun v45 ev45 pv45 qv45 => ?_)
    have zv45 := ev45.trans ev4.symm
    refine w_iald gz_178_19 is_154 rd_53 (by omega) (by omega) (fun v46 ev46 pv46 qv46 => ?_)
    refine w_imul gz_178_20 ⟨by omega, by omega⟩ ?_
    refine w_iadd gz_178_21 ⟨by omega, by omega⟩ ?_
    refine v_putI (j := 8) gz_178_22 rfl is_151 rd_10 rfl (by omega) (by omega) rfl (fun h47 fh47 => ?_)
    have gh47 : my_fr [(10, 7), (10, 8)] h h47 := my_fr.up my_fr.rf is_151 fh47 rfl
    have Tok_h47 : Tok h47 := Tok_ag (my_ag.up fh47 is_151 rfl) n_Tok
    refine w_vret gz_178_25 gm_178 ?_
    show wp l rho (d + 1) 187 25 [(2, 151), (0, x1)] [] h47 Q
    refine w_goto (t := 55) gz_187_25 rfl ?_
    refine w_aload_n gz_187_55 rfl ?_
    refine v_getI (j := 8) gz_187_56 rfl is_151 rd_10 rfl (fun v48 ev48 pv48 qv48 => ?_)
    have zv48 := ev48.trans (my_up_self fh47)
    refine w_ifle (t := 64) gz_187_59 rfl (fun u49 => by exfalso; omega) (fun u49 => ?_)
    refine w_iconst gz_187_62 (by decide) ?_
    have ce50 : h47 151 7 = v45 := ((my_up_fld fh47 (by decide)).trans ev45.symm)
    have c51 := ev48.symm
    exact w_iret gz_187_63 gm_187 (k0 h47 (gh47) (by omega) (by omega) (by first | assumption | omega | (subst_vars; omega)) Tok_h47)
theorem c_Model_takeNumber_fq {l : Launch} {rho : Nat → Int32} {d : Nat} {h : my_H} {Q : my_H → my_V → Prop} (n_Tok : Tok h) (k0 : ∀ (h' : my_H), my_fr [(10, 7), (10, 8)] h h' → 1 ≤ h' 151 8 → h' 151 8 ≤ 16005 → h' 151 7 = h 151 7 → Tok h' → Q h' (0, 0)) (k1 : ∀ (h' : my_H) (y : Int), my_fr [(10, 7), (10, 8)] h h' → 0 ≤ y → y ≤ 999 → 1 ≤ h' 151 7 → h' 151 7 ≤ 1001 → h' 151 8 = 0 → 0 ≤ y → y ≤ 199 → h' 151 7 = h 151 7 + 1 → Tok h' → Q h' (0, y)) : wp l rho (d + 1) 187 0 [(2, 151), (0, 199)] [] h Q := by
  refine v_know (x := 151) (j := 7) (b := 7) rfl is_151 rd_10 rfl (fun k151_7 ek151_7 pk151_7 qk151_7 => ?_)
  refine w_aload_n gz_187_0 rfl ?_
  refine v_getI (j := 8) gz_187_1 rfl is_151 rd_10 rfl (fun v1 ev1 pv1 qv1 => ?_)
  refine w_ifne (t := 28) gz_187_4 rfl (fun u2 => ?_) (fun u2 => ?_)
  ·
    refine w_aload_n gz_187_28 rfl ?_
    refine v_getI (j := 8) gz_187_29 rfl is_151 rd_10 rfl (fun v3 ev3 pv3 qv3 => ?_)
    have zv3 := ev3.trans ev1.symm
    refine w_ifne (t := 55) gz_187_32 rfl (fun u4 => ?_) (fun u4 => by exfalso; omega)
    refine w_aload_n gz_187_55 rfl ?_
    refine v_getI (j := 8) gz_187_56 rfl is_151 rd_10 rfl (fun v5 ev5 pv5 qv5 => ?_)
    have zv5 := ev5.trans ev3.symm
    refine w_ifle (t := 64) gz_187_59 rfl (fun u6 => by exfalso; omega) (fun u6 => ?_)
    refine w_iconst gz_187_62 (by decide) ?_
    have ce7 : h 151 7 = k151_7 := ek151_7.symm
    have c8 := ev5.symm
    exact w_iret gz_187_63 gm_187 (k0 h (my_fr.rf) (by omega) (by omega) (by first | assumption | omega | (subst_vars; omega)) n_Tok)
  ·
    refine w_aload_n gz_187_7 rfl ?_
    refine w_getX (v := 153) gz_187_8 is_151 rd_10 rfl (by decide) rfl ?_
    refine w_aload_n gz_187_11 rfl ?_
    refine v_getI (j := 7) gz_187_12 rfl is_151 rd_10 rfl (fun v10 ev10 pv10 qv10 => ?_)
    have zv10 := ev10.trans ek151_7.symm
    refine w_iald gz_187_15 is_153 rd_52 (by omega) (by omega) (fun v11 ev11 pv11 qv11 => ?_)
    refine w_iconst gz_187_16 (by decide) ?_
    refine w_iceq (t := 28) gz_187_17 rfl (fun u12 => ?_) (fun u12 => ?_)
    ·
      refine w_aload_n gz_187_28 rfl ?_
      refine v_getI (j := 8) gz_187_29 rfl is_151 rd_10 rfl (fun v13 ev13 pv13 qv13 => ?_)
      have zv13 := ev13.trans ev1.symm
      refine w_ifne (t := 55) gz_187_32 rfl (fun u14 => by exfalso; omega) (fun u14 => ?_)
      refine w_aload_n gz_187_35 rfl ?_
      refine w_getX (v := 155) gz_187_36 is_151 rd_10 rfl (by decide) rfl ?_
      refine w_aload_n gz_187_39 rfl ?_
      refine v_getI (j := 7) gz_187_40 rfl is_151 rd_10 rfl (fun v16 ev16 pv16 qv16 => ?_)
      have zv16 := ev16.trans ev10.symm
      refine w_lald gz_187_43 is_155 rd_54 (by omega) (by omega) (fun v17 ev17 pv17 => ?_)
      refine w_iload_n gz_187_44 rfl ?_
      refine w_i2l gz_187_45 ?_
      refine w_lcmpE gz_187_46 (fun v18 pv18 qv18 xv18 => ?_)
      refine w_ifle (t := 55) gz_187_47 rfl (fun u19 => ?_) (fun u19 => ?_)
      ·
        refine w_aload_n gz_187_55 rfl ?_
        refine v_getI (j := 8) gz_187_56 rfl is_151 rd_10 rfl (fun v20 ev20 pv20 qv20 => ?_)
        have zv20 := ev20.trans ev13.symm
        refine w_ifle (t := 64) gz_187_59 rfl (fun u21 => ?_) (fun u21 => by exfalso; omega)
        refine w_aload_n gz_187_64 rfl ?_
        refine w_dup gz_187_65 rfl ?_
        refine v_getI (j := 7) gz_187_66 rfl is_151 rd_10 rfl (fun v22 ev22 pv22 qv22 => ?_)
        have zv22 := ev22.trans ev16.symm
        refine w_iconst gz_187_69 (by decide) ?_
        refine w_iadd gz_187_70 ⟨by omega, by omega⟩ ?_
        have tq := Tok_at n_Tok
        have hi23 : 0 ≤ (v22 + 1) := by have q := Tok_at n_Tok; omega
        have hi24 : (v22 + 1) ≤ 1001 := by have q := Tok_at n_Tok; omega
        refine v_putI (j := 7) gz_187_71 rfl is_151 rd_10 rfl (by omega) (by omega) rfl (fun h25 fh25 => ?_)
        have gh25 : my_fr [(10, 7), (10, 8)] h h25 := my_fr.up my_fr.rf is_151 fh25 rfl
        have Tok_h25t26 : Tok h25 := by first | exact Tok_inc n_Tok (by subst_vars; omega) (by omega) fh25 | exact Tok_set n_Tok (by omega) fh25
        refine w_aload_n gz_187_74 rfl ?_
        refine w_getX (v := 155) gz_187_75 is_151 rd_10 rfl (by decide) rfl ?_
        refine w_aload_n gz_187_78 rfl ?_
        refine v_getI (j := 7) gz_187_79 rfl is_151 rd_10 rfl (fun v28 ev28 pv28 qv28 => ?_)
        have zv28 := ev28.trans (my_up_self fh25)
        refine w_iconst gz_187_82 (by decide) ?_
        refine w_isub gz_187_83 ⟨by omega, by omega⟩ ?_
        have hi29 : 0 ≤ (v28 - 1) := by omega
        have hi30 : (v28 - 1) ≤ 1000 := by omega
        refine w_lald gz_187_84 is_155 rd_54 (by omega) (by omega) (fun v31 ev31 pv31 => ?_)
        have tb : 0 ≤ v31 ∧ v31 ≤ 999 ∧ v31 ≤ 199 := by
          subst_vars
          rw [my_up_ne rfl (by omega), Int.add_sub_cancel]
          have q := tq.2.2.2 (by omega)
          omega
        refine w_l2iE gz_187_85 (fun v32 pv32 qv32 xv32 => ?_)
        have hi33 : 0 ≤ v32 := by omega
        have hi34 : v32 ≤ 999 := by omega
        have ce35 : h25 151 7 = v28 := ev28.symm
        have c36 := ev28.symm
        have c37 := ((my_up_fld fh25 (by decide)).trans ev20.symm)
        exact w_iret gz_187_86 gm_187 (k1 h25 (v32) (gh25) (by omega) (by omega) (by omega) (by omega) (by omega) (by first | assumption | omega | (subst_vars; omega)) (by first | assumption | omega | (subst_vars; omega)) (by first | assumption | omega | (subst_vars; omega)) Tok_h25t26)
      ·
        refine w_aload_n gz_187_50 rfl ?_
        refine w_iconst gz_187_51 (by decide) ?_
        refine w_inv (k := 0) (as := [(0, 4)]) (r := []) (x := 151) (ls0 := [(2, 151), (0, 4)]) gz_187_52 gm_178 rfl is_151 rd_10 rfl rfl rfl rfl rfl ?_
        refine w_aload_n gz_178_0 rfl ?_
        refine v_getI (j := 8) gz_178_1 rfl is_151 rd_10 rfl (fun v38 ev38 pv38 qv38 => ?_)
        have zv38 := ev38.trans ev13.symm
        refine w_ifne (t := 25) gz_178_4 rfl (fun u39 => by exfalso; omega) (fun u39 => ?_)
        refine w_aload_n gz_178_7 rfl ?_
        refine w_iload_n gz_178_8 rfl ?_
        refine w_bipush gz_178_9 (by decide) ?_
        refine w_aload_n gz_178_11 rfl ?_
        refine w_getX (v := 154) gz_178_12 is_151 rd_10 rfl (by decide) rfl ?_
        refine w_aload_n gz_178_15 rfl ?_
        refine v_getI (j := 7) gz_178_16 rfl is_151 rd_10 rfl (fun v41 ev41 pv41 qv41 => ?_)
        have zv41 := ev41.trans ev16.symm
        refine w_iald gz_178_19 is_154 rd_53 (by omega) (by omega) (fun v42 ev42 pv42 qv42 => ?_)
        refine w_imul gz_178_20 ⟨by omega, by omega⟩ ?_
        refine w_iadd gz_178_21 ⟨by omega, by omega⟩ ?_
        refine v_putI (j := 8) gz_178_22 rfl is_151 rd_10 rfl (by omega) (by omega) rfl (fun h43 fh43 => ?_)
        have gh43 : my_fr [(10, 7), (10, 8)] h h43 := my_fr.up my_fr.rf is_151 fh43 rfl
        have Tok_h43 : Tok h43 := Tok_ag (my_ag.up fh43 is_151 rfl) n_Tok
        refine w_vret gz_178_25 gm_178 ?_
        show wp l rho (d + 1) 187 55 [(2, 151), (0, 199)] [] h43 Q
        refine w_aload_n gz_187_55 rfl ?_
        refine v_getI (j := 8) gz_187_56 rfl is_151 rd_10 rfl (fun v44 ev44 pv44 qv44 => ?_)
        have zv44 := ev44.trans (my_up_self fh43)
        refine w_ifle (t := 64) gz_187_59 rfl (fun u45 => by exfalso; omega) (fun u45 => ?_)
        refine w_iconst gz_187_62 (by decide) ?_
        have ce46 : h43 151 7 = v41 := ((my_up_fld fh43 (by decide)).trans ev41.symm)
        have c47 := ev44.symm
        exact w_iret gz_187_63 gm_187 (k0 h43 (gh43) (by omega) (by omega) (by first | assumption | omega | (subst_vars; omega)) Tok_h43)
    ·
      refine w_aload_n gz_187_20 rfl ?_
      refine w_iconst gz_187_21 (by decide) ?_
      refine w_inv (k := 0) (as := [(0, 1)]) (r := []) (x := 151) (ls0 := [(2, 151), (0, 1)]) gz_187_22 gm_178 rfl is_151 rd_10 rfl rfl rfl rfl rfl ?_
      refine w_aload_n gz_178_0 rfl ?_
      refine v_getI (j := 8) gz_178_1 rfl is_151 rd_10 rfl (fun v48 ev48 pv48 qv48 => ?_)
      have zv48 := ev48.trans ev1.symm
      refine w_ifne (t := 25) gz_178_4 rfl (fun u49 => by exfalso; omega) (fun u49 => ?_)
      refine w_aload_n gz_178_7 rfl ?_
      refine w_iload_n gz_178_8 rfl ?_
      refine w_bipush gz_178_9 (by decide) ?_
      refine w_aload_n gz_178_11 rfl ?_
      refine w_getX (v := 154) gz_178_12 is_151 rd_10 rfl (by decide) rfl ?_
      refine w_aload_n gz_178_15 rfl ?_
      refine v_getI (j := 7) gz_178_16 rfl is_151 rd_10 rfl (fun v51 ev51 pv51 qv51 => ?_)
      have zv51 := ev51.trans ev10.symm
      refine w_iald gz_178_19 is_154 rd_53 (by omega) (by omega) (fun v52 ev52 pv52 qv52 => ?_)
      refine w_imul gz_178_20 ⟨by omega, by omega⟩ ?_
      refine w_iadd gz_178_21 ⟨by omega, by omega⟩ ?_
      refine v_putI (j := 8) gz_178_22 rfl is_151 rd_10 rfl (by omega) (by omega) rfl (fun h53 fh53 => ?_)
      have gh53 : my_fr [(10, 7), (10, 8)] h h53 := my_fr.up my_fr.rf is_151 fh53 rfl
      have Tok_h53 : Tok h53 := Tok_ag (my_ag.up fh53 is_151 rfl) n_Tok
      refine w_vret gz_178_25 gm_178 ?_
      show wp l rho (d + 1) 187 25 [(2, 151), (0, 199)] [] h53 Q
      refine w_goto (t := 55) gz_187_25 rfl ?_
      refine w_aload_n gz_187_55 rfl ?_
      refine v_getI (j := 8) gz_187_56 rfl is_151 rd_10 rfl (fun v54 ev54 pv54 qv54 => ?_)
      have zv54 := ev54.trans (my_up_self fh53)
      refine w_ifle (t := 64) gz_187_59 rfl (fun u55 => by exfalso; omega) (fun u55 => ?_)
      refine w_iconst gz_187_62 (by decide) ?_
      have ce56 : h53 151 7 = v51 := ((my_up_fld fh53 (by decide)).trans ev51.symm)
      have c57 := ev54.symm
      exact w_iret gz_187_63 gm_187 (k0 h53 (gh53) (by omega) (by omega) (by first | assumption | omega | (subst_vars; omega)) Tok_h53)
theorem c_ThroughWindow_isUnderAnother {l : Launch} {rho : Nat → Int32} {d : Nat} {h : my_H} {Q : my_H → my_V → Prop} {x1 : Int} (a1 : 0 ≤ x1) (b1 : x1 ≤ 5) (k0 : (∀ v : Int, 0 ≤ v → v ≤ 5 → h (h 27 v) 0 = 1 → h (h 27 v) 1 ≠ x1) → Q h (0, 0)) (k1 : Q h (0, 1)) : wp l rho d 35 0 [(2, 0), (0, x1), (9, 0)] [] h Q := by
  have J2_0 : ∀ (n : Nat) (p2_0 : Int), 0 ≤ p2_0 → p2_0 ≤ 6 → (∀ v : Int, 0 ≤ v → v < p2_0 → h (h 27 v) 0 = 1 → h (h 27 v) 1 ≠ x1) → 7 - p2_0 ≤ (n : Int) → wp l rho d 35 2 [(2, 0), (0, x1), (0, p2_0)] [] h Q := by
    intro n
    induction n with
    | zero => intro p2_0 q0_2_0 q1_2_0 ua_2_0 hm_2_0; exfalso; omega
    | succ n ih_2_0 =>
      intro p2_0 q0_2_0 q1_2_0 ua_2_0 hm_2_0
      refine w_iload_n gz_35_2 rfl ?_
      refine w_bipush gz_35_3 (by decide) ?_
      refine w_icge (t := 41) gz_35_5 rfl (fun u1 => ?_) (fun u1 => ?_)
      ·
        refine w_iconst gz_35_41 (by decide) ?_
        exact w_bret gz_35_42 gm_35 (by omega) (by omega) (k0 (by intro v a b c; exact ua_2_0 v a (by omega) c))
      ·
        refine w_aload_n gz_35_8 rfl ?_
        refine w_getX (v := 27) gz_35_9 is_0 rd_9 rfl (by decide) rfl ?_
        refine w_iload_n gz_35_12 rfl ?_
        refine w_aald gz_35_13 is_27 rd_22 rfl (by omega) (by omega) (fun v3 ev3 tv3 => ?_)
        refine v_getI (j := 0) gz_35_14 rfl tv3 rd_4 rfl (fun v4 ev4 pv4 qv4 => ?_)
        refine w_ifeq (t := 35) gz_35_17 rfl (fun u5 => ?_) (fun u5 => ?_)
        ·
          refine w_iinc (ls' := [(2, 0), (0, x1), (0, (p2_0 + 1))]) gz_35_35 rfl gm_35 rfl rfl rfl ⟨by omega, by omega⟩ ?_
          refine w_goto (t := 2) gz_35_38 rfl ?_
          exact ih_2_0 ((p2_0 + 1)) (by omega) (by omega) (by first | (intro v a b; omega) | (intro v a b c; rcases (by omega : v = p2_0 ∨ v < p2_0) with q | q <;> first | exact ua_2_0 v a q c | (subst_vars; omega))) (by omega)
        ·
          refine w_aload_n gz_35_20 rfl ?_
          refine w_getX (v := 27) gz_35_21 is_0 rd_9 rfl (by decide) rfl ?_
          refine w_iload_n gz_35_24 rfl ?_
          refine w_aald gz_35_25 is_27 rd_22 rfl (by omega) (by omega) (fun v7 ev7 tv7 => ?_)
          have zv7 : v3 = v7 := (ev7.trans ev3.symm).symm
          subst zv7
          refine v_getI (j := 1) gz_35_26 rfl tv3 rd_4 rfl (fun v8 ev8 pv8 qv8 => ?_)
          refine w_iload_n gz_35_29 rfl ?_
          refine w_icne (t := 35) gz_35_30 rfl (fun u9 => ?_) (fun u9 => ?_)
          ·
            refine w_iinc (ls' := [(2, 0), (0, x1), (0, (p2_0 + 1))]) gz_35_35 rfl gm_35 rfl rfl rfl ⟨by omega, by omega⟩ ?_
            refine w_goto (t := 2) gz_35_38 rfl ?_
            exact ih_2_0 ((p2_0 + 1)) (by omega) (by omega) (by first | (intro v a b; omega) | (intro v a b c; rcases (by omega : v = p2_0 ∨ v < p2_0) with q | q <;> first | exact ua_2_0 v a q c | (subst_vars; omega))) (by omega)
          ·
            refine w_iconst gz_35_33 (by decide) ?_
            exact w_bret gz_35_34 gm_35 (by omega) (by omega) (k1 )
  refine w_iconst gz_35_0 (by decide) ?_
  refine w_istore_n (ls' := [(2, 0), (0, x1), (0, 0)]) gz_35_1 gm_35 rfl rfl rfl ?_
  exact J2_0 7 (0) (by omega) (by omega) (by first | (intro v a b; omega) | (intro v a b c; rcases (by omega : v = p2_0 ∨ v < p2_0) with q | q <;> first | exact ua_2_0 v a q c | (subst_vars; omega))) (by omega)
theorem c_Reader_nextToken_f1 {l : Launch} {rho : Nat → Int32} {d : Nat} {h : my_H} {Q : my_H → my_V → Prop} (xf : Int) (cf : h 82 9 = xf) (cf1 : 1 ≤ xf) (cf2 : xf ≤ 16005) (k0 : ∀ (h' : my_H), my_fr [(5, 5), (5, 6), (5, 7), (5, 8)] h h' → 0 ≤ h' 82 6 → h' 82 6 ≤ 4 → 1 ≤ h' 82 9 → h' 82 9 ≤ 16005 → Q h' (9, 0)) : wp l rho (d + 1) 37 0 [(2, 82), (9, 0), (9, 0)] [] h Q := by
  refine v_know (x := 82) (j := 4) (b := 4) rfl is_82 rd_5 rfl (fun k82_4 ek82_4 pk82_4 qk82_4 => ?_)
  refine v_know (x := 82) (j := 5) (b := 5) rfl is_82 rd_5 rfl (fun k82_5 ek82_5 pk82_5 qk82_5 => ?_)
  have J181_0 : ∀ (n : Nat) (p181_0 p181_1 p181_2 p181_3 p181_4 p181_5 p181_6 : Int) (h181_0 : my_H), my_fr [(5, 5), (5, 6), (5, 7), (5, 8)] h h181_0 → 1 ≤ p181_0 → p181_0 ≤ 8 → 1 ≤ p181_1 → p181_1 ≤ 1000 → 1 ≤ p181_6 → p181_6 ≤ 16005 → 1 ≤ k82_4 → 0 ≤ p181_4 → p181_4 ≤ 999 → 1 ≤ p181_3 → p181_3 ≤ 4 → 0 ≤ p181_5 → p181_5 ≤ 999 → 0 ≤ p181_2 → p181_2 ≤ 1000 → k82_5 ≤ 999 → p181_4 ≤ (p181_1 - 1) → p181_4 ≤ p181_2 → p181_2 ≤ p181_1 → k82_5 ≤ (p181_1 - 1) → k82_5 ≤ p181_4 → k82_5 ≤ p181_2 → h181_0 82 4 = k82_4 → h181_0 82 5 = p181_2 → h181_0 82 6 = p181_3 → h181_0 82 7 = p181_4 → h181_0 82 8 = p181_5 → h181_0 82 9 = p181_6 → (h181_0 82 6 = 2 → p181_0 = 3) → (h181_0 82 6 = 2 → ∀ k : Int, h181_0 82 7 ≤ k → k < p181_1 → 48 ≤ h181_0 92 k ∧ h181_0 92 k ≤ 57) → h181_0 82 7 ≤ h181_0 82 5 → ((h181_0 82 5 = h181_0 82 7 → h181_0 82 8 = 0) ∧ (h181_0 82 5 = h181_0 82 7 + 1 → h181_0 82 8 ≤ 9) ∧ (h181_0 82 5 = h181_0 82 7 + 2 → h181_0 82 8 ≤ 99) ∧ 0 ≤ h181_0 82 8) → 1001 - h181_0 82 5 ≤ (n : Int) → wp l rho (d + 1) 37 181 [(2, 82), (0, p181_0), (0, p181_1)] [] h181_0 Q := by
    intro n
    induction n with
    | zero => intro p181_0 p181_1 p181_2 p181_3 p181_4 p181_5 p181_6 h181_0 gh_181_0 q0_181_0 q1_181_0 q2_181_0 q3_181_0 q4_181_0 q5_181_0 q6_181_0 q7_181_0 q8_181_0 q9_181_0 q10_181_0 q11_181_0 q12_181_0 q13_181_0 q14_181_0 q15_181_0 q16_181_0 q17_181_0 q18_181_0 q19_181_0 q20_181_0 q21_181_0 c82_4_181_0 c82_5_181_0 c82_6_181_0 c82_7_181_0 c82_8_181_0 c82_9_181_0 tk_181_0 dg_181_0 se_181_0 nb_181_0 hm_181_0; exfalso; omega
    | succ n ih_181_0 =>
      intro p181_0 p181_1 p181_2 p181_3 p181_4 p181_5 p181_6 h181_0 gh_181_0 q0_181_0 q1_181_0 q2_181_0 q3_181_0 q4_181_0 q5_181_0 q6_181_0 q7_181_0 q8_181_0 q9_181_0 q10_181_0 q11_181_0 q12_181_0 q13_181_0 q14_181_0 q15_181_0 q16_181_0 q17_181_0 q18_181_0 q19_181_0 q20_181_0 q21_181_0 c82_4_181_0 c82_5_181_0 c82_6_181_0 c82_7_181_0 c82_8_181_0 c82_9_181_0 tk_181_0 dg_181_0 se_181_0 nb_181_0 hm_181_0
      refine w_aload_n gz_37_181 rfl ?_
      refine v_getI (j := 5) gz_37_182 rfl is_82 rd_5 rfl (fun v1 ev1 pv1 qv1 => ?_)
      have zv1 := ev1.trans c82_5_181_0
      refine w_iload_n gz_37_185 rfl ?_
      refine w_icge (t := 247) gz_37_186 rfl (fun u2 => ?_) (fun u2 => ?_)
      ·
        refine w_iload_n gz_37_247 rfl ?_
        refine w_aload_n gz_37_248 rfl ?_
        refine v_getI (j := 7) gz_37_249 rfl is_82 rd_5 rfl (fun v3 ev3 pv3 qv3 => ?_)
        have zv3 := ev3.trans c82_7_181_0
        refine w_isub gz_37_252 ⟨by omega, by omega⟩ ?_
        refine w_iload_n gz_37_253 rfl ?_
        refine w_icle (t := 262) gz_37_254 rfl (fun u4 => ?_) (fun u4 => ?_)
        ·
          have c5 := c82_6_181_0
          have c6 := c82_9_181_0
          exact w_vret gz_37_262 gm_37 (k0 h181_0 (gh_181_0) (by omega) (by omega) (by omega) (by omega))
        ·
          refine w_aload_n gz_37_257 rfl ?_
          refine w_iconst gz_37_258 (by decide) ?_
          refine v_putI (j := 6) gz_37_259 rfl is_82 rd_5 rfl (by omega) (by omega) rfl (fun h7 fh7 => ?_)
          have gh7 : my_fr [(5, 5), (5, 6), (5, 7), (5, 8)] h h7 := my_fr.up gh_181_0 is_82 fh7 rfl
          have c8 := (my_up_self fh7)
          have c9 := ((my_up_fld fh7 (by decide)).trans c82_9_181_0)
          exact w_vret gz_37_262 gm_37 (k0 h7 (gh7) (by omega) (by omega) (by omega) (by omega))
      ·
        refine w_aload_n gz_37_189 rfl ?_
        refine v_getI (j := 6) gz_37_190 rfl is_82 rd_5 rfl (fun v10 ev10 pv10 qv10 => ?_)
        have zv10 := ev10.trans c82_6_181_0
        refine w_iconst gz_37_193 (by decide) ?_
        refine w_icne (t := 234) gz_37_194 rfl (fun u11 => ?_) (fun u11 => ?_)
        ·
          refine w_aload_n gz_37_234 rfl ?_
          refine w_dup gz_37_235 rfl ?_
          refine v_getI (j := 5) gz_37_236 rfl is_82 rd_5 rfl (fun v12 ev12 pv12 qv12 => ?_)
          have zv12 := ev12.trans ev1.symm
          refine w_iconst gz_37_239 (by decide) ?_
          refine w_iadd gz_37_240 ⟨by omega, by omega⟩ ?_
          refine v_putI (j := 5) gz_37_241 rfl is_82 rd_5 rfl (by omega) (by omega) rfl (fun h13 fh13 => ?_)
          have gh13 : my_fr [(5, 5), (5, 6), (5, 7), (5, 8)] h h13 := my_fr.up gh_181_0 is_82 fh13 rfl
          refine w_goto (t := 181) gz_37_244 rfl ?_
          have ce14 : h13 82 5 = (v12 + 1) := (my_up_self fh13)
          have ce15 : h13 82 6 = v10 := ((my_up_fld fh13 (by decide)).trans ev10.symm)
          have ce16 : h13 82 7 = p181_4 := ((my_up_fld fh13 (by decide)).trans c82_7_181_0)
          have ce17 : h13 82 8 = p181_5 := ((my_up_fld fh13 (by decide)).trans c82_8_181_0)
          have sg : ∀ j : Int, h13 92 j = h181_0 92 j := fun j => ((my_up_role fh13 is_92 is_82 rfl).trans (rfl : h181_0 92 j = h181_0 92 j))
          exact ih_181_0 (p181_0) (p181_1) ((v12 + 1)) (v10) (p181_4) (p181_5) (p181_6) h13 (gh13) (by omega) (by omega) (by omega) (by omega) (by omega) (by omega) (by omega) (by omega) (by omega) (by omega) (by omega) (by omega) (by omega) (by omega) (by omega) (by omega) (by omega) (by omega) (by omega) (by omega) (by omega) (by omega) (((my_up_fld fh13 (by decide)).trans c82_4_181_0).trans (by omega)) ((my_up_self fh13).trans (by omega)) (((my_up_fld fh13 (by decide)).trans ev10.symm).trans (by omega)) (((my_up_fld fh13 (by decide)).trans c82_7_181_0).trans (by omega)) (((my_up_fld fh13 (by decide)).trans c82_8_181_0).trans (by omega)) (((my_up_fld fh13 (by decide)).trans c82_9_181_0).trans (by omega)) (by omega) (by first | (intro t k a b; rw [sg]; exact dg_181_0 (by omega) k (by omega) (by omega)) | (intro t k a b; rw [sg]; exact dg_138_0 (by omega) k (by omega) (by omega)) | (intro t k a b; rw [sg, ← sg0, sgi k (by omega)]; omega) | (intro t; omega) | (intro t k a b; rw [sg]; rcases (by omega : k = p181_1 ∨ k < p181_1) with q | q <;> first | exact dg_138_0 (by omega) k (by omega) (by omega) | (subst q; omega))) (by first | assumption | omega | (subst_vars; omega)) (by first | assumption | omega | (subst_vars; omega)) (by omega)
        ·
          refine w_aload_n gz_37_197 rfl ?_
          refine v_getI (j := 5) gz_37_198 rfl is_82 rd_5 rfl (fun v18 ev18 pv18 qv18 => ?_)
          have zv18 := ev18.trans ev1.symm
          refine w_aload_n gz_37_201 rfl ?_
          refine v_getI (j := 7) gz_37_202 rfl is_82 rd_5 rfl (fun v19 ev19 pv19 qv19 => ?_)
          have zv19 := ev19.trans c82_7_181_0
          refine w_isub gz_37_205 ⟨by omega, by omega⟩ ?_
          refine w_iload_n gz_37_206 rfl ?_
          refine w_icge (t := 234) gz_37_207 rfl (fun u20 => ?_) (fun u20 => ?_)
          ·
            refine w_aload_n gz_37_234 rfl ?_
            refine w_dup gz_37_235 rfl ?_
            refine v_getI (j := 5) gz_37_236 rfl is_82 rd_5 rfl (fun v21 ev21 pv21 qv21 => ?_)
            have zv21 := ev21.trans ev18.symm
            refine w_iconst gz_37_239 (by decide) ?_
            refine w_iadd gz_37_240 ⟨by omega, by omega⟩ ?_
            refine v_putI (j := 5) gz_37_241 rfl is_82 rd_5 rfl (by omega) (by omega) rfl (fun h22 fh22 => ?_)
            have gh22 : my_fr [(5, 5), (5, 6), (5, 7), (5, 8)] h h22 := my_fr.up gh_181_0 is_82 fh22 rfl
            refine w_goto (t := 181) gz_37_244 rfl ?_
            have ce23 : h22 82 5 = (v21 + 1) := (my_up_self fh22)
            have ce24 : h22 82 6 = v10 := ((my_up_fld fh22 (by decide)).trans ev10.symm)
            have ce25 : h22 82 7 = v19 := ((my_up_fld fh22 (by decide)).trans ev19.symm)
            have ce26 : h22 82 8 = p181_5 := ((my_up_fld fh22 (by decide)).trans c82_8_181_0)
            have sg : ∀ j : Int, h22 92 j = h181_0 92 j := fun j => ((my_up_role fh22 is_92 is_82 rfl).trans (rfl : h181_0 92 j = h181_0 92 j))
            exact ih_181_0 (p181_0) (p181_1) ((v21 + 1)) (v10) (v19) (p181_5) (p181_6) h22 (gh22) (by omega) (by omega) (by omega) (by omega) (by omega) (by omega) (by omega) (by omega) (by omega) (by omega) (by omega) (by omega) (by omega) (by omega) (by omega) (by omega) (by omega) (by omega) (by omega) (by omega) (by omega) (by omega) (((my_up_fld fh22 (by decide)).trans c82_4_181_0).trans (by omega)) ((my_up_self fh22).trans (by omega)) (((my_up_fld fh22 (by decide)).trans ev10.symm).trans (by omega)) (((my_up_fld fh22 (by decide)).trans ev19.symm).trans (by omega)) (((my_up_fld fh22 (by decide)).trans c82_8_181_0).trans (by omega)) (((my_up_fld fh22 (by decide)).trans c82_9_181_0).trans (by omega)) (by omega) (by first | (intro t k a b; rw [sg]; exact dg_181_0 (by omega) k (by omega) (by omega)) | (intro t k a b; rw [sg]; exact dg_138_0 (by omega) k (by omega) (by omega)) | (intro t k a b; rw [sg, ← sg0, sgi k (by omega)]; omega) | (intro t; omega) | (intro t k a b; rw [sg]; rcases (by omega : k = p181_1 ∨ k < p181_1) with q | q <;> first | exact dg_138_0 (by omega) k (by omega) (by omega) | (subst q; omega))) (by first | assumption | omega | (subst_vars; omega)) (by first | assumption | omega | (subst_vars; omega)) (by omega)
          ·
            refine w_aload_n gz_37_210 rfl ?_
            refine w_bipush gz_37_211 (by decide) ?_
            refine w_aload_n gz_37_213 rfl ?_
            refine v_getI (j := 8) gz_37_214 rfl is_82 rd_5 rfl (fun v27 ev27 pv27 qv27 => ?_)
            have zv27 := ev27.trans c82_8_181_0
            refine w_imul gz_37_217 ⟨by omega, by omega⟩ ?_
            refine w_aload_n gz_37_218 rfl ?_
            refine w_getX (v := 92) gz_37_219 is_82 rd_5 rfl (by decide) rfl ?_
            refine w_aload_n gz_37_222 rfl ?_
            refine v_getI (j := 5) gz_37_223 rfl is_82 rd_5 rfl (fun v29 ev29 pv29 qv29 => ?_)
            have zv29 := ev29.trans ev18.symm
            have dd := dg_181_0 (by omega) v29 (by omega) (by omega)
            refine w_yald gz_37_226 is_92 rd_40 (by omega) (by omega) (fun v30 ev30 pv30 qv30 => ?_)
            refine w_iadd gz_37_227 ⟨by omega, by omega⟩ ?_
            refine w_bipush gz_37_228 (by decide) ?_
            refine w_isub gz_37_230 ⟨by omega, by omega⟩ ?_
            have hi31 : 0 ≤ (((10 * v27) + v30) - 48) := by omega
            have hi32 : (((10 * v27) + v30) - 48) ≤ 999 := by omega
            refine v_putI (j := 8) gz_37_231 rfl is_82 rd_5 rfl (by omega) (by omega) rfl (fun h33 fh33 => ?_)
            have gh33 : my_fr [(5, 5), (5, 6), (5, 7), (5, 8)] h h33 := my_fr.up gh_181_0 is_82 fh33 rfl
            refine w_aload_n gz_37_234 rfl ?_
            refine w_dup gz_37_235 rfl ?_
            refine v_getI (j := 5) gz_37_236 rfl is_82 rd_5 rfl (fun v34 ev34 pv34 qv34 => ?_)
            have zv34 := ev34.trans ((my_up_fld fh33 (by decide)).trans ev29.symm)
            refine w_iconst gz_37_239 (by decide) ?_
            refine w_iadd gz_37_240 ⟨by omega, by omega⟩ ?_
            refine v_putI (j := 5) gz_37_241 rfl is_82 rd_5 rfl (by omega) (by omega) rfl (fun h35 fh35 => ?_)
            have gh35 : my_fr [(5, 5), (5, 6), (5, 7), (5, 8)] h h35 := my_fr.up gh33 is_82 fh35 rfl
            refine w_goto (t := 181) gz_37_244 rfl ?_
            have ce36 : h35 82 5 = (v34 + 1) := (my_up_self fh35)
            have ce37 : h35 82 6 = v10 := ((my_up_fld fh35 (by decide)).trans ((my_up_fld fh33 (by decide)).trans ev10.symm))
            have ce38 : h35 82 7 = v19 := ((my_up_fld fh35 (by decide)).trans ((my_up_fld fh33 (by decide)).trans ev19.symm))
            have ce39 : h35 82 8 = (((10 * v27) + v30) - 48) := ((my_up_fld fh35 (by decide)).trans (my_up_self fh33))
            have sg : ∀ j : Int, h35 92 j = h181_0 92 j := fun j => ((my_up_role fh35 is_92 is_82 rfl).trans ((my_up_role fh33 is_92 is_82 rfl).trans (rfl : h181_0 92 j = h181_0 92 j)))
            exact ih_181_0 (p181_0) (p181_1) ((v34 + 1)) (v10) (v19) ((((10 * v27) + v30) - 48)) (p181_6) h35 (gh35) (by omega) (by omega) (by omega) (by omega) (by omega) (by omega) (by omega) (by omega) (by omega) (by omega) (by omega) (by omega) (by omega) (by omega) (by omega) (by omega) (by omega) (by omega) (by omega) (by omega) (by omega) (by omega) (((my_up_fld fh35 (by decide)).trans ((my_up_fld fh33 (by decide)).trans c82_4_181_0)).trans (by omega)) ((my_up_self fh35).trans (by omega)) (((my_up_fld fh35 (by decide)).trans ((my_up_fld fh33 (by decide)).trans ev10.symm)).trans (by omega)) (((my_up_fld fh35 (by decide)).trans ((my_up_fld fh33 (by decide)).trans ev19.symm)).trans (by omega)) (((my_up_fld fh35 (by decide)).trans (my_up_self fh33)).trans (by omega)) (((my_up_fld fh35 (by decide)).trans ((my_up_fld fh33 (by decide)).trans c82_9_181_0)).trans (by omega)) (by omega) (by first | (intro t k a b; rw [sg]; exact dg_181_0 (by omega) k (by omega) (by omega)) | (intro t k a b; rw [sg]; exact dg_138_0 (by omega) k (by omega) (by omega)) | (intro t k a b; rw [sg, ← sg0, sgi k (by omega)]; omega) | (intro t; omega) | (intro t k a b; rw [sg]; rcases (by omega : k = p181_1 ∨ k < p181_1) with q | q <;> first | exact dg_138_0 (by omega) k (by omega) (by omega) | (subst q; omega))) (by first | assumption | omega | (subst_vars; omega)) (by first | assumption | omega | (subst_vars; omega)) (by omega)
  have J138_0 : ∀ (n : Nat) (p138_0 p138_1 p138_2 p138_3 p138_4 : Int) (h138_0 : my_H), my_fr [(5, 5), (5, 6), (5, 7), (5, 8)] h h138_0 → 1 ≤ p138_0 → p138_0 ≤ 8 → 1 ≤ p138_1 → p138_1 ≤ 1000 → 1 ≤ p138_4 → p138_4 ≤ 16005 → 1 ≤ k82_4 → 0 ≤ p138_2 → p138_2 ≤ 999 → 1 ≤ p138_3 → p138_3 ≤ 4 → k82_5 ≤ 999 → p138_1 ≤ k82_4 → p138_2 ≤ (p138_1 - 1) → p138_2 ≤ (k82_4 - 1) → k82_5 ≤ (p138_1 - 1) → k82_5 ≤ p138_2 → k82_5 ≤ (k82_4 - 1) → h138_0 82 4 = k82_4 → h138_0 82 5 = p138_2 → h138_0 82 6 = p138_3 → h138_0 82 7 = p138_2 → h138_0 82 8 = 0 → h138_0 82 9 = p138_4 → (h138_0 82 6 = 2 → p138_0 = 3) → (h138_0 82 6 = 2 → ∀ k : Int, h138_0 82 7 ≤ k → k < p138_1 → 48 ≤ h138_0 92 k ∧ h138_0 92 k ≤ 57) → h138_0 82 7 + 1 ≤ p138_1 → h138_0 82 8 = 0 → p138_1 ≤ 1000 → 1001 - p138_1 ≤ (n : Int) → wp l rho (d + 1) 37 138 [(2, 82), (0, p138_0), (0, p138_1)] [] h138_0 Q := by
    intro n
    induction n with
    | zero => intro p138_0 p138_1 p138_2 p138_3 p138_4 h138_0 gh_138_0 q0_138_0 q1_138_0 q2_138_0 q3_138_0 q4_138_0 q5_138_0 q6_138_0 q7_138_0 q8_138_0 q9_138_0 q10_138_0 q11_138_0 q12_138_0 q13_138_0 q14_138_0 q15_138_0 q16_138_0 q17_138_0 c82_4_138_0 c82_5_138_0 c82_6_138_0 c82_7_138_0 c82_8_138_0 c82_9_138_0 tk_138_0 dg_138_0 sn_138_0 n0_138_0 lm_138_0 hm_138_0; exfalso; omega
    | succ n ih_138_0 =>
      intro p138_0 p138_1 p138_2 p138_3 p138_4 h138_0 gh_138_0 q0_138_0 q1_138_0 q2_138_0 q3_138_0 q4_138_0 q5_138_0 q6_138_0 q7_138_0 q8_138_0 q9_138_0 q10_138_0 q11_138_0 q12_138_0 q13_138_0 q14_138_0 q15_138_0 q16_138_0 q17_138_0 c82_4_138_0 c82_5_138_0 c82_6_138_0 c82_7_138_0 c82_8_138_0 c82_9_138_0 tk_138_0 dg_138_0 sn_138_0 n0_138_0 lm_138_0 hm_138_0
      refine w_iload_n gz_37_138 rfl ?_
      refine w_aload_n gz_37_139 rfl ?_
      refine v_getI (j := 4) gz_37_140 rfl is_82 rd_5 rfl (fun v40 ev40 pv40 qv40 => ?_)
      have zv40 := ev40.trans c82_4_138_0
      refine w_icge (t := 173) gz_37_143 rfl (fun u41 => ?_) (fun u41 => ?_)
      ·
        refine w_aload_n gz_37_173 rfl ?_
        refine w_aload_n gz_37_174 rfl ?_
        refine v_getI (j := 7) gz_37_175 rfl is_82 rd_5 rfl (fun v42 ev42 pv42 qv42 => ?_)
        have zv42 := ev42.trans c82_7_138_0
        refine v_putI (j := 5) gz_37_178 rfl is_82 rd_5 rfl (by omega) (by omega) rfl (fun h43 fh43 => ?_)
        have gh43 : my_fr [(5, 5), (5, 6), (5, 7), (5, 8)] h h43 := my_fr.up gh_138_0 is_82 fh43 rfl
        have ce44 : h43 82 5 = v42 := (my_up_self fh43)
        have ce45 : h43 82 6 = p138_3 := ((my_up_fld fh43 (by decide)).trans c82_6_138_0)
        have ce46 : h43 82 7 = v42 := ((my_up_fld fh43 (by decide)).trans ev42.symm)
        have ce47 : h43 82 8 = 0 := ((my_up_fld fh43 (by decide)).trans c82_8_138_0)
        have sg : ∀ j : Int, h43 92 j = h138_0 92 j := fun j => ((my_up_role fh43 is_92 is_82 rfl).trans (rfl : h138_0 92 j = h138_0 92 j))
        exact J181_0 (1001) (p138_0) (p138_1) (v42) (p138_3) (v42) (0) (p138_4) h43 (gh43) (by omega) (by omega) (by omega) (by omega) (by omega) (by omega) (by omega) (by omega) (by omega) (by omega) (by omega) (by omega) (by omega) (by omega) (by omega) (by omega) (by omega) (by omega) (by omega) (by omega) (by omega) (by omega) (((my_up_fld fh43 (by decide)).trans ev40.symm).trans (by omega)) ((my_up_self fh43).trans (by omega)) (((my_up_fld fh43 (by decide)).trans c82_6_138_0).trans (by omega)) (((my_up_fld fh43 (by decide)).trans ev42.symm).trans (by omega)) (((my_up_fld fh43 (by decide)).trans c82_8_138_0).trans (by omega)) (((my_up_fld fh43 (by decide)).trans c82_9_138_0).trans (by omega)) (by omega) (by first | (intro t k a b; rw [sg]; exact dg_181_0 (by omega) k (by omega) (by omega)) | (intro t k a b; rw [sg]; exact dg_138_0 (by omega) k (by omega) (by omega)) | (intro t k a b; rw [sg, ← sg0, sgi k (by omega)]; omega) | (intro t; omega) | (intro t k a b; rw [sg]; rcases (by omega : k = p181_1 ∨ k < p181_1) with q | q <;> first | exact dg_138_0 (by omega) k (by omega) (by omega) | (subst q; omega))) (by first | assumption | omega | (subst_vars; omega)) (by first | assumption | omega | (subst_vars; omega)) (by omega)
      ·
        refine w_iload_n gz_37_146 rfl ?_
        refine w_iconst gz_37_147 (by decide) ?_
        refine w_icle (t := 173) gz_37_148 rfl (fun u48 => ?_) (fun u48 => ?_)
        ·
          refine w_aload_n gz_37_173 rfl ?_
          refine w_aload_n gz_37_174 rfl ?_
          refine v_getI (j := 7) gz_37_175 rfl is_82 rd_5 rfl (fun v49 ev49 pv49 qv49 => ?_)
          have zv49 := ev49.trans c82_7_138_0
          refine v_putI (j := 5) gz_37_178 rfl is_82 rd_5 rfl (by omega) (by omega) rfl (fun h50 fh50 => ?_)
          have gh50 : my_fr [(5, 5), (5, 6), (5, 7), (5, 8)] h h50 := my_fr.up gh_138_0 is_82 fh50 rfl
          have ce51 : h50 82 5 = v49 := (my_up_self fh50)
          have ce52 : h50 82 6 = p138_3 := ((my_up_fld fh50 (by decide)).trans c82_6_138_0)
          have ce53 : h50 82 7 = v49 := ((my_up_fld fh50 (by decide)).trans ev49.symm)
          have ce54 : h50 82 8 = 0 := ((my_up_fld fh50 (by decide)).trans c82_8_138_0)
          have sg : ∀ j : Int, h50 92 j = h138_0 92 j := fun j => ((my_up_role fh50 is_92 is_82 rfl).trans (rfl : h138_0 92 j = h138_0 92 j))
          exact J181_0 (1001) (p138_0) (p138_1) (v49) (p138_3) (v49) (0) (p138_4) h50 (gh50) (by omega) (by omega) (by omega) (by omega) (by omega) (by omega) (by omega) (by omega) (by omega) (by omega) (by omega) (by omega) (by omega) (by omega) (by omega) (by omega) (by omega) (by omega) (by omega) (by omega) (by omega) (by omega) (((my_up_fld fh50 (by decide)).trans ev40.symm).trans (by omega)) ((my_up_self fh50).trans (by omega)) (((my_up_fld fh50 (by decide)).trans c82_6_138_0).trans (by omega)) (((my_up_fld fh50 (by decide)).trans ev49.symm).trans (by omega)) (((my_up_fld fh50 (by decide)).trans c82_8_138_0).trans (by omega)) (((my_up_fld fh50 (by decide)).trans c82_9_138_0).trans (by omega)) (by omega) (by first | (intro t k a b; rw [sg]; exact dg_181_0 (by omega) k (by omega) (by omega)) | (intro t k a b; rw [sg]; exact dg_138_0 (by omega) k (by omega) (by omega)) | (intro t k a b; rw [sg, ← sg0, sgi k (by omega)]; omega) | (intro t; omega) | (intro t k a b; rw [sg]; rcases (by omega : k = p181_1 ∨ k < p181_1) with q | q <;> first | exact dg_138_0 (by omega) k (by omega) (by omega) | (subst q; omega))) (by first | assumption | omega | (subst_vars; omega)) (by first | assumption | omega | (subst_vars; omega)) (by omega)
        ·
          refine w_aload_n gz_37_151 rfl ?_
          refine w_getX (v := 92) gz_37_152 is_82 rd_5 rfl (by decide) rfl ?_
          refine w_iload_n gz_37_155 rfl ?_
          refine w_yald gz_37_156 is_92 rd_40 (by omega) (by omega) (fun v56 ev56 pv56 qv56 => ?_)
          refine w_inS (k := 0) (as := [(0, v56)]) (r := []) (ls0 := [(0, v56)]) gz_37_157 gm_38 rfl rfl rfl rfl rfl rfl ?_
          refine w_iload_n gz_38_0 rfl ?_
          refine w_bipush gz_38_1 (by decide) ?_
          refine w_iclt (t := 14) gz_38_3 rfl (fun u57 => ?_) (fun u57 => ?_)
          ·
            refine w_iload_n gz_38_14 rfl ?_
            refine w_bipush gz_38_15 (by decide) ?_
            refine w_iclt (t := 28) gz_38_17 rfl (fun u58 => ?_) (fun u58 => ?_)
            ·
              refine w_iload_n gz_38_28 rfl ?_
              refine w_bipush gz_38_29 (by decide) ?_
              refine w_icne (t := 38) gz_38_31 rfl (fun u59 => ?_) (fun u59 => by exfalso; omega)
              refine w_iconst gz_38_38 (by decide) ?_
              refine w_iret gz_38_39 gm_38 ?_
              show wp l rho (d + 1) 37 160 [(2, 82), (0, p138_0), (0, p138_1)] [(0, 4)] h138_0 Q
              refine w_aload_n gz_37_160 rfl ?_
              refine v_getI (j := 6) gz_37_161 rfl is_82 rd_5 rfl (fun v60 ev60 pv60 qv60 => ?_)
              have zv60 := ev60.trans c82_6_138_0
              refine w_icne (t := 173) gz_37_164 rfl (fun u61 => ?_) (fun u61 => ?_)
              ·
                refine w_aload_n gz_37_173 rfl ?_
                refine w_aload_n gz_37_174 rfl ?_
                refine v_getI (j := 7) gz_37_175 rfl is_82 rd_5 rfl (fun v62 ev62 pv62 qv62 => ?_)
                have zv62 := ev62.trans c82_7_138_0
                refine v_putI (j := 5) gz_37_178 rfl is_82 rd_5 rfl (by omega) (by omega) rfl (fun h63 fh63 => ?_)
                have gh63 : my_fr [(5, 5), (5, 6), (5, 7), (5, 8)] h h63 := my_fr.up gh_138_0 is_82 fh63 rfl
                have ce64 : h63 82 5 = v62 := (my_up_self fh63)
                have ce65 : h63 82 6 = v60 := ((my_up_fld fh63 (by decide)).trans ev60.symm)
                have ce66 : h63 82 7 = v62 := ((my_up_fld fh63 (by decide)).trans ev62.symm)
                have ce67 : h63 82 8 = 0 := ((my_up_fld fh63 (by decide)).trans c82_8_138_0)
                have sg : ∀ j : Int, h63 92 j = h138_0 92 j := fun j => ((my_up_role fh63 is_92 is_82 rfl).trans (rfl : h138_0 92 j = h138_0 92 j))
                exact J181_0 (1001) (p138_0) (p138_1) (v62) (v60) (v62) (0) (p138_4) h63 (gh63) (by omega) (by omega) (by omega) (by omega) (by omega) (by omega) (by omega) (by omega) (by omega) (by omega) (by omega) (by omega) (by omega) (by omega) (by omega) (by omega) (by omega) (by omega) (by omega) (by omega) (by omega) (by omega) (((my_up_fld fh63 (by decide)).trans ev40.symm).trans (by omega)) ((my_up_self fh63).trans (by omega)) (((my_up_fld fh63 (by decide)).trans ev60.symm).trans (by omega)) (((my_up_fld fh63 (by decide)).trans ev62.symm).trans (by omega)) (((my_up_fld fh63 (by decide)).trans c82_8_138_0).trans (by omega)) (((my_up_fld fh63 (by decide)).trans c82_9_138_0).trans (by omega)) (by omega) (by first | (intro t k a b; rw [sg]; exact dg_181_0 (by omega) k (by omega) (by omega)) | (intro t k a b; rw [sg]; exact dg_138_0 (by omega) k (by omega) (by omega)) | (intro t k a b; rw [sg, ← sg0, sgi k (by omega)]; omega) | (intro t; omega) | (intro t k a b; rw [sg]; rcases (by omega : k = p181_1 ∨ k < p181_1) with q | q <;> first | exact dg_138_0 (by omega) k (by omega) (by omega) | (subst q; omega))) (by first | assumption | omega | (subst_vars; omega)) (by first | assumption | omega | (subst_vars; omega)) (by omega)
              ·
                refine w_iinc (ls' := [(2, 82), (0, p138_0), (0, (p138_1 + 1))]) gz_37_167 rfl gm_37 rfl rfl rfl ⟨by omega, by omega⟩ ?_
                refine w_goto (t := 138) gz_37_170 rfl ?_
                have ce68 : h138_0 82 5 = p138_2 := c82_5_138_0
                have ce69 : h138_0 82 6 = v60 := ev60.symm
                have ce70 : h138_0 82 7 = p138_2 := c82_7_138_0
                have ce71 : h138_0 82 8 = 0 := c82_8_138_0
                have sg : ∀ j : Int, h138_0 92 j = h138_0 92 j := fun _ => rfl
                exact ih_138_0 (p138_0) ((p138_1 + 1)) (p138_2) (v60) (p138_4) h138_0 (gh_138_0) (by omega) (by omega) (by omega) (by omega) (by omega) (by omega) (by omega) (by omega) (by omega) (by omega) (by omega) (by omega) (by omega) (by omega) (by omega) (by omega) (by omega) (by omega) (ev40.symm.trans (by omega)) (c82_5_138_0.trans (by omega)) (ev60.symm.trans (by omega)) (c82_7_138_0.trans (by omega)) (c82_8_138_0.trans (by omega)) (c82_9_138_0.trans (by omega)) (by omega) (by first | (intro t k a b; rw [sg]; exact dg_181_0 (by omega) k (by omega) (by omega)) | (intro t k a b; rw [sg]; exact dg_138_0 (by omega) k (by omega) (by omega)) | (intro t k a b; rw [sg, ← sg0, sgi k (by omega)]; omega) | (intro t; omega) | (intro t k a b; rw [sg]; rcases (by omega : k = p138_1 ∨ k < p138_1) with q | q <;> first | exact dg_138_0 (by omega) k (by omega) (by omega) | (subst q; omega))) (by first | assumption | omega | (subst_vars; omega)) (by first | assumption | omega | (subst_vars; omega)) (by first | assumption | omega | (subst_vars; omega)) (by omega)
            ·
              refine w_iload_n gz_38_20 rfl ?_
              refine w_bipush gz_38_21 (by decide) ?_
              refine w_icgt (t := 28) gz_38_23 rfl (fun u72 => ?_) (fun u72 => ?_)
              ·
                refine w_iload_n gz_38_28 rfl ?_
                refine w_bipush gz_38_29 (by decide) ?_
                refine w_icne (t := 38) gz_38_31 rfl (fun u73 => ?_) (fun u73 => ?_)
                ·
                  refine w_iconst gz_38_38 (by decide) ?_
                  refine w_iret gz_38_39 gm_38 ?_
                  show wp l rho (d + 1) 37 160 [(2, 82), (0, p138_0), (0, p138_1)] [(0, 4)] h138_0 Q
                  refine w_aload_n gz_37_160 rfl ?_
                  refine v_getI (j := 6) gz_37_161 rfl is_82 rd_5 rfl (fun v74 ev74 pv74 qv74 => ?_)
                  have zv74 := ev74.trans c82_6_138_0
                  refine w_icne (t := 173) gz_37_164 rfl (fun u75 => ?_) (fun u75 => ?_)
                  ·
                    refine w_aload_n gz_37_173 rfl ?_
                    refine w_aload_n gz_37_174 rfl ?_
                    refine v_getI (j := 7) gz_37_175 rfl is_82 rd_5 rfl (fun v76 ev76 pv76 qv76 => ?_)
                    have zv76 := ev76.trans c82_7_138_0
                    refine v_putI (j := 5) gz_37_178 rfl is_82 rd_5 rfl (by omega) (by omega) rfl (fun h77 fh77 => ?_)
                    have gh77 : my_fr [(5, 5), (5, 6), (5, 7), (5, 8)] h h77 := my_fr.up gh_138_0 is_82 fh77 rfl
                    have ce78 : h77 82 5 = v76 := (my_up_self fh77)
                    have ce79 : h77 82 6 = v74 := ((my_up_fld fh77 (by decide)).trans ev74.symm)
                    have ce80 : h77 82 7 = v76 := ((my_up_fld fh77 (by decide)).trans ev76.symm)
                    have ce81 : h77 82 8 = 0 := ((my_up_fld fh77 (by decide)).trans c82_8_138_0)
                    have sg : ∀ j : Int, h77 92 j = h138_0 92 j := fun j => ((my_up_role fh77 is_92 is_82 rfl).trans (rfl : h138_0 92 j = h138_0 92 j))
                    exact J181_0 (1001) (p138_0) (p138_1) (v76) (v74) (v76) (0) (p138_4) h77 (gh77) (by omega) (by omega) (by omega) (by omega) (by omega) (by omega) (by omega) (by omega) (by omega) (by omega) (by omega) (by omega) (by omega) (by omega) (by omega) (by omega) (by omega) (by omega) (by omega) (by omega) (by omega) (by omega) (((my_up_fld fh77 (by decide)).trans ev40.symm).trans (by omega)) ((my_up_self fh77).trans (by omega)) (((my_up_fld fh77 (by decide)).trans ev74.symm).trans (by omega)) (((my_up_fld fh77 (by decide)).trans ev76.symm).trans (by omega)) (((my_up_fld fh77 (by decide)).trans c82_8_138_0).trans (by omega)) (((my_up_fld fh77 (by decide)).trans c82_9_138_0).trans (by omega)) (by omega) (by first | (intro t k a b; rw [sg]; exact dg_181_0 (by omega) k (by omega) (by omega)) | (intro t k a b; rw [sg]; exact dg_138_0 (by omega) k (by omega) (by omega)) | (intro t k a b; rw [sg, ← sg0, sgi k (by omega)]; omega) | (intro t; omega) | (intro t k a b; rw [sg]; rcases (by omega : k = p181_1 ∨ k < p181_1) with q | q <;> first | exact dg_138_0 (by omega) k (by omega) (by omega) | (subst q; omega))) (by first | assumption | omega | (subst_vars; omega)) (by first | assumption | omega | (subst_vars; omega)) (by omega)
                  ·
                    refine w_iinc (ls' := [(2, 82), (0, p138_0), (0, (p138_1 + 1))]) gz_37_167 rfl gm_37 rfl rfl rfl ⟨by omega, by omega⟩ ?_
                    refine w_goto (t := 138) gz_37_170 rfl ?_
                    have ce82 : h138_0 82 5 = p138_2 := c82_5_138_0
                    have ce83 : h138_0 82 6 = v74 := ev74.symm
                    have ce84 : h138_0 82 7 = p138_2 := c82_7_138_0
                    have ce85 : h138_0 82 8 = 0 := c82_8_138_0
                    have sg : ∀ j : Int, h138_0 92 j = h138_0 92 j := fun _ => rfl
                    exact ih_138_0 (p138_0) ((p138_1 + 1)) (p138_2) (v74) (p138_4) h138_0 (gh_138_0) (by omega) (by omega) (by omega) (by omega) (by omega) (by omega) (by omega) (by omega) (by omega) (by omega) (by omega) (by omega) (by omega) (by omega) (by omega) (by omega) (by omega) (by omega) (ev40.symm.trans (by omega)) (c82_5_138_0.trans (by omega)) (ev74.symm.trans (by omega)) (c82_7_138_0.trans (by omega)) (c82_8_138_0.trans (by omega)) (c82_9_138_0.trans (by omega)) (by omega) (by first | (intro t k a b; rw [sg]; exact dg_181_0 (by omega) k (by omega) (by omega)) | (intro t k a b; rw [sg]; exact dg_138_0 (by omega) k (by omega) (by omega)) | (intro t k a b; rw [sg, ← sg0, sgi k (by omega)]; omega) | (intro t; omega) | (intro t k a b; rw [sg]; rcases (by omega : k = p138_1 ∨ k < p138_1) with q | q <;> first | exact dg_138_0 (by omega) k (by omega) (by omega) | (subst q; omega))) (by first | assumption | omega | (subst_vars; omega)) (by first | assumption | omega | (subst_vars; omega)) (by first | assumption | omega | (subst_vars; omega)) (by omega)
                ·
                  refine w_iconst gz_38_34 (by decide) ?_
                  refine w_goto (t := 39) gz_38_35 rfl ?_
                  refine w_iret gz_38_39 gm_38 ?_
                  show wp l rho (d + 1) 37 160 [(2, 82), (0, p138_0), (0, p138_1)] [(0, 3)] h138_0 Q
                  refine w_aload_n gz_37_160 rfl ?_
                  refine v_getI (j := 6) gz_37_161 rfl is_82 rd_5 rfl (fun v86 ev86 pv86 qv86 => ?_)
                  have zv86 := ev86.trans c82_6_138_0
                  refine w_icne (t := 173) gz_37_164 rfl (fun u87 => ?_) (fun u87 => ?_)
                  ·
                    refine w_aload_n gz_37_173 rfl ?_
                    refine w_aload_n gz_37_174 rfl ?_
                    refine v_getI (j := 7) gz_37_175 rfl is_82 rd_5 rfl (fun v88 ev88 pv88 qv88 => ?_)
                    have zv88 := ev88.trans c82_7_138_0
                    refine v_putI (j := 5) gz_37_178 rfl is_82 rd_5 rfl (by omega) (by omega) rfl (fun h89 fh89 => ?_)
                    have gh89 : my_fr [(5, 5), (5, 6), (5, 7), (5, 8)] h h89 := my_fr.up gh_138_0 is_82 fh89 rfl
                    have ce90 : h89 82 5 = v88 := (my_up_self fh89)
                    have ce91 : h89 82 6 = v86 := ((my_up_fld fh89 (by decide)).trans ev86.symm)
                    have ce92 : h89 82 7 = v88 := ((my_up_fld fh89 (by decide)).trans ev88.symm)
                    have ce93 : h89 82 8 = 0 := ((my_up_fld fh89 (by decide)).trans c82_8_138_0)
                    have sg : ∀ j : Int, h89 92 j = h138_0 92 j := fun j => ((my_up_role fh89 is_92 is_82 rfl).trans (rfl : h138_0 92 j = h138_0 92 j))
                    exact J181_0 (1001) (p138_0) (p138_1) (v88) (v86) (v88) (0) (p138_4) h89 (gh89) (by omega) (by omega) (by omega) (by omega) (by omega) (by omega) (by omega) (by omega) (by omega) (by omega) (by omega) (by omega) (by omega) (by omega) (by omega) (by omega) (by omega) (by omega) (by omega) (by omega) (by omega) (by omega) (((my_up_fld fh89 (by decide)).trans ev40.symm).trans (by omega)) ((my_up_self fh89).trans (by omega)) (((my_up_fld fh89 (by decide)).trans ev86.symm).trans (by omega)) (((my_up_fld fh89 (by decide)).trans ev88.symm).trans (by omega)) (((my_up_fld fh89 (by decide)).trans c82_8_138_0).trans (by omega)) (((my_up_fld fh89 (by decide)).trans c82_9_138_0).trans (by omega)) (by omega) (by first | (intro t k a b; rw [sg]; exact dg_181_0 (by omega) k (by omega) (by omega)) | (intro t k a b; rw [sg]; exact dg_138_0 (by omega) k (by omega) (by omega)) | (intro t k a b; rw [sg, ← sg0, sgi k (by omega)]; omega) | (intro t; omega) | (intro t k a b; rw [sg]; rcases (by omega : k = p181_1 ∨ k < p181_1) with q | q <;> first | exact dg_138_0 (by omega) k (by omega) (by omega) | (subst q; omega))) (by first | assumption | omega | (subst_vars; omega)) (by first | assumption | omega | (subst_vars; omega)) (by omega)
                  ·
                    refine w_iinc (ls' := [(2, 82), (0, p138_0), (0, (p138_1 + 1))]) gz_37_167 rfl gm_37 rfl rfl rfl ⟨by omega, by omega⟩ ?_
                    refine w_goto (t := 138) gz_37_170 rfl ?_
                    have ce94 : h138_0 82 5 = p138_2 := c82_5_138_0
                    have ce95 : h138_0 82 6 = v86 := ev86.symm
                    have ce96 : h138_0 82 7 = p138_2 := c82_7_138_0
                    have ce97 : h138_0 82 8 = 0 := c82_8_138_0
                    have sg : ∀ j : Int, h138_0 92 j = h138_0 92 j := fun _ => rfl
                    exact ih_138_0 (p138_0) ((p138_1 + 1)) (p138_2) (v86) (p138_4) h138_0 (gh_138_0) (by omega) (by omega) (by omega) (by omega) (by omega) (by omega) (by omega) (by omega) (by omega) (by omega) (by omega) (by omega) (by omega) (by omega) (by omega) (by omega) (by omega) (by omega) (ev40.symm.trans (by omega)) (c82_5_138_0.trans (by omega)) (ev86.symm.trans (by omega)) (c82_7_138_0.trans (by omega)) (c82_8_138_0.trans (by omega)) (c82_9_138_0.trans (by omega)) (by omega) (by first | (intro t k a b; rw [sg]; exact dg_181_0 (by omega) k (by omega) (by omega)) | (intro t k a b; rw [sg]; exact dg_138_0 (by omega) k (by omega) (by omega)) | (intro t k a b; rw [sg, ← sg0, sgi k (by omega)]; omega) | (intro t; omega) | (intro t k a b; rw [sg]; rcases (by omega : k = p138_1 ∨ k < p138_1) with q | q <;> first | exact dg_138_0 (by omega) k (by omega) (by omega) | (subst q; omega))) (by first | assumption | omega | (subst_vars; omega)) (by first | assumption | omega | (subst_vars; omega)) (by first | assumption | omega | (subst_vars; omega)) (by omega)
              ·
                refine w_iconst gz_38_26 (by decide) ?_
                refine w_iret gz_38_27 gm_38 ?_
                show wp l rho (d + 1) 37 160 [(2, 82), (0, p138_0), (0, p138_1)] [(0, 2)] h138_0 Q
                refine w_aload_n gz_37_160 rfl ?_
                refine v_getI (j := 6) gz_37_161 rfl is_82 rd_5 rfl (fun v98 ev98 pv98 qv98 => ?_)
                have zv98 := ev98.trans c82_6_138_0
                refine w_icne (t := 173) gz_37_164 rfl (fun u99 => ?_) (fun u99 => ?_)
                ·
                  refine w_aload_n gz_37_173 rfl ?_
                  refine w_aload_n gz_37_174 rfl ?_
                  refine v_getI (j := 7) gz_37_175 rfl is_82 rd_5 rfl (fun v100 ev100 pv100 qv100 => ?_)
                  have zv100 := ev100.trans c82_7_138_0
                  refine v_putI (j := 5) gz_37_178 rfl is_82 rd_5 rfl (by omega) (by omega) rfl (fun h101 fh101 => ?_)
                  have gh101 : my_fr [(5, 5), (5, 6), (5, 7), (5, 8)] h h101 := my_fr.up gh_138_0 is_82 fh101 rfl
                  have ce102 : h101 82 5 = v100 := (my_up_self fh101)
                  have ce103 : h101 82 6 = v98 := ((my_up_fld fh101 (by decide)).trans ev98.symm)
                  have ce104 : h101 82 7 = v100 := ((my_up_fld fh101 (by decide)).trans ev100.symm)
                  have ce105 : h101 82 8 = 0 := ((my_up_fld fh101 (by decide)).trans c82_8_138_0)
                  have sg : ∀ j : Int, h101 92 j = h138_0 92 j := fun j => ((my_up_role fh101 is_92 is_82 rfl).trans (rfl : h138_0 92 j = h138_0 92 j))
                  exact J181_0 (1001) (p138_0) (p138_1) (v100) (v98) (v100) (0) (p138_4) h101 (gh101) (by omega) (by omega) (by omega) (by omega) (by omega) (by omega) (by omega) (by omega) (by omega) (by omega) (by omega) (by omega) (by omega) (by omega) (by omega) (by omega) (by omega) (by omega) (by omega) (by omega) (by omega) (by omega) (((my_up_fld fh101 (by decide)).trans ev40.symm).trans (by omega)) ((my_up_self fh101).trans (by omega)) (((my_up_fld fh101 (by decide)).trans ev98.symm).trans (by omega)) (((my_up_fld fh101 (by decide)).trans ev100.symm).trans (by omega)) (((my_up_fld fh101 (by decide)).trans c82_8_138_0).trans (by omega)) (((my_up_fld fh101 (by decide)).trans c82_9_138_0).trans (by omega)) (by omega) (by first | (intro t k a b; rw [sg]; exact dg_181_0 (by omega) k (by omega) (by omega)) | (intro t k a b; rw [sg]; exact dg_138_0 (by omega) k (by omega) (by omega)) | (intro t k a b; rw [sg, ← sg0, sgi k (by omega)]; omega) | (intro t; omega) | (intro t k a b; rw [sg]; rcases (by omega : k = p181_1 ∨ k < p181_1) with q | q <;> first | exact dg_138_0 (by omega) k (by omega) (by omega) | (subst q; omega))) (by first | assumption | omega | (subst_vars; omega)) (by first | assumption | omega | (subst_vars; omega)) (by omega)
                ·
                  refine w_iinc (ls' := [(2, 82), (0, p138_0), (0, (p138_1 + 1))]) gz_37_167 rfl gm_37 rfl rfl rfl ⟨by omega, by omega⟩ ?_
                  refine w_goto (t := 138) gz_37_170 rfl ?_
                  have ce106 : h138_0 82 5 = p138_2 := c82_5_138_0
                  have ce107 : h138_0 82 6 = v98 := ev98.symm
                  have ce108 : h138_0 82 7 = p138_2 := c82_7_138_0
                  have ce109 : h138_0 82 8 = 0 := c82_8_138_0
                  have sg : ∀ j : Int, h138_0 92 j = h138_0 92 j := fun _ => rfl
                  exact ih_138_0 (p138_0) ((p138_1 + 1)) (p138_2) (v98) (p138_4) h138_0 (gh_138_0) (by omega) (by omega) (by omega) (by omega) (by omega) (by omega) (by omega) (by omega) (by omega) (by omega) (by omega) (by omega) (by omega) (by omega) (by omega) (by omega) (by omega) (by omega) (ev40.symm.trans (by omega)) (c82_5_138_0.trans (by omega)) (ev98.symm.trans (by omega)) (c82_7_138_0.trans (by omega)) (c82_8_138_0.trans (by omega)) (c82_9_138_0.trans (by omega)) (by omega) (by first | (intro t k a b; rw [sg]; exact dg_181_0 (by omega) k (by omega) (by omega)) | (intro t k a b; rw [sg]; exact dg_138_0 (by omega) k (by omega) (by omega)) | (intro t k a b; rw [sg, ← sg0, sgi k (by omega)]; omega) | (intro t; omega) | (intro t k a b; rw [sg]; rcases (by omega : k = p138_1 ∨ k < p138_1) with q | q <;> first | exact dg_138_0 (by omega) k (by omega) (by omega) | (subst q; omega))) (by first | assumption | omega | (subst_vars; omega)) (by first | assumption | omega | (subst_vars; omega)) (by first | assumption | omega | (subst_vars; omega)) (by omega)
          ·
            refine w_iload_n gz_38_6 rfl ?_
            refine w_bipush gz_38_7 (by decide) ?_
            refine w_icgt (t := 14) gz_38_9 rfl (fun u110 => ?_) (fun u110 => ?_)
            ·
              refine w_iload_n gz_38_14 rfl ?_
              refine w_bipush gz_38_15 (by decide) ?_
              refine w_iclt (t := 28) gz_38_17 rfl (fun u111 => by exfalso; omega) (fun u111 => ?_)
              refine w_iload_n gz_38_20 rfl ?_
              refine w_bipush gz_38_21 (by decide) ?_
              refine w_icgt (t := 28) gz_38_23 rfl (fun u112 => ?_) (fun u112 => by exfalso; omega)
              refine w_iload_n gz_38_28 rfl ?_
              refine w_bipush gz_38_29 (by decide) ?_
              refine w_icne (t := 38) gz_38_31 rfl (fun u113 => ?_) (fun u113 => by exfalso; omega)
              refine w_iconst gz_38_38 (by decide) ?_
              refine w_iret gz_38_39 gm_38 ?_
              show wp l rho (d + 1) 37 160 [(2, 82), (0, p138_0), (0, p138_1)] [(0, 4)] h138_0 Q
              refine w_aload_n gz_37_160 rfl ?_
              refine v_getI (j := 6) gz_37_161 rfl is_82 rd_5 rfl (fun v114 ev114 pv114 qv114 => ?_)
              have zv114 := ev114.trans c82_6_138_0
              refine w_icne (t := 173) gz_37_164 rfl (fun u115 => ?_) (fun u115 => ?_)
              ·
                refine w_aload_n gz_37_173 rfl ?_
                refine w_aload_n gz_37_174 rfl ?_
                refine v_getI (j := 7) gz_37_175 rfl is_82 rd_5 rfl (fun v116 ev116 pv116 qv116 => ?_)
                have zv116 := ev116.trans c82_7_138_0
                refine v_putI (j := 5) gz_37_178 rfl is_82 rd_5 rfl (by omega) (by omega) rfl (fun h117 fh117 => ?_)
                have gh117 : my_fr [(5, 5), (5, 6), (5, 7), (5, 8)] h h117 := my_fr.up gh_138_0 is_82 fh117 rfl
                have ce118 : h117 82 5 = v116 := (my_up_self fh117)
                have ce119 : h117 82 6 = v114 := ((my_up_fld fh117 (by decide)).trans ev114.symm)
                have ce120 : h117 82 7 = v116 := ((my_up_fld fh117 (by decide)).trans ev116.symm)
                have ce121 : h117 82 8 = 0 := ((my_up_fld fh117 (by decide)).trans c82_8_138_0)
                have sg : ∀ j : Int, h117 92 j = h138_0 92 j := fun j => ((my_up_role fh117 is_92 is_82 rfl).trans (rfl : h138_0 92 j = h138_0 92 j))
                exact J181_0 (1001) (p138_0) (p138_1) (v116) (v114) (v116) (0) (p138_4) h117 (gh117) (by omega) (by omega) (by omega) (by omega) (by omega) (by omega) (by omega) (by omega) (by omega) (by omega) (by omega) (by omega) (by omega) (by omega) (by omega) (by omega) (by omega) (by omega) (by omega) (by omega) (by omega) (by omega) (((my_up_fld fh117 (by decide)).trans ev40.symm).trans (by omega)) ((my_up_self fh117).trans (by omega)) (((my_up_fld fh117 (by decide)).trans ev114.symm).trans (by omega)) (((my_up_fld fh117 (by decide)).trans ev116.symm).trans (by omega)) (((my_up_fld fh117 (by decide)).trans c82_8_138_0).trans (by omega)) (((my_up_fld fh117 (by decide)).trans c82_9_138_0).trans (by omega)) (by omega) (by first | (intro t k a b; rw [sg]; exact dg_181_0 (by omega) k (by omega) (by omega)) | (intro t k a b; rw [sg]; exact dg_138_0 (by omega) k (by omega) (by omega)) | (intro t k a b; rw [sg, ← sg0, sgi k (by omega)]; omega) | (intro t; omega) | (intro t k a b; rw [sg]; rcases (by omega : k = p181_1 ∨ k < p181_1) with q | q <;> first | exact dg_138_0 (by omega) k (by omega) (by omega) | (subst q; omega))) (by first | assumption | omega | (subst_vars; omega)) (by first | assumption | omega | (subst_vars; omega)) (by omega)
              ·
                refine w_iinc (ls' := [(2, 82), (0, p138_0), (0, (p138_1 + 1))]) gz_37_167 rfl gm_37 rfl rfl rfl ⟨by omega, by omega⟩ ?_
                refine w_goto (t := 138) gz_37_170 rfl ?_
                have ce122 : h138_0 82 5 = p138_2 := c82_5_138_0
                have ce123 : h138_0 82 6 = v114 := ev114.symm
                have ce124 : h138_0 82 7 = p138_2 := c82_7_138_0
                have ce125 : h138_0 82 8 = 0 := c82_8_138_0
                have sg : ∀ j : Int, h138_0 92 j = h138_0 92 j := fun _ => rfl
                exact ih_138_0 (p138_0) ((p138_1 + 1)) (p138_2) (v114) (p138_4) h138_0 (gh_138_0) (by omega) (by omega) (by omega) (by omega) (by omega) (by omega) (by omega) (by omega) (by omega) (by omega) (by omega) (by omega) (by omega) (by omega) (by omega) (by omega) (by omega) (by omega) (ev40.symm.trans (by omega)) (c82_5_138_0.trans (by omega)) (ev114.symm.trans (by omega)) (c82_7_138_0.trans (by omega)) (c82_8_138_0.trans (by omega)) (c82_9_138_0.trans (by omega)) (by omega) (by first | (intro t k a b; rw [sg]; exact dg_181_0 (by omega) k (by omega) (by omega)) | (intro t k a b; rw [sg]; exact dg_138_0 (by omega) k (by omega) (by omega)) | (intro t k a b; rw [sg, ← sg0, sgi k (by omega)]; omega) | (intro t; omega) | (intro t k a b; rw [sg]; rcases (by omega : k = p138_1 ∨ k < p138_1) with q | q <;> first | exact dg_138_0 (by omega) k (by omega) (by omega) | (subst q; omega))) (by first | assumption | omega | (subst_vars; omega)) (by first | assumption | omega | (subst_vars; omega)) (by first | assumption | omega | (subst_vars; omega)) (by omega)
            ·
              refine w_iconst gz_38_12 (by decide) ?_
              refine w_iret gz_38_13 gm_38 ?_
              show wp l rho (d + 1) 37 160 [(2, 82), (0, p138_0), (0, p138_1)] [(0, 1)] h138_0 Q
              refine w_aload_n gz_37_160 rfl ?_
              refine v_getI (j := 6) gz_37_161 rfl is_82 rd_5 rfl (fun v126 ev126 pv126 qv126 => ?_)
              have zv126 := ev126.trans c82_6_138_0
              refine w_icne (t := 173) gz_37_164 rfl (fun u127 => ?_) (fun u127 => ?_)
              ·
                refine w_aload_n gz_37_173 rfl ?_
                refine w_aload_n gz_37_174 rfl ?_
                refine v_getI (j := 7) gz_37_175 rfl is_82 rd_5 rfl (fun v128 ev128 pv128 qv128 => ?_)
                have zv128 := ev128.trans c82_7_138_0
                refine v_putI (j := 5) gz_37_178 rfl is_82 rd_5 rfl (by omega) (by omega) rfl (fun h129 fh129 => ?_)
                have gh129 : my_fr [(5, 5), (5, 6), (5, 7), (5, 8)] h h129 := my_fr.up gh_138_0 is_82 fh129 rfl
                have ce130 : h129 82 5 = v128 := (my_up_self fh129)
                have ce131 : h129 82 6 = v126 := ((my_up_fld fh129 (by decide)).trans ev126.symm)
                have ce132 : h129 82 7 = v128 := ((my_up_fld fh129 (by decide)).trans ev128.symm)
                have ce133 : h129 82 8 = 0 := ((my_up_fld fh129 (by decide)).trans c82_8_138_0)
                have sg : ∀ j : Int, h129 92 j = h138_0 92 j := fun j => ((my_up_role fh129 is_92 is_82 rfl).trans (rfl : h138_0 92 j = h138_0 92 j))
                exact J181_0 (1001) (p138_0) (p138_1) (v128) (v126) (v128) (0) (p138_4) h129 (gh129) (by omega) (by omega) (by omega) (by omega) (by omega) (by omega) (by omega) (by omega) (by omega) (by omega) (by omega) (by omega) (by omega) (by omega) (by omega) (by omega) (by omega) (by omega) (by omega) (by omega) (by omega) (by omega) (((my_up_fld fh129 (by decide)).trans ev40.symm).trans (by omega)) ((my_up_self fh129).trans (by omega)) (((my_up_fld fh129 (by decide)).trans ev126.symm).trans (by omega)) (((my_up_fld fh129 (by decide)).trans ev128.symm).trans (by omega)) (((my_up_fld fh129 (by decide)).trans c82_8_138_0).trans (by omega)) (((my_up_fld fh129 (by decide)).trans c82_9_138_0).trans (by omega)) (by omega) (by first | (intro t k a b; rw [sg]; exact dg_181_0 (by omega) k (by omega) (by omega)) | (intro t k a b; rw [sg]; exact dg_138_0 (by omega) k (by omega) (by omega)) | (intro t k a b; rw [sg, ← sg0, sgi k (by omega)]; omega) | (intro t; omega) | (intro t k a b; rw [sg]; rcases (by omega : k = p181_1 ∨ k < p181_1) with q | q <;> first | exact dg_138_0 (by omega) k (by omega) (by omega) | (subst q; omega))) (by first | assumption | omega | (subst_vars; omega)) (by first | assumption | omega | (subst_vars; omega)) (by omega)
              ·
                refine w_iinc (ls' := [(2, 82), (0, p138_0), (0, (p138_1 + 1))]) gz_37_167 rfl gm_37 rfl rfl rfl ⟨by omega, by omega⟩ ?_
                refine w_goto (t := 138) gz_37_170 rfl ?_
                have ce134 : h138_0 82 5 = p138_2 := c82_5_138_0
                have ce135 : h138_0 82 6 = v126 := ev126.symm
                have ce136 : h138_0 82 7 = p138_2 := c82_7_138_0
                have ce137 : h138_0 82 8 = 0 := c82_8_138_0
                have sg : ∀ j : Int, h138_0 92 j = h138_0 92 j := fun _ => rfl
                exact ih_138_0 (p138_0) ((p138_1 + 1)) (p138_2) (v126) (p138_4) h138_0 (gh_138_0) (by omega) (by omega) (by omega) (by omega) (by omega) (by omega) (by omega) (by omega) (by omega) (by omega) (by omega) (by omega) (by omega) (by omega) (by omega) (by omega) (by omega) (by omega) (ev40.symm.trans (by omega)) (c82_5_138_0.trans (by omega)) (ev126.symm.trans (by omega)) (c82_7_138_0.trans (by omega)) (c82_8_138_0.trans (by omega)) (c82_9_138_0.trans (by omega)) (by omega) (by first | (intro t k a b; rw [sg]; exact dg_181_0 (by omega) k (by omega) (by omega)) | (intro t k a b; rw [sg]; exact dg_138_0 (by omega) k (by omega) (by omega)) | (intro t k a b; rw [sg, ← sg0, sgi k (by omega)]; omega) | (intro t; omega) | (intro t k a b; rw [sg]; rcases (by omega : k = p138_1 ∨ k < p138_1) with q | q <;> first | exact dg_138_0 (by omega) k (by omega) (by omega) | (subst q; omega))) (by first | assumption | omega | (subst_vars; omega)) (by first | assumption | omega | (subst_vars; omega)) (by first | assumption | omega | (subst_vars; omega)) (by omega)
  have J0_0 : ∀ (n : Nat) (p0_0 p0_1 : Int) (h0_0 : my_H), my_fr [(5, 5), (5, 6), (5, 7), (5, 8)] h h0_0 → 1 ≤ p0_1 → p0_1 ≤ 16005 → 1 ≤ k82_4 → 1 ≤ p0_0 → p0_0 ≤ 1000 → k82_5 ≤ 999 → p0_0 ≤ k82_4 → k82_5 ≤ (p0_0 - 1) → k82_5 ≤ (k82_4 - 1) → h0_0 82 4 = k82_4 → h0_0 82 5 = p0_0 → h0_0 82 9 = p0_1 → 1001 - h0_0 82 5 ≤ (n : Int) → wp l rho (d + 1) 37 0 [(2, 82), (9, 0), (9, 0)] [] h0_0 Q := by
    intro n
    induction n with
    | zero => intro p0_0 p0_1 h0_0 gh_0_0 q0_0_0 q1_0_0 q2_0_0 q3_0_0 q4_0_0 q5_0_0 q6_0_0 q7_0_0 q8_0_0 c82_4_0_0 c82_5_0_0 c82_9_0_0 hm_0_0; exfalso; omega
    | succ n ih_0_0 =>
      intro p0_0 p0_1 h0_0 gh_0_0 q0_0_0 q1_0_0 q2_0_0 q3_0_0 q4_0_0 q5_0_0 q6_0_0 q7_0_0 q8_0_0 c82_4_0_0 c82_5_0_0 c82_9_0_0 hm_0_0
      refine w_aload_n gz_37_0 rfl ?_
      refine v_getI (j := 5) gz_37_1 rfl is_82 rd_5 rfl (fun v138 ev138 pv138 qv138 => ?_)
      have zv138 := ev138.trans c82_5_0_0
      refine w_aload_n gz_37_4 rfl ?_
      refine v_getI (j := 4) gz_37_5 rfl is_82 rd_5 rfl (fun v139 ev139 pv139 qv139 => ?_)
      have zv139 := ev139.trans c82_4_0_0
      refine w_icge (t := 52) gz_37_8 rfl (fun u140 => ?_) (fun u140 => ?_)
      ·
        refine w_aload_n gz_37_52 rfl ?_
        refine w_aload_n gz_37_53 rfl ?_
        refine v_getI (j := 5) gz_37_54 rfl is_82 rd_5 rfl (fun v141 ev141 pv141 qv141 => ?_)
        have zv141 := ev141.trans ev138.symm
        refine v_putI (j := 7) gz_37_57 rfl is_82 rd_5 rfl (by omega) (by omega) rfl (fun h142 fh142 => ?_)
        have gh142 : my_fr [(5, 5), (5, 6), (5, 7), (5, 8)] h h142 := my_fr.up gh_0_0 is_82 fh142 rfl
        refine w_aload_n gz_37_60 rfl ?_
        refine w_aload_n gz_37_61 rfl ?_
        refine v_getI (j := 5) gz_37_62 rfl is_82 rd_5 rfl (fun v143 ev143 pv143 qv143 => ?_)
        have zv143 := ev143.trans ((my_up_fld fh142 (by decide)).trans ev141.symm)
        refine w_aload_n gz_37_65 rfl ?_
        refine v_getI (j := 4) gz_37_66 rfl is_82 rd_5 rfl (fun v144 ev144 pv144 qv144 => ?_)
        have zv144 := ev144.trans ((my_up_fld fh142 (by decide)).trans ev139.symm)
        refine w_icge (t := 87) gz_37_69 rfl (fun u145 => ?_) (fun u145 => by exfalso; omega)
        refine w_iconst gz_37_87 (by decide) ?_
        refine v_putI (j := 6) gz_37_88 rfl is_82 rd_5 rfl (by omega) (by omega) rfl (fun h146 fh146 => ?_)
        have gh146 : my_fr [(5, 5), (5, 6), (5, 7), (5, 8)] h h146 := my_fr.up gh142 is_82 fh146 rfl
        refine w_aload_n gz_37_91 rfl ?_
        refine v_getI (j := 6) gz_37_92 rfl is_82 rd_5 rfl (fun v147 ev147 pv147 qv147 => ?_)
        have zv147 := ev147.trans (my_up_self fh146)
        refine w_ifne (t := 99) gz_37_95 rfl (fun u148 => by exfalso; omega) (fun u148 => ?_)
        have c149 := ev147.symm
        have c150 := ((my_up_fld fh146 (by decide)).trans ((my_up_fld fh142 (by decide)).trans c82_9_0_0))
        exact w_vret gz_37_98 gm_37 (k0 h146 (gh146) (by omega) (by omega) (by omega) (by omega))
      ·
        refine w_aload_n gz_37_11 rfl ?_
        refine w_getX (v := 92) gz_37_12 is_82 rd_5 rfl (by decide) rfl ?_
        refine w_aload_n gz_37_15 rfl ?_
        refine v_getI (j := 5) gz_37_16 rfl is_82 rd_5 rfl (fun v152 ev152 pv152 qv152 => ?_)
        have zv152 := ev152.trans ev138.symm
        refine w_yald gz_37_19 is_92 rd_40 (by omega) (by omega) (fun v153 ev153 pv153 qv153 => ?_)
        refine w_bipush gz_37_20 (by decide) ?_
        refine w_iceq (t := 39) gz_37_22 rfl (fun u154 => ?_) (fun u154 => ?_)
        ·
          refine w_aload_n gz_37_39 rfl ?_
          refine w_dup gz_37_40 rfl ?_
          refine v_getI (j := 5) gz_37_41 rfl is_82 rd_5 rfl (fun v155 ev155 pv155 qv155 => ?_)
          have zv155 := ev155.trans ev152.symm
          refine w_iconst gz_37_44 (by decide) ?_
          refine w_iadd gz_37_45 ⟨by omega, by omega⟩ ?_
          refine v_putI (j := 5) gz_37_46 rfl is_82 rd_5 rfl (by omega) (by omega) rfl (fun h156 fh156 => ?_)
          have gh156 : my_fr [(5, 5), (5, 6), (5, 7), (5, 8)] h h156 := my_fr.up gh_0_0 is_82 fh156 rfl
          refine w_goto (t := 0) gz_37_49 rfl ?_
          have ce157 : h156 82 5 = (v155 + 1) := (my_up_self fh156)
          exact ih_0_0 ((v155 + 1)) (p0_1) h156 (gh156) (by omega) (by omega) (by omega) (by omega) (by omega) (by omega) (by omega) (by omega) (by omega) (((my_up_fld fh156 (by decide)).trans ev139.symm).trans (by omega)) ((my_up_self fh156).trans (by omega)) (((my_up_fld fh156 (by decide)).trans c82_9_0_0).trans (by omega)) (by omega)
        ·
          refine w_aload_n gz_37_25 rfl ?_
          refine w_getX (v := 92) gz_37_26 is_82 rd_5 rfl (by decide) rfl ?_
          refine w_aload_n gz_37_29 rfl ?_
          refine v_getI (j := 5) gz_37_30 rfl is_82 rd_5 rfl (fun v159 ev159 pv159 qv159 => ?_)
          have zv159 := ev159.trans ev152.symm
          refine w_yald gz_37_33 is_92 rd_40 (by omega) (by omega) (fun v160 ev160 pv160 qv160 => ?_)
          have wv160 : v159 = v152 := by omega
          rw [wv160] at ev160
          have zv160 := ev160.trans ev153.symm
          refine w_bipush gz_37_34 (by decide) ?_
          refine w_icne (t := 52) gz_37_36 rfl (fun u161 => ?_) (fun u161 => ?_)
          ·
            refine w_aload_n gz_37_52 rfl ?_
            refine w_aload_n gz_37_53 rfl ?_
            refine v_getI (j := 5) gz_37_54 rfl is_82 rd_5 rfl (fun v162 ev162 pv162 qv162 => ?_)
            have zv162 := ev162.trans ev159.symm
            refine v_putI (j := 7) gz_37_57 rfl is_82 rd_5 rfl (by omega) (by omega) rfl (fun h163 fh163 => ?_)
            have gh163 : my_fr [(5, 5), (5, 6), (5, 7), (5, 8)] h h163 := my_fr.up gh_0_0 is_82 fh163 rfl
            refine w_aload_n gz_37_60 rfl ?_
            refine w_aload_n gz_37_61 rfl ?_
            refine v_getI (j := 5) gz_37_62 rfl is_82 rd_5 rfl (fun v164 ev164 pv164 qv164 => ?_)
            have zv164 := ev164.trans ((my_up_fld fh163 (by decide)).trans ev162.symm)
            refine w_aload_n gz_37_65 rfl ?_
            refine v_getI (j := 4) gz_37_66 rfl is_82 rd_5 rfl (fun v165 ev165 pv165 qv165 => ?_)
            have zv165 := ev165.trans ((my_up_fld fh163 (by decide)).trans ev139.symm)
            refine w_icge (t := 87) gz_37_69 rfl (fun u166 => by exfalso; omega) (fun u166 => ?_)
            refine w_aload_n gz_37_72 rfl ?_
            refine w_getX (v := 92) gz_37_73 is_82 rd_5 rfl (by decide) rfl ?_
            refine w_aload_n gz_37_76 rfl ?_
            refine v_getI (j := 5) gz_37_77 rfl is_82 rd_5 rfl (fun v168 ev168 pv168 qv168 => ?_)
            have zv168 := ev168.trans ev164.symm
            have sg0 : ∀ j : Int, h163 92 j = h0_0 92 j := fun j => ((my_up_role fh163 is_92 is_82 rfl).trans (rfl : h0_0 92 j = h0_0 92 j))
            refine w_yald gz_37_80 is_92 rd_40 (by omega) (by omega) (fun v169 ev169 pv169 qv169 => ?_)
            have wv169 : v168 = v152 := by omega
            rw [wv169] at ev169
            have zv169 := ev169.trans ((my_up_role fh163 is_92 is_82 rfl).trans ev160.symm)
            have sgi : ∀ k : Int, k = v152 → h163 92 k = v169 := fun k q => by rw [q]; omega
            refine w_inS (k := 0) (as := [(0, v169)]) (r := [(2, 82)]) (ls0 := [(0, v169)]) gz_37_81 gm_38 rfl rfl rfl rfl rfl rfl ?_
            refine w_iload_n gz_38_0 rfl ?_
            refine w_bipush gz_38_1 (by decide) ?_
            refine w_iclt (t := 14) gz_38_3 rfl (fun u170 => ?_) (fun u170 => ?_)
            ·
              refine w_iload_n gz_38_14 rfl ?_
              refine w_bipush gz_38_15 (by decide) ?_
              refine w_iclt (t := 28) gz_38_17 rfl (fun u171 => ?_) (fun u171 => ?_)
              ·
                refine w_iload_n gz_38_28 rfl ?_
                refine w_bipush gz_38_29 (by decide) ?_
                refine w_icne (t := 38) gz_38_31 rfl (fun u172 => ?_) (fun u172 => by exfalso; omega)
                refine w_iconst gz_38_38 (by decide) ?_
                refine w_iret gz_38_39 gm_38 ?_
                show wp l rho (d + 1) 37 84 [(2, 82), (9, 0), (9, 0)] [(0, 4), (2, 82)] h163 Q
                refine w_goto (t := 88) gz_37_84 rfl ?_
                refine v_putI (j := 6) gz_37_88 rfl is_82 rd_5 rfl (by omega) (by omega) rfl (fun h173 fh173 => ?_)
                have gh173 : my_fr [(5, 5), (5, 6), (5, 7), (5, 8)] h h173 := my_fr.up gh163 is_82 fh173 rfl
                refine w_aload_n gz_37_91 rfl ?_
                refine v_getI (j := 6) gz_37_92 rfl is_82 rd_5 rfl (fun v174 ev174 pv174 qv174 => ?_)
                have zv174 := ev174.trans (my_up_self fh173)
                refine w_ifne (t := 99) gz_37_95 rfl (fun u175 => ?_) (fun u175 => by exfalso; omega)
                refine w_aload_n gz_37_99 rfl ?_
                refine w_iconst gz_37_100 (by decide) ?_
                refine v_putI (j := 8) gz_37_101 rfl is_82 rd_5 rfl (by omega) (by omega) rfl (fun h176 fh176 => ?_)
                have gh176 : my_fr [(5, 5), (5, 6), (5, 7), (5, 8)] h h176 := my_fr.up gh173 is_82 fh176 rfl
                refine w_aload_n gz_37_104 rfl ?_
                refine v_getI (j := 6) gz_37_105 rfl is_82 rd_5 rfl (fun v177 ev177 pv177 qv177 => ?_)
                have zv177 := ev177.trans ((my_up_fld fh176 (by decide)).trans ev174.symm)
                refine w_iconst gz_37_108 (by decide) ?_
                refine w_icne (t := 117) gz_37_109 rfl (fun u178 => ?_) (fun u178 => by exfalso; omega)
                refine w_aload_n gz_37_117 rfl ?_
                refine v_getI (j := 6) gz_37_118 rfl is_82 rd_5 rfl (fun v179 ev179 pv179 qv179 => ?_)
                have zv179 := ev179.trans ev177.symm
                refine w_iconst gz_37_121 (by decide) ?_
                refine w_icne (t := 129) gz_37_122 rfl (fun u180 => ?_) (fun u180 => by exfalso; omega)
                refine w_iconst gz_37_129 (by decide) ?_
                refine w_istore_n (ls' := [(2, 82), (0, 1), (9, 0)]) gz_37_130 gm_37 rfl rfl rfl ?_
                refine w_aload_n gz_37_131 rfl ?_
                refine v_getI (j := 7) gz_37_132 rfl is_82 rd_5 rfl (fun v181 ev181 pv181 qv181 => ?_)
                have zv181 := ev181.trans ((my_up_fld fh176 (by decide)).trans ((my_up_fld fh173 (by decide)).trans (my_up_self fh163)))
                refine w_iconst gz_37_135 (by decide) ?_
                refine w_iadd gz_37_136 ⟨by omega, by omega⟩ ?_
                refine w_istore_n (ls' := [(2, 82), (0, 1), (0, (v181 + 1))]) gz_37_137 gm_37 rfl rfl rfl ?_
                have ce182 : h176 82 5 = v168 := ((my_up_fld fh176 (by decide)).trans ((my_up_fld fh173 (by decide)).trans ev168.symm))
                have ce183 : h176 82 6 = v179 := ev179.symm
                have ce184 : h176 82 7 = v181 := ev181.symm
                have ce185 : h176 82 8 = 0 := (my_up_self fh176)
                have sg : ∀ j : Int, h176 92 j = h0_0 92 j := fun j => ((my_up_role fh176 is_92 is_82 rfl).trans ((my_up_role fh173 is_92 is_82 rfl).trans ((my_up_role fh163 is_92 is_82 rfl).trans (rfl : h0_0 92 j = h0_0 92 j))))
                exact J138_0 (1001) (1) ((v181 + 1)) (v168) (v179) (p0_1) h176 (gh176) (by omega) (by omega) (by omega) (by omega) (by omega) (by omega) (by omega) (by omega) (by omega) (by omega) (by omega) (by omega) (by omega) (by omega) (by omega) (by omega) (by omega) (by omega) (((my_up_fld fh176 (by decide)).trans ((my_up_fld fh173 (by decide)).trans ev165.symm)).trans (by omega)) (((my_up_fld fh176 (by decide)).trans ((my_up_fld fh173 (by decide)).trans ev168.symm)).trans (by omega)) (ev179.symm.trans (by omega)) (ev181.symm.trans (by omega)) ((my_up_self fh176).trans (by omega)) (((my_up_fld fh176 (by decide)).trans ((my_up_fld fh173 (by decide)).trans ((my_up_fld fh163 (by decide)).trans c82_9_0_0))).trans (by omega)) (by omega) (by first | (intro t k a b; rw [sg]; exact dg_181_0 (by omega) k (by omega) (by omega)) | (intro t k a b; rw [sg]; exact dg_138_0 (by omega) k (by omega) (by omega)) | (intro t k a b; rw [sg, ← sg0, sgi k (by omega)]; omega) | (intro t; omega) | (intro t k a b; rw [sg]; rcases (by omega : k = p138_1 ∨ k < p138_1) with q | q <;> first | exact dg_138_0 (by omega) k (by omega) (by omega) | (subst q; omega))) (by first | assumption | omega | (subst_vars; omega)) (by first | assumption | omega | (subst_vars; omega)) (by first | assumption | omega | (subst_vars; omega)) (by omega)
              ·
                refine w_iload_n gz_38_20 rfl ?_
                refine w_bipush gz_38_21 (by decide) ?_
                refine w_icgt (t := 28) gz_38_23 rfl (fun u186 => ?_) (fun u186 => ?_)
                ·
                  refine w_iload_n gz_38_28 rfl ?_
                  refine w_bipush gz_38_29 (by decide) ?_
                  refine w_icne (t := 38) gz_38_31 rfl (fun u187 => ?_) (fun u187 => ?_)
                  ·
                    refine w_iconst gz_38_38 (by decide) ?_
                    refine w_iret gz_38_39 gm_38 ?_
                    show wp l rho (d + 1) 37 84 [(2, 82), (9, 0), (9, 0)] [(0, 4), (2, 82)] h163 Q
                    refine w_goto (t := 88) gz_37_84 rfl ?_
                    refine v_putI (j := 6) gz_37_88 rfl is_82 rd_5 rfl (by omega) (by omega) rfl (fun h188 fh188 => ?_)
                    have gh188 : my_fr [(5, 5), (5, 6), (5, 7), (5, 8)] h h188 := my_fr.up gh163 is_82 fh188 rfl
                    refine w_aload_n gz_37_91 rfl ?_
                    refine v_getI (j := 6) gz_37_92 rfl is_82 rd_5 rfl (fun v189 ev189 pv189 qv189 => ?_)
                    have zv189 := ev189.trans (my_up_self fh188)
                    refine w_ifne (t := 99) gz_37_95 rfl (fun u190 => ?_) (fun u190 => by exfalso; omega)
                    refine w_aload_n gz_37_99 rfl ?_
                    refine w_iconst gz_37_100 (by decide) ?_
                    refine v_putI (j := 8) gz_37_101 rfl is_82 rd_5 rfl (by omega) (by omega) rfl (fun h191 fh191 => ?_)
                    have gh191 : my_fr [(5, 5), (5, 6), (5, 7), (5, 8)] h h191 := my_fr.up gh188 is_82 fh191 rfl
                    refine w_aload_n gz_37_104 rfl ?_
                    refine v_getI (j := 6) gz_37_105 rfl is_82 rd_5 rfl (fun v192 ev192 pv192 qv192 => ?_)
                    have zv192 := ev192.trans ((my_up_fld fh191 (by decide)).trans ev189.symm)
                    refine w_iconst gz_37_108 (by decide) ?_
                    refine w_icne (t := 117) gz_37_109 rfl (fun u193 => ?_) (fun u193 => by exfalso; omega)
                    refine w_aload_n gz_37_117 rfl ?_
                    refine v_getI (j := 6) gz_37_118 rfl is_82 rd_5 rfl (fun v194 ev194 pv194 qv194 => ?_)
                    have zv194 := ev194.trans ev192.symm
                    refine w_iconst gz_37_121 (by decide) ?_
                    refine w_icne (t := 129) gz_37_122 rfl (fun u195 => ?_) (fun u195 => by exfalso; omega)
                    refine w_iconst gz_37_129 (by decide) ?_
                    refine w_istore_n (ls' := [(2, 82), (0, 1), (9, 0)]) gz_37_130 gm_37 rfl rfl rfl ?_
                    refine w_aload_n gz_37_131 rfl ?_
                    refine v_getI (j := 7) gz_37_132 rfl is_82 rd_5 rfl (fun v196 ev196 pv196 qv196 => ?_)
                    have zv196 := ev196.trans ((my_up_fld fh191 (by decide)).trans ((my_up_fld fh188 (by decide)).trans (my_up_self fh163)))
                    refine w_iconst gz_37_135 (by decide) ?_
                    refine w_iadd gz_37_136 ⟨by omega, by omega⟩ ?_
                    refine w_istore_n (ls' := [(2, 82), (0, 1), (0, (v196 + 1))]) gz_37_137 gm_37 rfl rfl rfl ?_
                    have ce197 : h191 82 5 = v168 := ((my_up_fld fh191 (by decide)).trans ((my_up_fld fh188 (by decide)).trans ev168.symm))
                    have ce198 : h191 82 6 = v194 := ev194.symm
                    have ce199 : h191 82 7 = v196 := ev196.symm
                    have ce200 : h191 82 8 = 0 := (my_up_self fh191)
                    have sg : ∀ j : Int, h191 92 j = h0_0 92 j := fun j => ((my_up_role fh191 is_92 is_82 rfl).trans ((my_up_role fh188 is_92 is_82 rfl).trans ((my_up_role fh163 is_92 is_82 rfl).trans (rfl : h0_0 92 j = h0_0 92 j))))
                    exact J138_0 (1001) (1) ((v196 + 1)) (v168) (v194) (p0_1) h191 (gh191) (by omega) (by omega) (by omega) (by omega) (by omega) (by omega) (by omega) (by omega) (by omega) (by omega) (by omega) (by omega) (by omega) (by omega) (by omega) (by omega) (by omega) (by omega) (((my_up_fld fh191 (by decide)).trans ((my_up_fld fh188 (by decide)).trans ev165.symm)).trans (by omega)) (((my_up_fld fh191 (by decide)).trans ((my_up_fld fh188 (by decide)).trans ev168.symm)).trans (by omega)) (ev194.symm.trans (by omega)) (ev196.symm.trans (by omega)) ((my_up_self fh191).trans (by omega)) (((my_up_fld fh191 (by decide)).trans ((my_up_fld fh188 (by decide)).trans ((my_up_fld fh163 (by decide)).trans c82_9_0_0))).trans (by omega)) (by omega) (by first | (intro t k a b; rw [sg]; exact dg_181_0 (by omega) k (by omega) (by omega)) | (intro t k a b; rw [sg]; exact dg_138_0 (by omega) k (by omega) (by omega)) | (intro t k a b; rw [sg, ← sg0, sgi k (by omega)]; omega) | (intro t; omega) | (intro t k a b; rw [sg]; rcases (by omega : k = p138_1 ∨ k < p138_1) with q | q <;> first | exact dg_138_0 (by omega) k (by omega) (by omega) | (subst q; omega))) (by first | assumption | omega | (subst_vars; omega)) (by first | assumption | omega | (subst_vars; omega)) (by first | assumption | omega | (subst_vars; omega)) (by omega)
                  ·
                    refine w_iconst gz_38_34 (by decide) ?_
                    refine w_goto (t := 39) gz_38_35 rfl ?_
                    refine w_iret gz_38_39 gm_38 ?_
                    show wp l rho (d + 1) 37 84 [(2, 82), (9, 0), (9, 0)] [(0, 3), (2, 82)] h163 Q
                    refine w_goto (t := 88) gz_37_84 rfl ?_
                    refine v_putI (j := 6) gz_37_88 rfl is_82 rd_5 rfl (by omega) (by omega) rfl (fun h201 fh201 => ?_)
                    have gh201 : my_fr [(5, 5), (5, 6), (5, 7), (5, 8)] h h201 := my_fr.up gh163 is_82 fh201 rfl
                    refine w_aload_n gz_37_91 rfl ?_
                    refine v_getI (j := 6) gz_37_92 rfl is_82 rd_5 rfl (fun v202 ev202 pv202 qv202 => ?_)
                    have zv202 := ev202.trans (my_up_self fh201)
                    refine w_ifne (t := 99) gz_37_95 rfl (fun u203 => ?_) (fun u203 => by exfalso; omega)
                    refine w_aload_n gz_37_99 rfl ?_
                    refine w_iconst gz_37_100 (by decide) ?_
                    refine v_putI (j := 8) gz_37_101 rfl is_82 rd_5 rfl (by omega) (by omega) rfl (fun h204 fh204 => ?_)
                    have gh204 : my_fr [(5, 5), (5, 6), (5, 7), (5, 8)] h h204 := my_fr.up gh201 is_82 fh204 rfl
                    refine w_aload_n gz_37_104 rfl ?_
                    refine v_getI (j := 6) gz_37_105 rfl is_82 rd_5 rfl (fun v205 ev205 pv205 qv205 => ?_)
                    have zv205 := ev205.trans ((my_up_fld fh204 (by decide)).trans ev202.symm)
                    refine w_iconst gz_37_108 (by decide) ?_
                    refine w_icne (t := 117) gz_37_109 rfl (fun u206 => ?_) (fun u206 => by exfalso; omega)
                    refine w_aload_n gz_37_117 rfl ?_
                    refine v_getI (j := 6) gz_37_118 rfl is_82 rd_5 rfl (fun v207 ev207 pv207 qv207 => ?_)
                    have zv207 := ev207.trans ev205.symm
                    refine w_iconst gz_37_121 (by decide) ?_
                    refine w_icne (t := 129) gz_37_122 rfl (fun u208 => ?_) (fun u208 => by exfalso; omega)
                    refine w_iconst gz_37_129 (by decide) ?_
                    refine w_istore_n (ls' := [(2, 82), (0, 1), (9, 0)]) gz_37_130 gm_37 rfl rfl rfl ?_
                    refine w_aload_n gz_37_131 rfl ?_
                    refine v_getI (j := 7) gz_37_132 rfl is_82 rd_5 rfl (fun v209 ev209 pv209 qv209 => ?_)
                    have zv209 := ev209.trans ((my_up_fld fh204 (by decide)).trans ((my_up_fld fh201 (by decide)).trans (my_up_self fh163)))
                    refine w_iconst gz_37_135 (by decide) ?_
                    refine w_iadd gz_37_136 ⟨by omega, by omega⟩ ?_
                    refine w_istore_n (ls' := [(2, 82), (0, 1), (0, (v209 + 1))]) gz_37_137 gm_37 rfl rfl rfl ?_
                    have ce210 : h204 82 5 = v168 := ((my_up_fld fh204 (by decide)).trans ((my_up_fld fh201 (by decide)).trans ev168.symm))
                    have ce211 : h204 82 6 = v207 := ev207.symm
                    have ce212 : h204 82 7 = v209 := ev209.symm
                    have ce213 : h204 82 8 = 0 := (my_up_self fh204)
                    have sg : ∀ j : Int, h204 92 j = h0_0 92 j := fun j => ((my_up_role fh204 is_92 is_82 rfl).trans ((my_up_role fh201 is_92 is_82 rfl).trans ((my_up_role fh163 is_92 is_82 rfl).trans (rfl : h0_0 92 j = h0_0 92 j))))
                    exact J138_0 (1001) (1) ((v209 + 1)) (v168) (v207) (p0_1) h204 (gh204) (by omega) (by omega) (by omega) (by omega) (by omega) (by omega) (by omega) (by omega) (by omega) (by omega) (by omega) (by omega) (by omega) (by omega) (by omega) (by omega) (by omega) (by omega) (((my_up_fld fh204 (by decide)).trans ((my_up_fld fh201 (by decide)).trans ev165.symm)).trans (by omega)) (((my_up_fld fh204 (by decide)).trans ((my_up_fld fh201 (by decide)).trans ev168.symm)).trans (by omega)) (ev207.symm.trans (by omega)) (ev209.symm.trans (by omega)) ((my_up_self fh204).trans (by omega)) (((my_up_fld fh204 (by decide)).trans ((my_up_fld fh201 (by decide)).trans ((my_up_fld fh163 (by decide)).trans c82_9_0_0))).trans (by omega)) (by omega) (by first | (intro t k a b; rw [sg]; exact dg_181_0 (by omega) k (by omega) (by omega)) | (intro t k a b; rw [sg]; exact dg_138_0 (by omega) k (by omega) (by omega)) | (intro t k a b; rw [sg, ← sg0, sgi k (by omega)]; omega) | (intro t; omega) | (intro t k a b; rw [sg]; rcases (by omega : k = p138_1 ∨ k < p138_1) with q | q <;> first | exact dg_138_0 (by omega) k (by omega) (by omega) | (subst q; omega))) (by first | assumption | omega | (subst_vars; omega)) (by first | assumption | omega | (subst_vars; omega)) (by first | assumption | omega | (subst_vars; omega)) (by omega)
                ·
                  refine w_iconst gz_38_26 (by decide) ?_
                  refine w_iret gz_38_27 gm_38 ?_
                  show wp l rho (d + 1) 37 84 [(2, 82), (9, 0), (9, 0)] [(0, 2), (2, 82)] h163 Q
                  refine w_goto (t := 88) gz_37_84 rfl ?_
                  refine v_putI (j := 6) gz_37_88 rfl is_82 rd_5 rfl (by omega) (by omega) rfl (fun h214 fh214 => ?_)
                  have gh214 : my_fr [(5, 5), (5, 6), (5, 7), (5, 8)] h h214 := my_fr.up gh163 is_82 fh214 rfl
                  refine w_aload_n gz_37_91 rfl ?_
                  refine v_getI (j := 6) gz_37_92 rfl is_82 rd_5 rfl (fun v215 ev215 pv215 qv215 => ?_)
                  have zv215 := ev215.trans (my_up_self fh214)
                  refine w_ifne (t := 99) gz_37_95 rfl (fun u216 => ?_) (fun u216 => by exfalso; omega)
                  refine w_aload_n gz_37_99 rfl ?_
                  refine w_iconst gz_37_100 (by decide) ?_
                  refine v_putI (j := 8) gz_37_101 rfl is_82 rd_5 rfl (by omega) (by omega) rfl (fun h217 fh217 => ?_)
                  have gh217 : my_fr [(5, 5), (5, 6), (5, 7), (5, 8)] h h217 := my_fr.up gh214 is_82 fh217 rfl
                  refine w_aload_n gz_37_104 rfl ?_
                  refine v_getI (j := 6) gz_37_105 rfl is_82 rd_5 rfl (fun v218 ev218 pv218 qv218 => ?_)
                  have zv218 := ev218.trans ((my_up_fld fh217 (by decide)).trans ev215.symm)
                  refine w_iconst gz_37_108 (by decide) ?_
                  refine w_icne (t := 117) gz_37_109 rfl (fun u219 => ?_) (fun u219 => by exfalso; omega)
                  refine w_aload_n gz_37_117 rfl ?_
                  refine v_getI (j := 6) gz_37_118 rfl is_82 rd_5 rfl (fun v220 ev220 pv220 qv220 => ?_)
                  have zv220 := ev220.trans ev218.symm
                  refine w_iconst gz_37_121 (by decide) ?_
                  refine w_icne (t := 129) gz_37_122 rfl (fun u221 => by exfalso; omega) (fun u221 => ?_)
                  refine w_iconst gz_37_125 (by decide) ?_
                  refine w_goto (t := 130) gz_37_126 rfl ?_
                  refine w_istore_n (ls' := [(2, 82), (0, 3), (9, 0)]) gz_37_130 gm_37 rfl rfl rfl ?_
                  refine w_aload_n gz_37_131 rfl ?_
                  refine v_getI (j := 7) gz_37_132 rfl is_82 rd_5 rfl (fun v222 ev222 pv222 qv222 => ?_)
                  have zv222 := ev222.trans ((my_up_fld fh217 (by decide)).trans ((my_up_fld fh214 (by decide)).trans (my_up_self fh163)))
                  refine w_iconst gz_37_135 (by decide) ?_
                  refine w_iadd gz_37_136 ⟨by omega, by omega⟩ ?_
                  refine w_istore_n (ls' := [(2, 82), (0, 3), (0, (v222 + 1))]) gz_37_137 gm_37 rfl rfl rfl ?_
                  have ce223 : h217 82 5 = v168 := ((my_up_fld fh217 (by decide)).trans ((my_up_fld fh214 (by decide)).trans ev168.symm))
                  have ce224 : h217 82 6 = v220 := ev220.symm
                  have ce225 : h217 82 7 = v222 := ev222.symm
                  have ce226 : h217 82 8 = 0 := (my_up_self fh217)
                  have sg : ∀ j : Int, h217 92 j = h0_0 92 j := fun j => ((my_up_role fh217 is_92 is_82 rfl).trans ((my_up_role fh214 is_92 is_82 rfl).trans ((my_up_role fh163 is_92 is_82 rfl).trans (rfl : h0_0 92 j = h0_0 92 j))))
                  exact J138_0 (1001) (3) ((v222 + 1)) (v168) (v220) (p0_1) h217 (gh217) (by omega) (by omega) (by omega) (by omega) (by omega) (by omega) (by omega) (by omega) (by omega) (by omega) (by omega) (by omega) (by omega) (by omega) (by omega) (by omega) (by omega) (by omega) (((my_up_fld fh217 (by decide)).trans ((my_up_fld fh214 (by decide)).trans ev165.symm)).trans (by omega)) (((my_up_fld fh217 (by decide)).trans ((my_up_fld fh214 (by decide)).trans ev168.symm)).trans (by omega)) (ev220.symm.trans (by omega)) (ev222.symm.trans (by omega)) ((my_up_self fh217).trans (by omega)) (((my_up_fld fh217 (by decide)).trans ((my_up_fld fh214 (by decide)).trans ((my_up_fld fh163 (by decide)).trans c82_9_0_0))).trans (by omega)) (by omega) (by first | (intro t k a b; rw [sg]; exact dg_181_0 (by omega) k (by omega) (by omega)) | (intro t k a b; rw [sg]; exact dg_138_0 (by omega) k (by omega) (by omega)) | (intro t k a b; rw [sg, ← sg0, sgi k (by omega)]; omega) | (intro t; omega) | (intro t k a b; rw [sg]; rcases (by omega : k = p138_1 ∨ k < p138_1) with q | q <;> first | exact dg_138_0 (by omega) k (by omega) (by omega) | (subst q; omega))) (by first | assumption | omega | (subst_vars; omega)) (by first | assumption | omega | (subst_vars; omega)) (by first | assumption | omega | (subst_vars; omega)) (by omega)
            ·
              refine w_iload_n gz_38_6 rfl ?_
              refine w_bipush gz_38_7 (by decide) ?_
              refine w_icgt (t := 14) gz_38_9 rfl (fun u227 => ?_) (fun u227 => ?_)
              ·
                refine w_iload_n gz_38_14 rfl ?_
                refine w_bipush gz_38_15 (by decide) ?_
                refine w_iclt (t := 28) gz_38_17 rfl (fun u228 => by exfalso; omega) (fun u228 => ?_)
                refine w_iload_n gz_38_20 rfl ?_
                refine w_bipush gz_38_21 (by decide) ?_
                refine w_icgt (t := 28) gz_38_23 rfl (fun u229 => ?_) (fun u229 => by exfalso; omega)
                refine w_iload_n gz_38_28 rfl ?_
                refine w_bipush gz_38_29 (by decide) ?_
                refine w_icne (t := 38) gz_38_31 rfl (fun u230 => ?_) (fun u230 => by exfalso; omega)
                refine w_iconst gz_38_38 (by decide) ?_
                refine w_iret gz_38_39 gm_38 ?_
                show wp l rho (d + 1) 37 84 [(2, 82), (9, 0), (9, 0)] [(0, 4), (2, 82)] h163 Q
                refine w_goto (t := 88) gz_37_84 rfl ?_
                refine v_putI (j := 6) gz_37_88 rfl is_82 rd_5 rfl (by omega) (by omega) rfl (fun h231 fh231 => ?_)
                have gh231 : my_fr [(5, 5), (5, 6), (5, 7), (5, 8)] h h231 := my_fr.up gh163 is_82 fh231 rfl
                refine w_aload_n gz_37_91 rfl ?_
                refine v_getI (j := 6) gz_37_92 rfl is_82 rd_5 rfl (fun v232 ev232 pv232 qv232 => ?_)
                have zv232 := ev232.trans (my_up_self fh231)
                refine w_ifne (t := 99) gz_37_95 rfl (fun u233 => ?_) (fun u233 => by exfalso; omega)
                refine w_aload_n gz_37_99 rfl ?_
                refine w_iconst gz_37_100 (by decide) ?_
                refine v_putI (j := 8) gz_37_101 rfl is_82 rd_5 rfl (by omega) (by omega) rfl (fun h234 fh234 => ?_)
                have gh234 : my_fr [(5, 5), (5, 6), (5, 7), (5, 8)] h h234 := my_fr.up gh231 is_82 fh234 rfl
                refine w_aload_n gz_37_104 rfl ?_
                refine v_getI (j := 6) gz_37_105 rfl is_82 rd_5 rfl (fun v235 ev235 pv235 qv235 => ?_)
                have zv235 := ev235.trans ((my_up_fld fh234 (by decide)).trans ev232.symm)
                refine w_iconst gz_37_108 (by decide) ?_
                refine w_icne (t := 117) gz_37_109 rfl (fun u236 => ?_) (fun u236 => by exfalso; omega)
                refine w_aload_n gz_37_117 rfl ?_
                refine v_getI (j := 6) gz_37_118 rfl is_82 rd_5 rfl (fun v237 ev237 pv237 qv237 => ?_)
                have zv237 := ev237.trans ev235.symm
                refine w_iconst gz_37_121 (by decide) ?_
                refine w_icne (t := 129) gz_37_122 rfl (fun u238 => ?_) (fun u238 => by exfalso; omega)
                refine w_iconst gz_37_129 (by decide) ?_
                refine w_istore_n (ls' := [(2, 82), (0, 1), (9, 0)]) gz_37_130 gm_37 rfl rfl rfl ?_
                refine w_aload_n gz_37_131 rfl ?_
                refine v_getI (j := 7) gz_37_132 rfl is_82 rd_5 rfl (fun v239 ev239 pv239 qv239 => ?_)
                have zv239 := ev239.trans ((my_up_fld fh234 (by decide)).trans ((my_up_fld fh231 (by decide)).trans (my_up_self fh163)))
                refine w_iconst gz_37_135 (by decide) ?_
                refine w_iadd gz_37_136 ⟨by omega, by omega⟩ ?_
                refine w_istore_n (ls' := [(2, 82), (0, 1), (0, (v239 + 1))]) gz_37_137 gm_37 rfl rfl rfl ?_
                have ce240 : h234 82 5 = v168 := ((my_up_fld fh234 (by decide)).trans ((my_up_fld fh231 (by decide)).trans ev168.symm))
                have ce241 : h234 82 6 = v237 := ev237.symm
                have ce242 : h234 82 7 = v239 := ev239.symm
                have ce243 : h234 82 8 = 0 := (my_up_self fh234)
                have sg : ∀ j : Int, h234 92 j = h0_0 92 j := fun j => ((my_up_role fh234 is_92 is_82 rfl).trans ((my_up_role fh231 is_92 is_82 rfl).trans ((my_up_role fh163 is_92 is_82 rfl).trans (rfl : h0_0 92 j = h0_0 92 j))))
                exact J138_0 (1001) (1) ((v239 + 1)) (v168) (v237) (p0_1) h234 (gh234) (by omega) (by omega) (by omega) (by omega) (by omega) (by omega) (by omega) (by omega) (by omega) (by omega) (by omega) (by omega) (by omega) (by omega) (by omega) (by omega) (by omega) (by omega) (((my_up_fld fh234 (by decide)).trans ((my_up_fld fh231 (by decide)).trans ev165.symm)).trans (by omega)) (((my_up_fld fh234 (by decide)).trans ((my_up_fld fh231 (by decide)).trans ev168.symm)).trans (by omega)) (ev237.symm.trans (by omega)) (ev239.symm.trans (by omega)) ((my_up_self fh234).trans (by omega)) (((my_up_fld fh234 (by decide)).trans ((my_up_fld fh231 (by decide)).trans ((my_up_fld fh163 (by decide)).trans c82_9_0_0))).trans (by omega)) (by omega) (by first | (intro t k a b; rw [sg]; exact dg_181_0 (by omega) k (by omega) (by omega)) | (intro t k a b; rw [sg]; exact dg_138_0 (by omega) k (by omega) (by omega)) | (intro t k a b; rw [sg, ← sg0, sgi k (by omega)]; omega) | (intro t; omega) | (intro t k a b; rw [sg]; rcases (by omega : k = p138_1 ∨ k < p138_1) with q | q <;> first | exact dg_138_0 (by omega) k (by omega) (by omega) | (subst q; omega))) (by first | assumption | omega | (subst_vars; omega)) (by first | assumption | omega | (subst_vars; omega)) (by first | assumption | omega | (subst_vars; omega)) (by omega)
              ·
                refine w_iconst gz_38_12 (by decide) ?_
                refine w_iret gz_38_13 gm_38 ?_
                show wp l rho (d + 1) 37 84 [(2, 82), (9, 0), (9, 0)] [(0, 1), (2, 82)] h163 Q
                refine w_goto (t := 88) gz_37_84 rfl ?_
                refine v_putI (j := 6) gz_37_88 rfl is_82 rd_5 rfl (by omega) (by omega) rfl (fun h244 fh244 => ?_)
                have gh244 : my_fr [(5, 5), (5, 6), (5, 7), (5, 8)] h h244 := my_fr.up gh163 is_82 fh244 rfl
                refine w_aload_n gz_37_91 rfl ?_
                refine v_getI (j := 6) gz_37_92 rfl is_82 rd_5 rfl (fun v245 ev245 pv245 qv245 => ?_)
                have zv245 := ev245.trans (my_up_self fh244)
                refine w_ifne (t := 99) gz_37_95 rfl (fun u246 => ?_) (fun u246 => by exfalso; omega)
                refine w_aload_n gz_37_99 rfl ?_
                refine w_iconst gz_37_100 (by decide) ?_
                refine v_putI (j := 8) gz_37_101 rfl is_82 rd_5 rfl (by omega) (by omega) rfl (fun h247 fh247 => ?_)
                have gh247 : my_fr [(5, 5), (5, 6), (5, 7), (5, 8)] h h247 := my_fr.up gh244 is_82 fh247 rfl
                refine w_aload_n gz_37_104 rfl ?_
                refine v_getI (j := 6) gz_37_105 rfl is_82 rd_5 rfl (fun v248 ev248 pv248 qv248 => ?_)
                have zv248 := ev248.trans ((my_up_fld fh247 (by decide)).trans ev245.symm)
                refine w_iconst gz_37_108 (by decide) ?_
                refine w_icne (t := 117) gz_37_109 rfl (fun u249 => by exfalso; omega) (fun u249 => ?_)
                refine w_bipush gz_37_112 (by decide) ?_
                refine w_goto (t := 130) gz_37_114 rfl ?_
                refine w_istore_n (ls' := [(2, 82), (0, 8), (9, 0)]) gz_37_130 gm_37 rfl rfl rfl ?_
                refine w_aload_n gz_37_131 rfl ?_
                refine v_getI (j := 7) gz_37_132 rfl is_82 rd_5 rfl (fun v250 ev250 pv250 qv250 => ?_)
                have zv250 := ev250.trans ((my_up_fld fh247 (by decide)).trans ((my_up_fld fh244 (by decide)).trans (my_up_self fh163)))
                refine w_iconst gz_37_135 (by decide) ?_
                refine w_iadd gz_37_136 ⟨by omega, by omega⟩ ?_
                refine w_istore_n (ls' := [(2, 82), (0, 8), (0, (v250 + 1))]) gz_37_137 gm_37 rfl rfl rfl ?_
                have ce251 : h247 82 5 = v168 := ((my_up_fld fh247 (by decide)).trans ((my_up_fld fh244 (by decide)).trans ev168.symm))
                have ce252 : h247 82 6 = v248 := ev248.symm
                have ce253 : h247 82 7 = v250 := ev250.symm
                have ce254 : h247 82 8 = 0 := (my_up_self fh247)
                have sg : ∀ j : Int, h247 92 j = h0_0 92 j := fun j => ((my_up_role fh247 is_92 is_82 rfl).trans ((my_up_role fh244 is_92 is_82 rfl).trans ((my_up_role fh163 is_92 is_82 rfl).trans (rfl : h0_0 92 j = h0_0 92 j))))
                exact J138_0 (1001) (8) ((v250 + 1)) (v168) (v248) (p0_1) h247 (gh247) (by omega) (by omega) (by omega) (by omega) (by omega) (by omega) (by omega) (by omega) (by omega) (by omega) (by omega) (by omega) (by omega) (by omega) (by omega) (by omega) (by omega) (by omega) (((my_up_fld fh247 (by decide)).trans ((my_up_fld fh244 (by decide)).trans ev165.symm)).trans (by omega)) (((my_up_fld fh247 (by decide)).trans ((my_up_fld fh244 (by decide)).trans ev168.symm)).trans (by omega)) (ev248.symm.trans (by omega)) (ev250.symm.trans (by omega)) ((my_up_self fh247).trans (by omega)) (((my_up_fld fh247 (by decide)).trans ((my_up_fld fh244 (by decide)).trans ((my_up_fld fh163 (by decide)).trans c82_9_0_0))).trans (by omega)) (by omega) (by first | (intro t k a b; rw [sg]; exact dg_181_0 (by omega) k (by omega) (by omega)) | (intro t k a b; rw [sg]; exact dg_138_0 (by omega) k (by omega) (by omega)) | (intro t k a b; rw [sg, ← sg0, sgi k (by omega)]; omega) | (intro t; omega) | (intro t k a b; rw [sg]; rcases (by omega : k = p138_1 ∨ k < p138_1) with q | q <;> first | exact dg_138_0 (by omega) k (by omega) (by omega) | (subst q; omega))) (by first | assumption | omega | (subst_vars; omega)) (by first | assumption | omega | (subst_vars; omega)) (by first | assumption | omega | (subst_vars; omega)) (by omega)
          ·
            refine w_aload_n gz_37_39 rfl ?_
            refine w_dup gz_37_40 rfl ?_
            refine v_getI (j := 5) gz_37_41 rfl is_82 rd_5 rfl (fun v255 ev255 pv255 qv255 => ?_)
            have zv255 := ev255.trans ev159.symm
            refine w_iconst gz_37_44 (by decide) ?_
            refine w_iadd gz_37_45 ⟨by omega, by omega⟩ ?_
            refine v_putI (j := 5) gz_37_46 rfl is_82 rd_5 rfl (by omega) (by omega) rfl (fun h256 fh256 => ?_)
            have gh256 : my_fr [(5, 5), (5, 6), (5, 7), (5, 8)] h h256 := my_fr.up gh_0_0 is_82 fh256 rfl
            refine w_goto (t := 0) gz_37_49 rfl ?_
            have ce257 : h256 82 5 = (v255 + 1) := (my_up_self fh256)
            exact ih_0_0 ((v255 + 1)) (p0_1) h256 (gh256) (by omega) (by omega) (by omega) (by omega) (by omega) (by omega) (by omega) (by omega) (by omega) (((my_up_fld fh256 (by decide)).trans ev139.symm).trans (by omega)) ((my_up_self fh256).trans (by omega)) (((my_up_fld fh256 (by decide)).trans c82_9_0_0).trans (by omega)) (by omega)
  refine w_aload_n gz_37_0 rfl ?_
  refine v_getI (j := 5) gz_37_1 rfl is_82 rd_5 rfl (fun v258 ev258 pv258 qv258 => ?_)
  have zv258 := ev258.trans ek82_5.symm
  refine w_aload_n gz_37_4 rfl ?_
  refine v_getI (j := 4) gz_37_5 rfl is_82 rd_5 rfl (fun v259 ev259 pv259 qv259 => ?_)
  have zv259 := ev259.trans ek82_4.symm
  refine w_icge (t := 52) gz_37_8 rfl (fun u260 => ?_) (fun u260 => ?_)
  ·
    refine w_aload_n gz_37_52 rfl ?_
    refine w_aload_n gz_37_53 rfl ?_
    refine v_getI (j := 5) gz_37_54 rfl is_82 rd_5 rfl (fun v261 ev261 pv261 qv261 => ?_)
    have zv261 := ev261.trans ev258.symm
    refine v_putI (j := 7) gz_37_57 rfl is_82 rd_5 rfl (by omega) (by omega) rfl (fun h262 fh262 => ?_)
    have gh262 : my_fr [(5, 5), (5, 6), (5, 7), (5, 8)] h h262 := my_fr.up my_fr.rf is_82 fh262 rfl
    refine w_aload_n gz_37_60 rfl ?_
    refine w_aload_n gz_37_61 rfl ?_
    refine v_getI (j := 5) gz_37_62 rfl is_82 rd_5 rfl (fun v263 ev263 pv263 qv263 => ?_)
    have zv263 := ev263.trans ((my_up_fld fh262 (by decide)).trans ev261.symm)
    refine w_aload_n gz_37_65 rfl ?_
    refine v_getI (j := 4) gz_37_66 rfl is_82 rd_5 rfl (fun v264 ev264 pv264 qv264 => ?_)
    have zv264 := ev264.trans ((my_up_fld fh262 (by decide)).trans ev259.symm)
    refine w_icge (t := 87) gz_37_69 rfl (fun u265 => ?_) (fun u265 => by exfalso; omega)
    refine w_iconst gz_37_87 (by decide) ?_
    refine v_putI (j := 6) gz_37_88 rfl is_82 rd_5 rfl (by omega) (by omega) rfl (fun h266 fh266 => ?_)
    have gh266 : my_fr [(5, 5), (5, 6), (5, 7), (5, 8)] h h266 := my_fr.up gh262 is_82 fh266 rfl
    refine w_aload_n gz_37_91 rfl ?_
    refine v_getI (j := 6) gz_37_92 rfl is_82 rd_5 rfl (fun v267 ev267 pv267 qv267 => ?_)
    have zv267 := ev267.trans (my_up_self fh266)
    refine w_ifne (t := 99) gz_37_95 rfl (fun u268 => by exfalso; omega) (fun u268 => ?_)
    have c269 := ev267.symm
    have c270 := ((my_up_fld fh266 (by decide)).trans ((my_up_fld fh262 (by decide)).trans cf))
    exact w_vret gz_37_98 gm_37 (k0 h266 (gh266) (by omega) (by omega) (by omega) (by omega))
  ·
    refine w_aload_n gz_37_11 rfl ?_
    refine w_getX (v := 92) gz_37_12 is_82 rd_5 rfl (by decide) rfl ?_
    refine w_aload_n gz_37_15 rfl ?_
    refine v_getI (j := 5) gz_37_16 rfl is_82 rd_5 rfl (fun v272 ev272 pv272 qv272 => ?_)
    have zv272 := ev272.trans ev258.symm
    refine w_yald gz_37_19 is_92 rd_40 (by omega) (by omega) (fun v273 ev273 pv273 qv273 => ?_)
    refine w_bipush gz_37_20 (by decide) ?_
    refine w_iceq (t := 39) gz_37_22 rfl (fun u274 => ?_) (fun u274 => ?_)
    ·
      refine w_aload_n gz_37_39 rfl ?_
      refine w_dup gz_37_40 rfl ?_
      refine v_getI (j := 5) gz_37_41 rfl is_82 rd_5 rfl (fun v275 ev275 pv275 qv275 => ?_)
      have zv275 := ev275.trans ev272.symm
      refine w_iconst gz_37_44 (by decide) ?_
      refine w_iadd gz_37_45 ⟨by omega, by omega⟩ ?_
      refine v_putI (j := 5) gz_37_46 rfl is_82 rd_5 rfl (by omega) (by omega) rfl (fun h276 fh276 => ?_)
      have gh276 : my_fr [(5, 5), (5, 6), (5, 7), (5, 8)] h h276 := my_fr.up my_fr.rf is_82 fh276 rfl
      refine w_goto (t := 0) gz_37_49 rfl ?_
      have ce277 : h276 82 5 = (v275 + 1) := (my_up_self fh276)
      exact J0_0 (1001) ((v275 + 1)) (xf) h276 (gh276) (by omega) (by omega) (by omega) (by omega) (by omega) (by omega) (by omega) (by omega) (by omega) (((my_up_fld fh276 (by decide)).trans ev259.symm).trans (by omega)) ((my_up_self fh276).trans (by omega)) (((my_up_fld fh276 (by decide)).trans cf).trans (by omega)) (by omega)
    ·
      refine w_aload_n gz_37_25 rfl ?_
      refine w_getX (v := 92) gz_37_26 is_82 rd_5 rfl (by decide) rfl ?_
      refine w_aload_n gz_37_29 rfl ?_
      refine v_getI (j := 5) gz_37_30 rfl is_82 rd_5 rfl (fun v279 ev279 pv279 qv279 => ?_)
      have zv279 := ev279.trans ev272.symm
      refine w_yald gz_37_33 is_92 rd_40 (by omega) (by omega) (fun v280 ev280 pv280 qv280 => ?_)
      have wv280 : v279 = v272 := by omega
      rw [wv280] at ev280
      have zv280 := ev280.trans ev273.symm
      refine w_bipush gz_37_34 (by decide) ?_
      refine w_icne (t := 52) gz_37_36 rfl (fun u281 => ?_) (fun u281 => ?_)
      ·
        refine w_aload_n gz_37_52 rfl ?_
        refine w_aload_n gz_37_53 rfl ?_
        refine v_getI (j := 5) gz_37_54 rfl is_82 rd_5 rfl (fun v282 ev282 pv282 qv282 => ?_)
        have zv282 := ev282.trans ev279.symm
        refine v_putI (j := 7) gz_37_57 rfl is_82 rd_5 rfl (by omega) (by omega) rfl (fun h283 fh283 => ?_)
        have gh283 : my_fr [(5, 5), (5, 6), (5, 7), (5, 8)] h h283 := my_fr.up my_fr.rf is_82 fh283 rfl
        refine w_aload_n gz_37_60 rfl ?_
        refine w_aload_n gz_37_61 rfl ?_
        refine v_getI (j := 5) gz_37_62 rfl is_82 rd_5 rfl (fun v284 ev284 pv284 qv284 => ?_)
        have zv284 := ev284.trans ((my_up_fld fh283 (by decide)).trans ev282.symm)
        refine w_aload_n gz_37_65 rfl ?_
        refine v_getI (j := 4) gz_37_66 rfl is_82 rd_5 rfl (fun v285 ev285 pv285 qv285 => ?_)
        have zv285 := ev285.trans ((my_up_fld fh283 (by decide)).trans ev259.symm)
        refine w_icge (t := 87) gz_37_69 rfl (fun u286 => by exfalso; omega) (fun u286 => ?_)
        refine w_aload_n gz_37_72 rfl ?_
        refine w_getX (v := 92) gz_37_73 is_82 rd_5 rfl (by decide) rfl ?_
        refine w_aload_n gz_37_76 rfl ?_
        refine v_getI (j := 5) gz_37_77 rfl is_82 rd_5 rfl (fun v288 ev288 pv288 qv288 => ?_)
        have zv288 := ev288.trans ev284.symm
        have sg0 : ∀ j : Int, h283 92 j = h 92 j := fun j => ((my_up_role fh283 is_92 is_82 rfl).trans (rfl : h 92 j = h 92 j))
        refine w_yald gz_37_80 is_92 rd_40 (by omega) (by omega) (fun v289 ev289 pv289 qv289 => ?_)
        have wv289 : v288 = v272 := by omega
        rw [wv289] at ev289
        have zv289 := ev289.trans ((my_up_role fh283 is_92 is_82 rfl).trans ev280.symm)
        have sgi : ∀ k : Int, k = v272 → h283 92 k = v289 := fun k q => by rw [q]; omega
        refine w_inS (k := 0) (as := [(0, v289)]) (r := [(2, 82)]) (ls0 := [(0, v289)]) gz_37_81 gm_38 rfl rfl rfl rfl rfl rfl ?_
        refine w_iload_n gz_38_0 rfl ?_
        refine w_bipush gz_38_1 (by decide) ?_
        refine w_iclt (t := 14) gz_38_3 rfl (fun u290 => ?_) (fun u290 => ?_)
        ·
          refine w_iload_n gz_38_14 rfl ?_
          refine w_bipush gz_38_15 (by decide) ?_
          refine w_iclt (t := 28) gz_38_17 rfl (fun u291 => ?_) (fun u291 => ?_)
          ·
            refine w_iload_n gz_38_28 rfl ?_
            refine w_bipush gz_38_29 (by decide) ?_
            refine w_icne (t := 38) gz_38_31 rfl (fun u292 => ?_) (fun u292 => by exfalso; omega)
            refine w_iconst gz_38_38 (by decide) ?_
            refine w_iret gz_38_39 gm_38 ?_
            show wp l rho (d + 1) 37 84 [(2, 82), (9, 0), (9, 0)] [(0, 4), (2, 82)] h283 Q
            refine w_goto (t := 88) gz_37_84 rfl ?_
            refine v_putI (j := 6) gz_37_88 rfl is_82 rd_5 rfl (by omega) (by omega) rfl (fun h293 fh293 => ?_)
            have gh293 : my_fr [(5, 5), (5, 6), (5, 7), (5, 8)] h h293 := my_fr.up gh283 is_82 fh293 rfl
            refine w_aload_n gz_37_91 rfl ?_
            refine v_getI (j := 6) gz_37_92 rfl is_82 rd_5 rfl (fun v294 ev294 pv294 qv294 => ?_)
            have zv294 := ev294.trans (my_up_self fh293)
            refine w_ifne (t := 99) gz_37_95 rfl (fun u295 => ?_) (fun u295 => by exfalso; omega)
            refine w_aload_n gz_37_99 rfl ?_
            refine w_iconst gz_37_100 (by decide) ?_
            refine v_putI (j := 8) gz_37_101 rfl is_82 rd_5 rfl (by omega) (by omega) rfl (fun h296 fh296 => ?_)
            have gh296 : my_fr [(5, 5), (5, 6), (5, 7), (5, 8)] h h296 := my_fr.up gh293 is_82 fh296 rfl
            refine w_aload_n gz_37_104 rfl ?_
            refine v_getI (j := 6) gz_37_105 rfl is_82 rd_5 rfl (fun v297 ev297 pv297 qv297 => ?_)
            have zv297 := ev297.trans ((my_up_fld fh296 (by decide)).trans ev294.symm)
            refine w_iconst gz_37_108 (by decide) ?_
            refine w_icne (t := 117) gz_37_109 rfl (fun u298 => ?_) (fun u298 => by exfalso; omega)
            refine w_aload_n gz_37_117 rfl ?_
            refine v_getI (j := 6) gz_37_118 rfl is_82 rd_5 rfl (fun v299 ev299 pv299 qv299 => ?_)
            have zv299 := ev299.trans ev297.symm
            refine w_iconst gz_37_121 (by decide) ?_
            refine w_icne (t := 129) gz_37_122 rfl (fun u300 => ?_) (fun u300 => by exfalso; omega)
            refine w_iconst gz_37_129 (by decide) ?_
            refine w_istore_n (ls' := [(2, 82), (0, 1), (9, 0)]) gz_37_130 gm_37 rfl rfl rfl ?_
            refine w_aload_n gz_37_131 rfl ?_
            refine v_getI (j := 7) gz_37_132 rfl is_82 rd_5 rfl (fun v301 ev301 pv301 qv301 => ?_)
            have zv301 := ev301.trans ((my_up_fld fh296 (by decide)).trans ((my_up_fld fh293 (by decide)).trans (my_up_self fh283)))
            refine w_iconst gz_37_135 (by decide) ?_
            refine w_iadd gz_37_136 ⟨by omega, by omega⟩ ?_
            refine w_istore_n (ls' := [(2, 82), (0, 1), (0, (v301 + 1))]) gz_37_137 gm_37 rfl rfl rfl ?_
            have ce302 : h296 82 5 = v288 := ((my_up_fld fh296 (by decide)).trans ((my_up_fld fh293 (by decide)).trans ev288.symm))
            have ce303 : h296 82 6 = v299 := ev299.symm
            have ce304 : h296 82 7 = v301 := ev301.symm
            have ce305 : h296 82 8 = 0 := (my_up_self fh296)
            have sg : ∀ j : Int, h296 92 j = h 92 j := fun j => ((my_up_role fh296 is_92 is_82 rfl).trans ((my_up_role fh293 is_92 is_82 rfl).trans ((my_up_role fh283 is_92 is_82 rfl).trans (rfl : h 92 j = h 92 j))))
            exact J138_0 (1001) (1) ((v301 + 1)) (v288) (v299) (xf) h296 (gh296) (by omega) (by omega) (by omega) (by omega) (by omega) (by omega) (by omega) (by omega) (by omega) (by omega) (by omega) (by omega) (by omega) (by omega) (by omega) (by omega) (by omega) (by omega) (((my_up_fld fh296 (by decide)).trans ((my_up_fld fh293 (by decide)).trans ev285.symm)).trans (by omega)) (((my_up_fld fh296 (by decide)).trans ((my_up_fld fh293 (by decide)).trans ev288.symm)).trans (by omega)) (ev299.symm.trans (by omega)) (ev301.symm.trans (by omega)) ((my_up_self fh296).trans (by omega)) (((my_up_fld fh296 (by decide)).trans ((my_up_fld fh293 (by decide)).trans ((my_up_fld fh283 (by decide)).trans cf))).trans (by omega)) (by omega) (by first | (intro t k a b; rw [sg]; exact dg_181_0 (by omega) k (by omega) (by omega)) | (intro t k a b; rw [sg]; exact dg_138_0 (by omega) k (by omega) (by omega)) | (intro t k a b; rw [sg, ← sg0, sgi k (by omega)]; omega) | (intro t; omega) | (intro t k a b; rw [sg]; rcases (by omega : k = p138_1 ∨ k < p138_1) with q | q <;> first | exact dg_138_0 (by omega) k (by omega) (by omega) | (subst q; omega))) (by first | assumption | omega | (subst_vars; omega)) (by first | assumption | omega | (subst_vars; omega)) (by first | assumption | omega | (subst_vars; omega)) (by omega)
          ·
            refine w_iload_n gz_38_20 rfl ?_
            refine w_bipush gz_38_21 (by decide) ?_
            refine w_icgt (t := 28) gz_38_23 rfl (fun u306 => ?_) (fun u306 => ?_)
            ·
              refine w_iload_n gz_38_28 rfl ?_
              refine w_bipush gz_38_29 (by decide) ?_
              refine w_icne (t := 38) gz_38_31 rfl (fun u307 => ?_) (fun u307 => ?_)
              ·
                refine w_iconst gz_38_38 (by decide) ?_
                refine w_iret gz_38_39 gm_38 ?_
                show wp l rho (d + 1) 37 84 [(2, 82), (9, 0), (9, 0)] [(0, 4), (2, 82)] h283 Q
                refine w_goto (t := 88) gz_37_84 rfl ?_
                refine v_putI (j := 6) gz_37_88 rfl is_82 rd_5 rfl (by omega) (by omega) rfl (fun h308 fh308 => ?_)
                have gh308 : my_fr [(5, 5), (5, 6), (5, 7), (5, 8)] h h308 := my_fr.up gh283 is_82 fh308 rfl
                refine w_aload_n gz_37_91 rfl ?_
                refine v_getI (j := 6) gz_37_92 rfl is_82 rd_5 rfl (fun v309 ev309 pv309 qv309 => ?_)
                have zv309 := ev309.trans (my_up_self fh308)
                refine w_ifne (t := 99) gz_37_95 rfl (fun u310 => ?_) (fun u310 => by exfalso; omega)
                refine w_aload_n gz_37_99 rfl ?_
                refine w_iconst gz_37_100 (by decide) ?_
                refine v_putI (j := 8) gz_37_101 rfl is_82 rd_5 rfl (by omega) (by omega) rfl (fun h311 fh311 => ?_)
                have gh311 : my_fr [(5, 5), (5, 6), (5, 7), (5, 8)] h h311 := my_fr.up gh308 is_82 fh311 rfl
                refine w_aload_n gz_37_104 rfl ?_
                refine v_getI (j := 6) gz_37_105 rfl is_82 rd_5 rfl (fun v312 ev312 pv312 qv312 => ?_)
                have zv312 := ev312.trans ((my_up_fld fh311 (by decide)).trans ev309.symm)
                refine w_iconst gz_37_108 (by decide) ?_
                refine w_icne (t := 117) gz_37_109 rfl (fun u313 => ?_) (fun u313 => by exfalso; omega)
                refine w_aload_n gz_37_117 rfl ?_
                refine v_getI (j := 6) gz_37_118 rfl is_82 rd_5 rfl (fun v314 ev314 pv314 qv314 => ?_)
                have zv314 := ev314.trans ev312.symm
                refine w_iconst gz_37_121 (by decide) ?_
                refine w_icne (t := 129) gz_37_122 rfl (fun u315 => ?_) (fun u315 => by exfalso; omega)
                refine w_iconst gz_37_129 (by decide) ?_
                refine w_istore_n (ls' := [(2, 82), (0, 1), (9, 0)]) gz_37_130 gm_37 rfl rfl rfl ?_
                refine w_aload_n gz_37_131 rfl ?_
                refine v_getI (j := 7) gz_37_132 rfl is_82 rd_5 rfl (fun v316 ev316 pv316 qv316 => ?_)
                have zv316 := ev316.trans ((my_up_fld fh311 (by decide)).trans ((my_up_fld fh308 (by decide)).trans (my_up_self fh283)))
                refine w_iconst gz_37_135 (by decide) ?_
                refine w_iadd gz_37_136 ⟨by omega, by omega⟩ ?_
                refine w_istore_n (ls' := [(2, 82), (0, 1), (0, (v316 + 1))]) gz_37_137 gm_37 rfl rfl rfl ?_
                have ce317 : h311 82 5 = v288 := ((my_up_fld fh311 (by decide)).trans ((my_up_fld fh308 (by decide)).trans ev288.symm))
                have ce318 : h311 82 6 = v314 := ev314.symm
                have ce319 : h311 82 7 = v316 := ev316.symm
                have ce320 : h311 82 8 = 0 := (my_up_self fh311)
                have sg : ∀ j : Int, h311 92 j = h 92 j := fun j => ((my_up_role fh311 is_92 is_82 rfl).trans ((my_up_role fh308 is_92 is_82 rfl).trans ((my_up_role fh283 is_92 is_82 rfl).trans (rfl : h 92 j = h 92 j))))
                exact J138_0 (1001) (1) ((v316 + 1)) (v288) (v314) (xf) h311 (gh311) (by omega) (by omega) (by omega) (by omega) (by omega) (by omega) (by omega) (by omega) (by omega) (by omega) (by omega) (by omega) (by omega) (by omega) (by omega) (by omega) (by omega) (by omega) (((my_up_fld fh311 (by decide)).trans ((my_up_fld fh308 (by decide)).trans ev285.symm)).trans (by omega)) (((my_up_fld fh311 (by decide)).trans ((my_up_fld fh308 (by decide)).trans ev288.symm)).trans (by omega)) (ev314.symm.trans (by omega)) (ev316.symm.trans (by omega)) ((my_up_self fh311).trans (by omega)) (((my_up_fld fh311 (by decide)).trans ((my_up_fld fh308 (by decide)).trans ((my_up_fld fh283 (by decide)).trans cf))).trans (by omega)) (by omega) (by first | (intro t k a b; rw [sg]; exact dg_181_0 (by omega) k (by omega) (by omega)) | (intro t k a b; rw [sg]; exact dg_138_0 (by omega) k (by omega) (by omega)) | (intro t k a b; rw [sg, ← sg0, sgi k (by omega)]; omega) | (intro t; omega) | (intro t k a b; rw [sg]; rcases (by omega : k = p138_1 ∨ k < p138_1) with q | q <;> first | exact dg_138_0 (by omega) k (by omega) (by omega) | (subst q; omega))) (by first | assumption | omega | (subst_vars; omega)) (by first | assumption | omega | (subst_vars; omega)) (by first | assumption | omega | (subst_vars; omega)) (by omega)
              ·
                refine w_iconst gz_38_34 (by decide) ?_
                refine w_goto (t := 39) gz_38_35 rfl ?_
                refine w_iret gz_38_39 gm_38 ?_
                show wp l rho (d + 1) 37 84 [(2, 82), (9, 0), (9, 0)] [(0, 3), (2, 82)] h283 Q
                refine w_goto (t := 88) gz_37_84 rfl ?_
                refine v_putI (j := 6) gz_37_88 rfl is_82 rd_5 rfl (by omega) (by omega) rfl (fun h321 fh321 => ?_)
                have gh321 : my_fr [(5, 5), (5, 6), (5, 7), (5, 8)] h h321 := my_fr.up gh283 is_82 fh321 rfl
                refine w_aload_n gz_37_91 rfl ?_
                refine v_getI (j := 6) gz_37_92 rfl is_82 rd_5 rfl (fun v322 ev322 pv322 qv322 => ?_)
                have zv322 := ev322.trans (my_up_self fh321)
                refine w_ifne (t := 99) gz_37_95 rfl (fun u323 => ?_) (fun u323 => by exfalso; omega)
                refine w_aload_n gz_37_99 rfl ?_
                refine w_iconst gz_37_100 (by decide) ?_
                refine v_putI (j := 8) gz_37_101 rfl is_82 rd_5 rfl (by omega) (by omega) rfl (fun h324 fh324 => ?_)
                have gh324 : my_fr [(5, 5), (5, 6), (5, 7), (5, 8)] h h324 := my_fr.up gh321 is_82 fh324 rfl
                refine w_aload_n gz_37_104 rfl ?_
                refine v_getI (j := 6) gz_37_105 rfl is_82 rd_5 rfl (fun v325 ev325 pv325 qv325 => ?_)
                have zv325 := ev325.trans ((my_up_fld fh324 (by decide)).trans ev322.symm)
                refine w_iconst gz_37_108 (by decide) ?_
                refine w_icne (t := 117) gz_37_109 rfl (fun u326 => ?_) (fun u326 => by exfalso; omega)
                refine w_aload_n gz_37_117 rfl ?_
                refine v_getI (j := 6) gz_37_118 rfl is_82 rd_5 rfl (fun v327 ev327 pv327 qv327 => ?_)
                have zv327 := ev327.trans ev325.symm
                refine w_iconst gz_37_121 (by decide) ?_
                refine w_icne (t := 129) gz_37_122 rfl (fun u328 => ?_) (fun u328 => by exfalso; omega)
                refine w_iconst gz_37_129 (by decide) ?_
                refine w_istore_n (ls' := [(2, 82), (0, 1), (9, 0)]) gz_37_130 gm_37 rfl rfl rfl ?_
                refine w_aload_n gz_37_131 rfl ?_
                refine v_getI (j := 7) gz_37_132 rfl is_82 rd_5 rfl (fun v329 ev329 pv329 qv329 => ?_)
                have zv329 := ev329.trans ((my_up_fld fh324 (by decide)).trans ((my_up_fld fh321 (by decide)).trans (my_up_self fh283)))
                refine w_iconst gz_37_135 (by decide) ?_
                refine w_iadd gz_37_136 ⟨by omega, by omega⟩ ?_
                refine w_istore_n (ls' := [(2, 82), (0, 1), (0, (v329 + 1))]) gz_37_137 gm_37 rfl rfl rfl ?_
                have ce330 : h324 82 5 = v288 := ((my_up_fld fh324 (by decide)).trans ((my_up_fld fh321 (by decide)).trans ev288.symm))
                have ce331 : h324 82 6 = v327 := ev327.symm
                have ce332 : h324 82 7 = v329 := ev329.symm
                have ce333 : h324 82 8 = 0 := (my_up_self fh324)
                have sg : ∀ j : Int, h324 92 j = h 92 j := fun j => ((my_up_role fh324 is_92 is_82 rfl).trans ((my_up_role fh321 is_92 is_82 rfl).trans ((my_up_role fh283 is_92 is_82 rfl).trans (rfl : h 92 j = h 92 j))))
                exact J138_0 (1001) (1) ((v329 + 1)) (v288) (v327) (xf) h324 (gh324) (by omega) (by omega) (by omega) (by omega) (by omega) (by omega) (by omega) (by omega) (by omega) (by omega) (by omega) (by omega) (by omega) (by omega) (by omega) (by omega) (by omega) (by omega) (((my_up_fld fh324 (by decide)).trans ((my_up_fld fh321 (by decide)).trans ev285.symm)).trans (by omega)) (((my_up_fld fh324 (by decide)).trans ((my_up_fld fh321 (by decide)).trans ev288.symm)).trans (by omega)) (ev327.symm.trans (by omega)) (ev329.symm.trans (by omega)) ((my_up_self fh324).trans (by omega)) (((my_up_fld fh324 (by decide)).trans ((my_up_fld fh321 (by decide)).trans ((my_up_fld fh283 (by decide)).trans cf))).trans (by omega)) (by omega) (by first | (intro t k a b; rw [sg]; exact dg_181_0 (by omega) k (by omega) (by omega)) | (intro t k a b; rw [sg]; exact dg_138_0 (by omega) k (by omega) (by omega)) | (intro t k a b; rw [sg, ← sg0, sgi k (by omega)]; omega) | (intro t; omega) | (intro t k a b; rw [sg]; rcases (by omega : k = p138_1 ∨ k < p138_1) with q | q <;> first | exact dg_138_0 (by omega) k (by omega) (by omega) | (subst q; omega))) (by first | assumption | omega | (subst_vars; omega)) (by first | assumption | omega | (subst_vars; omega)) (by first | assumption | omega | (subst_vars; omega)) (by omega)
            ·
              refine w_iconst gz_38_26 (by decide) ?_
              refine w_iret gz_38_27 gm_38 ?_
              show wp l rho (d + 1) 37 84 [(2, 82), (9, 0), (9, 0)] [(0, 2), (2, 82)] h283 Q
              refine w_goto (t := 88) gz_37_84 rfl ?_
              refine v_putI (j := 6) gz_37_88 rfl is_82 rd_5 rfl (by omega) (by omega) rfl (fun h334 fh334 => ?_)
              have gh334 : my_fr [(5, 5), (5, 6), (5, 7), (5, 8)] h h334 := my_fr.up gh283 is_82 fh334 rfl
              refine w_aload_n gz_37_91 rfl ?_
              refine v_getI (j := 6) gz_37_92 rfl is_82 rd_5 rfl (fun v335 ev335 pv335 qv335 => ?_)
              have zv335 := ev335.trans (my_up_self fh334)
              refine w_ifne (t := 99) gz_37_95 rfl (fun u336 => ?_) (fun u336 => by exfalso; omega)
              refine w_aload_n gz_37_99 rfl ?_
              refine w_iconst gz_37_100 (by decide) ?_
              refine v_putI (j := 8) gz_37_101 rfl is_82 rd_5 rfl (by omega) (by omega) rfl (fun h337 fh337 => ?_)
              have gh337 : my_fr [(5, 5), (5, 6), (5, 7), (5, 8)] h h337 := my_fr.up gh334 is_82 fh337 rfl
              refine w_aload_n gz_37_104 rfl ?_
              refine v_getI (j := 6) gz_37_105 rfl is_82 rd_5 rfl (fun v338 ev338 pv338 qv338 => ?_)
              have zv338 := ev338.trans ((my_up_fld fh337 (by decide)).trans ev335.symm)
              refine w_iconst gz_37_108 (by decide) ?_
              refine w_icne (t := 117) gz_37_109 rfl (fun u339 => ?_) (fun u339 => by exfalso; omega)
              refine w_aload_n gz_37_117 rfl ?_
              refine v_getI (j := 6) gz_37_118 rfl is_82 rd_5 rfl (fun v340 ev340 pv340 qv340 => ?_)
              have zv340 := ev340.trans ev338.symm
              refine w_iconst gz_37_121 (by decide) ?_
              refine w_icne (t := 129) gz_37_122 rfl (fun u341 => by exfalso; omega) (fun u341 => ?_)
              refine w_iconst gz_37_125 (by decide) ?_
              refine w_goto (t := 130) gz_37_126 rfl ?_
              refine w_istore_n (ls' := [(2, 82), (0, 3), (9, 0)]) gz_37_130 gm_37 rfl rfl rfl ?_
              refine w_aload_n gz_37_131 rfl ?_
              refine v_getI (j := 7) gz_37_132 rfl is_82 rd_5 rfl (fun v342 ev342 pv342 qv342 => ?_)
              have zv342 := ev342.trans ((my_up_fld fh337 (by decide)).trans ((my_up_fld fh334 (by decide)).trans (my_up_self fh283)))
              refine w_iconst gz_37_135 (by decide) ?_
              refine w_iadd gz_37_136 ⟨by omega, by omega⟩ ?_
              refine w_istore_n (ls' := [(2, 82), (0, 3), (0, (v342 + 1))]) gz_37_137 gm_37 rfl rfl rfl ?_
              have ce343 : h337 82 5 = v288 := ((my_up_fld fh337 (by decide)).trans ((my_up_fld fh334 (by decide)).trans ev288.symm))
              have ce344 : h337 82 6 = v340 := ev340.symm
              have ce345 : h337 82 7 = v342 := ev342.symm
              have ce346 : h337 82 8 = 0 := (my_up_self fh337)
              have sg : ∀ j : Int, h337 92 j = h 92 j := fun j => ((my_up_role fh337 is_92 is_82 rfl).trans ((my_up_role fh334 is_92 is_82 rfl).trans ((my_up_role fh283 is_92 is_82 rfl).trans (rfl : h 92 j = h 92 j))))
              exact J138_0 (1001) (3) ((v342 + 1)) (v288) (v340) (xf) h337 (gh337) (by omega) (by omega) (by omega) (by omega) (by omega) (by omega) (by omega) (by omega) (by omega) (by omega) (by omega) (by omega) (by omega) (by omega) (by omega) (by omega) (by omega) (by omega) (((my_up_fld fh337 (by decide)).trans ((my_up_fld fh334 (by decide)).trans ev285.symm)).trans (by omega)) (((my_up_fld fh337 (by decide)).trans ((my_up_fld fh334 (by decide)).trans ev288.symm)).trans (by omega)) (ev340.symm.trans (by omega)) (ev342.symm.trans (by omega)) ((my_up_self fh337).trans (by omega)) (((my_up_fld fh337 (by decide)).trans ((my_up_fld fh334 (by decide)).trans ((my_up_fld fh283 (by decide)).trans cf))).trans (by omega)) (by omega) (by first | (intro t k a b; rw [sg]; exact dg_181_0 (by omega) k (by omega) (by omega)) | (intro t k a b; rw [sg]; exact dg_138_0 (by omega) k (by omega) (by omega)) | (intro t k a b; rw [sg, ← sg0, sgi k (by omega)]; omega) | (intro t; omega) | (intro t k a b; rw [sg]; rcases (by omega : k = p138_1 ∨ k < p138_1) with q | q <;> first | exact dg_138_0 (by omega) k (by omega) (by omega) | (subst q; omega))) (by first | assumption | omega | (subst_vars; omega)) (by first | assumption | omega | (subst_vars; omega)) (by first | assumption | omega | (subst_vars; omega)) (by omega)
        ·
          refine w_iload_n gz_38_6 rfl ?_
          refine w_bipush gz_38_7 (by decide) ?_
          refine w_icgt (t := 14) gz_38_9 rfl (fun u347 => ?_) (fun u347 => ?_)
          ·
            refine w_iload_n gz_38_14 rfl ?_
            refine w_bipush gz_38_15 (by decide) ?_
            refine w_iclt (t := 28) gz_38_17 rfl (fun u348 => by exfalso; omega) (fun u348 => ?_)
            refine w_iload_n gz_38_20 rfl ?_
            refine w_bipush gz_38_21 (by decide) ?_
            refine w_icgt (t := 28) gz_38_23 rfl (fun u349 => ?_) (fun u349 => by exfalso; omega)
            refine w_iload_n gz_38_28 rfl ?_
            refine w_bipush gz_38_29 (by decide) ?_
            refine w_icne (t := 38) gz_38_31 rfl (fun u350 => ?_) (fun u350 => by exfalso; omega)
            refine w_iconst gz_38_38 (by decide) ?_
            refine w_iret gz_38_39 gm_38 ?_
            show wp l rho (d + 1) 37 84 [(2, 82), (9, 0), (9, 0)] [(0, 4), (2, 82)] h283 Q
            refine w_goto (t := 88) gz_37_84 rfl ?_
            refine v_putI (j := 6) gz_37_88 rfl is_82 rd_5 rfl (by omega) (by omega) rfl (fun h351 fh351 => ?_)
            have gh351 : my_fr [(5, 5), (5, 6), (5, 7), (5, 8)] h h351 := my_fr.up gh283 is_82 fh351 rfl
            refine w_aload_n gz_37_91 rfl ?_
            refine v_getI (j := 6) gz_37_92 rfl is_82 rd_5 rfl (fun v352 ev352 pv352 qv352 => ?_)
            have zv352 := ev352.trans (my_up_self fh351)
            refine w_ifne (t := 99) gz_37_95 rfl (fun u353 => ?_) (fun u353 => by exfalso; omega)
            refine w_aload_n gz_37_99 rfl ?_
            refine w_iconst gz_37_100 (by decide) ?_
            refine v_putI (j := 8) gz_37_101 rfl is_82 rd_5 rfl (by omega) (by omega) rfl (fun h354 fh354 => ?_)
            have gh354 : my_fr [(5, 5), (5, 6), (5, 7), (5, 8)] h h354 := my_fr.up gh351 is_82 fh354 rfl
            refine w_aload_n gz_37_104 rfl ?_
            refine v_getI (j := 6) gz_37_105 rfl is_82 rd_5 rfl (fun v355 ev355 pv355 qv355 => ?_)
            have zv355 := ev355.trans ((my_up_fld fh354 (by decide)).trans ev352.symm)
            refine w_iconst gz_37_108 (by decide) ?_
            refine w_icne (t := 117) gz_37_109 rfl (fun u356 => ?_) (fun u356 => by exfalso; omega)
            refine w_aload_n gz_37_117 rfl ?_
            refine v_getI (j := 6) gz_37_118 rfl is_82 rd_5 rfl (fun v357 ev357 pv357 qv357 => ?_)
            have zv357 := ev357.trans ev355.symm
            refine w_iconst gz_37_121 (by decide) ?_
            refine w_icne (t := 129) gz_37_122 rfl (fun u358 => ?_) (fun u358 => by exfalso; omega)
            refine w_iconst gz_37_129 (by decide) ?_
            refine w_istore_n (ls' := [(2, 82), (0, 1), (9, 0)]) gz_37_130 gm_37 rfl rfl rfl ?_
            refine w_aload_n gz_37_131 rfl ?_
            refine v_getI (j := 7) gz_37_132 rfl is_82 rd_5 rfl (fun v359 ev359 pv359 qv359 => ?_)
            have zv359 := ev359.trans ((my_up_fld fh354 (by decide)).trans ((my_up_fld fh351 (by decide)).trans (my_up_self fh283)))
            refine w_iconst gz_37_135 (by decide) ?_
            refine w_iadd gz_37_136 ⟨by omega, by omega⟩ ?_
            refine w_istore_n (ls' := [(2, 82), (0, 1), (0, (v359 + 1))]) gz_37_137 gm_37 rfl rfl rfl ?_
            have ce360 : h354 82 5 = v288 := ((my_up_fld fh354 (by decide)).trans ((my_up_fld fh351 (by decide)).trans ev288.symm))
            have ce361 : h354 82 6 = v357 := ev357.symm
            have ce362 : h354 82 7 = v359 := ev359.symm
            have ce363 : h354 82 8 = 0 := (my_up_self fh354)
            have sg : ∀ j : Int, h354 92 j = h 92 j := fun j => ((my_up_role fh354 is_92 is_82 rfl).trans ((my_up_role fh351 is_92 is_82 rfl).trans ((my_up_role fh283 is_92 is_82 rfl).trans (rfl : h 92 j = h 92 j))))
            exact J138_0 (1001) (1) ((v359 + 1)) (v288) (v357) (xf) h354 (gh354) (by omega) (by omega) (by omega) (by omega) (by omega) (by omega) (by omega) (by omega) (by omega) (by omega) (by omega) (by omega) (by omega) (by omega) (by omega) (by omega) (by omega) (by omega) (((my_up_fld fh354 (by decide)).trans ((my_up_fld fh351 (by decide)).trans ev285.symm)).trans (by omega)) (((my_up_fld fh354 (by decide)).trans ((my_up_fld fh351 (by decide)).trans ev288.symm)).trans (by omega)) (ev357.symm.trans (by omega)) (ev359.symm.trans (by omega)) ((my_up_self fh354).trans (by omega)) (((my_up_fld fh354 (by decide)).trans ((my_up_fld fh351 (by decide)).trans ((my_up_fld fh283 (by decide)).trans cf))).trans (by omega)) (by omega) (by first | (intro t k a b; rw [sg]; exact dg_181_0 (by omega) k (by omega) (by omega)) | (intro t k a b; rw [sg]; exact dg_138_0 (by omega) k (by omega) (by omega)) | (intro t k a b; rw [sg, ← sg0, sgi k (by omega)]; omega) | (intro t; omega) | (intro t k a b; rw [sg]; rcases (by omega : k = p138_1 ∨ k < p138_1) with q | q <;> first | exact dg_138_0 (by omega) k (by omega) (by omega) | (subst q; omega))) (by first | assumption | omega | (subst_vars; omega)) (by first | assumption | omega | (subst_vars; omega)) (by first | assumption | omega | (subst_vars; omega)) (by omega)
          ·
            refine w_iconst gz_38_12 (by decide) ?_
            refine w_iret gz_38_13 gm_38 ?_
            show wp l rho (d + 1) 37 84 [(2, 82), (9, 0), (9, 0)] [(0, 1), (2, 82)] h283 Q
            refine w_goto (t := 88) gz_37_84 rfl ?_
            refine v_putI (j := 6) gz_37_88 rfl is_82 rd_5 rfl (by omega) (by omega) rfl (fun h364 fh364 => ?_)
            have gh364 : my_fr [(5, 5), (5, 6), (5, 7), (5, 8)] h h364 := my_fr.up gh283 is_82 fh364 rfl
            refine w_aload_n gz_37_91 rfl ?_
            refine v_getI (j := 6) gz_37_92 rfl is_82 rd_5 rfl (fun v365 ev365 pv365 qv365 => ?_)
            have zv365 := ev365.trans (my_up_self fh364)
            refine w_ifne (t := 99) gz_37_95 rfl (fun u366 => ?_) (fun u366 => by exfalso; omega)
            refine w_aload_n gz_37_99 rfl ?_
            refine w_iconst gz_37_100 (by decide) ?_
            refine v_putI (j := 8) gz_37_101 rfl is_82 rd_5 rfl (by omega) (by omega) rfl (fun h367 fh367 => ?_)
            have gh367 : my_fr [(5, 5), (5, 6), (5, 7), (5, 8)] h h367 := my_fr.up gh364 is_82 fh367 rfl
            refine w_aload_n gz_37_104 rfl ?_
            refine v_getI (j := 6) gz_37_105 rfl is_82 rd_5 rfl (fun v368 ev368 pv368 qv368 => ?_)
            have zv368 := ev368.trans ((my_up_fld fh367 (by decide)).trans ev365.symm)
            refine w_iconst gz_37_108 (by decide) ?_
            refine w_icne (t := 117) gz_37_109 rfl (fun u369 => by exfalso; omega) (fun u369 => ?_)
            refine w_bipush gz_37_112 (by decide) ?_
            refine w_goto (t := 130) gz_37_114 rfl ?_
            refine w_istore_n (ls' := [(2, 82), (0, 8), (9, 0)]) gz_37_130 gm_37 rfl rfl rfl ?_
            refine w_aload_n gz_37_131 rfl ?_
            refine v_getI (j := 7) gz_37_132 rfl is_82 rd_5 rfl (fun v370 ev370 pv370 qv370 => ?_)
            have zv370 := ev370.trans ((my_up_fld fh367 (by decide)).trans ((my_up_fld fh364 (by decide)).trans (my_up_self fh283)))
            refine w_iconst gz_37_135 (by decide) ?_
            refine w_iadd gz_37_136 ⟨by omega, by omega⟩ ?_
            refine w_istore_n (ls' := [(2, 82), (0, 8), (0, (v370 + 1))]) gz_37_137 gm_37 rfl rfl rfl ?_
            have ce371 : h367 82 5 = v288 := ((my_up_fld fh367 (by decide)).trans ((my_up_fld fh364 (by decide)).trans ev288.symm))
            have ce372 : h367 82 6 = v368 := ev368.symm
            have ce373 : h367 82 7 = v370 := ev370.symm
            have ce374 : h367 82 8 = 0 := (my_up_self fh367)
            have sg : ∀ j : Int, h367 92 j = h 92 j := fun j => ((my_up_role fh367 is_92 is_82 rfl).trans ((my_up_role fh364 is_92 is_82 rfl).trans ((my_up_role fh283 is_92 is_82 rfl).trans (rfl : h 92 j = h 92 j))))
            exact J138_0 (1001) (8) ((v370 + 1)) (v288) (v368) (xf) h367 (gh367) (by omega) (by omega) (by omega) (by omega) (by omega) (by omega) (by omega) (by omega) (by omega) (by omega) (by omega) (by omega) (by omega) (by omega) (by omega) (by omega) (by omega) (by omega) (((my_up_fld fh367 (by decide)).trans ((my_up_fld fh364 (by decide)).trans ev285.symm)).trans (by omega)) (((my_up_fld fh367 (by decide)).trans ((my_up_fld fh364 (by decide)).trans ev288.symm)).trans (by omega)) (ev368.symm.trans (by omega)) (ev370.symm.trans (by omega)) ((my_up_self fh367).trans (by omega)) (((my_up_fld fh367 (by decide)).trans ((my_up_fld fh364 (by decide)).trans ((my_up_fld fh283 (by decide)).trans cf))).trans (by omega)) (by omega) (by first | (intro t k a b; rw [sg]; exact dg_181_0 (by omega) k (by omega) (by omega)) | (intro t k a b; rw [sg]; exact dg_138_0 (by omega) k (by omega) (by omega)) | (intro t k a b; rw [sg, ← sg0, sgi k (by omega)]; omega) | (intro t; omega) | (intro t k a b; rw [sg]; rcases (by omega : k = p138_1 ∨ k < p138_1) with q | q <;> first | exact dg_138_0 (by omega) k (by omega) (by omega) | (subst q; omega))) (by first | assumption | omega | (subst_vars; omega)) (by first | assumption | omega | (subst_vars; omega)) (by first | assumption | omega | (subst_vars; omega)) (by omega)
      ·
        refine w_aload_n gz_37_39 rfl ?_
        refine w_dup gz_37_40 rfl ?_
        refine v_getI (j := 5) gz_37_41 rfl is_82 rd_5 rfl (fun v375 ev375 pv375 qv375 => ?_)
        have zv375 := ev375.trans ev279.symm
        refine w_iconst gz_37_44 (by decide) ?_
        refine w_iadd gz_37_45 ⟨by omega, by omega⟩ ?_
        refine v_putI (j := 5) gz_37_46 rfl is_82 rd_5 rfl (by omega) (by omega) rfl (fun h376 fh376 => ?_)
        have gh376 : my_fr [(5, 5), (5, 6), (5, 7), (5, 8)] h h376 := my_fr.up my_fr.rf is_82 fh376 rfl
        refine w_goto (t := 0) gz_37_49 rfl ?_
        have ce377 : h376 82 5 = (v375 + 1) := (my_up_self fh376)
        exact J0_0 (1001) ((v375 + 1)) (xf) h376 (gh376) (by omega) (by omega) (by omega) (by omega) (by omega) (by omega) (by omega) (by omega) (by omega) (((my_up_fld fh376 (by decide)).trans ev259.symm).trans (by omega)) ((my_up_self fh376).trans (by omega)) (((my_up_fld fh376 (by decide)).trans cf).trans (by omega)) (by omega)
end MYN0
