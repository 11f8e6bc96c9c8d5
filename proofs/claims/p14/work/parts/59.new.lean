/-! contracts, printed by wip/gen/gy.py -/
section MYGN
theorem c_Desk_isChangeable {l : Launch} {rho : Nat → Int32} {d : Nat} {h : my_H} {Q : my_H → my_V → Prop} {x1 : Int} (t1 : my_is 4 x1) (hc0 : 0 ≤ h 111 2) (k0 : Q h (0, 0)) (k1 : Q h (0, 1)) : wp l rho (d + 1) 101 0 [(2, 94), (2, x1)] [] h Q := by
  refine w_aload_n gz_101_0 rfl ?_
  refine w_getX (v := 111) gz_101_1 is_94 rd_2 rfl (by decide) rfl ?_
  refine v_getI (j := 4) gz_101_4 rfl is_111 rd_7 rfl (fun v2 ev2 pv2 qv2 => ?_)
  refine w_ifle (t := 81) gz_101_7 rfl (fun u3 => ?_) (fun u3 => ?_)
  ·
    refine w_iconst gz_101_81 (by decide) ?_
    exact w_bret gz_101_82 gm_101 (by omega) (by omega) (k0 )
  ·
    refine w_aload_n gz_101_10 rfl ?_
    refine w_getX (v := 111) gz_101_11 is_94 rd_2 rfl (by decide) rfl ?_
    refine v_getI (j := 4) gz_101_14 rfl is_111 rd_7 rfl (fun v5 ev5 pv5 qv5 => ?_)
    have zv5 := ev5.trans ev2.symm
    refine w_aload_n gz_101_17 rfl ?_
    refine w_getX (v := 1) gz_101_18 is_94 rd_2 rfl (by decide) rfl ?_
    refine w_getX (v := 2) gz_101_21 is_1 rd_3 rfl (by decide) rfl ?_
    refine w_aload_n gz_101_24 rfl ?_
    refine w_getX (v := 111) gz_101_25 is_94 rd_2 rfl (by decide) rfl ?_
    refine v_getI (j := 2) gz_101_28 rfl is_111 rd_7 rfl (fun v9 ev9 pv9 qv9 => ?_)
    have hi10 : 0 ≤ v9 := by omega
    have hi11 : v9 ≤ 2 := by omega
    refine w_iald gz_101_31 is_2 rd_25 (by omega) (by omega) (fun v12 ev12 pv12 qv12 => ?_)
    refine w_icge (t := 81) gz_101_32 rfl (fun u13 => ?_) (fun u13 => ?_)
    ·
      refine w_iconst gz_101_81 (by decide) ?_
      exact w_bret gz_101_82 gm_101 (by omega) (by omega) (k0 )
    ·
      refine w_aload_n gz_101_35 rfl ?_
      refine v_getI (j := 6) gz_101_36 rfl t1 rd_4 rfl (fun v14 ev14 pv14 qv14 => ?_)
      refine w_i2l gz_101_39 ?_
      refine w_aload_n gz_101_40 rfl ?_
      refine w_getX (v := 111) gz_101_41 is_94 rd_2 rfl (by decide) rfl ?_
      refine v_getI (j := 2) gz_101_44 rfl is_111 rd_7 rfl (fun v16 ev16 pv16 qv16 => ?_)
      have zv16 := ev16.trans ev9.symm
      refine w_inS (k := 0) (as := [(0, v16), (1, v14)]) (r := []) (ls0 := [(1, v14), (9, 0), (0, v16)]) gz_101_47 gm_69 rfl rfl rfl rfl rfl rfl ?_
      refine w_lload_n gz_69_0 rfl ?_
      refine w_iload_n gz_69_1 rfl ?_
      refine w_jshf gz_69_2 (fun _ => rfl) rfl (fun v17 pv17 => ?_)
      refine w_lconst gz_69_3 ?_
      refine w_jany2 gz_69_4 (fun _ => rfl) rfl (fun v18 pv18 => ?_)
      refine w_lconst gz_69_5 ?_
      refine w_lcmp gz_69_6 (fun v19 pv19 qv19 => ?_)
      refine w_ifeq (t := 14) gz_69_7 rfl (fun u20 => ?_) (fun u20 => ?_)
      ·
        refine w_iconst gz_69_14 (by decide) ?_
        refine w_bret gz_69_15 gm_69 (by omega) (by omega) ?_
        show wp l rho (d + 1) 101 50 [(2, 94), (2, x1)] [(0, 0)] h Q
        refine w_ifeq (t := 81) gz_101_50 rfl (fun u21 => ?_) (fun u21 => by exfalso; omega)
        refine w_iconst gz_101_81 (by decide) ?_
        exact w_bret gz_101_82 gm_101 (by omega) (by omega) (k0 )
      ·
        refine w_iconst gz_69_10 (by decide) ?_
        refine w_goto (t := 15) gz_69_11 rfl ?_
        refine w_bret gz_69_15 gm_69 (by omega) (by omega) ?_
        show wp l rho (d + 1) 101 50 [(2, 94), (2, x1)] [(0, 1)] h Q
        refine w_ifeq (t := 81) gz_101_50 rfl (fun u22 => by exfalso; omega) (fun u22 => ?_)
        refine w_aload_n gz_101_53 rfl ?_
        refine w_getX (v := 95) gz_101_54 is_94 rd_2 rfl (by decide) rfl ?_
        refine w_aload_n gz_101_57 rfl ?_
        refine w_getX (v := 111) gz_101_58 is_94 rd_2 rfl (by decide) rfl ?_
        refine v_getI (j := 2) gz_101_61 rfl is_111 rd_7 rfl (fun v25 ev25 pv25 qv25 => ?_)
        have zv25 := ev25.trans ev16.symm
        refine w_aload_n gz_101_64 rfl ?_
        refine w_getX (v := 111) gz_101_65 is_94 rd_2 rfl (by decide) rfl ?_
        refine v_getI (j := 3) gz_101_68 rfl is_111 rd_7 rfl (fun v27 ev27 pv27 qv27 => ?_)
        refine w_inv (k := 0) (as := [(0, v27), (0, v25)]) (r := []) (x := 95) (ls0 := [(2, 95), (0, v25), (0, v27)]) gz_101_71 gm_15 rfl is_95 rd_6 rfl rfl rfl rfl rfl ?_
        refine w_iload_n gz_15_0 rfl ?_
        refine w_iflt (t := 31) gz_15_1 rfl (fun u28 => ?_) (fun u28 => ?_)
        ·
          refine w_iconst gz_15_31 (by decide) ?_
          refine w_bret gz_15_32 gm_15 (by omega) (by omega) ?_
          show wp l rho (d + 1) 101 74 [(2, 94), (2, x1)] [(0, 0)] h Q
          refine w_ifeq (t := 81) gz_101_74 rfl (fun u29 => ?_) (fun u29 => by exfalso; omega)
          refine w_iconst gz_101_81 (by decide) ?_
          exact w_bret gz_101_82 gm_101 (by omega) (by omega) (k0 )
        ·
          refine w_iload_n gz_15_4 rfl ?_
          refine w_bipush gz_15_5 (by decide) ?_
          refine w_icge (t := 31) gz_15_7 rfl (fun u30 => by exfalso; omega) (fun u30 => ?_)
          refine w_aload_n gz_15_10 rfl ?_
          refine w_getX (v := 96) gz_15_11 is_95 rd_6 rfl (by decide) rfl ?_
          refine w_iload_n gz_15_14 rfl ?_
          refine w_bipush gz_15_15 (by decide) ?_
          refine w_imul gz_15_17 ⟨by omega, by omega⟩ ?_
          refine w_iload_n gz_15_18 rfl ?_
          refine w_iadd gz_15_19 ⟨by omega, by omega⟩ ?_
          refine w_iconst gz_15_20 (by decide) ?_
          refine w_imul gz_15_21 ⟨by omega, by omega⟩ ?_
          refine w_iald gz_15_22 is_96 rd_30 (by omega) (by omega) (fun v32 ev32 pv32 qv32 => ?_)
          refine w_iconst gz_15_23 (by decide) ?_
          refine w_iceq (t := 31) gz_15_24 rfl (fun u33 => ?_) (fun u33 => ?_)
          ·
            refine w_iconst gz_15_31 (by decide) ?_
            refine w_bret gz_15_32 gm_15 (by omega) (by omega) ?_
            show wp l rho (d + 1) 101 74 [(2, 94), (2, x1)] [(0, 0)] h Q
            refine w_ifeq (t := 81) gz_101_74 rfl (fun u34 => ?_) (fun u34 => by exfalso; omega)
            refine w_iconst gz_101_81 (by decide) ?_
            exact w_bret gz_101_82 gm_101 (by omega) (by omega) (k0 )
          ·
            refine w_iconst gz_15_27 (by decide) ?_
            refine w_goto (t := 32) gz_15_28 rfl ?_
            refine w_bret gz_15_32 gm_15 (by omega) (by omega) ?_
            show wp l rho (d + 1) 101 74 [(2, 94), (2, x1)] [(0, 1)] h Q
            refine w_ifeq (t := 81) gz_101_74 rfl (fun u35 => by exfalso; omega) (fun u35 => ?_)
            refine w_iconst gz_101_77 (by decide) ?_
            refine w_goto (t := 82) gz_101_78 rfl ?_
            exact w_bret gz_101_82 gm_101 (by omega) (by omega) (k1 )
theorem c_Clerks_endOrder {l : Launch} {rho : Nat → Int32} {d : Nat} {h : my_H} {Q : my_H → my_V → Prop} {x1 x2 : Int} (t1 : my_is 6 x1) (a2 : 0 ≤ x2) (b2 : x2 ≤ 3) (hec : h 120 6 ≤ 5) (k0 : ∀ (h' : my_H), my_fr [(0, 6), (0, 8), (0, 9), (30, -1), (31, -1)] h h' → 0 ≤ h' 120 9 → h' 120 9 ≤ 2147483647 → h' 120 6 ≤ h 120 6 + 1 → Q h' (9, 0)) : wp l rho (d + 2) 131 0 [(2, 120), (2, x1), (0, x2), (9, 0)] [] h Q := by
  have J33_0 : ∀ (n : Nat) (p33_0 p33_1 p33_2 p33_3 : Int) (h33_0 : my_H), my_fr [(0, 6), (0, 8), (0, 9), (30, -1), (31, -1)] h h33_0 → 0 ≤ p33_0 → p33_0 ≤ 6 → 0 ≤ p33_3 → 0 ≤ p33_1 → p33_1 ≤ 3 → p33_1 ≤ p33_3 → p33_1 ≤ x2 → x2 ≤ p33_3 → h33_0 120 4 = p33_1 → h33_0 120 8 = p33_2 → h33_0 120 9 = p33_3 → 7 - p33_0 ≤ (n : Int) → wp l rho (d + 2) 131 33 [(2, 120), (2, x1), (0, x2), (0, p33_0)] [] h33_0 Q := by
    intro n
    induction n with
    | zero => intro p33_0 p33_1 p33_2 p33_3 h33_0 gh_33_0 q0_33_0 q1_33_0 q2_33_0 q3_33_0 q4_33_0 q5_33_0 q6_33_0 q7_33_0 c120_4_33_0 c120_8_33_0 c120_9_33_0 hm_33_0; exfalso; omega
    | succ n ih_33_0 =>
      intro p33_0 p33_1 p33_2 p33_3 h33_0 gh_33_0 q0_33_0 q1_33_0 q2_33_0 q3_33_0 q4_33_0 q5_33_0 q6_33_0 q7_33_0 c120_4_33_0 c120_8_33_0 c120_9_33_0 hm_33_0
      refine w_iload_n gz_131_33 rfl ?_
      refine w_aload_n gz_131_34 rfl ?_
      refine v_getI (j := 6) gz_131_35 rfl is_120 rd_0 rfl (fun v1 ev1 pv1 qv1 => ?_)
      refine w_icge (t := 61) gz_131_38 rfl (fun u2 => ?_) (fun u2 => ?_)
      ·
        refine w_aload_n gz_131_61 rfl ?_
        refine w_getX (v := 125) gz_131_62 is_120 rd_0 rfl (by decide) rfl ?_
        refine w_aload_n gz_131_65 rfl ?_
        refine w_dup gz_131_66 rfl ?_
        refine v_getI (j := 6) gz_131_67 rfl is_120 rd_0 rfl (fun v4 ev4 pv4 qv4 => ?_)
        have zv4 := ev4.trans ev1.symm
        refine w_dupx gz_131_70 rfl rfl ?_
        refine w_iconst gz_131_71 (by decide) ?_
        refine w_iadd gz_131_72 ⟨by omega, by omega⟩ ?_
        have hi5 : 0 ≤ (v4 + 1) := by omega
        have hi6 : (v4 + 1) ≤ 6 := by omega
        refine v_putI (j := 6) gz_131_73 rfl is_120 rd_0 rfl (by omega) (by omega) rfl (fun h7 fh7 => ?_)
        have gh7 : my_fr [(0, 6), (0, 8), (0, 9), (30, -1), (31, -1)] h h7 := my_fr.up gh_33_0 is_120 fh7 rfl
        have hi8 : 0 ≤ v4 := by omega
        have hi9 : v4 ≤ 5 := by omega
        refine w_aald gz_131_76 is_125 rd_50 rfl (by omega) (by omega) (fun v10 ev10 tv10 => ?_)
        refine w_aload_n gz_131_77 rfl ?_
        refine w_inv (k := 0) (as := [(2, x1)]) (r := []) (x := v10) (ls0 := [(2, v10), (2, x1)]) gz_131_78 gm_25 rfl tv10 rd_6 rfl rfl rfl rfl rfl ?_
        refine w_aload_n gz_25_0 rfl ?_
        refine w_getX (v := (x1 + 1)) gz_25_1 t1 rd_6 rfl (by decide) rfl ?_
        refine w_iconst gz_25_4 (by decide) ?_
        refine w_aload_n gz_25_5 rfl ?_
        refine w_getX (v := (v10 + 1)) gz_25_6 tv10 rd_6 rfl (by decide) rfl ?_
        refine w_iconst gz_25_9 (by decide) ?_
        refine w_aload_n gz_25_10 rfl ?_
        refine w_getX (v := (v10 + 1)) gz_25_11 tv10 rd_6 rfl (by decide) rfl ?_
        refine v_alen (j := 240) gz_25_14 rfl (ix_6_1 tv10) rd_30 (by decide) ?_
        refine w_cpU gz_25_15 (ix_6_1 t1) rd_30 (ix_6_1 tv10) rd_30 (by omega) (by omega) (by omega) (by omega) (by omega) rfl (by decide) (by decide) (fun h14 fh14 => ?_)
        have gh14 : my_fr [(0, 6), (0, 8), (0, 9), (30, -1), (31, -1)] h h14 := my_fr.cp gh7 (ix_6_1 tv10) fh14 rfl
        refine w_aload_n gz_25_18 rfl ?_
        refine w_getX (v := (x1 + 2)) gz_25_19 t1 rd_6 rfl (by decide) rfl ?_
        refine w_iconst gz_25_22 (by decide) ?_
        refine w_aload_n gz_25_23 rfl ?_
        refine w_getX (v := (v10 + 2)) gz_25_24 tv10 rd_6 rfl (by decide) rfl ?_
        refine w_iconst gz_25_27 (by decide) ?_
        refine w_aload_n gz_25_28 rfl ?_
        refine w_getX (v := (v10 + 2)) gz_25_29 tv10 rd_6 rfl (by decide) rfl ?_
        refine v_alen (j := 3) gz_25_32 rfl (ix_6_2 tv10) rd_31 (by decide) ?_
        refine w_cpU gz_25_33 (ix_6_2 t1) rd_31 (ix_6_2 tv10) rd_31 (by omega) (by omega) (by omega) (by omega) (by omega) rfl (by decide) (by decide) (fun h18 fh18 => ?_)
        have gh18 : my_fr [(0, 6), (0, 8), (0, 9), (30, -1), (31, -1)] h h18 := my_fr.cp gh14 (ix_6_2 tv10) fh18 rfl
        refine w_vret gz_25_36 gm_25 ?_
        show wp l rho (d + 2) 131 81 [(2, 120), (2, x1), (0, x2), (0, p33_0)] [] h18 Q
        have ce19 : h18 120 6 = (v4 + 1) := ((my_cp_role fh18 is_120 (ix_6_2 tv10) rfl).trans ((my_cp_role fh14 is_120 (ix_6_1 tv10) rfl).trans (my_up_self fh7)))
        have c20 := ((my_cp_role fh18 is_120 (ix_6_2 tv10) rfl).trans ((my_cp_role fh14 is_120 (ix_6_1 tv10) rfl).trans ((my_up_fld fh7 (by decide)).trans c120_9_33_0)))
        exact w_vret gz_131_81 gm_131 (k0 h18 (gh18) (by omega) (by omega) (by first | assumption | omega))
      ·
        refine w_aload_n gz_131_41 rfl ?_
        refine w_getX (v := 125) gz_131_42 is_120 rd_0 rfl (by decide) rfl ?_
        refine w_iload_n gz_131_45 rfl ?_
        refine w_aald gz_131_46 is_125 rd_50 rfl (by omega) (by omega) (fun v22 ev22 tv22 => ?_)
        refine w_aload_n gz_131_47 rfl ?_
        refine w_inv (k := 1) (as := [(2, x1)]) (r := []) (x := v22) (ls0 := [(2, v22), (2, x1), (9, 0)]) gz_131_48 gm_116 rfl tv22 rd_6 rfl rfl rfl rfl rfl (c_Rows_same (d := (d + 1)) (x0 := v22) (x1 := x1) tv22 t1 ?_ ?_)
        ·
          show wp l rho (d + 2) 131 51 [(2, 120), (2, x1), (0, x2), (0, p33_0)] [(0, 0)] h33_0 Q
          refine w_ifeq (t := 55) gz_131_51 rfl (fun u23 => ?_) (fun u23 => by exfalso; omega)
          refine w_iinc (ls' := [(2, 120), (2, x1), (0, x2), (0, (p33_0 + 1))]) gz_131_55 rfl gm_131 rfl rfl rfl ⟨by omega, by omega⟩ ?_
          refine w_goto (t := 33) gz_131_58 rfl ?_
          exact ih_33_0 ((p33_0 + 1)) (p33_1) (p33_2) (p33_3) h33_0 (gh_33_0) (by omega) (by omega) (by omega) (by omega) (by omega) (by omega) (by omega) (by omega) (c120_4_33_0.trans (by omega)) (c120_8_33_0.trans (by omega)) (c120_9_33_0.trans (by omega)) (by omega)
        ·
          show wp l rho (d + 2) 131 51 [(2, 120), (2, x1), (0, x2), (0, p33_0)] [(0, 1)] h33_0 Q
          refine w_ifeq (t := 55) gz_131_51 rfl (fun u24 => by exfalso; omega) (fun u24 => ?_)
          have ce25 : h33_0 120 6 = v1 := ev1.symm
          have c26 := c120_9_33_0
          exact w_vret gz_131_54 gm_131 (k0 h33_0 (gh_33_0) (by omega) (by omega) (by first | assumption | omega))
  refine w_aload_n gz_131_0 rfl ?_
  refine w_aload_n gz_131_1 rfl ?_
  refine v_getI (j := 9) gz_131_2 rfl is_120 rd_0 rfl (fun v27 ev27 pv27 qv27 => ?_)
  refine w_iload_n gz_131_5 rfl ?_
  refine w_inS (k := 0) (as := [(0, x2), (0, v27)]) (r := [(2, 120)]) (ls0 := [(0, v27), (0, x2)]) gz_131_6 gm_132 rfl rfl rfl rfl rfl rfl ?_
  refine w_iload_n gz_132_0 rfl ?_
  refine w_iload_n gz_132_1 rfl ?_
  refine w_iclt (t := 9) gz_132_2 rfl (fun u28 => ?_) (fun u28 => ?_)
  ·
    refine w_iload_n gz_132_9 rfl ?_
    refine w_iret gz_132_10 gm_132 ?_
    show wp l rho (d + 2) 131 9 [(2, 120), (2, x1), (0, x2), (9, 0)] [(0, x2), (2, 120)] h Q
    refine v_putA (j := 9) gz_131_9 rfl is_120 rd_0 rfl rfl (fun h29 fh29 => ?_)
    have gh29 : my_fr [(0, 6), (0, 8), (0, 9), (30, -1), (31, -1)] h h29 := my_fr.up my_fr.rf is_120 fh29 rfl
    refine w_iload_n gz_131_12 rfl ?_
    refine w_aload_n gz_131_13 rfl ?_
    refine v_getI (j := 4) gz_131_14 rfl is_120 rd_0 rfl (fun v30 ev30 pv30 qv30 => ?_)
    refine w_icge (t := 21) gz_131_17 rfl (fun u31 => ?_) (fun u31 => ?_)
    ·
      refine w_aload_n gz_131_21 rfl ?_
      refine w_dup gz_131_22 rfl ?_
      refine v_getI (j := 8) gz_131_23 rfl is_120 rd_0 rfl (fun v32 ev32 pv32 qv32 => ?_)
      refine w_iconst gz_131_26 (by decide) ?_
      refine w_ianyA gz_131_27 (fun v33 pv33 qv33 => ?_)
      refine v_putA (j := 8) gz_131_28 rfl is_120 rd_0 rfl rfl (fun h34 fh34 => ?_)
      have gh34 : my_fr [(0, 6), (0, 8), (0, 9), (30, -1), (31, -1)] h h34 := my_fr.up gh29 is_120 fh34 rfl
      refine w_iconst gz_131_31 (by decide) ?_
      refine w_istore_n (ls' := [(2, 120), (2, x1), (0, x2), (0, 0)]) gz_131_32 gm_131 rfl rfl rfl ?_
      exact J33_0 7 (0) (v30) (v33) (x2) h34 (gh34) (by omega) (by omega) (by omega) (by omega) (by omega) (by omega) (by omega) (by omega) (((my_up_fld fh34 (by decide)).trans ev30.symm).trans (by omega)) ((my_up_self fh34).trans (by omega)) (((my_up_fld fh34 (by decide)).trans (my_up_self fh29)).trans (by omega)) (by omega)
    ·
      have ce35 : h29 120 6 = h 120 6 := ((my_up_fld fh29 (by decide)).trans (rfl : h 120 6 = h 120 6))
      have c36 := (my_up_self fh29)
      exact w_vret gz_131_20 gm_131 (k0 h29 (gh29) (by omega) (by omega) (by first | assumption | omega))
  ·
    refine w_iload_n gz_132_5 rfl ?_
    refine w_goto (t := 10) gz_132_6 rfl ?_
    refine w_iret gz_132_10 gm_132 ?_
    show wp l rho (d + 2) 131 9 [(2, 120), (2, x1), (0, x2), (9, 0)] [(0, v27), (2, 120)] h Q
    refine v_putA (j := 9) gz_131_9 rfl is_120 rd_0 rfl rfl (fun h37 fh37 => ?_)
    have gh37 : my_fr [(0, 6), (0, 8), (0, 9), (30, -1), (31, -1)] h h37 := my_fr.up my_fr.rf is_120 fh37 rfl
    refine w_iload_n gz_131_12 rfl ?_
    refine w_aload_n gz_131_13 rfl ?_
    refine v_getI (j := 4) gz_131_14 rfl is_120 rd_0 rfl (fun v38 ev38 pv38 qv38 => ?_)
    refine w_icge (t := 21) gz_131_17 rfl (fun u39 => ?_) (fun u39 => ?_)
    ·
      refine w_aload_n gz_131_21 rfl ?_
      refine w_dup gz_131_22 rfl ?_
      refine v_getI (j := 8) gz_131_23 rfl is_120 rd_0 rfl (fun v40 ev40 pv40 qv40 => ?_)
      refine w_iconst gz_131_26 (by decide) ?_
      refine w_ianyA gz_131_27 (fun v41 pv41 qv41 => ?_)
      refine v_putA (j := 8) gz_131_28 rfl is_120 rd_0 rfl rfl (fun h42 fh42 => ?_)
      have gh42 : my_fr [(0, 6), (0, 8), (0, 9), (30, -1), (31, -1)] h h42 := my_fr.up gh37 is_120 fh42 rfl
      refine w_iconst gz_131_31 (by decide) ?_
      refine w_istore_n (ls' := [(2, 120), (2, x1), (0, x2), (0, 0)]) gz_131_32 gm_131 rfl rfl rfl ?_
      exact J33_0 7 (0) (v38) (v41) (v27) h42 (gh42) (by omega) (by omega) (by omega) (by omega) (by omega) (by omega) (by omega) (by omega) (((my_up_fld fh42 (by decide)).trans ev38.symm).trans (by omega)) ((my_up_self fh42).trans (by omega)) (((my_up_fld fh42 (by decide)).trans (my_up_self fh37)).trans (by omega)) (by omega)
    ·
      have ce43 : h37 120 6 = h 120 6 := ((my_up_fld fh37 (by decide)).trans (rfl : h 120 6 = h 120 6))
      have c44 := (my_up_self fh37)
      exact w_vret gz_131_20 gm_131 (k0 h37 (gh37) (by omega) (by omega) (by first | assumption | omega))
theorem c_View_copyCells {l : Launch} {rho : Nat → Int32} {d : Nat} {h : my_H} {Q : my_H → my_V → Prop} {x0 x1 x2 x3 x4 : Int} (t0 : my_is 8 x0) (t1 : my_is 6 x1) (a2 : 0 ≤ x2) (b2 : x2 ≤ 239) (a3 : 0 ≤ x3) (b3 : x3 ≤ 186) (m3_0 : 0 ≤ x3 % 17) (m3_1 : x3 % 17 ≤ 8) (a4 : 0 ≤ x4) (b4 : x4 ≤ 4) (m4_0 : 0 ≤ x4 % 17) (m4_1 : x4 % 17 ≤ 4) (hw1 : x2 + x4 ≤ 240) (hw2 : x3 % 17 + x4 ≤ 8) (k0 : ∀ (h' : my_H), my_fr [(42, -1)] h h' → my_fx x0 3 h h' → Q h' (9, 0)) : wp l rho d 70 0 [(2, x0), (2, x1), (0, x2), (0, x3), (0, x4), (9, 0)] [] h Q := by
  have J3_0 : ∀ (n : Nat) (p3_0 : Int) (h3_0 : my_H), my_fr [(42, -1)] h h3_0 → my_fx x0 3 h h3_0 → 0 ≤ p3_0 → p3_0 ≤ 4 → p3_0 ≤ x4 → 5 - p3_0 ≤ (n : Int) → wp l rho d 70 3 [(2, x0), (2, x1), (0, x2), (0, x3), (0, x4), (0, p3_0)] [] h3_0 Q := by
    intro n
    induction n with
    | zero => intro p3_0 h3_0 gh_3_0 gx_3_0 q0_3_0 q1_3_0 q2_3_0 hm_3_0; exfalso; omega
    | succ n ih_3_0 =>
      intro p3_0 h3_0 gh_3_0 gx_3_0 q0_3_0 q1_3_0 q2_3_0 hm_3_0
      refine w_iload gz_70_3 rfl ?_
      refine w_iload gz_70_5 rfl ?_
      refine w_icge (t := 50) gz_70_7 rfl (fun u1 => ?_) (fun u1 => ?_)
      ·
        exact w_vret gz_70_50 gm_70 (k0 h3_0 (gh_3_0) (gx_3_0))
      ·
        refine w_aload_n gz_70_10 rfl ?_
        refine w_getX (v := (x0 + 1)) gz_70_11 t0 rd_8 rfl (by decide) rfl ?_
        refine w_iload_n gz_70_14 rfl ?_
        refine w_iload gz_70_15 rfl ?_
        refine w_iadd gz_70_17 ⟨by omega, by omega⟩ ?_
        refine w_aload_n gz_70_18 rfl ?_
        refine w_getX (v := (x1 + 1)) gz_70_19 t1 rd_6 rfl (by decide) rfl ?_
        refine w_iload_n gz_70_22 rfl ?_
        refine w_iload gz_70_23 rfl ?_
        refine w_iadd gz_70_25 ⟨by omega, by omega⟩ ?_
        have hi4 : 0 ≤ (x2 + p3_0) := by omega
        have hi5 : (x2 + p3_0) ≤ 239 := by omega
        refine w_iald gz_70_26 (ix_6_1 t1) rd_30 (by omega) (by omega) (fun v6 ev6 pv6 qv6 => ?_)
        have hi7 : 0 ≤ (x3 + p3_0) := by omega
        have hi8 : (x3 + p3_0) ≤ 203 := by omega
        refine w_gstV gz_70_27 (ix_8_1 t0) rd_42 (by omega) (by omega) (by omega) (fun h9 fh9 => ?_)
        have gh9 : my_fr [(42, -1)] h h9 := my_fr.up gh_3_0 (ix_8_1 t0) fh9 rfl
        have gxh9 : my_fx x0 3 h h9 := my_fx.up gx_3_0 fh9 (by omega)
        refine w_aload_n gz_70_28 rfl ?_
        refine w_getX (v := (x0 + 1)) gz_70_29 t0 rd_8 rfl (by decide) rfl ?_
        refine w_iload_n gz_70_32 rfl ?_
        refine w_bipush gz_70_33 (by decide) ?_
        refine w_iadd gz_70_35 ⟨by omega, by omega⟩ ?_
        refine w_iload gz_70_36 rfl ?_
        refine w_iadd gz_70_38 ⟨by omega, by omega⟩ ?_
        refine w_iload_n gz_70_39 rfl ?_
        refine w_iload gz_70_40 rfl ?_
        refine w_iadd gz_70_42 ⟨by omega, by omega⟩ ?_
        have hi11 : 0 ≤ ((x3 + 8) + p3_0) := by omega
        have hi12 : ((x3 + 8) + p3_0) ≤ 203 := by omega
        have hi13 : 0 ≤ (x2 + p3_0) := by omega
        have hi14 : (x2 + p3_0) ≤ 239 := by omega
        refine w_gstS gz_70_43 (ix_8_1 t0) rd_42 (by omega) (by omega) (by omega) (by omega) (by omega) (by omega) (fun h15 fh15 => ?_)
        have gh15 : my_fr [(42, -1)] h h15 := my_fr.up gh9 (ix_8_1 t0) fh15 rfl
        have gxh15 : my_fx x0 3 h h15 := my_fx.up gxh9 fh15 (by omega)
        refine w_iinc (ls' := [(2, x0), (2, x1), (0, x2), (0, x3), (0, x4), (0, (p3_0 + 1))]) gz_70_44 rfl gm_70 rfl rfl rfl ⟨by omega, by omega⟩ ?_
        refine w_goto (t := 3) gz_70_47 rfl ?_
        exact ih_3_0 ((p3_0 + 1)) h15 (gh15) (gxh15) (by omega) (by omega) (by omega) (by omega)
  refine w_iconst gz_70_0 (by decide) ?_
  refine w_istore (ls' := [(2, x0), (2, x1), (0, x2), (0, x3), (0, x4), (0, 0)]) gz_70_1 gm_70 rfl rfl rfl ?_
  exact J3_0 5 (0) h (my_fr.rf) (my_fx.rf) (by omega) (by omega) (by omega) (by omega)
theorem c_View_few_v8_36 {l : Launch} {rho : Nat → Int32} {d : Nat} {h : my_H} {Q : my_H → my_V → Prop} {x0 x1 x2 x3 : Int} (t0 : my_is 8 x0) (t1 : my_is 36 x1) (a2 : 0 ≤ x2) (b2 : x2 ≤ 40) (a3 : 0 ≤ x3) (b3 : x3 ≤ 8) (m3_0 : 0 ≤ x3 % 17) (m3_1 : x3 % 17 ≤ 8) (k0 : ∀ (h' : my_H), my_fr [(8, 1), (42, -1)] h h' → my_fx x0 3 h h' → h' x0 0 = h x0 0 → h' x0 1 = x3 → Q h' (9, 0)) : wp l rho (d + 2) 71 0 [(2, x0), (2, x1), (0, x2), (0, x3), (9, 0), (9, 0), (9, 0)] [] h Q := by
  refine v_know (x := x0) (j := 0) (b := 0) rfl t0 rd_8 rfl (fun ka0_0 eka0_0 pka0_0 qka0_0 => ?_)
  have J3_0 : ∀ (n : Nat) (p3_0 : Int) (h3_0 : my_H), my_fr [(8, 1), (42, -1)] h h3_0 → my_fx x0 3 h h3_0 → 0 ≤ p3_0 → p3_0 ≤ 11 → p3_0 ≤ ka0_0 → h3_0 x0 0 = ka0_0 → 12 - p3_0 ≤ (n : Int) → wp l rho (d + 2) 71 3 [(2, x0), (2, x1), (0, x2), (0, x3), (0, p3_0), (9, 0), (9, 0)] [] h3_0 Q := by
    intro n
    induction n with
    | zero => intro p3_0 h3_0 gh_3_0 gx_3_0 q0_3_0 q1_3_0 q2_3_0 ca0_0_3_0 hm_3_0; exfalso; omega
    | succ n ih_3_0 =>
      intro p3_0 h3_0 gh_3_0 gx_3_0 q0_3_0 q1_3_0 q2_3_0 ca0_0_3_0 hm_3_0
      have J23_0 : ∀ (n : Nat) (p23_0 : Int) (h23_0 : my_H), my_fr [(8, 1), (42, -1)] h h23_0 → my_fx x0 3 h h23_0 → p3_0 ≤ 10 → 0 ≤ p23_0 → p23_0 ≤ 8 → 1 ≤ ka0_0 → p23_0 ≤ x3 → p3_0 ≤ (ka0_0 - 1) → h23_0 x0 0 = ka0_0 → 9 - p23_0 ≤ (n : Int) → wp l rho (d + 2) 71 23 [(2, x0), (2, x1), (0, x2), (0, x3), (0, p3_0), (0, p23_0), (9, 0)] [] h23_0 Q := by
        intro n
        induction n with
        | zero => intro p23_0 h23_0 gh_23_0 gx_23_0 q0_23_0 q1_23_0 q2_23_0 q3_23_0 q4_23_0 q5_23_0 ca0_0_23_0 hm_23_0; exfalso; omega
        | succ n ih_23_0 =>
          intro p23_0 h23_0 gh_23_0 gx_23_0 q0_23_0 q1_23_0 q2_23_0 q3_23_0 q4_23_0 q5_23_0 ca0_0_23_0 hm_23_0
          refine w_iload gz_71_23 rfl ?_
          refine w_iload_n gz_71_25 rfl ?_
          refine w_icge (t := 93) gz_71_26 rfl (fun u1 => ?_) (fun u1 => ?_)
          ·
            refine w_iinc (ls' := [(2, x0), (2, x1), (0, x2), (0, x3), (0, (p3_0 + 1)), (0, p23_0), (9, 0)]) gz_71_93 rfl gm_71 rfl rfl rfl ⟨by omega, by omega⟩ ?_
            refine w_goto (t := 3) gz_71_96 rfl ?_
            refine w_weak (ls' := [(2, x0), (2, x1), (0, x2), (0, x3), (0, (p3_0 + 1)), (9, 0), (9, 0)]) (wk_e (wk_e (wk_e (wk_e (wk_e (wk_9 (wk_9 wk_n))))))) ?_
            exact ih_3_0 ((p3_0 + 1)) h23_0 (gh_23_0) (gx_23_0) (by omega) (by omega) (by omega) (ca0_0_23_0.trans (by omega)) (by omega)
          ·
            refine w_sipush gz_71_29 (by decide) ?_
            refine w_aload_n gz_71_32 rfl ?_
            refine w_iload_n gz_71_33 rfl ?_
            refine w_iload gz_71_34 rfl ?_
            refine w_iadd gz_71_36 ⟨by omega, by omega⟩ ?_
            have hi2 : 0 ≤ (x2 + p23_0) := by omega
            have hi3 : (x2 + p23_0) ≤ 47 := by omega
            refine w_iald gz_71_37 t1 rd_36 (by omega) (by omega) (fun v4 ev4 pv4 qv4 => ?_)
            refine w_iadd gz_71_38 ⟨by omega, by omega⟩ ?_
            refine w_istore (ls' := [(2, x0), (2, x1), (0, x2), (0, x3), (0, p3_0), (0, p23_0), (0, (187 + v4))]) gz_71_39 gm_71 rfl rfl rfl ?_
            refine w_aload_n gz_71_41 rfl ?_
            refine w_getX (v := (x0 + 1)) gz_71_42 t0 rd_8 rfl (by decide) rfl ?_
            refine w_iload gz_71_45 rfl ?_
            refine w_bipush gz_71_47 (by decide) ?_
            refine w_imul gz_71_49 ⟨by omega, by omega⟩ ?_
            refine w_iload gz_71_50 rfl ?_
            refine w_iadd gz_71_52 ⟨by omega, by omega⟩ ?_
            refine w_aload_n gz_71_53 rfl ?_
            refine w_getX (v := (x0 + 1)) gz_71_54 t0 rd_8 rfl (by decide) rfl ?_
            refine w_iload gz_71_57 rfl ?_
            refine w_gldA gz_71_59 (ix_8_1 t0) rd_42 (by omega) (by omega) (fun v7 ev7 pv7 qv7 => ?_)
            refine w_gstV gz_71_60 (ix_8_1 t0) rd_42 (by omega) (by omega) (by omega) (fun h8 fh8 => ?_)
            have gh8 : my_fr [(8, 1), (42, -1)] h h8 := my_fr.up gh_23_0 (ix_8_1 t0) fh8 rfl
            have gxh8 : my_fx x0 3 h h8 := my_fx.up gx_23_0 fh8 (by omega)
            refine w_aload_n gz_71_61 rfl ?_
            refine w_getX (v := (x0 + 1)) gz_71_62 t0 rd_8 rfl (by decide) rfl ?_
            refine w_iload gz_71_65 rfl ?_
            refine w_bipush gz_71_67 (by decide) ?_
            refine w_imul gz_71_69 ⟨by omega, by omega⟩ ?_
            refine w_bipush gz_71_70 (by decide) ?_
            refine w_iadd gz_71_72 ⟨by omega, by omega⟩ ?_
            refine w_iload gz_71_73 rfl ?_
            refine w_iadd gz_71_75 ⟨by omega, by omega⟩ ?_
            refine w_aload_n gz_71_76 rfl ?_
            refine w_getX (v := (x0 + 1)) gz_71_77 t0 rd_8 rfl (by decide) rfl ?_
            refine w_iload gz_71_80 rfl ?_
            refine w_bipush gz_71_82 (by decide) ?_
            refine w_iadd gz_71_84 ⟨by omega, by omega⟩ ?_
            refine w_gldS gz_71_85 (ix_8_1 t0) rd_42 (by omega) (by omega) (by omega) (by omega) (fun v11 ev11 pv11 qv11 => ?_)
            refine w_gstS gz_71_86 (ix_8_1 t0) rd_42 (by omega) (by omega) (by omega) (by omega) (by omega) (by omega) (fun h12 fh12 => ?_)
            have gh12 : my_fr [(8, 1), (42, -1)] h h12 := my_fr.up gh8 (ix_8_1 t0) fh12 rfl
            have gxh12 : my_fx x0 3 h h12 := my_fx.up gxh8 fh12 (by omega)
            refine w_iinc (ls' := [(2, x0), (2, x1), (0, x2), (0, x3), (0, p3_0), (0, (p23_0 + 1)), (0, (187 + v4))]) gz_71_87 rfl gm_71 rfl rfl rfl ⟨by omega, by omega⟩ ?_
            refine w_goto (t := 23) gz_71_90 rfl ?_
            refine w_weak (ls' := [(2, x0), (2, x1), (0, x2), (0, x3), (0, p3_0), (0, (p23_0 + 1)), (9, 0)]) (wk_e (wk_e (wk_e (wk_e (wk_e (wk_e (wk_9 wk_n))))))) ?_
            exact ih_23_0 ((p23_0 + 1)) h12 (gh12) (gxh12) (by omega) (by omega) (by omega) (by omega) (by omega) (by omega) (((my_up_role fh12 t0 (ix_8_1 t0) rfl).trans ((my_up_role fh8 t0 (ix_8_1 t0) rfl).trans ca0_0_23_0)).trans (by omega)) (by omega)
      refine w_iload gz_71_3 rfl ?_
      refine w_aload_n gz_71_5 rfl ?_
      refine v_getI (j := 0) gz_71_6 rfl t0 rd_8 rfl (fun v13 ev13 pv13 qv13 => ?_)
      have zv13 := ev13.trans ca0_0_3_0
      refine w_icge (t := 99) gz_71_9 rfl (fun u14 => ?_) (fun u14 => ?_)
      ·
        refine w_aload_n gz_71_99 rfl ?_
        refine w_iload_n gz_71_100 rfl ?_
        refine v_putI (j := 1) gz_71_101 rfl t0 rd_8 rfl (by omega) (by omega) rfl (fun h15 fh15 => ?_)
        have gh15 : my_fr [(8, 1), (42, -1)] h h15 := my_fr.up gh_3_0 t0 fh15 rfl
        have gxh15 : my_fx x0 3 h h15 := my_fx.up gx_3_0 fh15 (by omega)
        have ce16 : h15 x0 0 = v13 := ((my_up_fld fh15 (by decide)).trans ev13.symm)
        have ce17 : h15 x0 1 = x3 := (my_up_self fh15)
        exact w_vret gz_71_104 gm_71 (k0 h15 (gh15) (gxh15) (by first | assumption | omega) (by first | assumption | omega))
      ·
        refine w_aload_n gz_71_12 rfl ?_
        refine w_iload gz_71_13 rfl ?_
        refine w_bipush gz_71_15 (by decide) ?_
        refine w_inv (k := 0) (as := [(0, 11), (0, p3_0)]) (r := []) (x := x0) (ls0 := [(2, x0), (0, p3_0), (0, 11)]) gz_71_17 gm_72 rfl t0 rd_8 rfl rfl rfl rfl rfl ?_
        refine w_iload_n gz_72_0 rfl ?_
        refine w_iload_n gz_72_1 rfl ?_
        refine w_iceq (t := 26) gz_72_2 rfl (fun u18 => by exfalso; omega) (fun u18 => ?_)
        refine w_aload_n gz_72_5 rfl ?_
        refine w_getX (v := (x0 + 1)) gz_72_6 t0 rd_8 rfl (by decide) rfl ?_
        refine w_iload_n gz_72_9 rfl ?_
        refine w_bipush gz_72_10 (by decide) ?_
        refine w_imul gz_72_12 ⟨by omega, by omega⟩ ?_
        refine w_aload_n gz_72_13 rfl ?_
        refine w_getX (v := (x0 + 1)) gz_72_14 t0 rd_8 rfl (by decide) rfl ?_
        refine w_iload_n gz_72_17 rfl ?_
        refine w_bipush gz_72_18 (by decide) ?_
        refine w_imul gz_72_20 ⟨by omega, by omega⟩ ?_
        refine w_bipush gz_72_21 (by decide) ?_
        refine w_cpG gz_72_23 (ix_8_1 t0) rd_42 (ix_8_1 t0) rd_42 (by omega) (by omega) (by omega) (by omega) (by omega) rfl (by omega) (fun h21 fh21 => ?_)
        have gh21 : my_fr [(8, 1), (42, -1)] h h21 := my_fr.cp gh_3_0 (ix_8_1 t0) fh21 rfl
        have gxh21 : my_fx x0 3 h h21 := my_fx.cp gx_3_0 fh21 (by omega)
        refine w_vret gz_72_26 gm_72 ?_
        show wp l rho (d + 2) 71 20 [(2, x0), (2, x1), (0, x2), (0, x3), (0, p3_0), (9, 0), (9, 0)] [] h21 Q
        refine w_iconst gz_71_20 (by decide) ?_
        refine w_istore (ls' := [(2, x0), (2, x1), (0, x2), (0, x3), (0, p3_0), (0, 0), (9, 0)]) gz_71_21 gm_71 rfl rfl rfl ?_
        exact J23_0 9 (0) h21 (gh21) (gxh21) (by omega) (by omega) (by omega) (by omega) (by omega) (by omega) (((my_cp_role fh21 t0 (ix_8_1 t0) rfl).trans ev13.symm).trans (by omega)) (by omega)
  refine w_iconst gz_71_0 (by decide) ?_
  refine w_istore (ls' := [(2, x0), (2, x1), (0, x2), (0, x3), (0, 0), (9, 0), (9, 0)]) gz_71_1 gm_71 rfl rfl rfl ?_
  exact J3_0 12 (0) h (my_fr.rf) (my_fx.rf) (by omega) (by omega) (by omega) (eka0_0.symm.trans (by omega)) (by omega)
theorem c_View_few_v8_45 {l : Launch} {rho : Nat → Int32} {d : Nat} {h : my_H} {Q : my_H → my_V → Prop} {x0 x3 : Int} (t0 : my_is 8 x0) (a3 : 0 ≤ x3) (b3 : x3 ≤ 4) (m3_0 : 0 ≤ x3 % 17) (m3_1 : x3 % 17 ≤ 4) (k0 : ∀ (h' : my_H), my_fr [(8, 1), (42, -1)] h h' → my_fx x0 3 h h' → 0 ≤ h' x0 1 → h' x0 1 ≤ 4 → h' x0 0 = h x0 0 → h' x0 1 = x3 → Q h' (9, 0)) : wp l rho (d + 2) 71 0 [(2, x0), (2, 119), (0, 0), (0, x3), (9, 0), (9, 0), (9, 0)] [] h Q := by
  refine v_know (x := x0) (j := 0) (b := 0) rfl t0 rd_8 rfl (fun ka0_0 eka0_0 pka0_0 qka0_0 => ?_)
  have J3_0 : ∀ (n : Nat) (p3_0 : Int) (h3_0 : my_H), my_fr [(8, 1), (42, -1)] h h3_0 → my_fx x0 3 h h3_0 → 0 ≤ p3_0 → p3_0 ≤ 11 → p3_0 ≤ ka0_0 → h3_0 x0 0 = ka0_0 → 12 - p3_0 ≤ (n : Int) → wp l rho (d + 2) 71 3 [(2, x0), (2, 119), (0, 0), (0, x3), (0, p3_0), (9, 0), (9, 0)] [] h3_0 Q := by
    intro n
    induction n with
    | zero => intro p3_0 h3_0 gh_3_0 gx_3_0 q0_3_0 q1_3_0 q2_3_0 ca0_0_3_0 hm_3_0; exfalso; omega
    | succ n ih_3_0 =>
      intro p3_0 h3_0 gh_3_0 gx_3_0 q0_3_0 q1_3_0 q2_3_0 ca0_0_3_0 hm_3_0
      have J23_0 : ∀ (n : Nat) (p23_0 : Int) (h23_0 : my_H), my_fr [(8, 1), (42, -1)] h h23_0 → my_fx x0 3 h h23_0 → p3_0 ≤ 10 → 0 ≤ p23_0 → p23_0 ≤ 4 → 1 ≤ ka0_0 → p23_0 ≤ x3 → p3_0 ≤ (ka0_0 - 1) → h23_0 x0 0 = ka0_0 → 5 - p23_0 ≤ (n : Int) → wp l rho (d + 2) 71 23 [(2, x0), (2, 119), (0, 0), (0, x3), (0, p3_0), (0, p23_0), (9, 0)] [] h23_0 Q := by
        intro n
        induction n with
        | zero => intro p23_0 h23_0 gh_23_0 gx_23_0 q0_23_0 q1_23_0 q2_23_0 q3_23_0 q4_23_0 q5_23_0 ca0_0_23_0 hm_23_0; exfalso; omega
        | succ n ih_23_0 =>
          intro p23_0 h23_0 gh_23_0 gx_23_0 q0_23_0 q1_23_0 q2_23_0 q3_23_0 q4_23_0 q5_23_0 ca0_0_23_0 hm_23_0
          refine w_iload gz_71_23 rfl ?_
          refine w_iload_n gz_71_25 rfl ?_
          refine w_icge (t := 93) gz_71_26 rfl (fun u1 => ?_) (fun u1 => ?_)
          ·
            refine w_iinc (ls' := [(2, x0), (2, 119), (0, 0), (0, x3), (0, (p3_0 + 1)), (0, p23_0), (9, 0)]) gz_71_93 rfl gm_71 rfl rfl rfl ⟨by omega, by omega⟩ ?_
            refine w_goto (t := 3) gz_71_96 rfl ?_
            refine w_weak (ls' := [(2, x0), (2, 119), (0, 0), (0, x3), (0, (p3_0 + 1)), (9, 0), (9, 0)]) (wk_e (wk_e (wk_e (wk_e (wk_e (wk_9 (wk_9 wk_n))))))) ?_
            exact ih_3_0 ((p3_0 + 1)) h23_0 (gh_23_0) (gx_23_0) (by omega) (by omega) (by omega) (ca0_0_23_0.trans (by omega)) (by omega)
          ·
            refine w_sipush gz_71_29 (by decide) ?_
            refine w_aload_n gz_71_32 rfl ?_
            refine w_iload_n gz_71_33 rfl ?_
            refine w_iload gz_71_34 rfl ?_
            refine w_iadd gz_71_36 ⟨by omega, by omega⟩ ?_
            have hi2 : 0 ≤ (0 + p23_0) := by omega
            have hi3 : (0 + p23_0) ≤ 47 := by omega
            refine w_iald gz_71_37 is_119 rd_45 (by omega) (by omega) (fun v4 ev4 pv4 qv4 => ?_)
            refine w_iadd gz_71_38 ⟨by omega, by omega⟩ ?_
            refine w_istore (ls' := [(2, x0), (2, 119), (0, 0), (0, x3), (0, p3_0), (0, p23_0), (0, (187 + v4))]) gz_71_39 gm_71 rfl rfl rfl ?_
            refine w_aload_n gz_71_41 rfl ?_
            refine w_getX (v := (x0 + 1)) gz_71_42 t0 rd_8 rfl (by decide) rfl ?_
            refine w_iload gz_71_45 rfl ?_
            refine w_bipush gz_71_47 (by decide) ?_
            refine w_imul gz_71_49 ⟨by omega, by omega⟩ ?_
            refine w_iload gz_71_50 rfl ?_
            refine w_iadd gz_71_52 ⟨by omega, by omega⟩ ?_
            refine w_aload_n gz_71_53 rfl ?_
            refine w_getX (v := (x0 + 1)) gz_71_54 t0 rd_8 rfl (by decide) rfl ?_
            refine w_iload gz_71_57 rfl ?_
            refine w_gldA gz_71_59 (ix_8_1 t0) rd_42 (by omega) (by omega) (fun v7 ev7 pv7 qv7 => ?_)
            refine w_gstV gz_71_60 (ix_8_1 t0) rd_42 (by omega) (by omega) (by omega) (fun h8 fh8 => ?_)
            have gh8 : my_fr [(8, 1), (42, -1)] h h8 := my_fr.up gh_23_0 (ix_8_1 t0) fh8 rfl
            have gxh8 : my_fx x0 3 h h8 := my_fx.up gx_23_0 fh8 (by omega)
            refine w_aload_n gz_71_61 rfl ?_
            refine w_getX (v := (x0 + 1)) gz_71_62 t0 rd_8 rfl (by decide) rfl ?_
            refine w_iload gz_71_65 rfl ?_
            refine w_bipush gz_71_67 (by decide) ?_
            refine w_imul gz_71_69 ⟨by omega, by omega⟩ ?_
            refine w_bipush gz_71_70 (by decide) ?_
            refine w_iadd gz_71_72 ⟨by omega, by omega⟩ ?_
            refine w_iload gz_71_73 rfl ?_
            refine w_iadd gz_71_75 ⟨by omega, by omega⟩ ?_
            refine w_aload_n gz_71_76 rfl ?_
            refine w_getX (v := (x0 + 1)) gz_71_77 t0 rd_8 rfl (by decide) rfl ?_
            refine w_iload gz_71_80 rfl ?_
            refine w_bipush gz_71_82 (by decide) ?_
            refine w_iadd gz_71_84 ⟨by omega, by omega⟩ ?_
            refine w_gldS gz_71_85 (ix_8_1 t0) rd_42 (by omega) (by omega) (by omega) (by omega) (fun v11 ev11 pv11 qv11 => ?_)
            refine w_gstS gz_71_86 (ix_8_1 t0) rd_42 (by omega) (by omega) (by omega) (by omega) (by omega) (by omega) (fun h12 fh12 => ?_)
            have gh12 : my_fr [(8, 1), (42, -1)] h h12 := my_fr.up gh8 (ix_8_1 t0) fh12 rfl
            have gxh12 : my_fx x0 3 h h12 := my_fx.up gxh8 fh12 (by omega)
            refine w_iinc (ls' := [(2, x0), (2, 119), (0, 0), (0, x3), (0, p3_0), (0, (p23_0 + 1)), (0, (187 + v4))]) gz_71_87 rfl gm_71 rfl rfl rfl ⟨by omega, by omega⟩ ?_
            refine w_goto (t := 23) gz_71_90 rfl ?_
            refine w_weak (ls' := [(2, x0), (2, 119), (0, 0), (0, x3), (0, p3_0), (0, (p23_0 + 1)), (9, 0)]) (wk_e (wk_e (wk_e (wk_e (wk_e (wk_e (wk_9 wk_n))))))) ?_
            exact ih_23_0 ((p23_0 + 1)) h12 (gh12) (gxh12) (by omega) (by omega) (by omega) (by omega) (by omega) (by omega) (((my_up_role fh12 t0 (ix_8_1 t0) rfl).trans ((my_up_role fh8 t0 (ix_8_1 t0) rfl).trans ca0_0_23_0)).trans (by omega)) (by omega)
      refine w_iload gz_71_3 rfl ?_
      refine w_aload_n gz_71_5 rfl ?_
      refine v_getI (j := 0) gz_71_6 rfl t0 rd_8 rfl (fun v13 ev13 pv13 qv13 => ?_)
      have zv13 := ev13.trans ca0_0_3_0
      refine w_icge (t := 99) gz_71_9 rfl (fun u14 => ?_) (fun u14 => ?_)
      ·
        refine w_aload_n gz_71_99 rfl ?_
        refine w_iload_n gz_71_100 rfl ?_
        refine v_putI (j := 1) gz_71_101 rfl t0 rd_8 rfl (by omega) (by omega) rfl (fun h15 fh15 => ?_)
        have gh15 : my_fr [(8, 1), (42, -1)] h h15 := my_fr.up gh_3_0 t0 fh15 rfl
        have gxh15 : my_fx x0 3 h h15 := my_fx.up gx_3_0 fh15 (by omega)
        have ce16 : h15 x0 0 = v13 := ((my_up_fld fh15 (by decide)).trans ev13.symm)
        have ce17 : h15 x0 1 = x3 := (my_up_self fh15)
        have c18 := (my_up_self fh15)
        exact w_vret gz_71_104 gm_71 (k0 h15 (gh15) (gxh15) (by omega) (by omega) (by first | assumption | omega) (by first | assumption | omega))
      ·
        refine w_aload_n gz_71_12 rfl ?_
        refine w_iload gz_71_13 rfl ?_
        refine w_bipush gz_71_15 (by decide) ?_
        refine w_inv (k := 0) (as := [(0, 11), (0, p3_0)]) (r := []) (x := x0) (ls0 := [(2, x0), (0, p3_0), (0, 11)]) gz_71_17 gm_72 rfl t0 rd_8 rfl rfl rfl rfl rfl ?_
        refine w_iload_n gz_72_0 rfl ?_
        refine w_iload_n gz_72_1 rfl ?_
        refine w_iceq (t := 26) gz_72_2 rfl (fun u19 => by exfalso; omega) (fun u19 => ?_)
        refine w_aload_n gz_72_5 rfl ?_
        refine w_getX (v := (x0 + 1)) gz_72_6 t0 rd_8 rfl (by decide) rfl ?_
        refine w_iload_n gz_72_9 rfl ?_
        refine w_bipush gz_72_10 (by decide) ?_
        refine w_imul gz_72_12 ⟨by omega, by omega⟩ ?_
        refine w_aload_n gz_72_13 rfl ?_
        refine w_getX (v := (x0 + 1)) gz_72_14 t0 rd_8 rfl (by decide) rfl ?_
        refine w_iload_n gz_72_17 rfl ?_
        refine w_bipush gz_72_18 (by decide) ?_
        refine w_imul gz_72_20 ⟨by omega, by omega⟩ ?_
        refine w_bipush gz_72_21 (by decide) ?_
        refine w_cpG gz_72_23 (ix_8_1 t0) rd_42 (ix_8_1 t0) rd_42 (by omega) (by omega) (by omega) (by omega) (by omega) rfl (by omega) (fun h22 fh22 => ?_)
        have gh22 : my_fr [(8, 1), (42, -1)] h h22 := my_fr.cp gh_3_0 (ix_8_1 t0) fh22 rfl
        have gxh22 : my_fx x0 3 h h22 := my_fx.cp gx_3_0 fh22 (by omega)
        refine w_vret gz_72_26 gm_72 ?_
        show wp l rho (d + 2) 71 20 [(2, x0), (2, 119), (0, 0), (0, x3), (0, p3_0), (9, 0), (9, 0)] [] h22 Q
        refine w_iconst gz_71_20 (by decide) ?_
        refine w_istore (ls' := [(2, x0), (2, 119), (0, 0), (0, x3), (0, p3_0), (0, 0), (9, 0)]) gz_71_21 gm_71 rfl rfl rfl ?_
        exact J23_0 5 (0) h22 (gh22) (gxh22) (by omega) (by omega) (by omega) (by omega) (by omega) (by omega) (((my_cp_role fh22 t0 (ix_8_1 t0) rfl).trans ev13.symm).trans (by omega)) (by omega)
  refine w_iconst gz_71_0 (by decide) ?_
  refine w_istore (ls' := [(2, x0), (2, 119), (0, 0), (0, x3), (0, 0), (9, 0), (9, 0)]) gz_71_1 gm_71 rfl rfl rfl ?_
  exact J3_0 12 (0) h (my_fr.rf) (my_fx.rf) (by omega) (by omega) (by omega) (eka0_0.symm.trans (by omega)) (by omega)
theorem c_View_join {l : Launch} {rho : Nat → Int32} {d : Nat} {h : my_H} {Q : my_H → my_V → Prop} {x0 x1 x2 x3 x4 : Int} (t0 : my_is 8 x0) (t1 : my_is 6 x1) (a2 : 0 ≤ x2) (b2 : x2 ≤ 2) (m2_0 : 0 ≤ x2 % 17) (m2_1 : x2 % 17 ≤ 2) (a3 : 1 ≤ x3) (b3 : x3 ≤ 4) (m3_0 : 1 ≤ x3 % 17) (m3_1 : x3 % 17 ≤ 4) (a4 : 0 ≤ x4) (b4 : x4 ≤ 7) (m4_0 : 0 ≤ x4 % 17) (m4_1 : x4 % 17 ≤ 7) (hj : h x0 1 + x3 ≤ 9) (k0 : ∀ (h' : my_H), my_fr [(8, 0), (8, 1), (42, -1), (44, -1)] h h' → my_fx x0 3 h h' → h' x0 0 ≤ h x0 0 → h' x0 1 = h x0 1 + x3 - 1 → Q h' (9, 0)) : wp l rho (d + 2) 73 0 [(2, x0), (2, x1), (0, x2), (0, x3), (0, x4), (9, 0), (9, 0), (9, 0)] [] h Q := by
  refine v_know (x := x0) (j := 0) (b := 0) rfl t0 rd_8 rfl (fun ka0_0 eka0_0 pka0_0 qka0_0 => ?_)
  refine v_know (x := x0) (j := 1) (b := 1) rfl t0 rd_8 rfl (fun ka0_1 eka0_1 pka0_1 qka0_1 => ?_)
  have J6_0 : ∀ (n : Nat) (p6_0 p6_1 : Int) (h6_0 : my_H), my_fr [(8, 0), (8, 1), (42, -1), (44, -1)] h h6_0 → my_fx x0 3 h h6_0 → 0 ≤ p6_0 → p6_0 ≤ 11 → 0 ≤ p6_1 → p6_1 ≤ 11 → p6_0 ≤ p6_1 → p6_0 ≤ ka0_0 → p6_1 ≤ ka0_0 → h6_0 x0 0 = ka0_0 → h6_0 x0 1 = ka0_1 → 12 - p6_1 ≤ (n : Int) → wp l rho (d + 2) 73 6 [(2, x0), (2, x1), (0, x2), (0, x3), (0, x4), (0, p6_0), (0, p6_1), (9, 0)] [] h6_0 Q := by
    intro n
    induction n with
    | zero => intro p6_0 p6_1 h6_0 gh_6_0 gx_6_0 q0_6_0 q1_6_0 q2_6_0 q3_6_0 q4_6_0 q5_6_0 q6_6_0 ca0_0_6_0 ca0_1_6_0 hm_6_0; exfalso; omega
    | succ n ih_6_0 =>
      intro p6_0 p6_1 h6_0 gh_6_0 gx_6_0 q0_6_0 q1_6_0 q2_6_0 q3_6_0 q4_6_0 q5_6_0 q6_6_0 ca0_0_6_0 ca0_1_6_0 hm_6_0
      have J95_0 : ∀ (p95_0 p95_1 : Int) (h95_0 : my_H), my_fr [(8, 0), (8, 1), (42, -1), (44, -1)] h h95_0 → my_fx x0 3 h h95_0 → 0 ≤ p95_0 → p95_0 ≤ 11 → p6_1 ≤ 10 → 1 ≤ ka0_0 → p6_0 ≤ 10 → p95_0 ≤ (p6_1 + 1) → p95_0 ≤ ka0_0 → p95_0 ≤ (p6_0 + 1) → p6_1 ≤ (ka0_0 - 1) → p6_0 ≤ p95_0 → p6_0 ≤ p6_1 → p6_0 ≤ (ka0_0 - 1) → h95_0 x0 0 = ka0_0 → h95_0 x0 1 = ka0_1 → wp l rho (d + 2) 73 95 [(2, x0), (2, x1), (0, x2), (0, x3), (0, x4), (0, p95_0), (0, p6_1), (0, p95_1)] [] h95_0 Q := by
        intro p95_0 p95_1 h95_0 gh_95_0 gx_95_0 q0_95_0 q1_95_0 q2_95_0 q3_95_0 q4_95_0 q5_95_0 q6_95_0 q7_95_0 q8_95_0 q9_95_0 q10_95_0 q11_95_0 ca0_0_95_0 ca0_1_95_0
        refine w_iinc (ls' := [(2, x0), (2, x1), (0, x2), (0, x3), (0, x4), (0, p95_0), (0, (p6_1 + 1)), (0, p95_1)]) gz_73_95 rfl gm_73 rfl rfl rfl ⟨by omega, by omega⟩ ?_
        refine w_goto (t := 6) gz_73_98 rfl ?_
        refine w_weak (ls' := [(2, x0), (2, x1), (0, x2), (0, x3), (0, x4), (0, p95_0), (0, (p6_1 + 1)), (9, 0)]) (wk_e (wk_e (wk_e (wk_e (wk_e (wk_e (wk_e (wk_9 wk_n)))))))) ?_
        exact ih_6_0 (p95_0) ((p6_1 + 1)) h95_0 (gh_95_0) (gx_95_0) (by omega) (by omega) (by omega) (by omega) (by omega) (by omega) (by omega) (ca0_0_95_0.trans (by omega)) (ca0_1_95_0.trans (by omega)) (by omega)
      refine w_iload gz_73_6 rfl ?_
      refine w_aload_n gz_73_8 rfl ?_
      refine v_getI (j := 0) gz_73_9 rfl t0 rd_8 rfl (fun v1 ev1 pv1 qv1 => ?_)
      have zv1 := ev1.trans ca0_0_6_0
      refine w_icge (t := 101) gz_73_12 rfl (fun u2 => ?_) (fun u2 => ?_)
      ·
        refine w_aload_n gz_73_101 rfl ?_
        refine w_iload gz_73_102 rfl ?_
        refine v_putI (j := 0) gz_73_104 rfl t0 rd_8 rfl (by omega) (by omega) rfl (fun h3 fh3 => ?_)
        have gh3 : my_fr [(8, 0), (8, 1), (42, -1), (44, -1)] h h3 := my_fr.up gh_6_0 t0 fh3 rfl
        have gxh3 : my_fx x0 3 h h3 := my_fx.up gx_6_0 fh3 (by omega)
        refine w_aload_n gz_73_107 rfl ?_
        refine w_dup gz_73_108 rfl ?_
        refine v_getI (j := 1) gz_73_109 rfl t0 rd_8 rfl (fun v4 ev4 pv4 qv4 => ?_)
        have zv4 := ev4.trans ((my_up_fld fh3 (by decide)).trans ca0_1_6_0)
        refine w_iload_n gz_73_112 rfl ?_
        refine w_iconst gz_73_113 (by decide) ?_
        refine w_isub gz_73_114 ⟨by omega, by omega⟩ ?_
        refine w_iadd gz_73_115 ⟨by omega, by omega⟩ ?_
        have hi5 : 0 ≤ (v4 + (x3 - 1)) := by omega
        have hi6 : (v4 + (x3 - 1)) ≤ 8 := by omega
        refine v_putI (j := 1) gz_73_116 rfl t0 rd_8 rfl (by omega) (by omega) rfl (fun h7 fh7 => ?_)
        have gh7 : my_fr [(8, 0), (8, 1), (42, -1), (44, -1)] h h7 := my_fr.up gh3 t0 fh7 rfl
        have gxh7 : my_fx x0 3 h h7 := my_fx.up gxh3 fh7 (by omega)
        have ce8 : h7 x0 0 = p6_0 := ((my_up_fld fh7 (by decide)).trans (my_up_self fh3))
        have ce9 : h7 x0 1 = (v4 + (x3 - 1)) := (my_up_self fh7)
        exact w_vret gz_73_119 gm_73 (k0 h7 (gh7) (gxh7) (by first | assumption | omega) (by first | assumption | omega))
      ·
        refine w_aload_n gz_73_15 rfl ?_
        refine w_iload gz_73_16 rfl ?_
        refine w_iload gz_73_18 rfl ?_
        refine w_inv (k := 0) (as := [(0, x4), (0, p6_1)]) (r := []) (x := x0) (ls0 := [(2, x0), (0, p6_1), (0, x4)]) gz_73_20 gm_74 rfl t0 rd_8 rfl rfl rfl rfl rfl ?_
        refine w_aload_n gz_74_0 rfl ?_
        refine w_getX (v := (x0 + 1)) gz_74_1 t0 rd_8 rfl (by decide) rfl ?_
        refine w_iload_n gz_74_4 rfl ?_
        refine w_bipush gz_74_5 (by decide) ?_
        refine w_imul gz_74_7 ⟨by omega, by omega⟩ ?_
        refine w_iload_n gz_74_8 rfl ?_
        refine w_iadd gz_74_9 ⟨by omega, by omega⟩ ?_
        refine w_gldA gz_74_10 (ix_8_1 t0) rd_42 (by omega) (by omega) (fun v11 ev11 pv11 qv11 => ?_)
        refine w_iret gz_74_11 gm_74 ?_
        show wp l rho (d + 2) 73 23 [(2, x0), (2, x1), (0, x2), (0, x3), (0, x4), (0, p6_0), (0, p6_1), (9, 0)] [(0, v11)] h6_0 Q
        refine w_istore (ls' := [(2, x0), (2, x1), (0, x2), (0, x3), (0, x4), (0, p6_0), (0, p6_1), (0, v11)]) gz_73_23 gm_73 rfl rfl rfl ?_
        refine w_aload_n gz_73_25 rfl ?_
        refine w_iload_n gz_73_26 rfl ?_
        refine w_iload gz_73_27 rfl ?_
        refine w_inv (k := 0) (as := [(0, v11), (0, x2)]) (r := []) (x := x1) (ls0 := [(2, x1), (0, x2), (0, v11)]) gz_73_29 gm_15 rfl t1 rd_6 rfl rfl rfl rfl rfl ?_
        refine w_iload_n gz_15_0 rfl ?_
        refine w_iflt (t := 31) gz_15_1 rfl (fun u12 => ?_) (fun u12 => ?_)
        ·
          refine w_iconst gz_15_31 (by decide) ?_
          refine w_bret gz_15_32 gm_15 (by omega) (by omega) ?_
          show wp l rho (d + 2) 73 32 [(2, x0), (2, x1), (0, x2), (0, x3), (0, x4), (0, p6_0), (0, p6_1), (0, v11)] [(0, 0)] h6_0 Q
          refine w_ifeq (t := 95) gz_73_32 rfl (fun u13 => ?_) (fun u13 => by exfalso; omega)
          exact J95_0 (p6_0) (v11) h6_0 (gh_6_0) (gx_6_0) (by omega) (by omega) (by omega) (by omega) (by omega) (by omega) (by omega) (by omega) (by omega) (by omega) (by omega) (by omega) (ev1.symm.trans (by omega)) (ca0_1_6_0.trans (by omega))
        ·
          refine w_iload_n gz_15_4 rfl ?_
          refine w_bipush gz_15_5 (by decide) ?_
          refine w_icge (t := 31) gz_15_7 rfl (fun u14 => ?_) (fun u14 => ?_)
          ·
            refine w_iconst gz_15_31 (by decide) ?_
            refine w_bret gz_15_32 gm_15 (by omega) (by omega) ?_
            show wp l rho (d + 2) 73 32 [(2, x0), (2, x1), (0, x2), (0, x3), (0, x4), (0, p6_0), (0, p6_1), (0, v11)] [(0, 0)] h6_0 Q
            refine w_ifeq (t := 95) gz_73_32 rfl (fun u15 => ?_) (fun u15 => by exfalso; omega)
            exact J95_0 (p6_0) (v11) h6_0 (gh_6_0) (gx_6_0) (by omega) (by omega) (by omega) (by omega) (by omega) (by omega) (by omega) (by omega) (by omega) (by omega) (by omega) (by omega) (ev1.symm.trans (by omega)) (ca0_1_6_0.trans (by omega))
          ·
            refine w_aload_n gz_15_10 rfl ?_
            refine w_getX (v := (x1 + 1)) gz_15_11 t1 rd_6 rfl (by decide) rfl ?_
            refine w_iload_n gz_15_14 rfl ?_
            refine w_bipush gz_15_15 (by decide) ?_
            refine w_imul gz_15_17 ⟨by omega, by omega⟩ ?_
            refine w_iload_n gz_15_18 rfl ?_
            refine w_iadd gz_15_19 ⟨by omega, by omega⟩ ?_
            refine w_iconst gz_15_20 (by decide) ?_
            refine w_imul gz_15_21 ⟨by omega, by omega⟩ ?_
            refine w_iald gz_15_22 (ix_6_1 t1) rd_30 (by omega) (by omega) (fun v17 ev17 pv17 qv17 => ?_)
            refine w_iconst gz_15_23 (by decide) ?_
            refine w_iceq (t := 31) gz_15_24 rfl (fun u18 => ?_) (fun u18 => ?_)
            ·
              refine w_iconst gz_15_31 (by decide) ?_
              refine w_bret gz_15_32 gm_15 (by omega) (by omega) ?_
              show wp l rho (d + 2) 73 32 [(2, x0), (2, x1), (0, x2), (0, x3), (0, x4), (0, p6_0), (0, p6_1), (0, v11)] [(0, 0)] h6_0 Q
              refine w_ifeq (t := 95) gz_73_32 rfl (fun u19 => ?_) (fun u19 => by exfalso; omega)
              exact J95_0 (p6_0) (v11) h6_0 (gh_6_0) (gx_6_0) (by omega) (by omega) (by omega) (by omega) (by omega) (by omega) (by omega) (by omega) (by omega) (by omega) (by omega) (by omega) (ev1.symm.trans (by omega)) (ca0_1_6_0.trans (by omega))
            ·
              refine w_iconst gz_15_27 (by decide) ?_
              refine w_goto (t := 32) gz_15_28 rfl ?_
              refine w_bret gz_15_32 gm_15 (by omega) (by omega) ?_
              show wp l rho (d + 2) 73 32 [(2, x0), (2, x1), (0, x2), (0, x3), (0, x4), (0, p6_0), (0, p6_1), (0, v11)] [(0, 1)] h6_0 Q
              refine w_ifeq (t := 95) gz_73_32 rfl (fun u20 => by exfalso; omega) (fun u20 => ?_)
              refine w_aload_n gz_73_35 rfl ?_
              refine w_iload gz_73_36 rfl ?_
              refine w_iload gz_73_38 rfl ?_
              refine w_inv (k := 0) (as := [(0, p6_0), (0, p6_1)]) (r := []) (x := x0) (ls0 := [(2, x0), (0, p6_1), (0, p6_0)]) gz_73_40 gm_72 rfl t0 rd_8 rfl rfl rfl rfl rfl ?_
              refine w_iload_n gz_72_0 rfl ?_
              refine w_iload_n gz_72_1 rfl ?_
              refine w_iceq (t := 26) gz_72_2 rfl (fun u21 => ?_) (fun u21 => ?_)
              ·
                refine w_vret gz_72_26 gm_72 ?_
                show wp l rho (d + 2) 73 43 [(2, x0), (2, x1), (0, x2), (0, x3), (0, x4), (0, p6_0), (0, p6_1), (0, v11)] [] h6_0 Q
                refine w_aload_n gz_73_43 rfl ?_
                refine w_aload_n gz_73_44 rfl ?_
                refine w_iload_n gz_73_45 rfl ?_
                refine w_iload gz_73_46 rfl ?_
                refine w_inS (k := 0) (as := [(0, v11), (0, x2)]) (r := [(2, x1), (2, x0)]) (ls0 := [(0, x2), (0, v11)]) gz_73_48 gm_17 rfl rfl rfl rfl rfl rfl ?_
                refine w_iload_n gz_17_0 rfl ?_
                refine w_bipush gz_17_1 (by decide) ?_
                refine w_imul gz_17_3 ⟨by omega, by omega⟩ ?_
                refine w_iload_n gz_17_4 rfl ?_
                refine w_iadd gz_17_5 ⟨by omega, by omega⟩ ?_
                refine w_iconst gz_17_6 (by decide) ?_
                refine w_imul gz_17_7 ⟨by omega, by omega⟩ ?_
                refine w_iret gz_17_8 gm_17 ?_
                show wp l rho (d + 2) 73 51 [(2, x0), (2, x1), (0, x2), (0, x3), (0, x4), (0, p6_0), (0, p6_1), (0, v11)] [(0, (((x2 * 20) + v11) * 4)), (2, x1), (2, x0)] h6_0 Q
                refine w_iconst gz_73_51 (by decide) ?_
                refine w_iadd gz_73_52 ⟨by omega, by omega⟩ ?_
                refine w_iload gz_73_53 rfl ?_
                refine w_bipush gz_73_55 (by decide) ?_
                refine w_imul gz_73_57 ⟨by omega, by omega⟩ ?_
                refine w_aload_n gz_73_58 rfl ?_
                refine v_getI (j := 1) gz_73_59 rfl t0 rd_8 rfl (fun v22 ev22 pv22 qv22 => ?_)
                have zv22 := ev22.trans ca0_1_6_0
                refine w_iadd gz_73_62 ⟨by omega, by omega⟩ ?_
                refine w_iload_n gz_73_63 rfl ?_
                refine w_iconst gz_73_64 (by decide) ?_
                refine w_isub gz_73_65 ⟨by omega, by omega⟩ ?_
                have hi23 : 0 ≤ ((p6_0 * 17) + v22) := by omega
                have hi24 : ((p6_0 * 17) + v22) ≤ 186 := by omega
                refine w_inv (k := 1) (as := [(0, (x3 - 1)), (0, ((p6_0 * 17) + v22)), (0, ((((x2 * 20) + v11) * 4) + 1)), (2, x1)]) (r := []) (x := x0) (ls0 := [(2, x0), (2, x1), (0, ((((x2 * 20) + v11) * 4) + 1)), (0, ((p6_0 * 17) + v22)), (0, (x3 - 1)), (9, 0)]) gz_73_66 gm_70 rfl t0 rd_8 rfl rfl rfl rfl rfl (c_View_copyCells (d := (d + 1)) (x0 := x0) (x1 := x1) (x2 := ((((x2 * 20) + v11) * 4) + 1)) (x3 := ((p6_0 * 17) + v22)) (x4 := (x3 - 1)) t0 t1 (by omega) (by omega) (by omega) (by omega) (by omega) (by omega) (by omega) (by omega) (by omega) (by omega) (by first | assumption | omega) (by first | assumption | omega) (fun h25 frh25 fxh25 => ?_))
                have gh25 : my_fr [(8, 0), (8, 1), (42, -1), (44, -1)] h h25 := my_fr.tr gh_6_0 (frh25.mo rfl)
                have gxh25 : my_fx x0 3 h h25 := my_fx.tr gx_6_0 fxh25
                show wp l rho (d + 2) 73 69 [(2, x0), (2, x1), (0, x2), (0, x3), (0, x4), (0, p6_0), (0, p6_1), (0, v11)] [] h25 Q
                refine w_aload_n gz_73_69 rfl ?_
                refine w_getX (v := (x0 + 3)) gz_73_70 t0 rd_8 rfl (by decide) rfl ?_
                refine w_aload_n gz_73_73 rfl ?_
                refine w_iload gz_73_74 rfl ?_
                refine w_inv (k := 0) (as := [(0, p6_0)]) (r := [(2, (x0 + 3))]) (x := x0) (ls0 := [(2, x0), (0, p6_0)]) gz_73_76 gm_75 rfl t0 rd_8 rfl rfl rfl rfl rfl ?_
                refine w_aload_n gz_75_0 rfl ?_
                refine w_getX (v := (x0 + 1)) gz_75_1 t0 rd_8 rfl (by decide) rfl ?_
                refine w_iload_n gz_75_4 rfl ?_
                refine w_bipush gz_75_5 (by decide) ?_
                refine w_imul gz_75_7 ⟨by omega, by omega⟩ ?_
                refine w_bipush gz_75_8 (by decide) ?_
                refine w_iadd gz_75_10 ⟨by omega, by omega⟩ ?_
                refine w_gldT gz_75_11 (ix_8_1 t0) rd_42 (by omega) (by omega) (by omega) (fun v28 ev28 pv28 qv28 => ?_)
                refine w_iret gz_75_12 gm_75 ?_
                show wp l rho (d + 2) 73 79 [(2, x0), (2, x1), (0, x2), (0, x3), (0, x4), (0, p6_0), (0, p6_1), (0, v11)] [(0, v28), (2, (x0 + 3))] h25 Q
                refine w_dup2 gz_73_79 rfl rfl ?_
                refine w_lald gz_73_80 (ix_8_3 t0) rd_44 (by omega) (by omega) (fun v29 ev29 pv29 => ?_)
                refine w_lconst gz_73_81 ?_
                refine w_iload_n gz_73_82 rfl ?_
                refine w_bipush gz_73_83 (by decide) ?_
                refine w_imul gz_73_85 ⟨by omega, by omega⟩ ?_
                refine w_iload gz_73_86 rfl ?_
                refine w_iadd gz_73_88 ⟨by omega, by omega⟩ ?_
                refine w_jshf gz_73_89 (fun _ => rfl) rfl (fun v30 pv30 => ?_)
                refine w_jany2 gz_73_90 (fun _ => rfl) rfl (fun v31 pv31 => ?_)
                refine w_last gz_73_91 (ix_8_3 t0) rd_44 (by omega) (by omega) (fun h32 fh32 => ?_)
                have gh32 : my_fr [(8, 0), (8, 1), (42, -1), (44, -1)] h h32 := my_fr.up gh25 (ix_8_3 t0) fh32 rfl
                have gxh32 : my_fx x0 3 h h32 := my_fx.up gxh25 fh32 (by omega)
                refine w_iinc (ls' := [(2, x0), (2, x1), (0, x2), (0, x3), (0, x4), (0, (p6_0 + 1)), (0, p6_1), (0, v11)]) gz_73_92 rfl gm_73 rfl rfl rfl ⟨by omega, by omega⟩ ?_
                exact J95_0 ((p6_0 + 1)) (v11) h32 (gh32) (gxh32) (by omega) (by omega) (by omega) (by omega) (by omega) (by omega) (by omega) (by omega) (by omega) (by omega) (by omega) (by omega) (((my_up_role fh32 t0 (ix_8_3 t0) rfl).trans ((my_fr.at frh25 t0 rfl).trans ev1.symm)).trans (by omega)) (((my_up_role fh32 t0 (ix_8_3 t0) rfl).trans ((my_fr.at frh25 t0 rfl).trans ev22.symm)).trans (by omega))
              ·
                refine w_aload_n gz_72_5 rfl ?_
                refine w_getX (v := (x0 + 1)) gz_72_6 t0 rd_8 rfl (by decide) rfl ?_
                refine w_iload_n gz_72_9 rfl ?_
                refine w_bipush gz_72_10 (by decide) ?_
                refine w_imul gz_72_12 ⟨by omega, by omega⟩ ?_
                refine w_aload_n gz_72_13 rfl ?_
                refine w_getX (v := (x0 + 1)) gz_72_14 t0 rd_8 rfl (by decide) rfl ?_
                refine w_iload_n gz_72_17 rfl ?_
                refine w_bipush gz_72_18 (by decide) ?_
                refine w_imul gz_72_20 ⟨by omega, by omega⟩ ?_
                refine w_bipush gz_72_21 (by decide) ?_
                refine w_cpG gz_72_23 (ix_8_1 t0) rd_42 (ix_8_1 t0) rd_42 (by omega) (by omega) (by omega) (by omega) (by omega) rfl (by omega) (fun h35 fh35 => ?_)
                have gh35 : my_fr [(8, 0), (8, 1), (42, -1), (44, -1)] h h35 := my_fr.cp gh_6_0 (ix_8_1 t0) fh35 rfl
                have gxh35 : my_fx x0 3 h h35 := my_fx.cp gx_6_0 fh35 (by omega)
                refine w_vret gz_72_26 gm_72 ?_
                show wp l rho (d + 2) 73 43 [(2, x0), (2, x1), (0, x2), (0, x3), (0, x4), (0, p6_0), (0, p6_1), (0, v11)] [] h35 Q
                refine w_aload_n gz_73_43 rfl ?_
                refine w_aload_n gz_73_44 rfl ?_
                refine w_iload_n gz_73_45 rfl ?_
                refine w_iload gz_73_46 rfl ?_
                refine w_inS (k := 0) (as := [(0, v11), (0, x2)]) (r := [(2, x1), (2, x0)]) (ls0 := [(0, x2), (0, v11)]) gz_73_48 gm_17 rfl rfl rfl rfl rfl rfl ?_
                refine w_iload_n gz_17_0 rfl ?_
                refine w_bipush gz_17_1 (by decide) ?_
                refine w_imul gz_17_3 ⟨by omega, by omega⟩ ?_
                refine w_iload_n gz_17_4 rfl ?_
                refine w_iadd gz_17_5 ⟨by omega, by omega⟩ ?_
                refine w_iconst gz_17_6 (by decide) ?_
                refine w_imul gz_17_7 ⟨by omega, by omega⟩ ?_
                refine w_iret gz_17_8 gm_17 ?_
                show wp l rho (d + 2) 73 51 [(2, x0), (2, x1), (0, x2), (0, x3), (0, x4), (0, p6_0), (0, p6_1), (0, v11)] [(0, (((x2 * 20) + v11) * 4)), (2, x1), (2, x0)] h35 Q
                refine w_iconst gz_73_51 (by decide) ?_
                refine w_iadd gz_73_52 ⟨by omega, by omega⟩ ?_
                refine w_iload gz_73_53 rfl ?_
                refine w_bipush gz_73_55 (by decide) ?_
                refine w_imul gz_73_57 ⟨by omega, by omega⟩ ?_
                refine w_aload_n gz_73_58 rfl ?_
                refine v_getI (j := 1) gz_73_59 rfl t0 rd_8 rfl (fun v36 ev36 pv36 qv36 => ?_)
                have zv36 := ev36.trans ((my_cp_role fh35 t0 (ix_8_1 t0) rfl).trans ca0_1_6_0)
                refine w_iadd gz_73_62 ⟨by omega, by omega⟩ ?_
                refine w_iload_n gz_73_63 rfl ?_
                refine w_iconst gz_73_64 (by decide) ?_
                refine w_isub gz_73_65 ⟨by omega, by omega⟩ ?_
                have hi37 : 0 ≤ ((p6_0 * 17) + v36) := by omega
                have hi38 : ((p6_0 * 17) + v36) ≤ 186 := by omega
                refine w_inv (k := 1) (as := [(0, (x3 - 1)), (0, ((p6_0 * 17) + v36)), (0, ((((x2 * 20) + v11) * 4) + 1)), (2, x1)]) (r := []) (x := x0) (ls0 := [(2, x0), (2, x1), (0, ((((x2 * 20) + v11) * 4) + 1)), (0, ((p6_0 * 17) + v36)), (0, (x3 - 1)), (9, 0)]) gz_73_66 gm_70 rfl t0 rd_8 rfl rfl rfl rfl rfl (c_View_copyCells (d := (d + 1)) (x0 := x0) (x1 := x1) (x2 := ((((x2 * 20) + v11) * 4) + 1)) (x3 := ((p6_0 * 17) + v36)) (x4 := (x3 - 1)) t0 t1 (by omega) (by omega) (by omega) (by omega) (by omega) (by omega) (by omega) (by omega) (by omega) (by omega) (by first | assumption | omega) (by first | assumption | omega) (fun h39 frh39 fxh39 => ?_))
                have gh39 : my_fr [(8, 0), (8, 1), (42, -1), (44, -1)] h h39 := my_fr.tr gh35 (frh39.mo rfl)
                have gxh39 : my_fx x0 3 h h39 := my_fx.tr gxh35 fxh39
                show wp l rho (d + 2) 73 69 [(2, x0), (2, x1), (0, x2), (0, x3), (0, x4), (0, p6_0), (0, p6_1), (0, v11)] [] h39 Q
                refine w_aload_n gz_73_69 rfl ?_
                refine w_getX (v := (x0 + 3)) gz_73_70 t0 rd_8 rfl (by decide) rfl ?_
                refine w_aload_n gz_73_73 rfl ?_
                refine w_iload gz_73_74 rfl ?_
                refine w_inv (k := 0) (as := [(0, p6_0)]) (r := [(2, (x0 + 3))]) (x := x0) (ls0 := [(2, x0), (0, p6_0)]) gz_73_76 gm_75 rfl t0 rd_8 rfl rfl rfl rfl rfl ?_
                refine w_aload_n gz_75_0 rfl ?_
                refine w_getX (v := (x0 + 1)) gz_75_1 t0 rd_8 rfl (by decide) rfl ?_
                refine w_iload_n gz_75_4 rfl ?_
                refine w_bipush gz_75_5 (by decide) ?_
                refine w_imul gz_75_7 ⟨by omega, by omega⟩ ?_
                refine w_bipush gz_75_8 (by decide) ?_
                refine w_iadd gz_75_10 ⟨by omega, by omega⟩ ?_
                refine w_gldT gz_75_11 (ix_8_1 t0) rd_42 (by omega) (by omega) (by omega) (fun v42 ev42 pv42 qv42 => ?_)
                refine w_iret gz_75_12 gm_75 ?_
                show wp l rho (d + 2) 73 79 [(2, x0), (2, x1), (0, x2), (0, x3), (0, x4), (0, p6_0), (0, p6_1), (0, v11)] [(0, v42), (2, (x0 + 3))] h39 Q
                refine w_dup2 gz_73_79 rfl rfl ?_
                refine w_lald gz_73_80 (ix_8_3 t0) rd_44 (by omega) (by omega) (fun v43 ev43 pv43 => ?_)
                refine w_lconst gz_73_81 ?_
                refine w_iload_n gz_73_82 rfl ?_
                refine w_bipush gz_73_83 (by decide) ?_
                refine w_imul gz_73_85 ⟨by omega, by omega⟩ ?_
                refine w_iload gz_73_86 rfl ?_
                refine w_iadd gz_73_88 ⟨by omega, by omega⟩ ?_
                refine w_jshf gz_73_89 (fun _ => rfl) rfl (fun v44 pv44 => ?_)
                refine w_jany2 gz_73_90 (fun _ => rfl) rfl (fun v45 pv45 => ?_)
                refine w_last gz_73_91 (ix_8_3 t0) rd_44 (by omega) (by omega) (fun h46 fh46 => ?_)
                have gh46 : my_fr [(8, 0), (8, 1), (42, -1), (44, -1)] h h46 := my_fr.up gh39 (ix_8_3 t0) fh46 rfl
                have gxh46 : my_fx x0 3 h h46 := my_fx.up gxh39 fh46 (by omega)
                refine w_iinc (ls' := [(2, x0), (2, x1), (0, x2), (0, x3), (0, x4), (0, (p6_0 + 1)), (0, p6_1), (0, v11)]) gz_73_92 rfl gm_73 rfl rfl rfl ⟨by omega, by omega⟩ ?_
                exact J95_0 ((p6_0 + 1)) (v11) h46 (gh46) (gxh46) (by omega) (by omega) (by omega) (by omega) (by omega) (by omega) (by omega) (by omega) (by omega) (by omega) (by omega) (by omega) (((my_up_role fh46 t0 (ix_8_3 t0) rfl).trans ((my_fr.at frh39 t0 rfl).trans ((my_cp_role fh35 t0 (ix_8_1 t0) rfl).trans ev1.symm))).trans (by omega)) (((my_up_role fh46 t0 (ix_8_3 t0) rfl).trans ((my_fr.at frh39 t0 rfl).trans ev36.symm)).trans (by omega))
  refine w_iconst gz_73_0 (by decide) ?_
  refine w_istore (ls' := [(2, x0), (2, x1), (0, x2), (0, x3), (0, x4), (0, 0), (9, 0), (9, 0)]) gz_73_1 gm_73 rfl rfl rfl ?_
  refine w_iconst gz_73_3 (by decide) ?_
  refine w_istore (ls' := [(2, x0), (2, x1), (0, x2), (0, x3), (0, x4), (0, 0), (0, 0), (9, 0)]) gz_73_4 gm_73 rfl rfl rfl ?_
  exact J6_0 12 (0) (0) h (my_fr.rf) (my_fx.rf) (by omega) (by omega) (by omega) (by omega) (by omega) (by omega) (by omega) (eka0_0.symm.trans (by omega)) (eka0_1.symm.trans (by omega)) (by omega)
theorem c_View_sum {l : Launch} {rho : Nat → Int32} {d : Nat} {h : my_H} {Q : my_H → my_V → Prop} {x0 x1 x2 : Int} (t0 : my_is 8 x0) (a1 : 0 ≤ x1) (b1 : x1 ≤ 7) (m1_0 : 0 ≤ x1 % 17) (m1_1 : x1 % 17 ≤ 7) (a2 : 0 ≤ x2) (b2 : x2 ≤ 7) (m2_0 : 0 ≤ x2 % 17) (m2_1 : x2 % 17 ≤ 7) (k0 : ∀ (h' : my_H), my_fr [(8, 0), (8, 1), (42, -1)] h h' → my_fx x0 3 h h' → h' x0 1 = 2 → h' x0 0 ≤ h x0 0 → h' x0 1 = 2 → Q h' (9, 0)) : wp l rho (d + 1) 76 0 [(2, x0), (0, x1), (0, x2), (9, 0), (9, 0), (9, 0), (9, 0), (9, 0), (9, 0)] [] h Q := by
  refine v_know (x := x0) (j := 0) (b := 0) rfl t0 rd_8 rfl (fun ka0_0 eka0_0 pka0_0 qka0_0 => ?_)
  have J5_0 : ∀ (n : Nat) (p5_0 p5_1 : Int) (h5_0 : my_H), my_fr [(8, 0), (8, 1), (42, -1)] h h5_0 → my_fx x0 3 h h5_0 → 0 ≤ p5_0 → p5_0 ≤ 11 → 0 ≤ p5_1 → p5_1 ≤ 11 → p5_0 ≤ p5_1 → p5_0 ≤ ka0_0 → p5_1 ≤ ka0_0 → h5_0 x0 0 = ka0_0 → 12 - p5_1 ≤ (n : Int) → wp l rho (d + 1) 76 5 [(2, x0), (0, x1), (0, x2), (0, p5_0), (0, p5_1), (9, 0), (9, 0), (9, 0), (9, 0)] [] h5_0 Q := by
    intro n
    induction n with
    | zero => intro p5_0 p5_1 h5_0 gh_5_0 gx_5_0 q0_5_0 q1_5_0 q2_5_0 q3_5_0 q4_5_0 q5_5_0 q6_5_0 ca0_0_5_0 hm_5_0; exfalso; omega
    | succ n ih_5_0 =>
      intro p5_0 p5_1 h5_0 gh_5_0 gx_5_0 q0_5_0 q1_5_0 q2_5_0 q3_5_0 q4_5_0 q5_5_0 q6_5_0 ca0_0_5_0 hm_5_0
      have J147_0 : ∀ (p147_0 p147_1 p147_2 p147_3 p147_4 : Int) (h147_0 : my_H), my_fr [(8, 0), (8, 1), (42, -1)] h h147_0 → my_fx x0 3 h h147_0 → 1 ≤ p147_0 → p147_0 ≤ 11 → p5_1 ≤ 10 → 0 ≤ p147_3 → p147_3 ≤ 10 → 0 ≤ p147_4 → p147_4 ≤ 170 → 1 ≤ ka0_0 → p5_0 ≤ 10 → p147_0 ≤ (p147_3 + 10) → p147_0 ≤ (p5_1 + 1) → p147_0 ≤ ka0_0 → p147_0 ≤ (p5_0 + 1) → p147_3 ≤ (p147_0 - 1) → p147_3 ≤ p5_1 → p147_3 ≤ (ka0_0 - 1) → p147_3 ≤ p5_0 → p5_1 ≤ (ka0_0 - 1) → p5_0 ≤ p147_0 → p5_0 ≤ p5_1 → p5_0 ≤ (ka0_0 - 1) → h147_0 x0 0 = ka0_0 → wp l rho (d + 1) 76 147 [(2, x0), (0, x1), (0, x2), (0, p147_0), (0, p5_1), (0, p147_1), (0, p147_2), (0, p147_3), (0, p147_4)] [] h147_0 Q := by
        intro p147_0 p147_1 p147_2 p147_3 p147_4 h147_0 gh_147_0 gx_147_0 q0_147_0 q1_147_0 q2_147_0 q3_147_0 q4_147_0 q5_147_0 q6_147_0 q7_147_0 q8_147_0 q9_147_0 q10_147_0 q11_147_0 q12_147_0 q13_147_0 q14_147_0 q15_147_0 q16_147_0 q17_147_0 q18_147_0 q19_147_0 q20_147_0 ca0_0_147_0
        refine w_iinc (ls' := [(2, x0), (0, x1), (0, x2), (0, p147_0), (0, (p5_1 + 1)), (0, p147_1), (0, p147_2), (0, p147_3), (0, p147_4)]) gz_76_147 rfl gm_76 rfl rfl rfl ⟨by omega, by omega⟩ ?_
        refine w_goto (t := 5) gz_76_150 rfl ?_
        refine w_weak (ls' := [(2, x0), (0, x1), (0, x2), (0, p147_0), (0, (p5_1 + 1)), (9, 0), (9, 0), (9, 0), (9, 0)]) (wk_e (wk_e (wk_e (wk_e (wk_e (wk_9 (wk_9 (wk_9 (wk_9 wk_n))))))))) ?_
        exact ih_5_0 (p147_0) ((p5_1 + 1)) h147_0 (gh_147_0) (gx_147_0) (by omega) (by omega) (by omega) (by omega) (by omega) (by omega) (by omega) (ca0_0_147_0.trans (by omega)) (by omega)
      have J59_0 : ∀ (p59_0 p59_1 p59_2 : Int) (h59_0 : my_H), my_fr [(8, 0), (8, 1), (42, -1)] h h59_0 → my_fx x0 3 h h59_0 → p5_0 ≤ 10 → p5_1 ≤ 10 → 0 ≤ p59_2 → p59_2 ≤ 10 → 1 ≤ ka0_0 → p59_2 ≤ p5_0 → p59_2 ≤ p5_1 → p59_2 ≤ (ka0_0 - 1) → p5_0 ≤ p5_1 → p5_0 ≤ (ka0_0 - 1) → p5_1 ≤ (ka0_0 - 1) → h59_0 x0 0 = ka0_0 → wp l rho (d + 1) 76 59 [(2, x0), (0, x1), (0, x2), (0, p5_0), (0, p5_1), (0, p59_0), (0, p59_1), (0, p59_2), (9, 0)] [] h59_0 Q := by
        intro p59_0 p59_1 p59_2 h59_0 gh_59_0 gx_59_0 q0_59_0 q1_59_0 q2_59_0 q3_59_0 q4_59_0 q5_59_0 q6_59_0 q7_59_0 q8_59_0 q9_59_0 q10_59_0 ca0_0_59_0
        refine w_iload gz_76_59 rfl ?_
        refine w_bipush gz_76_61 (by decide) ?_
        refine w_imul gz_76_63 ⟨by omega, by omega⟩ ?_
        refine w_istore (ls' := [(2, x0), (0, x1), (0, x2), (0, p5_0), (0, p5_1), (0, p59_0), (0, p59_1), (0, p59_2), (0, (p59_2 * 17))]) gz_76_64 gm_76 rfl rfl rfl ?_
        refine w_iload gz_76_66 rfl ?_
        refine w_iload_n gz_76_68 rfl ?_
        refine w_icge (t := 89) gz_76_69 rfl (fun u1 => ?_) (fun u1 => ?_)
        ·
          refine w_aload_n gz_76_89 rfl ?_
          refine w_getX (v := (x0 + 1)) gz_76_90 t0 rd_8 rfl (by decide) rfl ?_
          refine w_iload gz_76_93 rfl ?_
          refine w_iload gz_76_95 rfl ?_
          refine w_gstV gz_76_97 (ix_8_1 t0) rd_42 (by omega) (by omega) (by omega) (fun h3 fh3 => ?_)
          have gh3 : my_fr [(8, 0), (8, 1), (42, -1)] h h3 := my_fr.up gh_59_0 (ix_8_1 t0) fh3 rfl
          have gxh3 : my_fx x0 3 h h3 := my_fx.up gx_59_0 fh3 (by omega)
          refine w_aload_n gz_76_98 rfl ?_
          refine w_getX (v := (x0 + 1)) gz_76_99 t0 rd_8 rfl (by decide) rfl ?_
          refine w_iload gz_76_102 rfl ?_
          refine w_iconst gz_76_104 (by decide) ?_
          refine w_iadd gz_76_105 ⟨by omega, by omega⟩ ?_
          refine w_iload gz_76_106 rfl ?_
          refine w_gstV gz_76_108 (ix_8_1 t0) rd_42 (by omega) (by omega) (by omega) (fun h5 fh5 => ?_)
          have gh5 : my_fr [(8, 0), (8, 1), (42, -1)] h h5 := my_fr.up gh3 (ix_8_1 t0) fh5 rfl
          have gxh5 : my_fx x0 3 h h5 := my_fx.up gxh3 fh5 (by omega)
          refine w_aload_n gz_76_109 rfl ?_
          refine w_getX (v := (x0 + 1)) gz_76_110 t0 rd_8 rfl (by decide) rfl ?_
          refine w_iload gz_76_113 rfl ?_
          refine w_bipush gz_76_115 (by decide) ?_
          refine w_iadd gz_76_117 ⟨by omega, by omega⟩ ?_
          refine w_iconst gz_76_118 (by decide) ?_
          refine w_gstS gz_76_119 (ix_8_1 t0) rd_42 (by omega) (by omega) (by omega) (by omega) (by omega) (by omega) (fun h7 fh7 => ?_)
          have gh7 : my_fr [(8, 0), (8, 1), (42, -1)] h h7 := my_fr.up gh5 (ix_8_1 t0) fh7 rfl
          have gxh7 : my_fx x0 3 h h7 := my_fx.up gxh5 fh7 (by omega)
          refine w_aload_n gz_76_120 rfl ?_
          refine w_getX (v := (x0 + 1)) gz_76_121 t0 rd_8 rfl (by decide) rfl ?_
          refine w_iload gz_76_124 rfl ?_
          refine w_bipush gz_76_126 (by decide) ?_
          refine w_iadd gz_76_128 ⟨by omega, by omega⟩ ?_
          refine w_iconst gz_76_129 (by decide) ?_
          refine w_iadd gz_76_130 ⟨by omega, by omega⟩ ?_
          refine w_iconst gz_76_131 (by decide) ?_
          refine w_gstS gz_76_132 (ix_8_1 t0) rd_42 (by omega) (by omega) (by omega) (by omega) (by omega) (by omega) (fun h9 fh9 => ?_)
          have gh9 : my_fr [(8, 0), (8, 1), (42, -1)] h h9 := my_fr.up gh7 (ix_8_1 t0) fh9 rfl
          have gxh9 : my_fx x0 3 h h9 := my_fx.up gxh7 fh9 (by omega)
          refine w_aload_n gz_76_133 rfl ?_
          refine w_getX (v := (x0 + 1)) gz_76_134 t0 rd_8 rfl (by decide) rfl ?_
          refine w_iload gz_76_137 rfl ?_
          refine w_bipush gz_76_139 (by decide) ?_
          refine w_iadd gz_76_141 ⟨by omega, by omega⟩ ?_
          refine w_iload_n gz_76_142 rfl ?_
          refine w_iinc (ls' := [(2, x0), (0, x1), (0, x2), (0, (p5_0 + 1)), (0, p5_1), (0, p59_0), (0, p59_1), (0, p59_2), (0, (p59_2 * 17))]) gz_76_143 rfl gm_76 rfl rfl rfl ⟨by omega, by omega⟩ ?_
          refine w_gstT gz_76_146 (ix_8_1 t0) rd_42 (by omega) (by omega) (by omega) (by omega) (by omega) (fun h11 fh11 => ?_)
          have gh11 : my_fr [(8, 0), (8, 1), (42, -1)] h h11 := my_fr.up gh9 (ix_8_1 t0) fh11 rfl
          have gxh11 : my_fx x0 3 h h11 := my_fx.up gxh9 fh11 (by omega)
          exact J147_0 ((p5_0 + 1)) (p59_0) (p59_1) (p59_2) ((p59_2 * 17)) h11 (gh11) (gxh11) (by omega) (by omega) (by omega) (by omega) (by omega) (by omega) (by omega) (by omega) (by omega) (by omega) (by omega) (by omega) (by omega) (by omega) (by omega) (by omega) (by omega) (by omega) (by omega) (by omega) (by omega) (((my_up_role fh11 t0 (ix_8_1 t0) rfl).trans ((my_up_role fh9 t0 (ix_8_1 t0) rfl).trans ((my_up_role fh7 t0 (ix_8_1 t0) rfl).trans ((my_up_role fh5 t0 (ix_8_1 t0) rfl).trans ((my_up_role fh3 t0 (ix_8_1 t0) rfl).trans ca0_0_59_0))))).trans (by omega))
        ·
          refine w_aload_n gz_76_72 rfl ?_
          refine w_getX (v := (x0 + 1)) gz_76_73 t0 rd_8 rfl (by decide) rfl ?_
          refine w_iload gz_76_76 rfl ?_
          refine w_iconst gz_76_78 (by decide) ?_
          refine w_iadd gz_76_79 ⟨by omega, by omega⟩ ?_
          refine w_dup2 gz_76_80 rfl rfl ?_
          refine w_gldA gz_76_81 (ix_8_1 t0) rd_42 (by omega) (by omega) (fun v13 ev13 pv13 qv13 => ?_)
          refine w_iload gz_76_82 rfl ?_
          refine w_ianyA gz_76_84 (fun v14 pv14 qv14 => ?_)
          refine w_gstV gz_76_85 (ix_8_1 t0) rd_42 (by omega) (by omega) (by omega) (fun h15 fh15 => ?_)
          have gh15 : my_fr [(8, 0), (8, 1), (42, -1)] h h15 := my_fr.up gh_59_0 (ix_8_1 t0) fh15 rfl
          have gxh15 : my_fx x0 3 h h15 := my_fx.up gx_59_0 fh15 (by omega)
          refine w_goto (t := 147) gz_76_86 rfl ?_
          exact J147_0 (p5_0) (p59_0) (p59_1) (p59_2) ((p59_2 * 17)) h15 (gh15) (gxh15) (by omega) (by omega) (by omega) (by omega) (by omega) (by omega) (by omega) (by omega) (by omega) (by omega) (by omega) (by omega) (by omega) (by omega) (by omega) (by omega) (by omega) (by omega) (by omega) (by omega) (by omega) (((my_up_role fh15 t0 (ix_8_1 t0) rfl).trans ca0_0_59_0).trans (by omega))
      have J35_0 : ∀ (n : Nat) (p35_0 p35_1 p35_2 : Int) (h35_0 : my_H), my_fr [(8, 0), (8, 1), (42, -1)] h h35_0 → my_fx x0 3 h h35_0 → p5_0 ≤ 10 → p5_1 ≤ 10 → 0 ≤ p35_2 → p35_2 ≤ 10 → 1 ≤ ka0_0 → p35_2 ≤ p5_0 → p35_2 ≤ p5_1 → p35_2 ≤ (ka0_0 - 1) → p5_0 ≤ p5_1 → p5_0 ≤ (ka0_0 - 1) → p5_1 ≤ (ka0_0 - 1) → h35_0 x0 0 = ka0_0 → 11 - p35_2 ≤ (n : Int) → wp l rho (d + 1) 76 35 [(2, x0), (0, x1), (0, x2), (0, p5_0), (0, p5_1), (0, p35_0), (0, p35_1), (0, p35_2), (9, 0)] [] h35_0 Q := by
        intro n
        induction n with
        | zero => intro p35_0 p35_1 p35_2 h35_0 gh_35_0 gx_35_0 q0_35_0 q1_35_0 q2_35_0 q3_35_0 q4_35_0 q5_35_0 q6_35_0 q7_35_0 q8_35_0 q9_35_0 q10_35_0 ca0_0_35_0 hm_35_0; exfalso; omega
        | succ n ih_35_0 =>
          intro p35_0 p35_1 p35_2 h35_0 gh_35_0 gx_35_0 q0_35_0 q1_35_0 q2_35_0 q3_35_0 q4_35_0 q5_35_0 q6_35_0 q7_35_0 q8_35_0 q9_35_0 q10_35_0 ca0_0_35_0 hm_35_0
          refine w_iload gz_76_35 rfl ?_
          refine w_iload_n gz_76_37 rfl ?_
          refine w_icge (t := 59) gz_76_38 rfl (fun u16 => ?_) (fun u16 => ?_)
          ·
            exact J59_0 (p35_0) (p35_1) (p35_2) h35_0 (gh_35_0) (gx_35_0) (by omega) (by omega) (by omega) (by omega) (by omega) (by omega) (by omega) (by omega) (by omega) (by omega) (by omega) (ca0_0_35_0.trans (by omega))
          ·
            refine w_aload_n gz_76_41 rfl ?_
            refine w_iload gz_76_42 rfl ?_
            refine w_iconst gz_76_44 (by decide) ?_
            refine w_inv (k := 0) (as := [(0, 0), (0, p35_2)]) (r := []) (x := x0) (ls0 := [(2, x0), (0, p35_2), (0, 0)]) gz_76_45 gm_74 rfl t0 rd_8 rfl rfl rfl rfl rfl ?_
            refine w_aload_n gz_74_0 rfl ?_
            refine w_getX (v := (x0 + 1)) gz_74_1 t0 rd_8 rfl (by decide) rfl ?_
            refine w_iload_n gz_74_4 rfl ?_
            refine w_bipush gz_74_5 (by decide) ?_
            refine w_imul gz_74_7 ⟨by omega, by omega⟩ ?_
            refine w_iload_n gz_74_8 rfl ?_
            refine w_iadd gz_74_9 ⟨by omega, by omega⟩ ?_
            refine w_gldA gz_74_10 (ix_8_1 t0) rd_42 (by omega) (by omega) (fun v18 ev18 pv18 qv18 => ?_)
            refine w_iret gz_74_11 gm_74 ?_
            show wp l rho (d + 1) 76 48 [(2, x0), (0, x1), (0, x2), (0, p5_0), (0, p5_1), (0, p35_0), (0, p35_1), (0, p35_2), (9, 0)] [(0, v18)] h35_0 Q
            refine w_iload gz_76_48 rfl ?_
            refine w_iceq (t := 59) gz_76_50 rfl (fun u19 => ?_) (fun u19 => ?_)
            ·
              exact J59_0 (p35_0) (p35_1) (p35_2) h35_0 (gh_35_0) (gx_35_0) (by omega) (by omega) (by omega) (by omega) (by omega) (by omega) (by omega) (by omega) (by omega) (by omega) (by omega) (ca0_0_35_0.trans (by omega))
            ·
              refine w_iinc (ls' := [(2, x0), (0, x1), (0, x2), (0, p5_0), (0, p5_1), (0, p35_0), (0, p35_1), (0, (p35_2 + 1)), (9, 0)]) gz_76_53 rfl gm_76 rfl rfl rfl ⟨by omega, by omega⟩ ?_
              refine w_goto (t := 35) gz_76_56 rfl ?_
              exact ih_35_0 (p35_0) (p35_1) ((p35_2 + 1)) h35_0 (gh_35_0) (gx_35_0) (by omega) (by omega) (by omega) (by omega) (by omega) (by omega) (by omega) (by omega) (by omega) (by omega) (by omega) (ca0_0_35_0.trans (by omega)) (by omega)
      refine w_iload gz_76_5 rfl ?_
      refine w_aload_n gz_76_7 rfl ?_
      refine v_getI (j := 0) gz_76_8 rfl t0 rd_8 rfl (fun v20 ev20 pv20 qv20 => ?_)
      have zv20 := ev20.trans ca0_0_5_0
      refine w_icge (t := 153) gz_76_11 rfl (fun u21 => ?_) (fun u21 => ?_)
      ·
        refine w_aload_n gz_76_153 rfl ?_
        refine w_iload_n gz_76_154 rfl ?_
        refine v_putI (j := 0) gz_76_155 rfl t0 rd_8 rfl (by omega) (by omega) rfl (fun h22 fh22 => ?_)
        have gh22 : my_fr [(8, 0), (8, 1), (42, -1)] h h22 := my_fr.up gh_5_0 t0 fh22 rfl
        have gxh22 : my_fx x0 3 h h22 := my_fx.up gx_5_0 fh22 (by omega)
        refine w_aload_n gz_76_158 rfl ?_
        refine w_iconst gz_76_159 (by decide) ?_
        refine v_putI (j := 1) gz_76_160 rfl t0 rd_8 rfl (by omega) (by omega) rfl (fun h23 fh23 => ?_)
        have gh23 : my_fr [(8, 0), (8, 1), (42, -1)] h h23 := my_fr.up gh22 t0 fh23 rfl
        have gxh23 : my_fx x0 3 h h23 := my_fx.up gxh22 fh23 (by omega)
        have ce24 : h23 x0 0 = p5_0 := ((my_up_fld fh23 (by decide)).trans (my_up_self fh22))
        have ce25 : h23 x0 1 = 2 := (my_up_self fh23)
        have c26 := (my_up_self fh23)
        exact w_vret gz_76_163 gm_76 (k0 h23 (gh23) (gxh23) (by omega) (by first | assumption | omega) (by first | assumption | omega))
      ·
        refine w_aload_n gz_76_14 rfl ?_
        refine w_iload gz_76_15 rfl ?_
        refine w_iload_n gz_76_17 rfl ?_
        refine w_inv (k := 0) (as := [(0, x2), (0, p5_1)]) (r := []) (x := x0) (ls0 := [(2, x0), (0, p5_1), (0, x2)]) gz_76_18 gm_74 rfl t0 rd_8 rfl rfl rfl rfl rfl ?_
        refine w_aload_n gz_74_0 rfl ?_
        refine w_getX (v := (x0 + 1)) gz_74_1 t0 rd_8 rfl (by decide) rfl ?_
        refine w_iload_n gz_74_4 rfl ?_
        refine w_bipush gz_74_5 (by decide) ?_
        refine w_imul gz_74_7 ⟨by omega, by omega⟩ ?_
        refine w_iload_n gz_74_8 rfl ?_
        refine w_iadd gz_74_9 ⟨by omega, by omega⟩ ?_
        refine w_gldA gz_74_10 (ix_8_1 t0) rd_42 (by omega) (by omega) (fun v28 ev28 pv28 qv28 => ?_)
        refine w_iret gz_74_11 gm_74 ?_
        show wp l rho (d + 1) 76 21 [(2, x0), (0, x1), (0, x2), (0, p5_0), (0, p5_1), (9, 0), (9, 0), (9, 0), (9, 0)] [(0, v28)] h5_0 Q
        refine w_istore (ls' := [(2, x0), (0, x1), (0, x2), (0, p5_0), (0, p5_1), (0, v28), (9, 0), (9, 0), (9, 0)]) gz_76_21 gm_76 rfl rfl rfl ?_
        refine w_aload_n gz_76_23 rfl ?_
        refine w_iload gz_76_24 rfl ?_
        refine w_iload_n gz_76_26 rfl ?_
        refine w_inv (k := 0) (as := [(0, x1), (0, p5_1)]) (r := []) (x := x0) (ls0 := [(2, x0), (0, p5_1), (0, x1)]) gz_76_27 gm_74 rfl t0 rd_8 rfl rfl rfl rfl rfl ?_
        refine w_aload_n gz_74_0 rfl ?_
        refine w_getX (v := (x0 + 1)) gz_74_1 t0 rd_8 rfl (by decide) rfl ?_
        refine w_iload_n gz_74_4 rfl ?_
        refine w_bipush gz_74_5 (by decide) ?_
        refine w_imul gz_74_7 ⟨by omega, by omega⟩ ?_
        refine w_iload_n gz_74_8 rfl ?_
        refine w_iadd gz_74_9 ⟨by omega, by omega⟩ ?_
        refine w_gldA gz_74_10 (ix_8_1 t0) rd_42 (by omega) (by omega) (fun v30 ev30 pv30 qv30 => ?_)
        refine w_iret gz_74_11 gm_74 ?_
        show wp l rho (d + 1) 76 30 [(2, x0), (0, x1), (0, x2), (0, p5_0), (0, p5_1), (0, v28), (9, 0), (9, 0), (9, 0)] [(0, v30)] h5_0 Q
        refine w_istore (ls' := [(2, x0), (0, x1), (0, x2), (0, p5_0), (0, p5_1), (0, v28), (0, v30), (9, 0), (9, 0)]) gz_76_30 gm_76 rfl rfl rfl ?_
        refine w_iconst gz_76_32 (by decide) ?_
        refine w_istore (ls' := [(2, x0), (0, x1), (0, x2), (0, p5_0), (0, p5_1), (0, v28), (0, v30), (0, 0), (9, 0)]) gz_76_33 gm_76 rfl rfl rfl ?_
        exact J35_0 11 (v28) (v30) (0) h5_0 (gh_5_0) (gx_5_0) (by omega) (by omega) (by omega) (by omega) (by omega) (by omega) (by omega) (by omega) (by omega) (by omega) (by omega) (ev20.symm.trans (by omega)) (by omega)
  refine w_iconst gz_76_0 (by decide) ?_
  refine w_istore_n (ls' := [(2, x0), (0, x1), (0, x2), (0, 0), (9, 0), (9, 0), (9, 0), (9, 0), (9, 0)]) gz_76_1 gm_76 rfl rfl rfl ?_
  refine w_iconst gz_76_2 (by decide) ?_
  refine w_istore (ls' := [(2, x0), (0, x1), (0, x2), (0, 0), (0, 0), (9, 0), (9, 0), (9, 0), (9, 0)]) gz_76_3 gm_76 rfl rfl rfl ?_
  exact J5_0 12 (0) (0) h (my_fr.rf) (my_fx.rf) (by omega) (by omega) (by omega) (by omega) (by omega) (by omega) (by omega) (eka0_0.symm.trans (by omega)) (by omega)
theorem c_View_cut {l : Launch} {rho : Nat → Int32} {d : Nat} {h : my_H} {Q : my_H → my_V → Prop} {x0 x1 x2 x3 : Int} (t0 : my_is 8 x0) (a1 : 0 ≤ x1) (b1 : x1 ≤ 5) (m1_0 : 0 ≤ x1 % 17) (m1_1 : x1 % 17 ≤ 5) (a2 : 0 ≤ x2) (b2 : x2 ≤ 7) (m2_0 : 0 ≤ x2 % 17) (m2_1 : x2 % 17 ≤ 7) (a3 : 0 ≤ x3) (b3 : x3 ≤ 199) (k0 : ∀ (h' : my_H), my_fr [(8, 0), (42, -1)] h h' → my_fx x0 3 h h' → h' x0 0 ≤ h x0 0 → h' x0 1 = h x0 1 → Q h' (9, 0)) : wp l rho (d + 2) 77 0 [(2, x0), (0, x1), (0, x2), (0, x3), (9, 0), (9, 0)] [] h Q := by
  refine v_know (x := x0) (j := 0) (b := 0) rfl t0 rd_8 rfl (fun ka0_0 eka0_0 pka0_0 qka0_0 => ?_)
  refine v_know (x := x0) (j := 1) (b := 1) rfl t0 rd_8 rfl (fun ka0_1 eka0_1 pka0_1 qka0_1 => ?_)
  have J6_0 : ∀ (n : Nat) (p6_0 p6_1 : Int) (h6_0 : my_H), my_fr [(8, 0), (42, -1)] h h6_0 → my_fx x0 3 h h6_0 → 0 ≤ p6_0 → p6_0 ≤ 11 → 0 ≤ p6_1 → p6_1 ≤ 11 → p6_0 ≤ p6_1 → p6_0 ≤ ka0_0 → p6_1 ≤ ka0_0 → h6_0 x0 0 = ka0_0 → h6_0 x0 1 = ka0_1 → 12 - p6_1 ≤ (n : Int) → wp l rho (d + 2) 77 6 [(2, x0), (0, x1), (0, x2), (0, x3), (0, p6_0), (0, p6_1)] [] h6_0 Q := by
    intro n
    induction n with
    | zero => intro p6_0 p6_1 h6_0 gh_6_0 gx_6_0 q0_6_0 q1_6_0 q2_6_0 q3_6_0 q4_6_0 q5_6_0 q6_6_0 ca0_0_6_0 ca0_1_6_0 hm_6_0; exfalso; omega
    | succ n ih_6_0 =>
      intro p6_0 p6_1 h6_0 gh_6_0 gx_6_0 q0_6_0 q1_6_0 q2_6_0 q3_6_0 q4_6_0 q5_6_0 q6_6_0 ca0_0_6_0 ca0_1_6_0 hm_6_0
      have J41_0 : ∀ (p41_0 : Int) (h41_0 : my_H), my_fr [(8, 0), (42, -1)] h h41_0 → my_fx x0 3 h h41_0 → 0 ≤ p41_0 → p41_0 ≤ 11 → p6_1 ≤ 10 → 1 ≤ ka0_0 → p6_0 ≤ 10 → p41_0 ≤ (p6_1 + 1) → p41_0 ≤ ka0_0 → p41_0 ≤ (p6_0 + 1) → p6_1 ≤ (ka0_0 - 1) → p6_0 ≤ p41_0 → p6_0 ≤ p6_1 → p6_0 ≤ (ka0_0 - 1) → h41_0 x0 0 = ka0_0 → h41_0 x0 1 = ka0_1 → wp l rho (d + 2) 77 41 [(2, x0), (0, x1), (0, x2), (0, x3), (0, p41_0), (0, p6_1)] [] h41_0 Q := by
        intro p41_0 h41_0 gh_41_0 gx_41_0 q0_41_0 q1_41_0 q2_41_0 q3_41_0 q4_41_0 q5_41_0 q6_41_0 q7_41_0 q8_41_0 q9_41_0 q10_41_0 q11_41_0 ca0_0_41_0 ca0_1_41_0
        refine w_iinc (ls' := [(2, x0), (0, x1), (0, x2), (0, x3), (0, p41_0), (0, (p6_1 + 1))]) gz_77_41 rfl gm_77 rfl rfl rfl ⟨by omega, by omega⟩ ?_
        refine w_goto (t := 6) gz_77_44 rfl ?_
        exact ih_6_0 (p41_0) ((p6_1 + 1)) h41_0 (gh_41_0) (gx_41_0) (by omega) (by omega) (by omega) (by omega) (by omega) (by omega) (by omega) (ca0_0_41_0.trans (by omega)) (ca0_1_41_0.trans (by omega)) (by omega)
      refine w_iload gz_77_6 rfl ?_
      refine w_aload_n gz_77_8 rfl ?_
      refine v_getI (j := 0) gz_77_9 rfl t0 rd_8 rfl (fun v1 ev1 pv1 qv1 => ?_)
      have zv1 := ev1.trans ca0_0_6_0
      refine w_icge (t := 47) gz_77_12 rfl (fun u2 => ?_) (fun u2 => ?_)
      ·
        refine w_aload_n gz_77_47 rfl ?_
        refine w_iload gz_77_48 rfl ?_
        refine v_putI (j := 0) gz_77_50 rfl t0 rd_8 rfl (by omega) (by omega) rfl (fun h3 fh3 => ?_)
        have gh3 : my_fr [(8, 0), (42, -1)] h h3 := my_fr.up gh_6_0 t0 fh3 rfl
        have gxh3 : my_fx x0 3 h h3 := my_fx.up gx_6_0 fh3 (by omega)
        have ce4 : h3 x0 0 = p6_0 := (my_up_self fh3)
        have ce5 : h3 x0 1 = ka0_1 := ((my_up_fld fh3 (by decide)).trans ca0_1_6_0)
        exact w_vret gz_77_53 gm_77 (k0 h3 (gh3) (gxh3) (by first | assumption | omega) (by first | assumption | omega))
      ·
        refine w_iload_n gz_77_15 rfl ?_
        refine w_aload_n gz_77_16 rfl ?_
        refine w_iload gz_77_17 rfl ?_
        refine w_iload_n gz_77_19 rfl ?_
        refine w_inv (k := 0) (as := [(0, x2), (0, p6_1)]) (r := [(0, x1)]) (x := x0) (ls0 := [(2, x0), (0, p6_1), (0, x2)]) gz_77_20 gm_74 rfl t0 rd_8 rfl rfl rfl rfl rfl ?_
        refine w_aload_n gz_74_0 rfl ?_
        refine w_getX (v := (x0 + 1)) gz_74_1 t0 rd_8 rfl (by decide) rfl ?_
        refine w_iload_n gz_74_4 rfl ?_
        refine w_bipush gz_74_5 (by decide) ?_
        refine w_imul gz_74_7 ⟨by omega, by omega⟩ ?_
        refine w_iload_n gz_74_8 rfl ?_
        refine w_iadd gz_74_9 ⟨by omega, by omega⟩ ?_
        refine w_gldA gz_74_10 (ix_8_1 t0) rd_42 (by omega) (by omega) (fun v7 ev7 pv7 qv7 => ?_)
        refine w_iret gz_74_11 gm_74 ?_
        show wp l rho (d + 2) 77 23 [(2, x0), (0, x1), (0, x2), (0, x3), (0, p6_0), (0, p6_1)] [(0, v7), (0, x1)] h6_0 Q
        refine w_iload_n gz_77_23 rfl ?_
        refine w_inS (k := 0) (as := [(0, x3), (0, v7), (0, x1)]) (r := []) (ls0 := [(0, x1), (0, v7), (0, x3)]) gz_77_24 gm_78 rfl rfl rfl rfl rfl rfl ?_
        refine w_iload_n gz_78_0 rfl ?_
        refine w_ifne (t := 17) gz_78_1 rfl (fun u8 => ?_) (fun u8 => ?_)
        ·
          refine w_iload_n gz_78_17 rfl ?_
          refine w_iconst gz_78_18 (by decide) ?_
          refine w_icne (t := 35) gz_78_19 rfl (fun u9 => ?_) (fun u9 => ?_)
          ·
            refine w_iload_n gz_78_35 rfl ?_
            refine w_iload_n gz_78_36 rfl ?_
            refine w_icle (t := 44) gz_78_37 rfl (fun u10 => ?_) (fun u10 => ?_)
            ·
              refine w_iconst gz_78_44 (by decide) ?_
              refine w_bret gz_78_45 gm_78 (by omega) (by omega) ?_
              show wp l rho (d + 2) 77 27 [(2, x0), (0, x1), (0, x2), (0, x3), (0, p6_0), (0, p6_1)] [(0, 0)] h6_0 Q
              refine w_ifeq (t := 41) gz_77_27 rfl (fun u11 => ?_) (fun u11 => by exfalso; omega)
              exact J41_0 (p6_0) h6_0 (gh_6_0) (gx_6_0) (by omega) (by omega) (by omega) (by omega) (by omega) (by omega) (by omega) (by omega) (by omega) (by omega) (by omega) (by omega) (ev1.symm.trans (by omega)) (ca0_1_6_0.trans (by omega))
            ·
              refine w_iconst gz_78_40 (by decide) ?_
              refine w_goto (t := 45) gz_78_41 rfl ?_
              refine w_bret gz_78_45 gm_78 (by omega) (by omega) ?_
              show wp l rho (d + 2) 77 27 [(2, x0), (0, x1), (0, x2), (0, x3), (0, p6_0), (0, p6_1)] [(0, 1)] h6_0 Q
              refine w_ifeq (t := 41) gz_77_27 rfl (fun u12 => by exfalso; omega) (fun u12 => ?_)
              refine w_aload_n gz_77_30 rfl ?_
              refine w_iload gz_77_31 rfl ?_
              refine w_iload gz_77_33 rfl ?_
              refine w_iinc (ls' := [(2, x0), (0, x1), (0, x2), (0, x3), (0, (p6_0 + 1)), (0, p6_1)]) gz_77_35 rfl gm_77 rfl rfl rfl ⟨by omega, by omega⟩ ?_
              refine w_inv (k := 0) (as := [(0, p6_0), (0, p6_1)]) (r := []) (x := x0) (ls0 := [(2, x0), (0, p6_1), (0, p6_0)]) gz_77_38 gm_72 rfl t0 rd_8 rfl rfl rfl rfl rfl ?_
              refine w_iload_n gz_72_0 rfl ?_
              refine w_iload_n gz_72_1 rfl ?_
              refine w_iceq (t := 26) gz_72_2 rfl (fun u13 => ?_) (fun u13 => ?_)
              ·
                refine w_vret gz_72_26 gm_72 ?_
                show wp l rho (d + 2) 77 41 [(2, x0), (0, x1), (0, x2), (0, x3), (0, (p6_0 + 1)), (0, p6_1)] [] h6_0 Q
                exact J41_0 ((p6_0 + 1)) h6_0 (gh_6_0) (gx_6_0) (by omega) (by omega) (by omega) (by omega) (by omega) (by omega) (by omega) (by omega) (by omega) (by omega) (by omega) (by omega) (ev1.symm.trans (by omega)) (ca0_1_6_0.trans (by omega))
              ·
                refine w_aload_n gz_72_5 rfl ?_
                refine w_getX (v := (x0 + 1)) gz_72_6 t0 rd_8 rfl (by decide) rfl ?_
                refine w_iload_n gz_72_9 rfl ?_
                refine w_bipush gz_72_10 (by decide) ?_
                refine w_imul gz_72_12 ⟨by omega, by omega⟩ ?_
                refine w_aload_n gz_72_13 rfl ?_
                refine w_getX (v := (x0 + 1)) gz_72_14 t0 rd_8 rfl (by decide) rfl ?_
                refine w_iload_n gz_72_17 rfl ?_
                refine w_bipush gz_72_18 (by decide) ?_
                refine w_imul gz_72_20 ⟨by omega, by omega⟩ ?_
                refine w_bipush gz_72_21 (by decide) ?_
                refine w_cpG gz_72_23 (ix_8_1 t0) rd_42 (ix_8_1 t0) rd_42 (by omega) (by omega) (by omega) (by omega) (by omega) rfl (by omega) (fun h16 fh16 => ?_)
                have gh16 : my_fr [(8, 0), (42, -1)] h h16 := my_fr.cp gh_6_0 (ix_8_1 t0) fh16 rfl
                have gxh16 : my_fx x0 3 h h16 := my_fx.cp gx_6_0 fh16 (by omega)
                refine w_vret gz_72_26 gm_72 ?_
                show wp l rho (d + 2) 77 41 [(2, x0), (0, x1), (0, x2), (0, x3), (0, (p6_0 + 1)), (0, p6_1)] [] h16 Q
                exact J41_0 ((p6_0 + 1)) h16 (gh16) (gxh16) (by omega) (by omega) (by omega) (by omega) (by omega) (by omega) (by omega) (by omega) (by omega) (by omega) (by omega) (by omega) (((my_cp_role fh16 t0 (ix_8_1 t0) rfl).trans ev1.symm).trans (by omega)) (((my_cp_role fh16 t0 (ix_8_1 t0) rfl).trans ca0_1_6_0).trans (by omega))
          ·
            refine w_iload_n gz_78_22 rfl ?_
            refine w_iload_n gz_78_23 rfl ?_
            refine w_icne (t := 31) gz_78_24 rfl (fun u17 => ?_) (fun u17 => ?_)
            ·
              refine w_iconst gz_78_31 (by decide) ?_
              refine w_goto (t := 45) gz_78_32 rfl ?_
              refine w_bret gz_78_45 gm_78 (by omega) (by omega) ?_
              show wp l rho (d + 2) 77 27 [(2, x0), (0, x1), (0, x2), (0, x3), (0, p6_0), (0, p6_1)] [(0, 0)] h6_0 Q
              refine w_ifeq (t := 41) gz_77_27 rfl (fun u18 => ?_) (fun u18 => by exfalso; omega)
              exact J41_0 (p6_0) h6_0 (gh_6_0) (gx_6_0) (by omega) (by omega) (by omega) (by omega) (by omega) (by omega) (by omega) (by omega) (by omega) (by omega) (by omega) (by omega) (ev1.symm.trans (by omega)) (ca0_1_6_0.trans (by omega))
            ·
              refine w_iconst gz_78_27 (by decide) ?_
              refine w_goto (t := 45) gz_78_28 rfl ?_
              refine w_bret gz_78_45 gm_78 (by omega) (by omega) ?_
              show wp l rho (d + 2) 77 27 [(2, x0), (0, x1), (0, x2), (0, x3), (0, p6_0), (0, p6_1)] [(0, 1)] h6_0 Q
              refine w_ifeq (t := 41) gz_77_27 rfl (fun u19 => by exfalso; omega) (fun u19 => ?_)
              refine w_aload_n gz_77_30 rfl ?_
              refine w_iload gz_77_31 rfl ?_
              refine w_iload gz_77_33 rfl ?_
              refine w_iinc (ls' := [(2, x0), (0, x1), (0, x2), (0, x3), (0, (p6_0 + 1)), (0, p6_1)]) gz_77_35 rfl gm_77 rfl rfl rfl ⟨by omega, by omega⟩ ?_
              refine w_inv (k := 0) (as := [(0, p6_0), (0, p6_1)]) (r := []) (x := x0) (ls0 := [(2, x0), (0, p6_1), (0, p6_0)]) gz_77_38 gm_72 rfl t0 rd_8 rfl rfl rfl rfl rfl ?_
              refine w_iload_n gz_72_0 rfl ?_
              refine w_iload_n gz_72_1 rfl ?_
              refine w_iceq (t := 26) gz_72_2 rfl (fun u20 => ?_) (fun u20 => ?_)
              ·
                refine w_vret gz_72_26 gm_72 ?_
                show wp l rho (d + 2) 77 41 [(2, x0), (0, x1), (0, x2), (0, x3), (0, (p6_0 + 1)), (0, p6_1)] [] h6_0 Q
                exact J41_0 ((p6_0 + 1)) h6_0 (gh_6_0) (gx_6_0) (by omega) (by omega) (by omega) (by omega) (by omega) (by omega) (by omega) (by omega) (by omega) (by omega) (by omega) (by omega) (ev1.symm.trans (by omega)) (ca0_1_6_0.trans (by omega))
              ·
                refine w_aload_n gz_72_5 rfl ?_
                refine w_getX (v := (x0 + 1)) gz_72_6 t0 rd_8 rfl (by decide) rfl ?_
                refine w_iload_n gz_72_9 rfl ?_
                refine w_bipush gz_72_10 (by decide) ?_
                refine w_imul gz_72_12 ⟨by omega, by omega⟩ ?_
                refine w_aload_n gz_72_13 rfl ?_
                refine w_getX (v := (x0 + 1)) gz_72_14 t0 rd_8 rfl (by decide) rfl ?_
                refine w_iload_n gz_72_17 rfl ?_
                refine w_bipush gz_72_18 (by decide) ?_
                refine w_imul gz_72_20 ⟨by omega, by omega⟩ ?_
                refine w_bipush gz_72_21 (by decide) ?_
                refine w_cpG gz_72_23 (ix_8_1 t0) rd_42 (ix_8_1 t0) rd_42 (by omega) (by omega) (by omega) (by omega) (by omega) rfl (by omega) (fun h23 fh23 => ?_)
                have gh23 : my_fr [(8, 0), (42, -1)] h h23 := my_fr.cp gh_6_0 (ix_8_1 t0) fh23 rfl
                have gxh23 : my_fx x0 3 h h23 := my_fx.cp gx_6_0 fh23 (by omega)
                refine w_vret gz_72_26 gm_72 ?_
                show wp l rho (d + 2) 77 41 [(2, x0), (0, x1), (0, x2), (0, x3), (0, (p6_0 + 1)), (0, p6_1)] [] h23 Q
                exact J41_0 ((p6_0 + 1)) h23 (gh23) (gxh23) (by omega) (by omega) (by omega) (by omega) (by omega) (by omega) (by omega) (by omega) (by omega) (by omega) (by omega) (by omega) (((my_cp_role fh23 t0 (ix_8_1 t0) rfl).trans ev1.symm).trans (by omega)) (((my_cp_role fh23 t0 (ix_8_1 t0) rfl).trans ca0_1_6_0).trans (by omega))
        ·
          refine w_iload_n gz_78_4 rfl ?_
          refine w_iload_n gz_78_5 rfl ?_
          refine w_icge (t := 13) gz_78_6 rfl (fun u24 => ?_) (fun u24 => ?_)
          ·
            refine w_iconst gz_78_13 (by decide) ?_
            refine w_goto (t := 45) gz_78_14 rfl ?_
            refine w_bret gz_78_45 gm_78 (by omega) (by omega) ?_
            show wp l rho (d + 2) 77 27 [(2, x0), (0, x1), (0, x2), (0, x3), (0, p6_0), (0, p6_1)] [(0, 0)] h6_0 Q
            refine w_ifeq (t := 41) gz_77_27 rfl (fun u25 => ?_) (fun u25 => by exfalso; omega)
            exact J41_0 (p6_0) h6_0 (gh_6_0) (gx_6_0) (by omega) (by omega) (by omega) (by omega) (by omega) (by omega) (by omega) (by omega) (by omega) (by omega) (by omega) (by omega) (ev1.symm.trans (by omega)) (ca0_1_6_0.trans (by omega))
          ·
            refine w_iconst gz_78_9 (by decide) ?_
            refine w_goto (t := 45) gz_78_10 rfl ?_
            refine w_bret gz_78_45 gm_78 (by omega) (by omega) ?_
            show wp l rho (d + 2) 77 27 [(2, x0), (0, x1), (0, x2), (0, x3), (0, p6_0), (0, p6_1)] [(0, 1)] h6_0 Q
            refine w_ifeq (t := 41) gz_77_27 rfl (fun u26 => by exfalso; omega) (fun u26 => ?_)
            refine w_aload_n gz_77_30 rfl ?_
            refine w_iload gz_77_31 rfl ?_
            refine w_iload gz_77_33 rfl ?_
            refine w_iinc (ls' := [(2, x0), (0, x1), (0, x2), (0, x3), (0, (p6_0 + 1)), (0, p6_1)]) gz_77_35 rfl gm_77 rfl rfl rfl ⟨by omega, by omega⟩ ?_
            refine w_inv (k := 0) (as := [(0, p6_0), (0, p6_1)]) (r := []) (x := x0) (ls0 := [(2, x0), (0, p6_1), (0, p6_0)]) gz_77_38 gm_72 rfl t0 rd_8 rfl rfl rfl rfl rfl ?_
            refine w_iload_n gz_72_0 rfl ?_
            refine w_iload_n gz_72_1 rfl ?_
            refine w_iceq (t := 26) gz_72_2 rfl (fun u27 => ?_) (fun u27 => ?_)
            ·
              refine w_vret gz_72_26 gm_72 ?_
              show wp l rho (d + 2) 77 41 [(2, x0), (0, x1), (0, x2), (0, x3), (0, (p6_0 + 1)), (0, p6_1)] [] h6_0 Q
              exact J41_0 ((p6_0 + 1)) h6_0 (gh_6_0) (gx_6_0) (by omega) (by omega) (by omega) (by omega) (by omega) (by omega) (by omega) (by omega) (by omega) (by omega) (by omega) (by omega) (ev1.symm.trans (by omega)) (ca0_1_6_0.trans (by omega))
            ·
              refine w_aload_n gz_72_5 rfl ?_
              refine w_getX (v := (x0 + 1)) gz_72_6 t0 rd_8 rfl (by decide) rfl ?_
              refine w_iload_n gz_72_9 rfl ?_
              refine w_bipush gz_72_10 (by decide) ?_
              refine w_imul gz_72_12 ⟨by omega, by omega⟩ ?_
              refine w_aload_n gz_72_13 rfl ?_
              refine w_getX (v := (x0 + 1)) gz_72_14 t0 rd_8 rfl (by decide) rfl ?_
              refine w_iload_n gz_72_17 rfl ?_
              refine w_bipush gz_72_18 (by decide) ?_
              refine w_imul gz_72_20 ⟨by omega, by omega⟩ ?_
              refine w_bipush gz_72_21 (by decide) ?_
              refine w_cpG gz_72_23 (ix_8_1 t0) rd_42 (ix_8_1 t0) rd_42 (by omega) (by omega) (by omega) (by omega) (by omega) rfl (by omega) (fun h30 fh30 => ?_)
              have gh30 : my_fr [(8, 0), (42, -1)] h h30 := my_fr.cp gh_6_0 (ix_8_1 t0) fh30 rfl
              have gxh30 : my_fx x0 3 h h30 := my_fx.cp gx_6_0 fh30 (by omega)
              refine w_vret gz_72_26 gm_72 ?_
              show wp l rho (d + 2) 77 41 [(2, x0), (0, x1), (0, x2), (0, x3), (0, (p6_0 + 1)), (0, p6_1)] [] h30 Q
              exact J41_0 ((p6_0 + 1)) h30 (gh30) (gxh30) (by omega) (by omega) (by omega) (by omega) (by omega) (by omega) (by omega) (by omega) (by omega) (by omega) (by omega) (by omega) (((my_cp_role fh30 t0 (ix_8_1 t0) rfl).trans ev1.symm).trans (by omega)) (((my_cp_role fh30 t0 (ix_8_1 t0) rfl).trans ca0_1_6_0).trans (by omega))
  refine w_iconst gz_77_0 (by decide) ?_
  refine w_istore (ls' := [(2, x0), (0, x1), (0, x2), (0, x3), (0, 0), (9, 0)]) gz_77_1 gm_77 rfl rfl rfl ?_
  refine w_iconst gz_77_3 (by decide) ?_
  refine w_istore (ls' := [(2, x0), (0, x1), (0, x2), (0, x3), (0, 0), (0, 0)]) gz_77_4 gm_77 rfl rfl rfl ?_
  exact J6_0 12 (0) (0) h (my_fr.rf) (my_fx.rf) (by omega) (by omega) (by omega) (by omega) (by omega) (by omega) (by omega) (eka0_0.symm.trans (by omega)) (eka0_1.symm.trans (by omega)) (by omega)
theorem c_View_dropRow {l : Launch} {rho : Nat → Int32} {d : Nat} {h : my_H} {Q : my_H → my_V → Prop} {x0 x1 : Int} (t0 : my_is 8 x0) (a1 : 0 ≤ x1) (b1 : x1 ≤ 9) (m1_0 : 0 ≤ x1 % 17) (m1_1 : x1 % 17 ≤ 9) (hd : x1 < h x0 0) (k0 : ∀ (h' : my_H), my_fr [(8, 0), (42, -1)] h h' → my_fx x0 3 h h' → 0 ≤ h' x0 0 → h' x0 0 ≤ 10 → Q h' (9, 0)) : wp l rho (d + 2) 90 0 [(2, x0), (0, x1), (9, 0)] [] h Q := by
  refine v_know (x := x0) (j := 0) (b := 0) rfl t0 rd_8 rfl (fun ka0_0 eka0_0 pka0_0 qka0_0 => ?_)
  have J4_0 : ∀ (n : Nat) (p4_0 : Int) (h4_0 : my_H), my_fr [(8, 0), (42, -1)] h h4_0 → my_fx x0 3 h h4_0 → 1 ≤ p4_0 → p4_0 ≤ 11 → p4_0 ≤ (ka0_0 + 10) → x1 ≤ (p4_0 - 1) → h4_0 x0 0 = ka0_0 → 12 - p4_0 ≤ (n : Int) → wp l rho (d + 2) 90 4 [(2, x0), (0, x1), (0, p4_0)] [] h4_0 Q := by
    intro n
    induction n with
    | zero => intro p4_0 h4_0 gh_4_0 gx_4_0 q0_4_0 q1_4_0 q2_4_0 q3_4_0 ca0_0_4_0 hm_4_0; exfalso; omega
    | succ n ih_4_0 =>
      intro p4_0 h4_0 gh_4_0 gx_4_0 q0_4_0 q1_4_0 q2_4_0 q3_4_0 ca0_0_4_0 hm_4_0
      refine w_iload_n gz_90_4 rfl ?_
      refine w_aload_n gz_90_5 rfl ?_
      refine v_getI (j := 0) gz_90_6 rfl t0 rd_8 rfl (fun v1 ev1 pv1 qv1 => ?_)
      have zv1 := ev1.trans ca0_0_4_0
      refine w_icge (t := 26) gz_90_9 rfl (fun u2 => ?_) (fun u2 => ?_)
      ·
        refine w_aload_n gz_90_26 rfl ?_
        refine w_dup gz_90_27 rfl ?_
        refine v_getI (j := 0) gz_90_28 rfl t0 rd_8 rfl (fun v3 ev3 pv3 qv3 => ?_)
        have zv3 := ev3.trans ev1.symm
        refine w_iconst gz_90_31 (by decide) ?_
        refine w_isub gz_90_32 ⟨by omega, by omega⟩ ?_
        have hi4 : 0 ≤ (v3 - 1) := by omega
        refine v_putI (j := 0) gz_90_33 rfl t0 rd_8 rfl (by omega) (by omega) rfl (fun h5 fh5 => ?_)
        have gh5 : my_fr [(8, 0), (42, -1)] h h5 := my_fr.up gh_4_0 t0 fh5 rfl
        have gxh5 : my_fx x0 3 h h5 := my_fx.up gx_4_0 fh5 (by omega)
        have c6 := (my_up_self fh5)
        exact w_vret gz_90_36 gm_90 (k0 h5 (gh5) (gxh5) (by omega) (by omega))
      ·
        refine w_aload_n gz_90_12 rfl ?_
        refine w_iload_n gz_90_13 rfl ?_
        refine w_iload_n gz_90_14 rfl ?_
        refine w_iconst gz_90_15 (by decide) ?_
        refine w_isub gz_90_16 ⟨by omega, by omega⟩ ?_
        refine w_inv (k := 0) (as := [(0, (p4_0 - 1)), (0, p4_0)]) (r := []) (x := x0) (ls0 := [(2, x0), (0, p4_0), (0, (p4_0 - 1))]) gz_90_17 gm_72 rfl t0 rd_8 rfl rfl rfl rfl rfl ?_
        refine w_iload_n gz_72_0 rfl ?_
        refine w_iload_n gz_72_1 rfl ?_
        refine w_iceq (t := 26) gz_72_2 rfl (fun u7 => by exfalso; omega) (fun u7 => ?_)
        refine w_aload_n gz_72_5 rfl ?_
        refine w_getX (v := (x0 + 1)) gz_72_6 t0 rd_8 rfl (by decide) rfl ?_
        refine w_iload_n gz_72_9 rfl ?_
        refine w_bipush gz_72_10 (by decide) ?_
        refine w_imul gz_72_12 ⟨by omega, by omega⟩ ?_
        refine w_aload_n gz_72_13 rfl ?_
        refine w_getX (v := (x0 + 1)) gz_72_14 t0 rd_8 rfl (by decide) rfl ?_
        refine w_iload_n gz_72_17 rfl ?_
        refine w_bipush gz_72_18 (by decide) ?_
        refine w_imul gz_72_20 ⟨by omega, by omega⟩ ?_
        refine w_bipush gz_72_21 (by decide) ?_
        refine w_cpG gz_72_23 (ix_8_1 t0) rd_42 (ix_8_1 t0) rd_42 (by omega) (by omega) (by omega) (by omega) (by omega) rfl (by omega) (fun h10 fh10 => ?_)
        have gh10 : my_fr [(8, 0), (42, -1)] h h10 := my_fr.cp gh_4_0 (ix_8_1 t0) fh10 rfl
        have gxh10 : my_fx x0 3 h h10 := my_fx.cp gx_4_0 fh10 (by omega)
        refine w_vret gz_72_26 gm_72 ?_
        show wp l rho (d + 2) 90 20 [(2, x0), (0, x1), (0, p4_0)] [] h10 Q
        refine w_iinc (ls' := [(2, x0), (0, x1), (0, (p4_0 + 1))]) gz_90_20 rfl gm_90 rfl rfl rfl ⟨by omega, by omega⟩ ?_
        refine w_goto (t := 4) gz_90_23 rfl ?_
        exact ih_4_0 ((p4_0 + 1)) h10 (gh10) (gxh10) (by omega) (by omega) (by omega) (by omega) (((my_cp_role fh10 t0 (ix_8_1 t0) rfl).trans ev1.symm).trans (by omega)) (by omega)
  refine w_iload_n gz_90_0 rfl ?_
  refine w_iconst gz_90_1 (by decide) ?_
  refine w_iadd gz_90_2 ⟨by omega, by omega⟩ ?_
  refine w_istore_n (ls' := [(2, x0), (0, x1), (0, (x1 + 1))]) gz_90_3 gm_90 rfl rfl rfl ?_
  exact J4_0 11 ((x1 + 1)) h (my_fr.rf) (my_fx.rf) (by omega) (by omega) (by omega) (by omega) (eka0_0.symm.trans (by omega)) (by omega)
theorem c_Desk_keep {l : Launch} {rho : Nat → Int32} {d : Nat} {h : my_H} {Q : my_H → my_V → Prop} {x1 x2 : Int} (a1 : 0 ≤ x1) (b1 : x1 ≤ 3) (a2 : 0 ≤ x2) (b2 : x2 ≤ 4) (n_Lst : Lst h) (hk1 : x1 = 1 → 0 ≤ h 111 2 ∧ 0 ≤ h 111 3 ∧ 0 ≤ h 111 4 ∧ 0 ≤ h 111 5) (hk2 : x1 = 2 → 0 ≤ h 111 2 ∧ 0 ≤ h 111 3) (hk3 : x1 = 3 → 0 ≤ h 111 2) (k0 : ∀ (h' : my_H), my_fr [(2, 11), (7, 0), (7, 1), (7, 2), (7, 3), (7, 4), (7, 5)] h h' → h' 111 2 = h 111 2 → h' 111 3 = h 111 3 → h' 111 4 = h 111 4 → Lst h' → Q h' (9, 0)) : wp l rho (d + 1) 94 0 [(2, 94), (0, x1), (0, x2)] [] h Q := by
  refine w_aload_n gz_94_0 rfl ?_
  refine w_getX (v := 111) gz_94_1 is_94 rd_2 rfl (by decide) rfl ?_
  refine w_iload_n gz_94_4 rfl ?_
  refine v_putI (j := 1) gz_94_5 rfl is_111 rd_7 rfl (by omega) (by omega) rfl (fun h2 fh2 => ?_)
  have gh2 : my_fr [(2, 11), (7, 0), (7, 1), (7, 2), (7, 3), (7, 4), (7, 5)] h h2 := my_fr.up my_fr.rf is_111 fh2 rfl
  have Lst_h2 : Lst h2 := Lst_ne fh2 (by decide) n_Lst
  refine w_aload_n gz_94_8 rfl ?_
  refine w_getX (v := 111) gz_94_9 is_94 rd_2 rfl (by decide) rfl ?_
  refine w_iload_n gz_94_12 rfl ?_
  refine v_putA (j := 0) gz_94_13 rfl is_111 rd_7 rfl rfl (fun h4 fh4 => ?_)
  have gh4 : my_fr [(2, 11), (7, 0), (7, 1), (7, 2), (7, 3), (7, 4), (7, 5)] h h4 := my_fr.up gh2 is_111 fh4 rfl
  have Lst_h4 : Lst h4 := Lst_ne fh4 (by decide) Lst_h2
  refine w_aload_n gz_94_16 rfl ?_
  refine w_getX (v := 112) gz_94_17 is_94 rd_2 rfl (by decide) rfl ?_
  refine v_getI (j := 0) gz_94_20 rfl is_112 rd_7 rfl (fun v6 ev6 pv6 qv6 => ?_)
  refine w_iconst gz_94_23 (by decide) ?_
  refine w_iceq (t := 38) gz_94_24 rfl (fun u7 => ?_) (fun u7 => ?_)
  ·
    refine w_aload_n gz_94_38 rfl ?_
    refine w_getX (v := 112) gz_94_39 is_94 rd_2 rfl (by decide) rfl ?_
    refine w_aload_n gz_94_42 rfl ?_
    refine w_getX (v := 111) gz_94_43 is_94 rd_2 rfl (by decide) rfl ?_
    refine w_inv (k := 0) (as := [(2, 111)]) (r := []) (x := 112) (ls0 := [(2, 112), (2, 111)]) gz_94_46 gm_95 rfl is_112 rd_7 rfl rfl rfl rfl rfl ?_
    refine w_aload_n gz_95_0 rfl ?_
    refine w_aload_n gz_95_1 rfl ?_
    refine v_getI (j := 0) gz_95_2 rfl is_111 rd_7 rfl (fun v10 ev10 pv10 qv10 => ?_)
    have zv10 := ev10.trans (my_up_self fh4)
    refine v_putA (j := 0) gz_95_5 rfl is_112 rd_7 rfl rfl (fun h11 fh11 => ?_)
    have gh11 : my_fr [(2, 11), (7, 0), (7, 1), (7, 2), (7, 3), (7, 4), (7, 5)] h h11 := my_fr.up gh4 is_112 fh11 rfl
    refine w_aload_n gz_95_8 rfl ?_
    refine w_aload_n gz_95_9 rfl ?_
    refine v_getI (j := 1) gz_95_10 rfl is_111 rd_7 rfl (fun v12 ev12 pv12 qv12 => ?_)
    have zv12 := ev12.trans ((my_up_fld fh11 (by decide)).trans ((my_up_fld fh4 (by decide)).trans (my_up_self fh2)))
    refine v_putI (j := 1) gz_95_13 rfl is_112 rd_7 rfl (by omega) (by omega) rfl (fun h13 fh13 => ?_)
    have gh13 : my_fr [(2, 11), (7, 0), (7, 1), (7, 2), (7, 3), (7, 4), (7, 5)] h h13 := my_fr.up gh11 is_112 fh13 rfl
    refine w_aload_n gz_95_16 rfl ?_
    refine w_aload_n gz_95_17 rfl ?_
    refine v_getI (j := 2) gz_95_18 rfl is_111 rd_7 rfl (fun v14 ev14 pv14 qv14 => ?_)
    refine v_putI (j := 2) gz_95_21 rfl is_112 rd_7 rfl (by omega) (by omega) rfl (fun h15 fh15 => ?_)
    have gh15 : my_fr [(2, 11), (7, 0), (7, 1), (7, 2), (7, 3), (7, 4), (7, 5)] h h15 := my_fr.up gh13 is_112 fh15 rfl
    refine w_aload_n gz_95_24 rfl ?_
    refine w_aload_n gz_95_25 rfl ?_
    refine v_getI (j := 3) gz_95_26 rfl is_111 rd_7 rfl (fun v16 ev16 pv16 qv16 => ?_)
    refine v_putI (j := 3) gz_95_29 rfl is_112 rd_7 rfl (by omega) (by omega) rfl (fun h17 fh17 => ?_)
    have gh17 : my_fr [(2, 11), (7, 0), (7, 1), (7, 2), (7, 3), (7, 4), (7, 5)] h h17 := my_fr.up gh15 is_112 fh17 rfl
    refine w_aload_n gz_95_32 rfl ?_
    refine w_aload_n gz_95_33 rfl ?_
    refine v_getI (j := 4) gz_95_34 rfl is_111 rd_7 rfl (fun v18 ev18 pv18 qv18 => ?_)
    refine v_putI (j := 4) gz_95_37 rfl is_112 rd_7 rfl (by omega) (by omega) rfl (fun h19 fh19 => ?_)
    have gh19 : my_fr [(2, 11), (7, 0), (7, 1), (7, 2), (7, 3), (7, 4), (7, 5)] h h19 := my_fr.up gh17 is_112 fh19 rfl
    refine w_aload_n gz_95_40 rfl ?_
    refine w_aload_n gz_95_41 rfl ?_
    refine v_getI (j := 5) gz_95_42 rfl is_111 rd_7 rfl (fun v20 ev20 pv20 qv20 => ?_)
    refine v_putI (j := 5) gz_95_45 rfl is_112 rd_7 rfl (by omega) (by omega) rfl (fun h21 fh21 => ?_)
    have gh21 : my_fr [(2, 11), (7, 0), (7, 1), (7, 2), (7, 3), (7, 4), (7, 5)] h h21 := my_fr.up gh19 is_112 fh21 rfl
    refine w_vret gz_95_48 gm_95 ?_
    show wp l rho (d + 1) 94 49 [(2, 94), (0, x1), (0, x2)] [] h21 Q
    refine w_aload_n gz_94_49 rfl ?_
    refine v_getI (j := 11) gz_94_50 rfl is_94 rd_2 rfl (fun v22 ev22 pv22 qv22 => ?_)
    refine w_aload_n gz_94_53 rfl ?_
    refine v_getI (j := 12) gz_94_54 rfl is_94 rd_2 rfl (fun v23 ev23 pv23 qv23 => ?_)
    refine w_icne (t := 71) gz_94_57 rfl (fun u24 => ?_) (fun u24 => ?_)
    ·
      refine w_aload_n gz_94_71 rfl ?_
      refine w_dup gz_94_72 rfl ?_
      refine v_getI (j := 11) gz_94_73 rfl is_94 rd_2 rfl (fun v25 ev25 pv25 qv25 => ?_)
      have zv25 := ev25.trans ev22.symm
      refine w_iconst gz_94_76 (by decide) ?_
      refine w_ianyA gz_94_77 (fun v26 pv26 qv26 => ?_)
      refine v_putA (j := 11) gz_94_78 rfl is_94 rd_2 rfl rfl (fun h27 fh27 => ?_)
      have gh27 : my_fr [(2, 11), (7, 0), (7, 1), (7, 2), (7, 3), (7, 4), (7, 5)] h h27 := my_fr.up gh21 is_94 fh27 rfl
      have ce28 : h27 111 2 = v14 := ((my_up_role fh27 is_111 is_94 rfl).trans ((my_up_fld fh21 (by decide)).trans ((my_up_fld fh19 (by decide)).trans ((my_up_fld fh17 (by decide)).trans ((my_up_ne fh15 (by omega)).trans ev14.symm)))))
      have ce29 : h27 111 3 = v16 := ((my_up_role fh27 is_111 is_94 rfl).trans ((my_up_fld fh21 (by decide)).trans ((my_up_fld fh19 (by decide)).trans ((my_up_ne fh17 (by omega)).trans ev16.symm))))
      have ce30 : h27 111 4 = v18 := ((my_up_role fh27 is_111 is_94 rfl).trans ((my_up_fld fh21 (by decide)).trans ((my_up_ne fh19 (by omega)).trans ev18.symm)))
      have ce31 : h27 112 1 = v12 := ((my_up_role fh27 is_112 is_94 rfl).trans ((my_up_fld fh21 (by decide)).trans ((my_up_fld fh19 (by decide)).trans ((my_up_fld fh17 (by decide)).trans ((my_up_fld fh15 (by decide)).trans (my_up_self fh13))))))
      have ce32 : h27 112 2 = v14 := ((my_up_role fh27 is_112 is_94 rfl).trans ((my_up_fld fh21 (by decide)).trans ((my_up_fld fh19 (by decide)).trans ((my_up_fld fh17 (by decide)).trans (my_up_self fh15)))))
      have ce33 : h27 112 3 = v16 := ((my_up_role fh27 is_112 is_94 rfl).trans ((my_up_fld fh21 (by decide)).trans ((my_up_fld fh19 (by decide)).trans (my_up_self fh17))))
      have ce34 : h27 112 4 = v18 := ((my_up_role fh27 is_112 is_94 rfl).trans ((my_up_fld fh21 (by decide)).trans (my_up_self fh19)))
      have ce35 : h27 112 5 = v20 := ((my_up_role fh27 is_112 is_94 rfl).trans (my_up_self fh21))
      have Lst_h27t36 : Lst h27 := by have q := n_Lst; unfold Lst at q ⊢; omega
      exact w_vret gz_94_81 gm_94 (k0 h27 (gh27) (by first | assumption | omega) (by first | assumption | omega) (by first | assumption | omega) Lst_h27t36)
    ·
      refine w_aload_n gz_94_60 rfl ?_
      refine w_getX (v := 113) gz_94_61 is_94 rd_2 rfl (by decide) rfl ?_
      refine w_aload_n gz_94_64 rfl ?_
      refine w_getX (v := 111) gz_94_65 is_94 rd_2 rfl (by decide) rfl ?_
      refine w_inv (k := 0) (as := [(2, 111)]) (r := []) (x := 113) (ls0 := [(2, 113), (2, 111)]) gz_94_68 gm_95 rfl is_113 rd_7 rfl rfl rfl rfl rfl ?_
      refine w_aload_n gz_95_0 rfl ?_
      refine w_aload_n gz_95_1 rfl ?_
      refine v_getI (j := 0) gz_95_2 rfl is_111 rd_7 rfl (fun v39 ev39 pv39 qv39 => ?_)
      have zv39 := ev39.trans ((my_up_fld fh21 (by decide)).trans ((my_up_fld fh19 (by decide)).trans ((my_up_fld fh17 (by decide)).trans ((my_up_fld fh15 (by decide)).trans ((my_up_fld fh13 (by decide)).trans ((my_up_ne fh11 (by omega)).trans ev10.symm))))))
      refine v_putA (j := 0) gz_95_5 rfl is_113 rd_7 rfl rfl (fun h40 fh40 => ?_)
      have gh40 : my_fr [(2, 11), (7, 0), (7, 1), (7, 2), (7, 3), (7, 4), (7, 5)] h h40 := my_fr.up gh21 is_113 fh40 rfl
      refine w_aload_n gz_95_8 rfl ?_
      refine w_aload_n gz_95_9 rfl ?_
      refine v_getI (j := 1) gz_95_10 rfl is_111 rd_7 rfl (fun v41 ev41 pv41 qv41 => ?_)
      have zv41 := ev41.trans ((my_up_fld fh40 (by decide)).trans ((my_up_fld fh21 (by decide)).trans ((my_up_fld fh19 (by decide)).trans ((my_up_fld fh17 (by decide)).trans ((my_up_fld fh15 (by decide)).trans ((my_up_ne fh13 (by omega)).trans ev12.symm))))))
      refine v_putI (j := 1) gz_95_13 rfl is_113 rd_7 rfl (by omega) (by omega) rfl (fun h42 fh42 => ?_)
      have gh42 : my_fr [(2, 11), (7, 0), (7, 1), (7, 2), (7, 3), (7, 4), (7, 5)] h h42 := my_fr.up gh40 is_113 fh42 rfl
      refine w_aload_n gz_95_16 rfl ?_
      refine w_aload_n gz_95_17 rfl ?_
      refine v_getI (j := 2) gz_95_18 rfl is_111 rd_7 rfl (fun v43 ev43 pv43 qv43 => ?_)
      have zv43 := ev43.trans ((my_up_fld fh42 (by decide)).trans ((my_up_fld fh40 (by decide)).trans ((my_up_fld fh21 (by decide)).trans ((my_up_fld fh19 (by decide)).trans ((my_up_fld fh17 (by decide)).trans ((my_up_ne fh15 (by omega)).trans ev14.symm))))))
      refine v_putI (j := 2) gz_95_21 rfl is_113 rd_7 rfl (by omega) (by omega) rfl (fun h44 fh44 => ?_)
      have gh44 : my_fr [(2, 11), (7, 0), (7, 1), (7, 2), (7, 3), (7, 4), (7, 5)] h h44 := my_fr.up gh42 is_113 fh44 rfl
      refine w_aload_n gz_95_24 rfl ?_
      refine w_aload_n gz_95_25 rfl ?_
      refine v_getI (j := 3) gz_95_26 rfl is_111 rd_7 rfl (fun v45 ev45 pv45 qv45 => ?_)
      have zv45 := ev45.trans ((my_up_fld fh44 (by decide)).trans ((my_up_fld fh42 (by decide)).trans ((my_up_fld fh40 (by decide)).trans ((my_up_fld fh21 (by decide)).trans ((my_up_fld fh19 (by decide)).trans ((my_up_ne fh17 (by omega)).trans ev16.symm))))))
      refine v_putI (j := 3) gz_95_29 rfl is_113 rd_7 rfl (by omega) (by omega) rfl (fun h46 fh46 => ?_)
      have gh46 : my_fr [(2, 11), (7, 0), (7, 1), (7, 2), (7, 3), (7, 4), (7, 5)] h h46 := my_fr.up gh44 is_113 fh46 rfl
      refine w_aload_n gz_95_32 rfl ?_
      refine w_aload_n gz_95_33 rfl ?_
      refine v_getI (j := 4) gz_95_34 rfl is_111 rd_7 rfl (fun v47 ev47 pv47 qv47 => ?_)
      have zv47 := ev47.trans ((my_up_fld fh46 (by decide)).trans ((my_up_fld fh44 (by decide)).trans ((my_up_fld fh42 (by decide)).trans ((my_up_fld fh40 (by decide)).trans ((my_up_fld fh21 (by decide)).trans ((my_up_ne fh19 (by omega)).trans ev18.symm))))))
      refine v_putI (j := 4) gz_95_37 rfl is_113 rd_7 rfl (by omega) (by omega) rfl (fun h48 fh48 => ?_)
      have gh48 : my_fr [(2, 11), (7, 0), (7, 1), (7, 2), (7, 3), (7, 4), (7, 5)] h h48 := my_fr.up gh46 is_113 fh48 rfl
      refine w_aload_n gz_95_40 rfl ?_
      refine w_aload_n gz_95_41 rfl ?_
      refine v_getI (j := 5) gz_95_42 rfl is_111 rd_7 rfl (fun v49 ev49 pv49 qv49 => ?_)
      have zv49 := ev49.trans ((my_up_fld fh48 (by decide)).trans ((my_up_fld fh46 (by decide)).trans ((my_up_fld fh44 (by decide)).trans ((my_up_fld fh42 (by decide)).trans ((my_up_fld fh40 (by decide)).trans ((my_up_ne fh21 (by omega)).trans ev20.symm))))))
      refine v_putI (j := 5) gz_95_45 rfl is_113 rd_7 rfl (by omega) (by omega) rfl (fun h50 fh50 => ?_)
      have gh50 : my_fr [(2, 11), (7, 0), (7, 1), (7, 2), (7, 3), (7, 4), (7, 5)] h h50 := my_fr.up gh48 is_113 fh50 rfl
      refine w_vret gz_95_48 gm_95 ?_
      show wp l rho (d + 1) 94 71 [(2, 94), (0, x1), (0, x2)] [] h50 Q
      refine w_aload_n gz_94_71 rfl ?_
      refine w_dup gz_94_72 rfl ?_
      refine v_getI (j := 11) gz_94_73 rfl is_94 rd_2 rfl (fun v51 ev51 pv51 qv51 => ?_)
      have zv51 := ev51.trans ((my_up_role fh50 is_94 is_113 rfl).trans ((my_up_role fh48 is_94 is_113 rfl).trans ((my_up_role fh46 is_94 is_113 rfl).trans ((my_up_role fh44 is_94 is_113 rfl).trans ((my_up_role fh42 is_94 is_113 rfl).trans ((my_up_role fh40 is_94 is_113 rfl).trans ev22.symm))))))
      refine w_iconst gz_94_76 (by decide) ?_
      refine w_ianyA gz_94_77 (fun v52 pv52 qv52 => ?_)
      refine v_putA (j := 11) gz_94_78 rfl is_94 rd_2 rfl rfl (fun h53 fh53 => ?_)
      have gh53 : my_fr [(2, 11), (7, 0), (7, 1), (7, 2), (7, 3), (7, 4), (7, 5)] h h53 := my_fr.up gh50 is_94 fh53 rfl
      have ce54 : h53 111 2 = v43 := ((my_up_role fh53 is_111 is_94 rfl).trans ((my_up_fld fh50 (by decide)).trans ((my_up_fld fh48 (by decide)).trans ((my_up_fld fh46 (by decide)).trans ((my_up_ne fh44 (by omega)).trans ev43.symm)))))
      have ce55 : h53 111 3 = v45 := ((my_up_role fh53 is_111 is_94 rfl).trans ((my_up_fld fh50 (by decide)).trans ((my_up_fld fh48 (by decide)).trans ((my_up_ne fh46 (by omega)).trans ev45.symm))))
      have ce56 : h53 111 4 = v47 := ((my_up_role fh53 is_111 is_94 rfl).trans ((my_up_fld fh50 (by decide)).trans ((my_up_ne fh48 (by omega)).trans ev47.symm)))
      have ce57 : h53 112 1 = v12 := ((my_up_role fh53 is_112 is_94 rfl).trans ((my_up_fld fh50 (by decide)).trans ((my_up_fld fh48 (by decide)).trans ((my_up_fld fh46 (by decide)).trans ((my_up_fld fh44 (by decide)).trans ((my_up_ne fh42 (by omega)).trans ((my_up_fld fh40 (by decide)).trans ((my_up_fld fh21 (by decide)).trans ((my_up_fld fh19 (by decide)).trans ((my_up_fld fh17 (by decide)).trans ((my_up_fld fh15 (by decide)).trans (my_up_self fh13))))))))))))
      have ce58 : h53 112 2 = v14 := ((my_up_role fh53 is_112 is_94 rfl).trans ((my_up_fld fh50 (by decide)).trans ((my_up_fld fh48 (by decide)).trans ((my_up_fld fh46 (by decide)).trans ((my_up_ne fh44 (by omega)).trans ((my_up_fld fh42 (by decide)).trans ((my_up_fld fh40 (by decide)).trans ((my_up_fld fh21 (by decide)).trans ((my_up_fld fh19 (by decide)).trans ((my_up_fld fh17 (by decide)).trans (my_up_self fh15)))))))))))
      have ce59 : h53 112 3 = v16 := ((my_up_role fh53 is_112 is_94 rfl).trans ((my_up_fld fh50 (by decide)).trans ((my_up_fld fh48 (by decide)).trans ((my_up_ne fh46 (by omega)).trans ((my_up_fld fh44 (by decide)).trans ((my_up_fld fh42 (by decide)).trans ((my_up_fld fh40 (by decide)).trans ((my_up_fld fh21 (by decide)).trans ((my_up_fld fh19 (by decide)).trans (my_up_self fh17))))))))))
      have ce60 : h53 112 4 = v18 := ((my_up_role fh53 is_112 is_94 rfl).trans ((my_up_fld fh50 (by decide)).trans ((my_up_ne fh48 (by omega)).trans ((my_up_fld fh46 (by decide)).trans ((my_up_fld fh44 (by decide)).trans ((my_up_fld fh42 (by decide)).trans ((my_up_fld fh40 (by decide)).trans ((my_up_fld fh21 (by decide)).trans (my_up_self fh19)))))))))
      have ce61 : h53 112 5 = v20 := ((my_up_role fh53 is_112 is_94 rfl).trans ((my_up_ne fh50 (by omega)).trans ((my_up_fld fh48 (by decide)).trans ((my_up_fld fh46 (by decide)).trans ((my_up_fld fh44 (by decide)).trans ((my_up_fld fh42 (by decide)).trans ((my_up_fld fh40 (by decide)).trans (my_up_self fh21))))))))
      have Lst_h53t62 : Lst h53 := by have q := n_Lst; unfold Lst at q ⊢; omega
      exact w_vret gz_94_81 gm_94 (k0 h53 (gh53) (by first | assumption | omega) (by first | assumption | omega) (by first | assumption | omega) Lst_h53t62)
  ·
    refine w_iload_n gz_94_27 rfl ?_
    refine w_aload_n gz_94_28 rfl ?_
    refine w_getX (v := 112) gz_94_29 is_94 rd_2 rfl (by decide) rfl ?_
    refine v_getI (j := 0) gz_94_32 rfl is_112 rd_7 rfl (fun v64 ev64 pv64 qv64 => ?_)
    have zv64 := ev64.trans ev6.symm
    refine w_icge (t := 49) gz_94_35 rfl (fun u65 => ?_) (fun u65 => ?_)
    ·
      refine w_aload_n gz_94_49 rfl ?_
      refine v_getI (j := 11) gz_94_50 rfl is_94 rd_2 rfl (fun v66 ev66 pv66 qv66 => ?_)
      refine w_aload_n gz_94_53 rfl ?_
      refine v_getI (j := 12) gz_94_54 rfl is_94 rd_2 rfl (fun v67 ev67 pv67 qv67 => ?_)
      refine w_icne (t := 71) gz_94_57 rfl (fun u68 => ?_) (fun u68 => ?_)
      ·
        refine w_aload_n gz_94_71 rfl ?_
        refine w_dup gz_94_72 rfl ?_
        refine v_getI (j := 11) gz_94_73 rfl is_94 rd_2 rfl (fun v69 ev69 pv69 qv69 => ?_)
        have zv69 := ev69.trans ev66.symm
        refine w_iconst gz_94_76 (by decide) ?_
        refine w_ianyA gz_94_77 (fun v70 pv70 qv70 => ?_)
        refine v_putA (j := 11) gz_94_78 rfl is_94 rd_2 rfl rfl (fun h71 fh71 => ?_)
        have gh71 : my_fr [(2, 11), (7, 0), (7, 1), (7, 2), (7, 3), (7, 4), (7, 5)] h h71 := my_fr.up gh4 is_94 fh71 rfl
        have Lst_h71 : Lst h71 := Lst_ag (my_ag.up fh71 is_94 rfl) Lst_h4
        have ce72 : h71 111 2 = h 111 2 := ((my_up_role fh71 is_111 is_94 rfl).trans ((my_up_fld fh4 (by decide)).trans ((my_up_fld fh2 (by decide)).trans (rfl : h 111 2 = h 111 2))))
        have ce73 : h71 111 3 = h 111 3 := ((my_up_role fh71 is_111 is_94 rfl).trans ((my_up_fld fh4 (by decide)).trans ((my_up_fld fh2 (by decide)).trans (rfl : h 111 3 = h 111 3))))
        have ce74 : h71 111 4 = h 111 4 := ((my_up_role fh71 is_111 is_94 rfl).trans ((my_up_fld fh4 (by decide)).trans ((my_up_fld fh2 (by decide)).trans (rfl : h 111 4 = h 111 4))))
        have ce75 : h71 112 1 = h 112 1 := ((my_up_role fh71 is_112 is_94 rfl).trans ((my_up_fld fh4 (by decide)).trans ((my_up_ne fh2 (by omega)).trans (rfl : h 112 1 = h 112 1))))
        have ce76 : h71 112 2 = h 112 2 := ((my_up_role fh71 is_112 is_94 rfl).trans ((my_up_fld fh4 (by decide)).trans ((my_up_fld fh2 (by decide)).trans (rfl : h 112 2 = h 112 2))))
        have ce77 : h71 112 3 = h 112 3 := ((my_up_role fh71 is_112 is_94 rfl).trans ((my_up_fld fh4 (by decide)).trans ((my_up_fld fh2 (by decide)).trans (rfl : h 112 3 = h 112 3))))
        have ce78 : h71 112 4 = h 112 4 := ((my_up_role fh71 is_112 is_94 rfl).trans ((my_up_fld fh4 (by decide)).trans ((my_up_fld fh2 (by decide)).trans (rfl : h 112 4 = h 112 4))))
        have ce79 : h71 112 5 = h 112 5 := ((my_up_role fh71 is_112 is_94 rfl).trans ((my_up_fld fh4 (by decide)).trans ((my_up_fld fh2 (by decide)).trans (rfl : h 112 5 = h 112 5))))
        have Lst_h71t80 : Lst h71 := by have q := n_Lst; unfold Lst at q ⊢; omega
        exact w_vret gz_94_81 gm_94 (k0 h71 (gh71) (by first | assumption | omega) (by first | assumption | omega) (by first | assumption | omega) Lst_h71t80)
      ·
        refine w_aload_n gz_94_60 rfl ?_
        refine w_getX (v := 113) gz_94_61 is_94 rd_2 rfl (by decide) rfl ?_
        refine w_aload_n gz_94_64 rfl ?_
        refine w_getX (v := 111) gz_94_65 is_94 rd_2 rfl (by decide) rfl ?_
        refine w_inv (k := 0) (as := [(2, 111)]) (r := []) (x := 113) (ls0 := [(2, 113), (2, 111)]) gz_94_68 gm_95 rfl is_113 rd_7 rfl rfl rfl rfl rfl ?_
        refine w_aload_n gz_95_0 rfl ?_
        refine w_aload_n gz_95_1 rfl ?_
        refine v_getI (j := 0) gz_95_2 rfl is_111 rd_7 rfl (fun v83 ev83 pv83 qv83 => ?_)
        have zv83 := ev83.trans (my_up_self fh4)
        refine v_putA (j := 0) gz_95_5 rfl is_113 rd_7 rfl rfl (fun h84 fh84 => ?_)
        have gh84 : my_fr [(2, 11), (7, 0), (7, 1), (7, 2), (7, 3), (7, 4), (7, 5)] h h84 := my_fr.up gh4 is_113 fh84 rfl
        have Lst_h84 : Lst h84 := Lst_ne fh84 (by decide) Lst_h4
        refine w_aload_n gz_95_8 rfl ?_
        refine w_aload_n gz_95_9 rfl ?_
        refine v_getI (j := 1) gz_95_10 rfl is_111 rd_7 rfl (fun v85 ev85 pv85 qv85 => ?_)
        have zv85 := ev85.trans ((my_up_fld fh84 (by decide)).trans ((my_up_fld fh4 (by decide)).trans (my_up_self fh2)))
        refine v_putI (j := 1) gz_95_13 rfl is_113 rd_7 rfl (by omega) (by omega) rfl (fun h86 fh86 => ?_)
        have gh86 : my_fr [(2, 11), (7, 0), (7, 1), (7, 2), (7, 3), (7, 4), (7, 5)] h h86 := my_fr.up gh84 is_113 fh86 rfl
        have Lst_h86 : Lst h86 := Lst_ne fh86 (by decide) Lst_h84
        refine w_aload_n gz_95_16 rfl ?_
        refine w_aload_n gz_95_17 rfl ?_
        refine v_getI (j := 2) gz_95_18 rfl is_111 rd_7 rfl (fun v87 ev87 pv87 qv87 => ?_)
        refine v_putI (j := 2) gz_95_21 rfl is_113 rd_7 rfl (by omega) (by omega) rfl (fun h88 fh88 => ?_)
        have gh88 : my_fr [(2, 11), (7, 0), (7, 1), (7, 2), (7, 3), (7, 4), (7, 5)] h h88 := my_fr.up gh86 is_113 fh88 rfl
        have Lst_h88 : Lst h88 := Lst_ne fh88 (by decide) Lst_h86
        refine w_aload_n gz_95_24 rfl ?_
        refine w_aload_n gz_95_25 rfl ?_
        refine v_getI (j := 3) gz_95_26 rfl is_111 rd_7 rfl (fun v89 ev89 pv89 qv89 => ?_)
        refine v_putI (j := 3) gz_95_29 rfl is_113 rd_7 rfl (by omega) (by omega) rfl (fun h90 fh90 => ?_)
        have gh90 : my_fr [(2, 11), (7, 0), (7, 1), (7, 2), (7, 3), (7, 4), (7, 5)] h h90 := my_fr.up gh88 is_113 fh90 rfl
        have Lst_h90 : Lst h90 := Lst_ne fh90 (by decide) Lst_h88
        refine w_aload_n gz_95_32 rfl ?_
        refine w_aload_n gz_95_33 rfl ?_
        refine v_getI (j := 4) gz_95_34 rfl is_111 rd_7 rfl (fun v91 ev91 pv91 qv91 => ?_)
        refine v_putI (j := 4) gz_95_37 rfl is_113 rd_7 rfl (by omega) (by omega) rfl (fun h92 fh92 => ?_)
        have gh92 : my_fr [(2, 11), (7, 0), (7, 1), (7, 2), (7, 3), (7, 4), (7, 5)] h h92 := my_fr.up gh90 is_113 fh92 rfl
        have Lst_h92 : Lst h92 := Lst_ne fh92 (by decide) Lst_h90
        refine w_aload_n gz_95_40 rfl ?_
        refine w_aload_n gz_95_41 rfl ?_
        refine v_getI (j := 5) gz_95_42 rfl is_111 rd_7 rfl (fun v93 ev93 pv93 qv93 => ?_)
        refine v_putI (j := 5) gz_95_45 rfl is_113 rd_7 rfl (by omega) (by omega) rfl (fun h94 fh94 => ?_)
        have gh94 : my_fr [(2, 11), (7, 0), (7, 1), (7, 2), (7, 3), (7, 4), (7, 5)] h h94 := my_fr.up gh92 is_113 fh94 rfl
        have Lst_h94 : Lst h94 := Lst_ne fh94 (by decide) Lst_h92
        refine w_vret gz_95_48 gm_95 ?_
        show wp l rho (d + 1) 94 71 [(2, 94), (0, x1), (0, x2)] [] h94 Q
        refine w_aload_n gz_94_71 rfl ?_
        refine w_dup gz_94_72 rfl ?_
        refine v_getI (j := 11) gz_94_73 rfl is_94 rd_2 rfl (fun v95 ev95 pv95 qv95 => ?_)
        have zv95 := ev95.trans ((my_up_role fh94 is_94 is_113 rfl).trans ((my_up_role fh92 is_94 is_113 rfl).trans ((my_up_role fh90 is_94 is_113 rfl).trans ((my_up_role fh88 is_94 is_113 rfl).trans ((my_up_role fh86 is_94 is_113 rfl).trans ((my_up_role fh84 is_94 is_113 rfl).trans ev66.symm))))))
        refine w_iconst gz_94_76 (by decide) ?_
        refine w_ianyA gz_94_77 (fun v96 pv96 qv96 => ?_)
        refine v_putA (j := 11) gz_94_78 rfl is_94 rd_2 rfl rfl (fun h97 fh97 => ?_)
        have gh97 : my_fr [(2, 11), (7, 0), (7, 1), (7, 2), (7, 3), (7, 4), (7, 5)] h h97 := my_fr.up gh94 is_94 fh97 rfl
        have Lst_h97 : Lst h97 := Lst_ag (my_ag.up fh97 is_94 rfl) Lst_h94
        have ce98 : h97 111 2 = v87 := ((my_up_role fh97 is_111 is_94 rfl).trans ((my_up_fld fh94 (by decide)).trans ((my_up_fld fh92 (by decide)).trans ((my_up_fld fh90 (by decide)).trans ((my_up_ne fh88 (by omega)).trans ev87.symm)))))
        have ce99 : h97 111 3 = v89 := ((my_up_role fh97 is_111 is_94 rfl).trans ((my_up_fld fh94 (by decide)).trans ((my_up_fld fh92 (by decide)).trans ((my_up_ne fh90 (by omega)).trans ev89.symm))))
        have ce100 : h97 111 4 = v91 := ((my_up_role fh97 is_111 is_94 rfl).trans ((my_up_fld fh94 (by decide)).trans ((my_up_ne fh92 (by omega)).trans ev91.symm)))
        have ce101 : h97 112 1 = h 112 1 := ((my_up_role fh97 is_112 is_94 rfl).trans ((my_up_fld fh94 (by decide)).trans ((my_up_fld fh92 (by decide)).trans ((my_up_fld fh90 (by decide)).trans ((my_up_fld fh88 (by decide)).trans ((my_up_ne fh86 (by omega)).trans ((my_up_fld fh84 (by decide)).trans ((my_up_fld fh4 (by decide)).trans ((my_up_ne fh2 (by omega)).trans (rfl : h 112 1 = h 112 1))))))))))
        have ce102 : h97 112 2 = h 112 2 := ((my_up_role fh97 is_112 is_94 rfl).trans ((my_up_fld fh94 (by decide)).trans ((my_up_fld fh92 (by decide)).trans ((my_up_fld fh90 (by decide)).trans ((my_up_ne fh88 (by omega)).trans ((my_up_fld fh86 (by decide)).trans ((my_up_fld fh84 (by decide)).trans ((my_up_fld fh4 (by decide)).trans ((my_up_fld fh2 (by decide)).trans (rfl : h 112 2 = h 112 2))))))))))
        have ce103 : h97 112 3 = h 112 3 := ((my_up_role fh97 is_112 is_94 rfl).trans ((my_up_fld fh94 (by decide)).trans ((my_up_fld fh92 (by decide)).trans ((my_up_ne fh90 (by omega)).trans ((my_up_fld fh88 (by decide)).trans ((my_up_fld fh86 (by decide)).trans ((my_up_fld fh84 (by decide)).trans ((my_up_fld fh4 (by decide)).trans ((my_up_fld fh2 (by decide)).trans (rfl : h 112 3 = h 112 3))))))))))
        have ce104 : h97 112 4 = h 112 4 := ((my_up_role fh97 is_112 is_94 rfl).trans ((my_up_fld fh94 (by decide)).trans ((my_up_ne fh92 (by omega)).trans ((my_up_fld fh90 (by decide)).trans ((my_up_fld fh88 (by decide)).trans ((my_up_fld fh86 (by decide)).trans ((my_up_fld fh84 (by decide)).trans ((my_up_fld fh4 (by decide)).trans ((my_up_fld fh2 (by decide)).trans (rfl : h 112 4 = h 112 4))))))))))
        have ce105 : h97 112 5 = h 112 5 := ((my_up_role fh97 is_112 is_94 rfl).trans ((my_up_ne fh94 (by omega)).trans ((my_up_fld fh92 (by decide)).trans ((my_up_fld fh90 (by decide)).trans ((my_up_fld fh88 (by decide)).trans ((my_up_fld fh86 (by decide)).trans ((my_up_fld fh84 (by decide)).trans ((my_up_fld fh4 (by decide)).trans ((my_up_fld fh2 (by decide)).trans (rfl : h 112 5 = h 112 5))))))))))
        have Lst_h97t106 : Lst h97 := by have q := n_Lst; unfold Lst at q ⊢; omega
        exact w_vret gz_94_81 gm_94 (k0 h97 (gh97) (by first | assumption | omega) (by first | assumption | omega) (by first | assumption | omega) Lst_h97t106)
    ·
      refine w_aload_n gz_94_38 rfl ?_
      refine w_getX (v := 112) gz_94_39 is_94 rd_2 rfl (by decide) rfl ?_
      refine w_aload_n gz_94_42 rfl ?_
      refine w_getX (v := 111) gz_94_43 is_94 rd_2 rfl (by decide) rfl ?_
      refine w_inv (k := 0) (as := [(2, 111)]) (r := []) (x := 112) (ls0 := [(2, 112), (2, 111)]) gz_94_46 gm_95 rfl is_112 rd_7 rfl rfl rfl rfl rfl ?_
      refine w_aload_n gz_95_0 rfl ?_
      refine w_aload_n gz_95_1 rfl ?_
      refine v_getI (j := 0) gz_95_2 rfl is_111 rd_7 rfl (fun v109 ev109 pv109 qv109 => ?_)
      have zv109 := ev109.trans (my_up_self fh4)
      refine v_putA (j := 0) gz_95_5 rfl is_112 rd_7 rfl rfl (fun h110 fh110 => ?_)
      have gh110 : my_fr [(2, 11), (7, 0), (7, 1), (7, 2), (7, 3), (7, 4), (7, 5)] h h110 := my_fr.up gh4 is_112 fh110 rfl
      refine w_aload_n gz_95_8 rfl ?_
      refine w_aload_n gz_95_9 rfl ?_
      refine v_getI (j := 1) gz_95_10 rfl is_111 rd_7 rfl (fun v111 ev111 pv111 qv111 => ?_)
      have zv111 := ev111.trans ((my_up_fld fh110 (by decide)).trans ((my_up_fld fh4 (by decide)).trans (my_up_self fh2)))
      refine v_putI (j := 1) gz_95_13 rfl is_112 rd_7 rfl (by omega) (by omega) rfl (fun h112 fh112 => ?_)
      have gh112 : my_fr [(2, 11), (7, 0), (7, 1), (7, 2), (7, 3), (7, 4), (7, 5)] h h112 := my_fr.up gh110 is_112 fh112 rfl
      refine w_aload_n gz_95_16 rfl ?_
      refine w_aload_n gz_95_17 rfl ?_
      refine v_getI (j := 2) gz_95_18 rfl is_111 rd_7 rfl (fun v113 ev113 pv113 qv113 => ?_)
      refine v_putI (j := 2) gz_95_21 rfl is_112 rd_7 rfl (by omega) (by omega) rfl (fun h114 fh114 => ?_)
      have gh114 : my_fr [(2, 11), (7, 0), (7, 1), (7, 2), (7, 3), (7, 4), (7, 5)] h h114 := my_fr.up gh112 is_112 fh114 rfl
      refine w_aload_n gz_95_24 rfl ?_
      refine w_aload_n gz_95_25 rfl ?_
      refine v_getI (j := 3) gz_95_26 rfl is_111 rd_7 rfl (fun v115 ev115 pv115 qv115 => ?_)
      refine v_putI (j := 3) gz_95_29 rfl is_112 rd_7 rfl (by omega) (by omega) rfl (fun h116 fh116 => ?_)
      have gh116 : my_fr [(2, 11), (7, 0), (7, 1), (7, 2), (7, 3), (7, 4), (7, 5)] h h116 := my_fr.up gh114 is_112 fh116 rfl
      refine w_aload_n gz_95_32 rfl ?_
      refine w_aload_n gz_95_33 rfl ?_
      refine v_getI (j := 4) gz_95_34 rfl is_111 rd_7 rfl (fun v117 ev117 pv117 qv117 => ?_)
      refine v_putI (j := 4) gz_95_37 rfl is_112 rd_7 rfl (by omega) (by omega) rfl (fun h118 fh118 => ?_)
      have gh118 : my_fr [(2, 11), (7, 0), (7, 1), (7, 2), (7, 3), (7, 4), (7, 5)] h h118 := my_fr.up gh116 is_112 fh118 rfl
      refine w_aload_n gz_95_40 rfl ?_
      refine w_aload_n gz_95_41 rfl ?_
      refine v_getI (j := 5) gz_95_42 rfl is_111 rd_7 rfl (fun v119 ev119 pv119 qv119 => ?_)
      refine v_putI (j := 5) gz_95_45 rfl is_112 rd_7 rfl (by omega) (by omega) rfl (fun h120 fh120 => ?_)
      have gh120 : my_fr [(2, 11), (7, 0), (7, 1), (7, 2), (7, 3), (7, 4), (7, 5)] h h120 := my_fr.up gh118 is_112 fh120 rfl
      refine w_vret gz_95_48 gm_95 ?_
      show wp l rho (d + 1) 94 49 [(2, 94), (0, x1), (0, x2)] [] h120 Q
      refine w_aload_n gz_94_49 rfl ?_
      refine v_getI (j := 11) gz_94_50 rfl is_94 rd_2 rfl (fun v121 ev121 pv121 qv121 => ?_)
      refine w_aload_n gz_94_53 rfl ?_
      refine v_getI (j := 12) gz_94_54 rfl is_94 rd_2 rfl (fun v122 ev122 pv122 qv122 => ?_)
      refine w_icne (t := 71) gz_94_57 rfl (fun u123 => ?_) (fun u123 => ?_)
      ·
        refine w_aload_n gz_94_71 rfl ?_
        refine w_dup gz_94_72 rfl ?_
        refine v_getI (j := 11) gz_94_73 rfl is_94 rd_2 rfl (fun v124 ev124 pv124 qv124 => ?_)
        have zv124 := ev124.trans ev121.symm
        refine w_iconst gz_94_76 (by decide) ?_
        refine w_ianyA gz_94_77 (fun v125 pv125 qv125 => ?_)
        refine v_putA (j := 11) gz_94_78 rfl is_94 rd_2 rfl rfl (fun h126 fh126 => ?_)
        have gh126 : my_fr [(2, 11), (7, 0), (7, 1), (7, 2), (7, 3), (7, 4), (7, 5)] h h126 := my_fr.up gh120 is_94 fh126 rfl
        have ce127 : h126 111 2 = v113 := ((my_up_role fh126 is_111 is_94 rfl).trans ((my_up_fld fh120 (by decide)).trans ((my_up_fld fh118 (by decide)).trans ((my_up_fld fh116 (by decide)).trans ((my_up_ne fh114 (by omega)).trans ev113.symm)))))
        have ce128 : h126 111 3 = v115 := ((my_up_role fh126 is_111 is_94 rfl).trans ((my_up_fld fh120 (by decide)).trans ((my_up_fld fh118 (by decide)).trans ((my_up_ne fh116 (by omega)).trans ev115.symm))))
        have ce129 : h126 111 4 = v117 := ((my_up_role fh126 is_111 is_94 rfl).trans ((my_up_fld fh120 (by decide)).trans ((my_up_ne fh118 (by omega)).trans ev117.symm)))
        have ce130 : h126 112 1 = v111 := ((my_up_role fh126 is_112 is_94 rfl).trans ((my_up_fld fh120 (by decide)).trans ((my_up_fld fh118 (by decide)).trans ((my_up_fld fh116 (by decide)).trans ((my_up_fld fh114 (by decide)).trans (my_up_self fh112))))))
        have ce131 : h126 112 2 = v113 := ((my_up_role fh126 is_112 is_94 rfl).trans ((my_up_fld fh120 (by decide)).trans ((my_up_fld fh118 (by decide)).trans ((my_up_fld fh116 (by decide)).trans (my_up_self fh114)))))
        have ce132 : h126 112 3 = v115 := ((my_up_role fh126 is_112 is_94 rfl).trans ((my_up_fld fh120 (by decide)).trans ((my_up_fld fh118 (by decide)).trans (my_up_self fh116))))
        have ce133 : h126 112 4 = v117 := ((my_up_role fh126 is_112 is_94 rfl).trans ((my_up_fld fh120 (by decide)).trans (my_up_self fh118)))
        have ce134 : h126 112 5 = v119 := ((my_up_role fh126 is_112 is_94 rfl).trans (my_up_self fh120))
        have Lst_h126t135 : Lst h126 := by have q := n_Lst; unfold Lst at q ⊢; omega
        exact w_vret gz_94_81 gm_94 (k0 h126 (gh126) (by first | assumption | omega) (by first | assumption | omega) (by first | assumption | omega) Lst_h126t135)
      ·
        refine w_aload_n gz_94_60 rfl ?_
        refine w_getX (v := 113) gz_94_61 is_94 rd_2 rfl (by decide) rfl ?_
        refine w_aload_n gz_94_64 rfl ?_
        refine w_getX (v := 111) gz_94_65 is_94 rd_2 rfl (by decide) rfl ?_
        refine w_inv (k := 0) (as := [(2, 111)]) (r := []) (x := 113) (ls0 := [(2, 113), (2, 111)]) gz_94_68 gm_95 rfl is_113 rd_7 rfl rfl rfl rfl rfl ?_
        refine w_aload_n gz_95_0 rfl ?_
        refine w_aload_n gz_95_1 rfl ?_
        refine v_getI (j := 0) gz_95_2 rfl is_111 rd_7 rfl (fun v138 ev138 pv138 qv138 => ?_)
        have zv138 := ev138.trans ((my_up_fld fh120 (by decide)).trans ((my_up_fld fh118 (by decide)).trans ((my_up_fld fh116 (by decide)).trans ((my_up_fld fh114 (by decide)).trans ((my_up_fld fh112 (by decide)).trans ((my_up_ne fh110 (by omega)).trans ev109.symm))))))
        refine v_putA (j := 0) gz_95_5 rfl is_113 rd_7 rfl rfl (fun h139 fh139 => ?_)
        have gh139 : my_fr [(2, 11), (7, 0), (7, 1), (7, 2), (7, 3), (7, 4), (7, 5)] h h139 := my_fr.up gh120 is_113 fh139 rfl
        refine w_aload_n gz_95_8 rfl ?_
        refine w_aload_n gz_95_9 rfl ?_
        refine v_getI (j := 1) gz_95_10 rfl is_111 rd_7 rfl (fun v140 ev140 pv140 qv140 => ?_)
        have zv140 := ev140.trans ((my_up_fld fh139 (by decide)).trans ((my_up_fld fh120 (by decide)).trans ((my_up_fld fh118 (by decide)).trans ((my_up_fld fh116 (by decide)).trans ((my_up_fld fh114 (by decide)).trans ((my_up_ne fh112 (by omega)).trans ev111.symm))))))
        refine v_putI (j := 1) gz_95_13 rfl is_113 rd_7 rfl (by omega) (by omega) rfl (fun h141 fh141 => ?_)
        have gh141 : my_fr [(2, 11), (7, 0), (7, 1), (7, 2), (7, 3), (7, 4), (7, 5)] h h141 := my_fr.up gh139 is_113 fh141 rfl
        refine w_aload_n gz_95_16 rfl ?_
        refine w_aload_n gz_95_17 rfl ?_
        refine v_getI (j := 2) gz_95_18 rfl is_111 rd_7 rfl (fun v142 ev142 pv142 qv142 => ?_)
        have zv142 := ev142.trans ((my_up_fld fh141 (by decide)).trans ((my_up_fld fh139 (by decide)).trans ((my_up_fld fh120 (by decide)).trans ((my_up_fld fh118 (by decide)).trans ((my_up_fld fh116 (by decide)).trans ((my_up_ne fh114 (by omega)).trans ev113.symm))))))
        refine v_putI (j := 2) gz_95_21 rfl is_113 rd_7 rfl (by omega) (by omega) rfl (fun h143 fh143 => ?_)
        have gh143 : my_fr [(2, 11), (7, 0), (7, 1), (7, 2), (7, 3), (7, 4), (7, 5)] h h143 := my_fr.up gh141 is_113 fh143 rfl
        refine w_aload_n gz_95_24 rfl ?_
        refine w_aload_n gz_95_25 rfl ?_
        refine v_getI (j := 3) gz_95_26 rfl is_111 rd_7 rfl (fun v144 ev144 pv144 qv144 => ?_)
        have zv144 := ev144.trans ((my_up_fld fh143 (by decide)).trans ((my_up_fld fh141 (by decide)).trans ((my_up_fld fh139 (by decide)).trans ((my_up_fld fh120 (by decide)).trans ((my_up_fld fh118 (by decide)).trans ((my_up_ne fh116 (by omega)).trans ev115.symm))))))
        refine v_putI (j := 3) gz_95_29 rfl is_113 rd_7 rfl (by omega) (by omega) rfl (fun h145 fh145 => ?_)
        have gh145 : my_fr [(2, 11), (7, 0), (7, 1), (7, 2), (7, 3), (7, 4), (7, 5)] h h145 := my_fr.up gh143 is_113 fh145 rfl
        refine w_aload_n gz_95_32 rfl ?_
        refine w_aload_n gz_95_33 rfl ?_
        refine v_getI (j := 4) gz_95_34 rfl is_111 rd_7 rfl (fun v146 ev146 pv146 qv146 => ?_)
        have zv146 := ev146.trans ((my_up_fld fh145 (by decide)).trans ((my_up_fld fh143 (by decide)).trans ((my_up_fld fh141 (by decide)).trans ((my_up_fld fh139 (by decide)).trans ((my_up_fld fh120 (by decide)).trans ((my_up_ne fh118 (by omega)).trans ev117.symm))))))
        refine v_putI (j := 4) gz_95_37 rfl is_113 rd_7 rfl (by omega) (by omega) rfl (fun h147 fh147 => ?_)
        have gh147 : my_fr [(2, 11), (7, 0), (7, 1), (7, 2), (7, 3), (7, 4), (7, 5)] h h147 := my_fr.up gh145 is_113 fh147 rfl
        refine w_aload_n gz_95_40 rfl ?_
        refine w_aload_n gz_95_41 rfl ?_
        refine v_getI (j := 5) gz_95_42 rfl is_111 rd_7 rfl (fun v148 ev148 pv148 qv148 => ?_)
        have zv148 := ev148.trans ((my_up_fld fh147 (by decide)).trans ((my_up_fld fh145 (by decide)).trans ((my_up_fld fh143 (by decide)).trans ((my_up_fld fh141 (by decide)).trans ((my_up_fld fh139 (by decide)).trans ((my_up_ne fh120 (by omega)).trans ev119.symm))))))
        refine v_putI (j := 5) gz_95_45 rfl is_113 rd_7 rfl (by omega) (by omega) rfl (fun h149 fh149 => ?_)
        have gh149 : my_fr [(2, 11), (7, 0), (7, 1), (7, 2), (7, 3), (7, 4), (7, 5)] h h149 := my_fr.up gh147 is_113 fh149 rfl
        refine w_vret gz_95_48 gm_95 ?_
        show wp l rho (d + 1) 94 71 [(2, 94), (0, x1), (0, x2)] [] h149 Q
        refine w_aload_n gz_94_71 rfl ?_
        refine w_dup gz_94_72 rfl ?_
        refine v_getI (j := 11) gz_94_73 rfl is_94 rd_2 rfl (fun v150 ev150 pv150 qv150 => ?_)
        have zv150 := ev150.trans ((my_up_role fh149 is_94 is_113 rfl).trans ((my_up_role fh147 is_94 is_113 rfl).trans ((my_up_role fh145 is_94 is_113 rfl).trans ((my_up_role fh143 is_94 is_113 rfl).trans ((my_up_role fh141 is_94 is_113 rfl).trans ((my_up_role fh139 is_94 is_113 rfl).trans ev121.symm))))))
        refine w_iconst gz_94_76 (by decide) ?_
        refine w_ianyA gz_94_77 (fun v151 pv151 qv151 => ?_)
        refine v_putA (j := 11) gz_94_78 rfl is_94 rd_2 rfl rfl (fun h152 fh152 => ?_)
        have gh152 : my_fr [(2, 11), (7, 0), (7, 1), (7, 2), (7, 3), (7, 4), (7, 5)] h h152 := my_fr.up gh149 is_94 fh152 rfl
        have ce153 : h152 111 2 = v142 := ((my_up_role fh152 is_111 is_94 rfl).trans ((my_up_fld fh149 (by decide)).trans ((my_up_fld fh147 (by decide)).trans ((my_up_fld fh145 (by decide)).trans ((my_up_ne fh143 (by omega)).trans ev142.symm)))))
        have ce154 : h152 111 3 = v144 := ((my_up_role fh152 is_111 is_94 rfl).trans ((my_up_fld fh149 (by decide)).trans ((my_up_fld fh147 (by decide)).trans ((my_up_ne fh145 (by omega)).trans ev144.symm))))
        have ce155 : h152 111 4 = v146 := ((my_up_role fh152 is_111 is_94 rfl).trans ((my_up_fld fh149 (by decide)).trans ((my_up_ne fh147 (by omega)).trans ev146.symm)))
        have ce156 : h152 112 1 = v111 := ((my_up_role fh152 is_112 is_94 rfl).trans ((my_up_fld fh149 (by decide)).trans ((my_up_fld fh147 (by decide)).trans ((my_up_fld fh145 (by decide)).trans ((my_up_fld fh143 (by decide)).trans ((my_up_ne fh141 (by omega)).trans ((my_up_fld fh139 (by decide)).trans ((my_up_fld fh120 (by decide)).trans ((my_up_fld fh118 (by decide)).trans ((my_up_fld fh116 (by decide)).trans ((my_up_fld fh114 (by decide)).trans (my_up_self fh112))))))))))))
        have ce157 : h152 112 2 = v113 := ((my_up_role fh152 is_112 is_94 rfl).trans ((my_up_fld fh149 (by decide)).trans ((my_up_fld fh147 (by decide)).trans ((my_up_fld fh145 (by decide)).trans ((my_up_ne fh143 (by omega)).trans ((my_up_fld fh141 (by decide)).trans ((my_up_fld fh139 (by decide)).trans ((my_up_fld fh120 (by decide)).trans ((my_up_fld fh118 (by decide)).trans ((my_up_fld fh116 (by decide)).trans (my_up_self fh114)))))))))))
        have ce158 : h152 112 3 = v115 := ((my_up_role fh152 is_112 is_94 rfl).trans ((my_up_fld fh149 (by decide)).trans ((my_up_fld fh147 (by decide)).trans ((my_up_ne fh145 (by omega)).trans ((my_up_fld fh143 (by decide)).trans ((my_up_fld fh141 (by decide)).trans ((my_up_fld fh139 (by decide)).trans ((my_up_fld fh120 (by decide)).trans ((my_up_fld fh118 (by decide)).trans (my_up_self fh116))))))))))
        have ce159 : h152 112 4 = v117 := ((my_up_role fh152 is_112 is_94 rfl).trans ((my_up_fld fh149 (by decide)).trans ((my_up_ne fh147 (by omega)).trans ((my_up_fld fh145 (by decide)).trans ((my_up_fld fh143 (by decide)).trans ((my_up_fld fh141 (by decide)).trans ((my_up_fld fh139 (by decide)).trans ((my_up_fld fh120 (by decide)).trans (my_up_self fh118)))))))))
        have ce160 : h152 112 5 = v119 := ((my_up_role fh152 is_112 is_94 rfl).trans ((my_up_ne fh149 (by omega)).trans ((my_up_fld fh147 (by decide)).trans ((my_up_fld fh145 (by decide)).trans ((my_up_fld fh143 (by decide)).trans ((my_up_fld fh141 (by decide)).trans ((my_up_fld fh139 (by decide)).trans (my_up_self fh120))))))))
        have Lst_h152t161 : Lst h152 := by have q := n_Lst; unfold Lst at q ⊢; omega
        exact w_vret gz_94_81 gm_94 (k0 h152 (gh152) (by first | assumption | omega) (by first | assumption | omega) (by first | assumption | omega) Lst_h152t161)
theorem c_Desk_goesStraight {l : Launch} {rho : Nat → Int32} {d : Nat} {h : my_H} {Q : my_H → my_V → Prop} {x1 x2 x3 x4 x5 x6 : Int} (t1 : my_is 6 x1) (a2 : 0 ≤ x2) (b2 : x2 ≤ 5) (a3 : 0 ≤ x3) (b3 : x3 ≤ 2) (hi1 : x3 ≠ 2 → 0 ≤ x4 ∧ x4 ≤ 9) (hi0 : x3 = 0 → 0 ≤ x5 ∧ x5 ≤ 7 ∧ 0 ≤ x6 ∧ x6 ≤ 199) (k0 : ∀ (h' : my_H), my_fr [(30, -1), (31, -1), (41, -1)] h h' → Q h' (0, 0)) (k1 : ∀ (h' : my_H), my_fr [(30, -1), (31, -1), (41, -1)] h h' → Q h' (0, 1)) : wp l rho (d + 3) 110 0 [(2, 94), (2, x1), (0, x2), (0, x3), (0, x4), (0, x5), (0, x6), (9, 0), (9, 0)] [] h Q := by
  refine w_aload_n gz_110_0 rfl ?_
  refine w_getX (v := 27) gz_110_1 is_94 rd_2 rfl (by decide) rfl ?_
  refine w_iload_n gz_110_4 rfl ?_
  refine w_aald gz_110_5 is_27 rd_22 rfl (by omega) (by omega) (fun v2 ev2 tv2 => ?_)
  refine w_astore (ls' := [(2, 94), (2, x1), (0, x2), (0, x3), (0, x4), (0, x5), (0, x6), (2, v2), (9, 0)]) gz_110_6 gm_110 rfl rfl rfl ?_
  refine w_aload_n gz_110_8 rfl ?_
  refine w_getX (v := 95) gz_110_9 is_94 rd_2 rfl (by decide) rfl ?_
  refine w_aload_n gz_110_12 rfl ?_
  refine w_inv (k := 0) (as := [(2, x1)]) (r := []) (x := 95) (ls0 := [(2, 95), (2, x1)]) gz_110_13 gm_25 rfl is_95 rd_6 rfl rfl rfl rfl rfl ?_
  refine w_aload_n gz_25_0 rfl ?_
  refine w_getX (v := (x1 + 1)) gz_25_1 t1 rd_6 rfl (by decide) rfl ?_
  refine w_iconst gz_25_4 (by decide) ?_
  refine w_aload_n gz_25_5 rfl ?_
  refine w_getX (v := 96) gz_25_6 is_95 rd_6 rfl (by decide) rfl ?_
  refine w_iconst gz_25_9 (by decide) ?_
  refine w_aload_n gz_25_10 rfl ?_
  refine w_getX (v := 96) gz_25_11 is_95 rd_6 rfl (by decide) rfl ?_
  refine v_alen (j := 240) gz_25_14 rfl is_96 rd_30 (by decide) ?_
  refine w_cpU gz_25_15 (ix_6_1 t1) rd_30 is_96 rd_30 (by omega) (by omega) (by omega) (by omega) (by omega) rfl (by decide) (by decide) (fun h7 fh7 => ?_)
  have gh7 : my_fr [(30, -1), (31, -1), (41, -1)] h h7 := my_fr.cp my_fr.rf is_96 fh7 rfl
  refine w_aload_n gz_25_18 rfl ?_
  refine w_getX (v := (x1 + 2)) gz_25_19 t1 rd_6 rfl (by decide) rfl ?_
  refine w_iconst gz_25_22 (by decide) ?_
  refine w_aload_n gz_25_23 rfl ?_
  refine w_getX (v := 97) gz_25_24 is_95 rd_6 rfl (by decide) rfl ?_
  refine w_iconst gz_25_27 (by decide) ?_
  refine w_aload_n gz_25_28 rfl ?_
  refine w_getX (v := 97) gz_25_29 is_95 rd_6 rfl (by decide) rfl ?_
  refine v_alen (j := 3) gz_25_32 rfl is_97 rd_31 (by decide) ?_
  refine w_cpU gz_25_33 (ix_6_2 t1) rd_31 is_97 rd_31 (by omega) (by omega) (by omega) (by omega) (by omega) rfl (by decide) (by decide) (fun h11 fh11 => ?_)
  have gh11 : my_fr [(30, -1), (31, -1), (41, -1)] h h11 := my_fr.cp gh7 is_97 fh11 rfl
  refine w_vret gz_25_36 gm_25 ?_
  show wp l rho (d + 3) 110 16 [(2, 94), (2, x1), (0, x2), (0, x3), (0, x4), (0, x5), (0, x6), (2, v2), (9, 0)] [] h11 Q
  refine w_iload_n gz_110_16 rfl ?_
  refine w_iconst gz_110_17 (by decide) ?_
  refine w_icne (t := 28) gz_110_18 rfl (fun u12 => ?_) (fun u12 => ?_)
  ·
    refine w_iload_n gz_110_28 rfl ?_
    refine w_iconst gz_110_29 (by decide) ?_
    refine w_icne (t := 76) gz_110_30 rfl (fun u13 => ?_) (fun u13 => ?_)
    ·
      have hi14 : 0 ≤ x4 := by omega
      have hi15 : x4 ≤ 9 := by omega
      have hi16 : 0 ≤ x5 := by omega
      have hi17 : x5 ≤ 7 := by omega
      have hi18 : 0 ≤ x6 := by omega
      have hi19 : x6 ≤ 199 := by omega
      refine w_aload_n gz_110_76 rfl ?_
      refine w_getX (v := 98) gz_110_77 is_94 rd_2 rfl (by decide) rfl ?_
      refine w_iload gz_110_80 rfl ?_
      refine w_iload gz_110_82 rfl ?_
      refine w_inv (k := 0) (as := [(0, x5), (0, x4)]) (r := []) (x := 98) (ls0 := [(2, 98), (0, x4), (0, x5)]) gz_110_84 gm_83 rfl is_98 rd_8 rfl rfl rfl rfl rfl ?_
      refine w_aload_n gz_83_0 rfl ?_
      refine w_getX (v := 99) gz_83_1 is_98 rd_8 rfl (by decide) rfl ?_
      refine w_iload_n gz_83_4 rfl ?_
      refine w_bipush gz_83_5 (by decide) ?_
      refine w_imul gz_83_7 ⟨by omega, by omega⟩ ?_
      refine w_bipush gz_83_8 (by decide) ?_
      refine w_iadd gz_83_10 ⟨by omega, by omega⟩ ?_
      refine w_iload_n gz_83_11 rfl ?_
      refine w_iadd gz_83_12 ⟨by omega, by omega⟩ ?_
      refine w_gldS gz_83_13 is_99 rd_42 (by omega) (by omega) (by omega) (by omega) (fun v22 ev22 pv22 qv22 => ?_)
      refine w_iret gz_83_14 gm_83 ?_
      show wp l rho (d + 3) 110 87 [(2, 94), (2, x1), (0, x2), (0, x3), (0, x4), (0, x5), (0, x6), (2, v2), (9, 0)] [(0, v22)] h11 Q
      refine w_istore (ls' := [(2, 94), (2, x1), (0, x2), (0, x3), (0, x4), (0, x5), (0, x6), (2, v2), (0, v22)]) gz_110_87 gm_110 rfl rfl rfl ?_
      refine w_iload gz_110_89 rfl ?_
      refine w_iconst gz_110_91 (by decide) ?_
      refine w_iceq (t := 109) gz_110_92 rfl (fun u23 => ?_) (fun u23 => ?_)
      ·
        refine w_iconst gz_110_109 (by decide) ?_
        exact w_bret gz_110_110 gm_110 (by omega) (by omega) (k0 h11 (gh11))
      ·
        refine w_iload gz_110_95 rfl ?_
        refine w_iconst gz_110_97 (by decide) ?_
        refine w_irem gz_110_98 (by omega) (by decide) ?_
        refine w_ifeq (t := 109) gz_110_99 rfl (fun u24 => ?_) (fun u24 => ?_)
        ·
          refine w_iconst gz_110_109 (by decide) ?_
          exact w_bret gz_110_110 gm_110 (by omega) (by omega) (k0 h11 (gh11))
        ·
          refine w_iload gz_110_102 rfl ?_
          refine w_bipush gz_110_104 (by decide) ?_
          refine w_iclt (t := 111) gz_110_106 rfl (fun u25 => ?_) (fun u25 => ?_)
          ·
            refine w_aload_n gz_110_111 rfl ?_
            refine w_getX (v := 95) gz_110_112 is_94 rd_2 rfl (by decide) rfl ?_
            refine w_getX (v := 96) gz_110_115 is_95 rd_6 rfl (by decide) rfl ?_
            refine w_iload gz_110_118 rfl ?_
            refine w_iload gz_110_120 rfl ?_
            refine w_iast gz_110_122 is_96 rd_30 (by omega) (by omega) (by omega) (by omega) (fun h28 fh28 => ?_)
            have gh28 : my_fr [(30, -1), (31, -1), (41, -1)] h h28 := my_fr.up gh11 is_96 fh28 rfl
            refine w_iconst gz_110_123 (by decide) ?_
            exact w_bret gz_110_124 gm_110 (by omega) (by omega) (k1 h28 (gh28))
          ·
            refine w_iconst gz_110_109 (by decide) ?_
            exact w_bret gz_110_110 gm_110 (by omega) (by omega) (k0 h11 (gh11))
    ·
      have hi29 : 0 ≤ x4 := by omega
      have hi30 : x4 ≤ 9 := by omega
      refine w_aload gz_110_33 rfl ?_
      refine v_getI (j := 7) gz_110_35 rfl tv2 rd_4 rfl (fun v31 ev31 pv31 qv31 => ?_)
      refine w_ifne (t := 62) gz_110_38 rfl (fun u32 => ?_) (fun u32 => ?_)
      ·
        refine w_aload gz_110_62 rfl ?_
        refine v_getI (j := 7) gz_110_64 rfl tv2 rd_4 rfl (fun v33 ev33 pv33 qv33 => ?_)
        have zv33 := ev33.trans ev31.symm
        refine w_ifne (t := 74) gz_110_67 rfl (fun u34 => ?_) (fun u34 => by exfalso; omega)
        refine w_iconst gz_110_74 (by decide) ?_
        exact w_bret gz_110_75 gm_110 (by omega) (by omega) (k0 h11 (gh11))
      ·
        refine w_aload_n gz_110_41 rfl ?_
        refine w_getX (v := 95) gz_110_42 is_94 rd_2 rfl (by decide) rfl ?_
        refine w_aload gz_110_45 rfl ?_
        refine v_getI (j := 2) gz_110_47 rfl tv2 rd_4 rfl (fun v36 ev36 pv36 qv36 => ?_)
        refine w_aload_n gz_110_50 rfl ?_
        refine w_getX (v := 98) gz_110_51 is_94 rd_2 rfl (by decide) rfl ?_
        refine w_iload gz_110_54 rfl ?_
        refine w_inv (k := 0) (as := [(0, x4)]) (r := [(0, v36), (2, 95)]) (x := 98) (ls0 := [(2, 98), (0, x4)]) gz_110_56 gm_75 rfl is_98 rd_8 rfl rfl rfl rfl rfl ?_
        refine w_aload_n gz_75_0 rfl ?_
        refine w_getX (v := 99) gz_75_1 is_98 rd_8 rfl (by decide) rfl ?_
        refine w_iload_n gz_75_4 rfl ?_
        refine w_bipush gz_75_5 (by decide) ?_
        refine w_imul gz_75_7 ⟨by omega, by omega⟩ ?_
        refine w_bipush gz_75_8 (by decide) ?_
        refine w_iadd gz_75_10 ⟨by omega, by omega⟩ ?_
        refine w_gldT gz_75_11 is_99 rd_42 (by omega) (by omega) (by omega) (fun v39 ev39 pv39 qv39 => ?_)
        refine w_iret gz_75_12 gm_75 ?_
        show wp l rho (d + 3) 110 59 [(2, 94), (2, x1), (0, x2), (0, x3), (0, x4), (0, x5), (0, x6), (2, v2), (9, 0)] [(0, v39), (0, v36), (2, 95)] h11 Q
        refine w_inv (k := 2) (as := [(0, v39), (0, v36)]) (r := []) (x := 95) (ls0 := [(2, 95), (0, v36), (0, v39), (9, 0), (9, 0)]) gz_110_59 gm_23 rfl is_95 rd_6 rfl rfl rfl rfl rfl (c_Rows_drop (d := (d + 1)) (x0 := 95) (x1 := v36) (x2 := v39) is_95 (by omega) (by omega) (by omega) (by omega) (fun h40 frh40 fxh40 => ?_))
        have gh40 : my_fr [(30, -1), (31, -1), (41, -1)] h h40 := my_fr.tr gh11 (frh40.mo rfl)
        show wp l rho (d + 3) 110 62 [(2, 94), (2, x1), (0, x2), (0, x3), (0, x4), (0, x5), (0, x6), (2, v2), (9, 0)] [] h40 Q
        refine w_aload gz_110_62 rfl ?_
        refine v_getI (j := 7) gz_110_64 rfl tv2 rd_4 rfl (fun v41 ev41 pv41 qv41 => ?_)
        have zv41 := ev41.trans ((my_fr.at frh40 tv2 rfl).trans ev31.symm)
        refine w_ifne (t := 74) gz_110_67 rfl (fun u42 => by exfalso; omega) (fun u42 => ?_)
        refine w_iconst gz_110_70 (by decide) ?_
        refine w_goto (t := 75) gz_110_71 rfl ?_
        exact w_bret gz_110_75 gm_110 (by omega) (by omega) (k1 h40 (gh40))
  ·
    refine w_aload_n gz_110_21 rfl ?_
    refine w_aload gz_110_22 rfl ?_
    refine w_inv (k := 2) (as := [(2, v2)]) (r := []) (x := 94) (ls0 := [(2, 94), (2, v2), (9, 0), (9, 0)]) gz_110_24 gm_106 rfl is_94 rd_2 rfl rfl rfl rfl rfl (c_Desk_rowComes (d := d) (x1 := v2) tv2 (fun h43 frh43 => ?_) (fun h44 frh44 => ?_))
    ·
      have gh43 : my_fr [(30, -1), (31, -1), (41, -1)] h h43 := my_fr.tr gh11 (frh43.mo rfl)
      show wp l rho (d + 3) 110 27 [(2, 94), (2, x1), (0, x2), (0, x3), (0, x4), (0, x5), (0, x6), (2, v2), (9, 0)] [(0, 0)] h43 Q
      exact w_bret gz_110_27 gm_110 (by omega) (by omega) (k0 h43 (gh43))
    ·
      have gh44 : my_fr [(30, -1), (31, -1), (41, -1)] h h44 := my_fr.tr gh11 (frh44.mo rfl)
      show wp l rho (d + 3) 110 27 [(2, 94), (2, x1), (0, x2), (0, x3), (0, x4), (0, x5), (0, x6), (2, v2), (9, 0)] [(0, 1)] h44 Q
      exact w_bret gz_110_27 gm_110 (by omega) (by omega) (k1 h44 (gh44))
theorem c_View_load {l : Launch} {rho : Nat → Int32} {d : Nat} {h : my_H} {Q : my_H → my_V → Prop} {x0 x1 x2 x3 x4 : Int} (t0 : my_is 8 x0) (t1 : my_is 6 x1) (a2 : 0 ≤ x2) (b2 : x2 ≤ 2) (m2_0 : 0 ≤ x2 % 17) (m2_1 : x2 % 17 ≤ 2) (a3 : 0 ≤ x3) (b3 : x3 ≤ 4) (m3_0 : 0 ≤ x3 % 17) (m3_1 : x3 % 17 ≤ 4) (k0 : ∀ (h' : my_H), my_fr [(8, 0), (8, 1), (42, -1), (44, -1)] h h' → my_fx x0 3 h h' → 0 ≤ h' x0 0 → h' x0 0 ≤ 10 → 0 ≤ h' x0 1 → h' x0 1 ≤ 4 → h' x0 1 = x3 → h' x0 0 ≤ 10 → Q h' (9, 0)) : wp l rho (d + 1) 68 0 [(2, x0), (2, x1), (0, x2), (0, x3), (0, x4), (9, 0), (9, 0)] [] h Q := by
  have J13_0 : ∀ (n : Nat) (p13_0 p13_1 : Int) (h13_0 : my_H), my_fr [(8, 0), (8, 1), (42, -1), (44, -1)] h h13_0 → my_fx x0 3 h h13_0 → 0 ≤ p13_0 → p13_0 ≤ 20 → 0 ≤ p13_1 → p13_1 ≤ 10 → p13_1 ≤ p13_0 → h13_0 x0 0 = p13_1 → h13_0 x0 1 = x3 → h13_0 x0 1 = x3 → 21 - p13_0 ≤ (n : Int) → wp l rho (d + 1) 68 13 [(2, x0), (2, x1), (0, x2), (0, x3), (0, x4), (0, p13_0), (9, 0)] [] h13_0 Q := by
    intro n
    induction n with
    | zero => intro p13_0 p13_1 h13_0 gh_13_0 gx_13_0 q0_13_0 q1_13_0 q2_13_0 q3_13_0 q4_13_0 ca0_0_13_0 ca0_1_13_0 lc_13_0 hm_13_0; exfalso; omega
    | succ n ih_13_0 =>
      intro p13_0 p13_1 h13_0 gh_13_0 gx_13_0 q0_13_0 q1_13_0 q2_13_0 q3_13_0 q4_13_0 ca0_0_13_0 ca0_1_13_0 lc_13_0 hm_13_0
      have J117_0 : ∀ (p117_0 p117_1 : Int) (h117_0 : my_H), my_fr [(8, 0), (8, 1), (42, -1), (44, -1)] h h117_0 → my_fx x0 3 h h117_0 → p13_0 ≤ 19 → 0 ≤ p117_0 → p117_0 ≤ 236 → 0 ≤ p117_1 → p117_1 ≤ 10 → p13_1 ≤ 9 → p117_1 ≤ (p13_0 + 1) → p117_1 ≤ (p13_1 + 1) → p13_1 ≤ p117_1 → p13_1 ≤ p13_0 → h117_0 x0 0 = p117_1 → h117_0 x0 1 = x3 → wp l rho (d + 1) 68 117 [(2, x0), (2, x1), (0, x2), (0, x3), (0, x4), (0, p13_0), (0, p117_0)] [] h117_0 Q := by
        intro p117_0 p117_1 h117_0 gh_117_0 gx_117_0 q0_117_0 q1_117_0 q2_117_0 q3_117_0 q4_117_0 q5_117_0 q6_117_0 q7_117_0 q8_117_0 q9_117_0 ca0_0_117_0 ca0_1_117_0
        refine w_iinc (ls' := [(2, x0), (2, x1), (0, x2), (0, x3), (0, x4), (0, (p13_0 + 1)), (0, p117_0)]) gz_68_117 rfl gm_68 rfl rfl rfl ⟨by omega, by omega⟩ ?_
        refine w_goto (t := 13) gz_68_120 rfl ?_
        have ce1 : h117_0 x0 1 = x3 := ca0_1_117_0
        refine w_weak (ls' := [(2, x0), (2, x1), (0, x2), (0, x3), (0, x4), (0, (p13_0 + 1)), (9, 0)]) (wk_e (wk_e (wk_e (wk_e (wk_e (wk_e (wk_9 wk_n))))))) ?_
        exact ih_13_0 ((p13_0 + 1)) (p117_1) h117_0 (gh_117_0) (gx_117_0) (by omega) (by omega) (by omega) (by omega) (by omega) (ca0_0_117_0.trans (by omega)) (ca0_1_117_0.trans (by omega)) (by first | assumption | omega) (by omega)
      refine w_iload gz_68_13 rfl ?_
      refine w_bipush gz_68_15 (by decide) ?_
      refine w_icge (t := 123) gz_68_17 rfl (fun u2 => ?_) (fun u2 => ?_)
      ·
        have ce3 : h13_0 x0 0 = p13_1 := ca0_0_13_0
        have ce4 : h13_0 x0 1 = x3 := ca0_1_13_0
        have c5 := ca0_0_13_0
        have c6 := ca0_1_13_0
        exact w_vret gz_68_123 gm_68 (k0 h13_0 (gh_13_0) (gx_13_0) (by omega) (by omega) (by omega) (by omega) (by first | assumption | omega) (by first | assumption | omega))
      ·
        refine w_aload_n gz_68_20 rfl ?_
        refine v_getI (j := 0) gz_68_21 rfl t0 rd_8 rfl (fun v7 ev7 pv7 qv7 => ?_)
        have zv7 := ev7.trans ca0_0_13_0
        refine w_bipush gz_68_24 (by decide) ?_
        refine w_icge (t := 123) gz_68_26 rfl (fun u8 => ?_) (fun u8 => ?_)
        ·
          have ce9 : h13_0 x0 0 = v7 := ev7.symm
          have ce10 : h13_0 x0 1 = x3 := ca0_1_13_0
          have c11 := ev7.symm
          have c12 := ca0_1_13_0
          exact w_vret gz_68_123 gm_68 (k0 h13_0 (gh_13_0) (gx_13_0) (by omega) (by omega) (by omega) (by omega) (by first | assumption | omega) (by first | assumption | omega))
        ·
          refine w_iload_n gz_68_29 rfl ?_
          refine w_iload gz_68_30 rfl ?_
          refine w_inS (k := 0) (as := [(0, p13_0), (0, x2)]) (r := []) (ls0 := [(0, x2), (0, p13_0)]) gz_68_32 gm_17 rfl rfl rfl rfl rfl rfl ?_
          refine w_iload_n gz_17_0 rfl ?_
          refine w_bipush gz_17_1 (by decide) ?_
          refine w_imul gz_17_3 ⟨by omega, by omega⟩ ?_
          refine w_iload_n gz_17_4 rfl ?_
          refine w_iadd gz_17_5 ⟨by omega, by omega⟩ ?_
          refine w_iconst gz_17_6 (by decide) ?_
          refine w_imul gz_17_7 ⟨by omega, by omega⟩ ?_
          refine w_iret gz_17_8 gm_17 ?_
          show wp l rho (d + 1) 68 35 [(2, x0), (2, x1), (0, x2), (0, x3), (0, x4), (0, p13_0), (9, 0)] [(0, (((x2 * 20) + p13_0) * 4))] h13_0 Q
          refine w_istore (ls' := [(2, x0), (2, x1), (0, x2), (0, x3), (0, x4), (0, p13_0), (0, (((x2 * 20) + p13_0) * 4))]) gz_68_35 gm_68 rfl rfl rfl ?_
          refine w_aload_n gz_68_37 rfl ?_
          refine w_getX (v := (x1 + 1)) gz_68_38 t1 rd_6 rfl (by decide) rfl ?_
          refine w_iload gz_68_41 rfl ?_
          refine w_iald gz_68_43 (ix_6_1 t1) rd_30 (by omega) (by omega) (fun v14 ev14 pv14 qv14 => ?_)
          refine w_iconst gz_68_44 (by decide) ?_
          refine w_iceq (t := 117) gz_68_45 rfl (fun u15 => ?_) (fun u15 => ?_)
          ·
            exact J117_0 ((((x2 * 20) + p13_0) * 4)) (v7) h13_0 (gh_13_0) (gx_13_0) (by omega) (by omega) (by omega) (by omega) (by omega) (by omega) (by omega) (by omega) (by omega) (by omega) (ev7.symm.trans (by omega)) (ca0_1_13_0.trans (by omega))
          ·
            refine w_iload gz_68_48 rfl ?_
            refine w_i2l gz_68_50 ?_
            refine w_iload gz_68_51 rfl ?_
            refine w_inS (k := 0) (as := [(0, p13_0), (1, x4)]) (r := []) (ls0 := [(1, x4), (9, 0), (0, p13_0)]) gz_68_53 gm_69 rfl rfl rfl rfl rfl rfl ?_
            refine w_lload_n gz_69_0 rfl ?_
            refine w_iload_n gz_69_1 rfl ?_
            refine w_jshf gz_69_2 (fun _ => rfl) rfl (fun v16 pv16 => ?_)
            refine w_lconst gz_69_3 ?_
            refine w_jany2 gz_69_4 (fun _ => rfl) rfl (fun v17 pv17 => ?_)
            refine w_lconst gz_69_5 ?_
            refine w_lcmp gz_69_6 (fun v18 pv18 qv18 => ?_)
            refine w_ifeq (t := 14) gz_69_7 rfl (fun u19 => ?_) (fun u19 => ?_)
            ·
              refine w_iconst gz_69_14 (by decide) ?_
              refine w_bret gz_69_15 gm_69 (by omega) (by omega) ?_
              show wp l rho (d + 1) 68 56 [(2, x0), (2, x1), (0, x2), (0, x3), (0, x4), (0, p13_0), (0, (((x2 * 20) + p13_0) * 4))] [(0, 0)] h13_0 Q
              refine w_ifeq (t := 117) gz_68_56 rfl (fun u20 => ?_) (fun u20 => by exfalso; omega)
              exact J117_0 ((((x2 * 20) + p13_0) * 4)) (v7) h13_0 (gh_13_0) (gx_13_0) (by omega) (by omega) (by omega) (by omega) (by omega) (by omega) (by omega) (by omega) (by omega) (by omega) (ev7.symm.trans (by omega)) (ca0_1_13_0.trans (by omega))
            ·
              refine w_iconst gz_69_10 (by decide) ?_
              refine w_goto (t := 15) gz_69_11 rfl ?_
              refine w_bret gz_69_15 gm_69 (by omega) (by omega) ?_
              show wp l rho (d + 1) 68 56 [(2, x0), (2, x1), (0, x2), (0, x3), (0, x4), (0, p13_0), (0, (((x2 * 20) + p13_0) * 4))] [(0, 1)] h13_0 Q
              refine w_ifeq (t := 117) gz_68_56 rfl (fun u21 => by exfalso; omega) (fun u21 => ?_)
              refine w_aload_n gz_68_59 rfl ?_
              refine w_aload_n gz_68_60 rfl ?_
              refine w_iload gz_68_61 rfl ?_
              refine w_aload_n gz_68_63 rfl ?_
              refine v_getI (j := 0) gz_68_64 rfl t0 rd_8 rfl (fun v22 ev22 pv22 qv22 => ?_)
              have zv22 := ev22.trans ev7.symm
              refine w_bipush gz_68_67 (by decide) ?_
              refine w_imul gz_68_69 ⟨by omega, by omega⟩ ?_
              refine w_iload_n gz_68_70 rfl ?_
              refine w_inv (k := 1) (as := [(0, x3), (0, (v22 * 17)), (0, (((x2 * 20) + p13_0) * 4)), (2, x1)]) (r := []) (x := x0) (ls0 := [(2, x0), (2, x1), (0, (((x2 * 20) + p13_0) * 4)), (0, (v22 * 17)), (0, x3), (9, 0)]) gz_68_71 gm_70 rfl t0 rd_8 rfl rfl rfl rfl rfl (c_View_copyCells (d := d) (x0 := x0) (x1 := x1) (x2 := (((x2 * 20) + p13_0) * 4)) (x3 := (v22 * 17)) (x4 := x3) t0 t1 (by omega) (by omega) (by omega) (by omega) (by omega) (by omega) (by omega) (by omega) (by omega) (by omega) (by first | assumption | omega) (by first | assumption | omega) (fun h23 frh23 fxh23 => ?_))
              have gh23 : my_fr [(8, 0), (8, 1), (42, -1), (44, -1)] h h23 := my_fr.tr gh_13_0 (frh23.mo rfl)
              have gxh23 : my_fx x0 3 h h23 := my_fx.tr gx_13_0 fxh23
              show wp l rho (d + 1) 68 74 [(2, x0), (2, x1), (0, x2), (0, x3), (0, x4), (0, p13_0), (0, (((x2 * 20) + p13_0) * 4))] [] h23 Q
              refine w_aload_n gz_68_74 rfl ?_
              refine w_getX (v := (x0 + 1)) gz_68_75 t0 rd_8 rfl (by decide) rfl ?_
              refine w_aload_n gz_68_78 rfl ?_
              refine v_getI (j := 0) gz_68_79 rfl t0 rd_8 rfl (fun v25 ev25 pv25 qv25 => ?_)
              have zv25 := ev25.trans ((my_fr.at frh23 t0 rfl).trans ev22.symm)
              refine w_bipush gz_68_82 (by decide) ?_
              refine w_imul gz_68_84 ⟨by omega, by omega⟩ ?_
              refine w_bipush gz_68_85 (by decide) ?_
              refine w_iadd gz_68_87 ⟨by omega, by omega⟩ ?_
              refine w_iload gz_68_88 rfl ?_
              refine w_gstT gz_68_90 (ix_8_1 t0) rd_42 (by omega) (by omega) (by omega) (by omega) (by omega) (fun h26 fh26 => ?_)
              have gh26 : my_fr [(8, 0), (8, 1), (42, -1), (44, -1)] h h26 := my_fr.up gh23 (ix_8_1 t0) fh26 rfl
              have gxh26 : my_fx x0 3 h h26 := my_fx.up gxh23 fh26 (by omega)
              refine w_aload_n gz_68_91 rfl ?_
              refine w_getX (v := (x0 + 3)) gz_68_92 t0 rd_8 rfl (by decide) rfl ?_
              refine w_iload gz_68_95 rfl ?_
              refine w_lconst gz_68_97 ?_
              refine w_iload_n gz_68_98 rfl ?_
              refine w_bipush gz_68_99 (by decide) ?_
              refine w_imul gz_68_101 ⟨by omega, by omega⟩ ?_
              refine w_iload gz_68_102 rfl ?_
              refine w_iadd gz_68_104 ⟨by omega, by omega⟩ ?_
              refine w_jshf gz_68_105 (fun _ => rfl) rfl (fun v28 pv28 => ?_)
              refine w_last gz_68_106 (ix_8_3 t0) rd_44 (by omega) (by omega) (fun h29 fh29 => ?_)
              have gh29 : my_fr [(8, 0), (8, 1), (42, -1), (44, -1)] h h29 := my_fr.up gh26 (ix_8_3 t0) fh29 rfl
              have gxh29 : my_fx x0 3 h h29 := my_fx.up gxh26 fh29 (by omega)
              refine w_aload_n gz_68_107 rfl ?_
              refine w_dup gz_68_108 rfl ?_
              refine v_getI (j := 0) gz_68_109 rfl t0 rd_8 rfl (fun v30 ev30 pv30 qv30 => ?_)
              have zv30 := ev30.trans ((my_up_role fh29 t0 (ix_8_3 t0) rfl).trans ((my_up_role fh26 t0 (ix_8_1 t0) rfl).trans ev25.symm))
              refine w_iconst gz_68_112 (by decide) ?_
              refine w_iadd gz_68_113 ⟨by omega, by omega⟩ ?_
              refine v_putI (j := 0) gz_68_114 rfl t0 rd_8 rfl (by omega) (by omega) rfl (fun h31 fh31 => ?_)
              have gh31 : my_fr [(8, 0), (8, 1), (42, -1), (44, -1)] h h31 := my_fr.up gh29 t0 fh31 rfl
              have gxh31 : my_fx x0 3 h h31 := my_fx.up gxh29 fh31 (by omega)
              exact J117_0 ((((x2 * 20) + p13_0) * 4)) ((v30 + 1)) h31 (gh31) (gxh31) (by omega) (by omega) (by omega) (by omega) (by omega) (by omega) (by omega) (by omega) (by omega) (by omega) ((my_up_self fh31).trans (by omega)) (((my_up_fld fh31 (by decide)).trans ((my_up_role fh29 t0 (ix_8_3 t0) rfl).trans ((my_up_role fh26 t0 (ix_8_1 t0) rfl).trans ((my_fr.at frh23 t0 rfl).trans ca0_1_13_0)))).trans (by omega))
  refine w_aload_n gz_68_0 rfl ?_
  refine w_iconst gz_68_1 (by decide) ?_
  refine v_putI (j := 0) gz_68_2 rfl t0 rd_8 rfl (by omega) (by omega) rfl (fun h32 fh32 => ?_)
  have gh32 : my_fr [(8, 0), (8, 1), (42, -1), (44, -1)] h h32 := my_fr.up my_fr.rf t0 fh32 rfl
  have gxh32 : my_fx x0 3 h h32 := my_fx.up my_fx.rf fh32 (by omega)
  refine w_aload_n gz_68_5 rfl ?_
  refine w_iload_n gz_68_6 rfl ?_
  refine v_putI (j := 1) gz_68_7 rfl t0 rd_8 rfl (by omega) (by omega) rfl (fun h33 fh33 => ?_)
  have gh33 : my_fr [(8, 0), (8, 1), (42, -1), (44, -1)] h h33 := my_fr.up gh32 t0 fh33 rfl
  have gxh33 : my_fx x0 3 h h33 := my_fx.up gxh32 fh33 (by omega)
  refine w_iconst gz_68_10 (by decide) ?_
  refine w_istore (ls' := [(2, x0), (2, x1), (0, x2), (0, x3), (0, x4), (0, 0), (9, 0)]) gz_68_11 gm_68 rfl rfl rfl ?_
  have ce34 : h33 x0 1 = x3 := (my_up_self fh33)
  exact J13_0 21 (0) (0) h33 (gh33) (gxh33) (by omega) (by omega) (by omega) (by omega) (by omega) (((my_up_fld fh33 (by decide)).trans (my_up_self fh32)).trans (by omega)) ((my_up_self fh33).trans (by omega)) (by first | assumption | omega) (by omega)
theorem c_View_sort {l : Launch} {rho : Nat → Int32} {d : Nat} {h : my_H} {Q : my_H → my_V → Prop} {x0 : Int} (t0 : my_is 8 x0) (k0 : ∀ (h' : my_H), my_fr [(42, -1)] h h' → my_fx x0 3 h h' → h' x0 0 = h x0 0 → h' x0 1 = h x0 1 → Q h' (9, 0)) : wp l rho (d + 2) 79 0 [(2, x0), (9, 0), (9, 0), (9, 0)] [] h Q := by
  refine v_know (x := x0) (j := 0) (b := 0) rfl t0 rd_8 rfl (fun ka0_0 eka0_0 pka0_0 qka0_0 => ?_)
  refine v_know (x := x0) (j := 1) (b := 1) rfl t0 rd_8 rfl (fun ka0_1 eka0_1 pka0_1 qka0_1 => ?_)
  have J2_0 : ∀ (n : Nat) (p2_0 p2_1 : Int) (h2_0 : my_H), my_fr [(42, -1)] h h2_0 → my_fx x0 3 h h2_0 → 1 ≤ p2_0 → p2_0 ≤ 11 → 0 ≤ p2_1 → p2_1 ≤ 8 → p2_0 ≤ (ka0_0 + 1) → ka0_1 ≤ (p2_1 + 7) → h2_0 x0 0 = ka0_0 → h2_0 x0 1 = p2_1 → 12 - p2_0 ≤ (n : Int) → wp l rho (d + 2) 79 2 [(2, x0), (0, p2_0), (9, 0), (9, 0)] [] h2_0 Q := by
    intro n
    induction n with
    | zero => intro p2_0 p2_1 h2_0 gh_2_0 gx_2_0 q0_2_0 q1_2_0 q2_2_0 q3_2_0 q4_2_0 q5_2_0 ca0_0_2_0 ca0_1_2_0 hm_2_0; exfalso; omega
    | succ n ih_2_0 =>
      intro p2_0 p2_1 h2_0 gh_2_0 gx_2_0 q0_2_0 q1_2_0 q2_2_0 q3_2_0 q4_2_0 q5_2_0 ca0_0_2_0 ca0_1_2_0 hm_2_0
      have J98_0 : ∀ (p98_0 p98_1 : Int) (h98_0 : my_H), my_fr [(42, -1)] h h98_0 → my_fx x0 3 h h98_0 → p2_0 ≤ 10 → 0 ≤ p98_0 → p98_0 ≤ 10 → 2 ≤ ka0_0 → 0 ≤ p98_1 → p98_1 ≤ 8 → p98_0 ≤ p2_0 → p98_0 ≤ (ka0_0 - 1) → p2_0 ≤ (ka0_0 - 1) → p2_1 ≤ (p98_1 + 7) → ka0_1 ≤ (p98_1 + 7) → ka0_1 ≤ (p2_1 + 7) → h98_0 x0 0 = ka0_0 → h98_0 x0 1 = p98_1 → wp l rho (d + 2) 79 98 [(2, x0), (0, p2_0), (0, p98_0), (9, 0)] [] h98_0 Q := by
        intro p98_0 p98_1 h98_0 gh_98_0 gx_98_0 q0_98_0 q1_98_0 q2_98_0 q3_98_0 q4_98_0 q5_98_0 q6_98_0 q7_98_0 q8_98_0 q9_98_0 q10_98_0 q11_98_0 ca0_0_98_0 ca0_1_98_0
        refine w_iinc (ls' := [(2, x0), (0, (p2_0 + 1)), (0, p98_0), (9, 0)]) gz_79_98 rfl gm_79 rfl rfl rfl ⟨by omega, by omega⟩ ?_
        refine w_goto (t := 2) gz_79_101 rfl ?_
        refine w_weak (ls' := [(2, x0), (0, (p2_0 + 1)), (9, 0), (9, 0)]) (wk_e (wk_e (wk_9 (wk_9 wk_n)))) ?_
        exact ih_2_0 ((p2_0 + 1)) (p98_1) h98_0 (gh_98_0) (gx_98_0) (by omega) (by omega) (by omega) (by omega) (by omega) (by omega) (ca0_0_98_0.trans (by omega)) (ca0_1_98_0.trans (by omega)) (by omega)
      have J72_0 : ∀ (n : Nat) (p72_0 p72_1 p72_2 : Int) (h72_0 : my_H), my_fr [(42, -1)] h h72_0 → my_fx x0 3 h h72_0 → p2_0 ≤ 10 → 0 ≤ p72_0 → p72_0 ≤ 9 → 0 ≤ p72_1 → p72_1 ≤ 10 → 2 ≤ ka0_0 → 0 ≤ p72_2 → p72_2 ≤ 8 → p72_0 ≤ p72_1 → p72_0 ≤ (p2_0 - 1) → p72_0 ≤ (ka0_0 - 2) → p72_1 ≤ p2_0 → p72_1 ≤ (ka0_0 - 1) → p2_0 ≤ (ka0_0 - 1) → p2_1 ≤ (p72_2 + 7) → ka0_1 ≤ (p72_2 + 7) → ka0_1 ≤ (p2_1 + 7) → h72_0 x0 0 = ka0_0 → h72_0 x0 1 = p72_2 → p72_1 - (-1) ≤ (n : Int) → wp l rho (d + 2) 79 72 [(2, x0), (0, p2_0), (0, p72_0), (0, p72_1)] [] h72_0 Q := by
        intro n
        induction n with
        | zero => intro p72_0 p72_1 p72_2 h72_0 gh_72_0 gx_72_0 q0_72_0 q1_72_0 q2_72_0 q3_72_0 q4_72_0 q5_72_0 q6_72_0 q7_72_0 q8_72_0 q9_72_0 q10_72_0 q11_72_0 q12_72_0 q13_72_0 q14_72_0 q15_72_0 q16_72_0 ca0_0_72_0 ca0_1_72_0 hm_72_0; exfalso; omega
        | succ n ih_72_0 =>
          intro p72_0 p72_1 p72_2 h72_0 gh_72_0 gx_72_0 q0_72_0 q1_72_0 q2_72_0 q3_72_0 q4_72_0 q5_72_0 q6_72_0 q7_72_0 q8_72_0 q9_72_0 q10_72_0 q11_72_0 q12_72_0 q13_72_0 q14_72_0 q15_72_0 q16_72_0 ca0_0_72_0 ca0_1_72_0 hm_72_0
          refine w_iload_n gz_79_72 rfl ?_
          refine w_iload_n gz_79_73 rfl ?_
          refine w_icle (t := 91) gz_79_74 rfl (fun u1 => ?_) (fun u1 => ?_)
          ·
            refine w_aload_n gz_79_91 rfl ?_
            refine w_bipush gz_79_92 (by decide) ?_
            refine w_iload_n gz_79_94 rfl ?_
            refine w_inv (k := 0) (as := [(0, p72_0), (0, 11)]) (r := []) (x := x0) (ls0 := [(2, x0), (0, 11), (0, p72_0)]) gz_79_95 gm_72 rfl t0 rd_8 rfl rfl rfl rfl rfl ?_
            refine w_iload_n gz_72_0 rfl ?_
            refine w_iload_n gz_72_1 rfl ?_
            refine w_iceq (t := 26) gz_72_2 rfl (fun u2 => by exfalso; omega) (fun u2 => ?_)
            refine w_aload_n gz_72_5 rfl ?_
            refine w_getX (v := (x0 + 1)) gz_72_6 t0 rd_8 rfl (by decide) rfl ?_
            refine w_iload_n gz_72_9 rfl ?_
            refine w_bipush gz_72_10 (by decide) ?_
            refine w_imul gz_72_12 ⟨by omega, by omega⟩ ?_
            refine w_aload_n gz_72_13 rfl ?_
            refine w_getX (v := (x0 + 1)) gz_72_14 t0 rd_8 rfl (by decide) rfl ?_
            refine w_iload_n gz_72_17 rfl ?_
            refine w_bipush gz_72_18 (by decide) ?_
            refine w_imul gz_72_20 ⟨by omega, by omega⟩ ?_
            refine w_bipush gz_72_21 (by decide) ?_
            refine w_cpG gz_72_23 (ix_8_1 t0) rd_42 (ix_8_1 t0) rd_42 (by omega) (by omega) (by omega) (by omega) (by omega) rfl (by omega) (fun h5 fh5 => ?_)
            have gh5 : my_fr [(42, -1)] h h5 := my_fr.cp gh_72_0 (ix_8_1 t0) fh5 rfl
            have gxh5 : my_fx x0 3 h h5 := my_fx.cp gx_72_0 fh5 (by omega)
            refine w_vret gz_72_26 gm_72 ?_
            show wp l rho (d + 2) 79 98 [(2, x0), (0, p2_0), (0, p72_0), (0, p72_1)] [] h5 Q
            refine w_weak (ls' := [(2, x0), (0, p2_0), (0, p72_0), (9, 0)]) (wk_e (wk_e (wk_e (wk_9 wk_n)))) ?_
            exact J98_0 (p72_0) (p72_2) h5 (gh5) (gxh5) (by omega) (by omega) (by omega) (by omega) (by omega) (by omega) (by omega) (by omega) (by omega) (by omega) (by omega) (by omega) (((my_cp_role fh5 t0 (ix_8_1 t0) rfl).trans ca0_0_72_0).trans (by omega)) (((my_cp_role fh5 t0 (ix_8_1 t0) rfl).trans ca0_1_72_0).trans (by omega))
          ·
            refine w_aload_n gz_79_77 rfl ?_
            refine w_iload_n gz_79_78 rfl ?_
            refine w_iconst gz_79_79 (by decide) ?_
            refine w_isub gz_79_80 ⟨by omega, by omega⟩ ?_
            refine w_iload_n gz_79_81 rfl ?_
            refine w_inv (k := 0) (as := [(0, p72_1), (0, (p72_1 - 1))]) (r := []) (x := x0) (ls0 := [(2, x0), (0, (p72_1 - 1)), (0, p72_1)]) gz_79_82 gm_72 rfl t0 rd_8 rfl rfl rfl rfl rfl ?_
            refine w_iload_n gz_72_0 rfl ?_
            refine w_iload_n gz_72_1 rfl ?_
            refine w_iceq (t := 26) gz_72_2 rfl (fun u6 => by exfalso; omega) (fun u6 => ?_)
            refine w_aload_n gz_72_5 rfl ?_
            refine w_getX (v := (x0 + 1)) gz_72_6 t0 rd_8 rfl (by decide) rfl ?_
            refine w_iload_n gz_72_9 rfl ?_
            refine w_bipush gz_72_10 (by decide) ?_
            refine w_imul gz_72_12 ⟨by omega, by omega⟩ ?_
            refine w_aload_n gz_72_13 rfl ?_
            refine w_getX (v := (x0 + 1)) gz_72_14 t0 rd_8 rfl (by decide) rfl ?_
            refine w_iload_n gz_72_17 rfl ?_
            refine w_bipush gz_72_18 (by decide) ?_
            refine w_imul gz_72_20 ⟨by omega, by omega⟩ ?_
            refine w_bipush gz_72_21 (by decide) ?_
            refine w_cpG gz_72_23 (ix_8_1 t0) rd_42 (ix_8_1 t0) rd_42 (by omega) (by omega) (by omega) (by omega) (by omega) rfl (by omega) (fun h9 fh9 => ?_)
            have gh9 : my_fr [(42, -1)] h h9 := my_fr.cp gh_72_0 (ix_8_1 t0) fh9 rfl
            have gxh9 : my_fx x0 3 h h9 := my_fx.cp gx_72_0 fh9 (by omega)
            refine w_vret gz_72_26 gm_72 ?_
            show wp l rho (d + 2) 79 85 [(2, x0), (0, p2_0), (0, p72_0), (0, p72_1)] [] h9 Q
            refine w_iinc (ls' := [(2, x0), (0, p2_0), (0, p72_0), (0, (p72_1 + (-1)))]) gz_79_85 rfl gm_79 rfl rfl rfl ⟨by omega, by omega⟩ ?_
            refine w_goto (t := 72) gz_79_88 rfl ?_
            exact ih_72_0 (p72_0) ((p72_1 + (-1))) (p72_2) h9 (gh9) (gxh9) (by omega) (by omega) (by omega) (by omega) (by omega) (by omega) (by omega) (by omega) (by omega) (by omega) (by omega) (by omega) (by omega) (by omega) (by omega) (by omega) (by omega) (((my_cp_role fh9 t0 (ix_8_1 t0) rfl).trans ca0_0_72_0).trans (by omega)) (((my_cp_role fh9 t0 (ix_8_1 t0) rfl).trans ca0_1_72_0).trans (by omega)) (by omega)
      have J58_0 : ∀ (p58_0 p58_1 : Int) (h58_0 : my_H), my_fr [(42, -1)] h h58_0 → my_fx x0 3 h h58_0 → p2_0 ≤ 10 → 0 ≤ p58_0 → p58_0 ≤ 10 → 2 ≤ ka0_0 → 0 ≤ p58_1 → p58_1 ≤ 8 → p58_0 ≤ p2_0 → p58_0 ≤ (ka0_0 - 1) → p2_0 ≤ (ka0_0 - 1) → p2_1 ≤ (p58_1 + 7) → ka0_1 ≤ (p58_1 + 7) → ka0_1 ≤ (p2_1 + 7) → h58_0 x0 0 = ka0_0 → h58_0 x0 1 = p58_1 → wp l rho (d + 2) 79 58 [(2, x0), (0, p2_0), (0, p58_0), (9, 0)] [] h58_0 Q := by
        intro p58_0 p58_1 h58_0 gh_58_0 gx_58_0 q0_58_0 q1_58_0 q2_58_0 q3_58_0 q4_58_0 q5_58_0 q6_58_0 q7_58_0 q8_58_0 q9_58_0 q10_58_0 q11_58_0 ca0_0_58_0 ca0_1_58_0
        refine w_iload_n gz_79_58 rfl ?_
        refine w_iload_n gz_79_59 rfl ?_
        refine w_icge (t := 98) gz_79_60 rfl (fun u10 => ?_) (fun u10 => ?_)
        ·
          exact J98_0 (p58_0) (p58_1) h58_0 (gh_58_0) (gx_58_0) (by omega) (by omega) (by omega) (by omega) (by omega) (by omega) (by omega) (by omega) (by omega) (by omega) (by omega) (by omega) (ca0_0_58_0.trans (by omega)) (ca0_1_58_0.trans (by omega))
        ·
          refine w_aload_n gz_79_63 rfl ?_
          refine w_iload_n gz_79_64 rfl ?_
          refine w_bipush gz_79_65 (by decide) ?_
          refine w_inv (k := 0) (as := [(0, 11), (0, p2_0)]) (r := []) (x := x0) (ls0 := [(2, x0), (0, p2_0), (0, 11)]) gz_79_67 gm_72 rfl t0 rd_8 rfl rfl rfl rfl rfl ?_
          refine w_iload_n gz_72_0 rfl ?_
          refine w_iload_n gz_72_1 rfl ?_
          refine w_iceq (t := 26) gz_72_2 rfl (fun u11 => by exfalso; omega) (fun u11 => ?_)
          refine w_aload_n gz_72_5 rfl ?_
          refine w_getX (v := (x0 + 1)) gz_72_6 t0 rd_8 rfl (by decide) rfl ?_
          refine w_iload_n gz_72_9 rfl ?_
          refine w_bipush gz_72_10 (by decide) ?_
          refine w_imul gz_72_12 ⟨by omega, by omega⟩ ?_
          refine w_aload_n gz_72_13 rfl ?_
          refine w_getX (v := (x0 + 1)) gz_72_14 t0 rd_8 rfl (by decide) rfl ?_
          refine w_iload_n gz_72_17 rfl ?_
          refine w_bipush gz_72_18 (by decide) ?_
          refine w_imul gz_72_20 ⟨by omega, by omega⟩ ?_
          refine w_bipush gz_72_21 (by decide) ?_
          refine w_cpG gz_72_23 (ix_8_1 t0) rd_42 (ix_8_1 t0) rd_42 (by omega) (by omega) (by omega) (by omega) (by omega) rfl (by omega) (fun h14 fh14 => ?_)
          have gh14 : my_fr [(42, -1)] h h14 := my_fr.cp gh_58_0 (ix_8_1 t0) fh14 rfl
          have gxh14 : my_fx x0 3 h h14 := my_fx.cp gx_58_0 fh14 (by omega)
          refine w_vret gz_72_26 gm_72 ?_
          show wp l rho (d + 2) 79 70 [(2, x0), (0, p2_0), (0, p58_0), (9, 0)] [] h14 Q
          refine w_iload_n gz_79_70 rfl ?_
          refine w_istore_n (ls' := [(2, x0), (0, p2_0), (0, p58_0), (0, p2_0)]) gz_79_71 gm_79 rfl rfl rfl ?_
          exact J72_0 11 (p58_0) (p2_0) (p58_1) h14 (gh14) (gxh14) (by omega) (by omega) (by omega) (by omega) (by omega) (by omega) (by omega) (by omega) (by omega) (by omega) (by omega) (by omega) (by omega) (by omega) (by omega) (by omega) (by omega) (((my_cp_role fh14 t0 (ix_8_1 t0) rfl).trans ca0_0_58_0).trans (by omega)) (((my_cp_role fh14 t0 (ix_8_1 t0) rfl).trans ca0_1_58_0).trans (by omega)) (by omega)
      have J12_0 : ∀ (n : Nat) (p12_0 p12_1 : Int) (h12_0 : my_H), my_fr [(42, -1)] h h12_0 → my_fx x0 3 h h12_0 → p2_0 ≤ 10 → 0 ≤ p12_0 → p12_0 ≤ 10 → 2 ≤ ka0_0 → 0 ≤ p12_1 → p12_1 ≤ 8 → p12_0 ≤ p2_0 → p12_0 ≤ (ka0_0 - 1) → p2_0 ≤ (ka0_0 - 1) → p2_1 ≤ (p12_1 + 7) → ka0_1 ≤ (p12_1 + 7) → ka0_1 ≤ (p2_1 + 7) → h12_0 x0 0 = ka0_0 → h12_0 x0 1 = p12_1 → p12_0 - (-1) ≤ (n : Int) → wp l rho (d + 2) 79 12 [(2, x0), (0, p2_0), (0, p12_0), (9, 0)] [] h12_0 Q := by
        intro n
        induction n with
        | zero => intro p12_0 p12_1 h12_0 gh_12_0 gx_12_0 q0_12_0 q1_12_0 q2_12_0 q3_12_0 q4_12_0 q5_12_0 q6_12_0 q7_12_0 q8_12_0 q9_12_0 q10_12_0 q11_12_0 ca0_0_12_0 ca0_1_12_0 hm_12_0; exfalso; omega
        | succ n ih_12_0 =>
          intro p12_0 p12_1 h12_0 gh_12_0 gx_12_0 q0_12_0 q1_12_0 q2_12_0 q3_12_0 q4_12_0 q5_12_0 q6_12_0 q7_12_0 q8_12_0 q9_12_0 q10_12_0 q11_12_0 ca0_0_12_0 ca0_1_12_0 hm_12_0
          have J52_0 : ∀ (p52_0 p52_1 : Int) (h52_0 : my_H), my_fr [(42, -1)] h h52_0 → my_fx x0 3 h h52_0 → 1 ≤ p12_0 → p52_0 ≤ 0 → 0 ≤ p52_1 → p52_1 ≤ 8 → p2_0 ≤ (ka0_0 - 1) → p12_0 ≤ p2_0 → p12_0 ≤ (ka0_0 - 1) → p12_1 ≤ (p52_1 + 7) → p2_1 ≤ (p52_1 + 7) → p2_1 ≤ (p12_1 + 7) → ka0_1 ≤ (p52_1 + 7) → ka0_1 ≤ (p12_1 + 7) → ka0_1 ≤ (p2_1 + 7) → h52_0 x0 0 = ka0_0 → h52_0 x0 1 = p52_1 → wp l rho (d + 2) 79 52 [(2, x0), (0, p2_0), (0, p12_0), (0, p52_0)] [] h52_0 Q := by
            intro p52_0 p52_1 h52_0 gh_52_0 gx_52_0 q0_52_0 q1_52_0 q2_52_0 q3_52_0 q4_52_0 q5_52_0 q6_52_0 q7_52_0 q8_52_0 q9_52_0 q10_52_0 q11_52_0 q12_52_0 ca0_0_52_0 ca0_1_52_0
            refine w_iinc (ls' := [(2, x0), (0, p2_0), (0, (p12_0 + (-1))), (0, p52_0)]) gz_79_52 rfl gm_79 rfl rfl rfl ⟨by omega, by omega⟩ ?_
            refine w_goto (t := 12) gz_79_55 rfl ?_
            refine w_weak (ls' := [(2, x0), (0, p2_0), (0, (p12_0 + (-1))), (9, 0)]) (wk_e (wk_e (wk_e (wk_9 wk_n)))) ?_
            exact ih_12_0 ((p12_0 + (-1))) (p52_1) h52_0 (gh_52_0) (gx_52_0) (by omega) (by omega) (by omega) (by omega) (by omega) (by omega) (by omega) (by omega) (by omega) (by omega) (by omega) (by omega) (ca0_0_52_0.trans (by omega)) (ca0_1_52_0.trans (by omega)) (by omega)
          refine w_iload_n gz_79_12 rfl ?_
          refine w_ifle (t := 58) gz_79_13 rfl (fun u15 => ?_) (fun u15 => ?_)
          ·
            exact J58_0 (p12_0) (p12_1) h12_0 (gh_12_0) (gx_12_0) (by omega) (by omega) (by omega) (by omega) (by omega) (by omega) (by omega) (by omega) (by omega) (by omega) (by omega) (by omega) (ca0_0_12_0.trans (by omega)) (ca0_1_12_0.trans (by omega))
          ·
            refine w_aload_n gz_79_16 rfl ?_
            refine w_iload_n gz_79_17 rfl ?_
            refine w_aload_n gz_79_18 rfl ?_
            refine w_iload_n gz_79_19 rfl ?_
            refine w_iconst gz_79_20 (by decide) ?_
            refine w_isub gz_79_21 ⟨by omega, by omega⟩ ?_
            refine w_inv (k := 2) (as := [(0, (p12_0 - 1)), (2, x0), (0, p2_0)]) (r := []) (x := x0) (ls0 := [(2, x0), (0, p2_0), (2, x0), (0, (p12_0 - 1)), (9, 0), (9, 0)]) gz_79_22 gm_80 rfl t0 rd_8 rfl rfl rfl rfl rfl (c_View_compare (d := (d + 1)) (x0 := x0) (x1 := p2_0) (x2 := x0) (x3 := (p12_0 - 1)) t0 (by omega) (by omega) (by omega) (by omega) t0 (by omega) (by omega) (by omega) (by omega) ?_ (fun v16 w17 w18 => ?_))
            ·
              show wp l rho (d + 2) 79 25 [(2, x0), (0, p2_0), (0, p12_0), (9, 0)] [(0, 0)] h12_0 Q
              refine w_istore_n (ls' := [(2, x0), (0, p2_0), (0, p12_0), (0, 0)]) gz_79_25 gm_79 rfl rfl rfl ?_
              refine w_iload_n gz_79_26 rfl ?_
              refine w_ifgt (t := 58) gz_79_27 rfl (fun u19 => by exfalso; omega) (fun u19 => ?_)
              refine w_iload_n gz_79_30 rfl ?_
              refine w_ifne (t := 52) gz_79_31 rfl (fun u20 => by exfalso; omega) (fun u20 => ?_)
              refine w_aload_n gz_79_34 rfl ?_
              refine w_iload_n gz_79_35 rfl ?_
              refine w_inv (k := 0) (as := [(0, p2_0)]) (r := []) (x := x0) (ls0 := [(2, x0), (0, p2_0)]) gz_79_36 gm_75 rfl t0 rd_8 rfl rfl rfl rfl rfl ?_
              refine w_aload_n gz_75_0 rfl ?_
              refine w_getX (v := (x0 + 1)) gz_75_1 t0 rd_8 rfl (by decide) rfl ?_
              refine w_iload_n gz_75_4 rfl ?_
              refine w_bipush gz_75_5 (by decide) ?_
              refine w_imul gz_75_7 ⟨by omega, by omega⟩ ?_
              refine w_bipush gz_75_8 (by decide) ?_
              refine w_iadd gz_75_10 ⟨by omega, by omega⟩ ?_
              refine w_gldT gz_75_11 (ix_8_1 t0) rd_42 (by omega) (by omega) (by omega) (fun v22 ev22 pv22 qv22 => ?_)
              refine w_iret gz_75_12 gm_75 ?_
              show wp l rho (d + 2) 79 39 [(2, x0), (0, p2_0), (0, p12_0), (0, 0)] [(0, v22)] h12_0 Q
              refine w_aload_n gz_79_39 rfl ?_
              refine w_iload_n gz_79_40 rfl ?_
              refine w_iconst gz_79_41 (by decide) ?_
              refine w_isub gz_79_42 ⟨by omega, by omega⟩ ?_
              refine w_inv (k := 0) (as := [(0, (p12_0 - 1))]) (r := [(0, v22)]) (x := x0) (ls0 := [(2, x0), (0, (p12_0 - 1))]) gz_79_43 gm_75 rfl t0 rd_8 rfl rfl rfl rfl rfl ?_
              refine w_aload_n gz_75_0 rfl ?_
              refine w_getX (v := (x0 + 1)) gz_75_1 t0 rd_8 rfl (by decide) rfl ?_
              refine w_iload_n gz_75_4 rfl ?_
              refine w_bipush gz_75_5 (by decide) ?_
              refine w_imul gz_75_7 ⟨by omega, by omega⟩ ?_
              refine w_bipush gz_75_8 (by decide) ?_
              refine w_iadd gz_75_10 ⟨by omega, by omega⟩ ?_
              refine w_gldT gz_75_11 (ix_8_1 t0) rd_42 (by omega) (by omega) (by omega) (fun v24 ev24 pv24 qv24 => ?_)
              refine w_iret gz_75_12 gm_75 ?_
              show wp l rho (d + 2) 79 46 [(2, x0), (0, p2_0), (0, p12_0), (0, 0)] [(0, v24), (0, v22)] h12_0 Q
              refine w_iclt (t := 52) gz_79_46 rfl (fun u25 => ?_) (fun u25 => ?_)
              ·
                exact J52_0 (0) (p12_1) h12_0 (gh_12_0) (gx_12_0) (by omega) (by omega) (by omega) (by omega) (by omega) (by omega) (by omega) (by omega) (by omega) (by omega) (by omega) (by omega) (by omega) (ca0_0_12_0.trans (by omega)) (ca0_1_12_0.trans (by omega))
              ·
                refine w_goto (t := 58) gz_79_49 rfl ?_
                refine w_weak (ls' := [(2, x0), (0, p2_0), (0, p12_0), (9, 0)]) (wk_e (wk_e (wk_e (wk_9 wk_n)))) ?_
                exact J58_0 (p12_0) (p12_1) h12_0 (gh_12_0) (gx_12_0) (by omega) (by omega) (by omega) (by omega) (by omega) (by omega) (by omega) (by omega) (by omega) (by omega) (by omega) (by omega) (ca0_0_12_0.trans (by omega)) (ca0_1_12_0.trans (by omega))
            ·
              show wp l rho (d + 2) 79 25 [(2, x0), (0, p2_0), (0, p12_0), (9, 0)] [(0, v16)] h12_0 Q
              refine w_istore_n (ls' := [(2, x0), (0, p2_0), (0, p12_0), (0, v16)]) gz_79_25 gm_79 rfl rfl rfl ?_
              refine w_iload_n gz_79_26 rfl ?_
              refine w_ifgt (t := 58) gz_79_27 rfl (fun u26 => ?_) (fun u26 => ?_)
              ·
                refine w_weak (ls' := [(2, x0), (0, p2_0), (0, p12_0), (9, 0)]) (wk_e (wk_e (wk_e (wk_9 wk_n)))) ?_
                exact J58_0 (p12_0) ((h12_0 x0 1)) h12_0 (gh_12_0) (gx_12_0) (by omega) (by omega) (by omega) (by omega) (by omega) (by omega) (by omega) (by omega) (by omega) (by omega) (by omega) (by omega) (ca0_0_12_0.trans (by omega)) ((rfl : h12_0 x0 1 = h12_0 x0 1).trans (by omega))
              ·
                refine w_iload_n gz_79_30 rfl ?_
                refine w_ifne (t := 52) gz_79_31 rfl (fun u27 => ?_) (fun u27 => ?_)
                ·
                  exact J52_0 (v16) ((h12_0 x0 1)) h12_0 (gh_12_0) (gx_12_0) (by omega) (by omega) (by omega) (by omega) (by omega) (by omega) (by omega) (by omega) (by omega) (by omega) (by omega) (by omega) (by omega) (ca0_0_12_0.trans (by omega)) ((rfl : h12_0 x0 1 = h12_0 x0 1).trans (by omega))
                ·
                  refine w_aload_n gz_79_34 rfl ?_
                  refine w_iload_n gz_79_35 rfl ?_
                  refine w_inv (k := 0) (as := [(0, p2_0)]) (r := []) (x := x0) (ls0 := [(2, x0), (0, p2_0)]) gz_79_36 gm_75 rfl t0 rd_8 rfl rfl rfl rfl rfl ?_
                  refine w_aload_n gz_75_0 rfl ?_
                  refine w_getX (v := (x0 + 1)) gz_75_1 t0 rd_8 rfl (by decide) rfl ?_
                  refine w_iload_n gz_75_4 rfl ?_
                  refine w_bipush gz_75_5 (by decide) ?_
                  refine w_imul gz_75_7 ⟨by omega, by omega⟩ ?_
                  refine w_bipush gz_75_8 (by decide) ?_
                  refine w_iadd gz_75_10 ⟨by omega, by omega⟩ ?_
                  refine w_gldT gz_75_11 (ix_8_1 t0) rd_42 (by omega) (by omega) (by omega) (fun v29 ev29 pv29 qv29 => ?_)
                  refine w_iret gz_75_12 gm_75 ?_
                  show wp l rho (d + 2) 79 39 [(2, x0), (0, p2_0), (0, p12_0), (0, v16)] [(0, v29)] h12_0 Q
                  refine w_aload_n gz_79_39 rfl ?_
                  refine w_iload_n gz_79_40 rfl ?_
                  refine w_iconst gz_79_41 (by decide) ?_
                  refine w_isub gz_79_42 ⟨by omega, by omega⟩ ?_
                  refine w_inv (k := 0) (as := [(0, (p12_0 - 1))]) (r := [(0, v29)]) (x := x0) (ls0 := [(2, x0), (0, (p12_0 - 1))]) gz_79_43 gm_75 rfl t0 rd_8 rfl rfl rfl rfl rfl ?_
                  refine w_aload_n gz_75_0 rfl ?_
                  refine w_getX (v := (x0 + 1)) gz_75_1 t0 rd_8 rfl (by decide) rfl ?_
                  refine w_iload_n gz_75_4 rfl ?_
                  refine w_bipush gz_75_5 (by decide) ?_
                  refine w_imul gz_75_7 ⟨by omega, by omega⟩ ?_
                  refine w_bipush gz_75_8 (by decide) ?_
                  refine w_iadd gz_75_10 ⟨by omega, by omega⟩ ?_
                  refine w_gldT gz_75_11 (ix_8_1 t0) rd_42 (by omega) (by omega) (by omega) (fun v31 ev31 pv31 qv31 => ?_)
                  refine w_iret gz_75_12 gm_75 ?_
                  show wp l rho (d + 2) 79 46 [(2, x0), (0, p2_0), (0, p12_0), (0, v16)] [(0, v31), (0, v29)] h12_0 Q
                  refine w_iclt (t := 52) gz_79_46 rfl (fun u32 => ?_) (fun u32 => ?_)
                  ·
                    exact J52_0 (v16) ((h12_0 x0 1)) h12_0 (gh_12_0) (gx_12_0) (by omega) (by omega) (by omega) (by omega) (by omega) (by omega) (by omega) (by omega) (by omega) (by omega) (by omega) (by omega) (by omega) (ca0_0_12_0.trans (by omega)) ((rfl : h12_0 x0 1 = h12_0 x0 1).trans (by omega))
                  ·
                    refine w_goto (t := 58) gz_79_49 rfl ?_
                    refine w_weak (ls' := [(2, x0), (0, p2_0), (0, p12_0), (9, 0)]) (wk_e (wk_e (wk_e (wk_9 wk_n)))) ?_
                    exact J58_0 (p12_0) ((h12_0 x0 1)) h12_0 (gh_12_0) (gx_12_0) (by omega) (by omega) (by omega) (by omega) (by omega) (by omega) (by omega) (by omega) (by omega) (by omega) (by omega) (by omega) (ca0_0_12_0.trans (by omega)) ((rfl : h12_0 x0 1 = h12_0 x0 1).trans (by omega))
      refine w_iload_n gz_79_2 rfl ?_
      refine w_aload_n gz_79_3 rfl ?_
      refine v_getI (j := 0) gz_79_4 rfl t0 rd_8 rfl (fun v33 ev33 pv33 qv33 => ?_)
      have zv33 := ev33.trans ca0_0_2_0
      refine w_icge (t := 104) gz_79_7 rfl (fun u34 => ?_) (fun u34 => ?_)
      ·
        have ce35 : h2_0 x0 0 = v33 := ev33.symm
        have ce36 : h2_0 x0 1 = p2_1 := ca0_1_2_0
        exact w_vret gz_79_104 gm_79 (k0 h2_0 (gh_2_0) (gx_2_0) (by first | assumption | omega) (by first | assumption | omega))
      ·
        refine w_iload_n gz_79_10 rfl ?_
        refine w_istore_n (ls' := [(2, x0), (0, p2_0), (0, p2_0), (9, 0)]) gz_79_11 gm_79 rfl rfl rfl ?_
        exact J12_0 11 (p2_0) (p2_1) h2_0 (gh_2_0) (gx_2_0) (by omega) (by omega) (by omega) (by omega) (by omega) (by omega) (by omega) (by omega) (by omega) (by omega) (by omega) (by omega) (ev33.symm.trans (by omega)) (ca0_1_2_0.trans (by omega)) (by omega)
  refine w_iconst gz_79_0 (by decide) ?_
  refine w_istore_n (ls' := [(2, x0), (0, 1), (9, 0), (9, 0)]) gz_79_1 gm_79 rfl rfl rfl ?_
  exact J2_0 11 (1) (ka0_1) h (my_fr.rf) (my_fx.rf) (by omega) (by omega) (by omega) (by omega) (by omega) (by omega) (eka0_0.symm.trans (by omega)) (eka0_1.symm.trans (by omega)) (by omega)
theorem c_Desk_tellingRows {l : Launch} {rho : Nat → Int32} {d : Nat} {h : my_H} {Q : my_H → my_V → Prop} {x1 : Int} (t1 : my_is 4 x1) (hor : h 94 15 ≠ 2 → 0 ≤ h 94 16 ∧ h 94 16 ≤ 9) (k0 : ∀ (y : Int), Q h (1, y)) : wp l rho (d + 2) 96 0 [(2, 94), (2, x1), (9, 0), (9, 0), (9, 0), (9, 0)] [] h Q := by
  have J16_0 : ∀ (n : Nat) (z16_l2 p16_0 : Int), 0 ≤ p16_0 → p16_0 ≤ 20 → h x1 7 = 0 → 21 - p16_0 ≤ (n : Int) → wp l rho (d + 2) 96 16 [(2, 94), (2, x1), (1, z16_l2), (9, 0), (0, p16_0), (9, 0)] [] h Q := by
    intro n
    induction n with
    | zero => intro z16_l2 p16_0 q0_16_0 q1_16_0 ca1_7_16_0 hm_16_0; exfalso; omega
    | succ n ih_16_0 =>
      intro z16_l2 p16_0 q0_16_0 q1_16_0 ca1_7_16_0 hm_16_0
      have J115_0 : ∀ (z115_l2 p115_0 : Int), p16_0 ≤ 19 → 0 ≤ p115_0 → p115_0 ≤ 2 → h x1 2 = p115_0 → h x1 7 = 0 → wp l rho (d + 2) 96 115 [(2, 94), (2, x1), (1, z115_l2), (9, 0), (0, p16_0), (9, 0)] [] h Q := by
        intro z115_l2 p115_0 q0_115_0 q1_115_0 q2_115_0 ca1_2_115_0 ca1_7_115_0
        refine w_iinc (ls' := [(2, 94), (2, x1), (1, z115_l2), (9, 0), (0, (p16_0 + 1)), (9, 0)]) gz_96_115 rfl gm_96 rfl rfl rfl ⟨by omega, by omega⟩ ?_
        refine w_goto (t := 16) gz_96_118 rfl ?_
        exact ih_16_0 (z115_l2) ((p16_0 + 1)) (by omega) (by omega) (ca1_7_115_0.trans (by omega)) (by omega)
      have J102_0 : ∀ (z102_l2 p102_0 p102_1 p102_2 : Int), p16_0 ≤ 19 → (-1) ≤ p102_0 → p102_0 ≤ 10 → 0 ≤ p102_1 → p102_1 ≤ 2 → 0 ≤ p102_2 → p102_2 ≤ 1 → h x1 2 = p102_1 → h x1 7 = 0 → h 94 14 = p102_2 → wp l rho (d + 2) 96 102 [(2, 94), (2, x1), (1, z102_l2), (9, 0), (0, p16_0), (0, p102_0)] [] h Q := by
        intro z102_l2 p102_0 p102_1 p102_2 q0_102_0 q1_102_0 q2_102_0 q3_102_0 q4_102_0 q5_102_0 q6_102_0 ca1_2_102_0 ca1_7_102_0 c94_14_102_0
        refine w_lload_n gz_96_102 rfl ?_
        refine w_aload_n gz_96_103 rfl ?_
        refine w_getX (v := 98) gz_96_104 is_94 rd_2 rfl (by decide) rfl ?_
        refine w_getX (v := 101) gz_96_107 is_98 rd_8 rfl (by decide) rfl ?_
        refine w_iload gz_96_110 rfl ?_
        refine w_lald gz_96_112 is_101 rd_44 (by omega) (by omega) (fun v3 ev3 pv3 => ?_)
        refine w_jany2 gz_96_113 (fun _ => rfl) rfl (fun v4 pv4 => ?_)
        refine w_lstore_n (ls' := [(2, 94), (2, x1), (1, v4), (9, 0), (0, p16_0), (0, p102_0)]) gz_96_114 gm_96 rfl rfl rfl ?_
        refine w_weak (ls' := [(2, 94), (2, x1), (1, v4), (9, 0), (0, p16_0), (9, 0)]) (wk_e (wk_e (wk_e (wk_9 (wk_e (wk_9 wk_n)))))) ?_
        exact J115_0 (v4) (p102_1) (by omega) (by omega) (by omega) (ca1_2_102_0.trans (by omega)) (ca1_7_102_0.trans (by omega))
      refine w_iload gz_96_16 rfl ?_
      refine w_bipush gz_96_18 (by decide) ?_
      refine w_icge (t := 121) gz_96_20 rfl (fun u5 => ?_) (fun u5 => ?_)
      ·
        refine w_lload_n gz_96_121 rfl ?_
        exact w_lret gz_96_122 gm_96 (k0 (z16_l2))
      ·
        refine w_aload_n gz_96_23 rfl ?_
        refine w_getX (v := 95) gz_96_24 is_94 rd_2 rfl (by decide) rfl ?_
        refine w_aload_n gz_96_27 rfl ?_
        refine v_getI (j := 2) gz_96_28 rfl t1 rd_4 rfl (fun v7 ev7 pv7 qv7 => ?_)
        refine w_iload gz_96_31 rfl ?_
        refine w_inv (k := 0) (as := [(0, p16_0), (0, v7)]) (r := []) (x := 95) (ls0 := [(2, 95), (0, v7), (0, p16_0)]) gz_96_33 gm_15 rfl is_95 rd_6 rfl rfl rfl rfl rfl ?_
        refine w_iload_n gz_15_0 rfl ?_
        refine w_iflt (t := 31) gz_15_1 rfl (fun u8 => by exfalso; omega) (fun u8 => ?_)
        refine w_iload_n gz_15_4 rfl ?_
        refine w_bipush gz_15_5 (by decide) ?_
        refine w_icge (t := 31) gz_15_7 rfl (fun u9 => by exfalso; omega) (fun u9 => ?_)
        refine w_aload_n gz_15_10 rfl ?_
        refine w_getX (v := 96) gz_15_11 is_95 rd_6 rfl (by decide) rfl ?_
        refine w_iload_n gz_15_14 rfl ?_
        refine w_bipush gz_15_15 (by decide) ?_
        refine w_imul gz_15_17 ⟨by omega, by omega⟩ ?_
        refine w_iload_n gz_15_18 rfl ?_
        refine w_iadd gz_15_19 ⟨by omega, by omega⟩ ?_
        refine w_iconst gz_15_20 (by decide) ?_
        refine w_imul gz_15_21 ⟨by omega, by omega⟩ ?_
        refine w_iald gz_15_22 is_96 rd_30 (by omega) (by omega) (fun v11 ev11 pv11 qv11 => ?_)
        refine w_iconst gz_15_23 (by decide) ?_
        refine w_iceq (t := 31) gz_15_24 rfl (fun u12 => ?_) (fun u12 => ?_)
        ·
          refine w_iconst gz_15_31 (by decide) ?_
          refine w_bret gz_15_32 gm_15 (by omega) (by omega) ?_
          show wp l rho (d + 2) 96 36 [(2, 94), (2, x1), (1, z16_l2), (9, 0), (0, p16_0), (9, 0)] [(0, 0)] h Q
          refine w_ifeq (t := 115) gz_96_36 rfl (fun u13 => ?_) (fun u13 => by exfalso; omega)
          exact J115_0 (z16_l2) (v7) (by omega) (by omega) (by omega) (ev7.symm.trans (by omega)) (ca1_7_16_0.trans (by omega))
        ·
          refine w_iconst gz_15_27 (by decide) ?_
          refine w_goto (t := 32) gz_15_28 rfl ?_
          refine w_bret gz_15_32 gm_15 (by omega) (by omega) ?_
          show wp l rho (d + 2) 96 36 [(2, 94), (2, x1), (1, z16_l2), (9, 0), (0, p16_0), (9, 0)] [(0, 1)] h Q
          refine w_ifeq (t := 115) gz_96_36 rfl (fun u14 => by exfalso; omega) (fun u14 => ?_)
          refine w_aload_n gz_96_39 rfl ?_
          refine w_getX (v := 98) gz_96_40 is_94 rd_2 rfl (by decide) rfl ?_
          refine w_iload gz_96_43 rfl ?_
          refine w_inv (k := 1) (as := [(0, p16_0)]) (r := []) (x := 98) (ls0 := [(2, 98), (0, p16_0), (9, 0)]) gz_96_45 gm_97 rfl is_98 rd_8 rfl rfl rfl rfl rfl (c_View_rowOf (d := d) (x0 := 98) (x1 := p16_0) is_98 (by omega) (by omega) ?_ (fun v16 w17 w18 w19 w20 => ?_))
          ·
            show wp l rho (d + 2) 96 48 [(2, 94), (2, x1), (1, z16_l2), (9, 0), (0, p16_0), (9, 0)] [(0, (-1))] h Q
            refine w_istore (ls' := [(2, 94), (2, x1), (1, z16_l2), (9, 0), (0, p16_0), (0, (-1))]) gz_96_48 gm_96 rfl rfl rfl ?_
            refine w_aload_n gz_96_50 rfl ?_
            refine v_getI (j := 14) gz_96_51 rfl is_94 rd_2 rfl (fun v21 ev21 pv21 qv21 => ?_)
            refine w_ifne (t := 102) gz_96_54 rfl (fun u22 => ?_) (fun u22 => ?_)
            ·
              exact J102_0 (z16_l2) ((-1)) (v7) (v21) (by omega) (by omega) (by omega) (by omega) (by omega) (by omega) (by omega) (ev7.symm.trans (by omega)) (ca1_7_16_0.trans (by omega)) (ev21.symm.trans (by omega))
            ·
              refine w_iload gz_96_57 rfl ?_
              refine w_iconst gz_96_59 (by decide) ?_
              refine w_icne (t := 74) gz_96_60 rfl (fun u23 => by exfalso; omega) (fun u23 => ?_)
              refine w_aload_n gz_96_63 rfl ?_
              refine v_getI (j := 15) gz_96_64 rfl is_94 rd_2 rfl (fun v24 ev24 pv24 qv24 => ?_)
              refine w_iconst gz_96_67 (by decide) ?_
              refine w_icne (t := 115) gz_96_68 rfl (fun u25 => ?_) (fun u25 => ?_)
              ·
                refine w_weak (ls' := [(2, 94), (2, x1), (1, z16_l2), (9, 0), (0, p16_0), (9, 0)]) (wk_e (wk_e (wk_e (wk_9 (wk_e (wk_9 wk_n)))))) ?_
                exact J115_0 (z16_l2) (v7) (by omega) (by omega) (by omega) (ev7.symm.trans (by omega)) (ca1_7_16_0.trans (by omega))
              ·
                refine w_goto (t := 102) gz_96_71 rfl ?_
                exact J102_0 (z16_l2) ((-1)) (v7) (v21) (by omega) (by omega) (by omega) (by omega) (by omega) (by omega) (by omega) (ev7.symm.trans (by omega)) (ca1_7_16_0.trans (by omega)) (ev21.symm.trans (by omega))
          ·
            show wp l rho (d + 2) 96 48 [(2, 94), (2, x1), (1, z16_l2), (9, 0), (0, p16_0), (9, 0)] [(0, v16)] h Q
            refine w_istore (ls' := [(2, 94), (2, x1), (1, z16_l2), (9, 0), (0, p16_0), (0, v16)]) gz_96_48 gm_96 rfl rfl rfl ?_
            refine w_aload_n gz_96_50 rfl ?_
            refine v_getI (j := 14) gz_96_51 rfl is_94 rd_2 rfl (fun v26 ev26 pv26 qv26 => ?_)
            refine w_ifne (t := 102) gz_96_54 rfl (fun u27 => ?_) (fun u27 => ?_)
            ·
              exact J102_0 (z16_l2) (v16) (v7) (v26) (by omega) (by omega) (by omega) (by omega) (by omega) (by omega) (by omega) (ev7.symm.trans (by omega)) (ca1_7_16_0.trans (by omega)) (ev26.symm.trans (by omega))
            ·
              refine w_iload gz_96_57 rfl ?_
              refine w_iconst gz_96_59 (by decide) ?_
              refine w_icne (t := 74) gz_96_60 rfl (fun u28 => ?_) (fun u28 => by exfalso; omega)
              refine w_aload_n gz_96_74 rfl ?_
              refine v_getI (j := 15) gz_96_75 rfl is_94 rd_2 rfl (fun v29 ev29 pv29 qv29 => ?_)
              refine w_iconst gz_96_78 (by decide) ?_
              refine w_iceq (t := 115) gz_96_79 rfl (fun u30 => ?_) (fun u30 => ?_)
              ·
                refine w_weak (ls' := [(2, 94), (2, x1), (1, z16_l2), (9, 0), (0, p16_0), (9, 0)]) (wk_e (wk_e (wk_e (wk_9 (wk_e (wk_9 wk_n)))))) ?_
                exact J115_0 (z16_l2) (v7) (by omega) (by omega) (by omega) (ev7.symm.trans (by omega)) (ca1_7_16_0.trans (by omega))
              ·
                refine w_aload_n gz_96_82 rfl ?_
                refine w_getX (v := 98) gz_96_83 is_94 rd_2 rfl (by decide) rfl ?_
                refine w_iload gz_96_86 rfl ?_
                refine w_aload_n gz_96_88 rfl ?_
                refine w_getX (v := 98) gz_96_89 is_94 rd_2 rfl (by decide) rfl ?_
                refine w_aload_n gz_96_92 rfl ?_
                refine v_getI (j := 16) gz_96_93 rfl is_94 rd_2 rfl (fun v33 ev33 pv33 qv33 => ?_)
                have hi34 : 0 ≤ v33 := by omega
                have hi35 : v33 ≤ 9 := by omega
                refine w_inv (k := 2) (as := [(0, v33), (2, 98), (0, v16)]) (r := []) (x := 98) (ls0 := [(2, 98), (0, v16), (2, 98), (0, v33), (9, 0), (9, 0)]) gz_96_96 gm_80 rfl is_98 rd_8 rfl rfl rfl rfl rfl (c_View_compare (d := (d + 1)) (x0 := 98) (x1 := v16) (x2 := 98) (x3 := v33) is_98 (by omega) (by omega) (by omega) (by omega) is_98 (by omega) (by omega) (by omega) (by omega) ?_ (fun v36 w37 w38 => ?_))
                ·
                  show wp l rho (d + 2) 96 99 [(2, 94), (2, x1), (1, z16_l2), (9, 0), (0, p16_0), (0, v16)] [(0, 0)] h Q
                  refine w_ifne (t := 115) gz_96_99 rfl (fun u39 => by exfalso; omega) (fun u39 => ?_)
                  exact J102_0 (z16_l2) (v16) (v7) (v26) (by omega) (by omega) (by omega) (by omega) (by omega) (by omega) (by omega) (ev7.symm.trans (by omega)) (ca1_7_16_0.trans (by omega)) (ev26.symm.trans (by omega))
                ·
                  show wp l rho (d + 2) 96 99 [(2, 94), (2, x1), (1, z16_l2), (9, 0), (0, p16_0), (0, v16)] [(0, v36)] h Q
                  refine w_ifne (t := 115) gz_96_99 rfl (fun u40 => ?_) (fun u40 => ?_)
                  ·
                    refine w_weak (ls' := [(2, 94), (2, x1), (1, z16_l2), (9, 0), (0, p16_0), (9, 0)]) (wk_e (wk_e (wk_e (wk_9 (wk_e (wk_9 wk_n)))))) ?_
                    exact J115_0 (z16_l2) (v7) (by omega) (by omega) (by omega) (ev7.symm.trans (by omega)) (ca1_7_16_0.trans (by omega))
                  ·
                    exact J102_0 (z16_l2) (v16) (v7) (v26) (by omega) (by omega) (by omega) (by omega) (by omega) (by omega) (by omega) (ev7.symm.trans (by omega)) (ca1_7_16_0.trans (by omega)) (ev26.symm.trans (by omega))
  refine w_aload_n gz_96_0 rfl ?_
  refine v_getI (j := 7) gz_96_1 rfl t1 rd_4 rfl (fun v41 ev41 pv41 qv41 => ?_)
  refine w_ifeq (t := 11) gz_96_4 rfl (fun u42 => ?_) (fun u42 => ?_)
  ·
    refine w_lconst gz_96_11 ?_
    refine w_lstore_n (ls' := [(2, 94), (2, x1), (1, (((0 : Fin 2).val : Nat) : Int)), (9, 0), (9, 0), (9, 0)]) gz_96_12 gm_96 rfl rfl rfl ?_
    refine w_iconst gz_96_13 (by decide) ?_
    refine w_istore (ls' := [(2, 94), (2, x1), (1, (((0 : Fin 2).val : Nat) : Int)), (9, 0), (0, 0), (9, 0)]) gz_96_14 gm_96 rfl rfl rfl ?_
    exact J16_0 21 ((((0 : Fin 2).val : Nat) : Int)) (0) (by omega) (by omega) (ev41.symm.trans (by omega)) (by omega)
  ·
    refine w_ldc2A gz_96_7 (fun v43 pv43 => ?_)
    exact w_lret gz_96_10 gm_96 (k0 (v43))
theorem c_Cutter_countArranged {l : Launch} {rho : Nat → Int32} {d : Nat} {h : my_H} {Q : my_H → my_V → Prop} {x1 x2 x3 : Int} (t1 : my_is 6 x1) (a2 : 0 ≤ x2) (b2 : x2 ≤ 2) (k0 : ∀ (h' : my_H), my_fr [(8, 0), (8, 1), (42, -1), (44, -1), (45, -1)] h h' → Q h' (0, 0)) (k1 : ∀ (h' : my_H) (y : Int), my_fr [(8, 0), (8, 1), (42, -1), (44, -1), (45, -1)] h h' → 0 ≤ y → Q h' (0, y)) : wp l rho (d + 3) 122 0 [(2, 114), (2, x1), (0, x2), (0, x3), (2, 98), (9, 0), (9, 0), (9, 0)] [] h Q := by
  refine v_know (x := 98) (j := 1) (b := 1) rfl is_98 rd_8 rfl (fun k98_1 ek98_1 pk98_1 qk98_1 => ?_)
  have J41_0 : ∀ (n : Nat) (p41_0 p41_1 p41_2 p41_3 : Int) (h41_0 : my_H), my_fr [(8, 0), (8, 1), (42, -1), (44, -1), (45, -1)] h h41_0 → 0 ≤ p41_0 → p41_0 ≤ 4 → 0 ≤ p41_1 → 0 ≤ p41_2 → k98_1 ≤ 4 → 0 ≤ p41_3 → p41_3 ≤ 11 → p41_1 ≤ p41_2 → k98_1 ≤ p41_0 → h41_0 98 0 = p41_3 → h41_0 98 1 = k98_1 → 2147483648 - p41_2 ≤ (n : Int) → wp l rho (d + 3) 122 41 [(2, 114), (2, x1), (0, x2), (0, x3), (2, 98), (0, p41_0), (0, p41_1), (0, p41_2)] [] h41_0 Q := by
    intro n
    induction n with
    | zero => intro p41_0 p41_1 p41_2 p41_3 h41_0 gh_41_0 q0_41_0 q1_41_0 q2_41_0 q3_41_0 q4_41_0 q5_41_0 q6_41_0 q7_41_0 q8_41_0 c98_0_41_0 c98_1_41_0 hm_41_0; exfalso; omega
    | succ n ih_41_0 =>
      intro p41_0 p41_1 p41_2 p41_3 h41_0 gh_41_0 q0_41_0 q1_41_0 q2_41_0 q3_41_0 q4_41_0 q5_41_0 q6_41_0 q7_41_0 q8_41_0 c98_0_41_0 c98_1_41_0 hm_41_0
      have J122_0 : ∀ (p122_0 : Int) (h122_0 : my_H), my_fr [(8, 0), (8, 1), (42, -1), (44, -1), (45, -1)] h h122_0 → 0 ≤ p122_0 → p41_2 ≤ 2147483646 → p41_1 ≤ 2147483646 → p122_0 ≤ (p41_2 + 1) → p122_0 ≤ (p41_1 + 1) → k98_1 ≤ p41_0 → p41_1 ≤ p122_0 → p41_1 ≤ p41_2 → h122_0 98 0 = p41_3 → h122_0 98 1 = k98_1 → wp l rho (d + 3) 122 122 [(2, 114), (2, x1), (0, x2), (0, x3), (2, 98), (0, p41_0), (0, p122_0), (0, p41_2)] [] h122_0 Q := by
        intro p122_0 h122_0 gh_122_0 q0_122_0 q1_122_0 q2_122_0 q3_122_0 q4_122_0 q5_122_0 q6_122_0 q7_122_0 c98_0_122_0 c98_1_122_0
        refine w_iinc (ls' := [(2, 114), (2, x1), (0, x2), (0, x3), (2, 98), (0, p41_0), (0, p122_0), (0, (p41_2 + 1))]) gz_122_122 rfl gm_122 rfl rfl rfl ⟨by omega, by omega⟩ ?_
        refine w_goto (t := 41) gz_122_125 rfl ?_
        exact ih_41_0 (p41_0) (p122_0) ((p41_2 + 1)) (p41_3) h122_0 (gh_122_0) (by omega) (by omega) (by omega) (by omega) (by omega) (by omega) (by omega) (by omega) (by omega) (c98_0_122_0.trans (by omega)) (c98_1_122_0.trans (by omega)) (by omega)
      refine w_iload gz_122_41 rfl ?_
      refine w_iconst gz_122_43 (by decide) ?_
      refine w_iconst gz_122_44 (by decide) ?_
      refine w_aload gz_122_45 rfl ?_
      refine v_getI (j := 1) gz_122_47 rfl is_98 rd_8 rfl (fun v1 ev1 pv1 qv1 => ?_)
      have zv1 := ev1.trans c98_1_41_0
      refine w_imul gz_122_50 ⟨by omega, by omega⟩ ?_
      refine w_ianyL gz_122_51 (fun v2 pv2 qv2 => ?_)
      refine w_icge (t := 128) gz_122_52 rfl (fun u3 => ?_) (fun u3 => ?_)
      ·
        refine w_iload gz_122_128 rfl ?_
        exact w_iret gz_122_130 gm_122 (k1 h41_0 (p41_1) (gh_41_0) (by omega))
      ·
        refine w_aload_n gz_122_55 rfl ?_
        refine w_iload gz_122_56 rfl ?_
        refine w_aload gz_122_58 rfl ?_
        refine v_getI (j := 1) gz_122_60 rfl is_98 rd_8 rfl (fun v4 ev4 pv4 qv4 => ?_)
        have zv4 := ev4.trans ev1.symm
        refine w_iload gz_122_63 rfl ?_
        refine w_inv (k := 3) (as := [(0, p41_0), (0, v4), (0, p41_2)]) (r := []) (x := 114) (ls0 := [(2, 114), (0, p41_2), (0, v4), (0, p41_0), (9, 0), (9, 0), (9, 0)]) gz_122_65 gm_124 rfl is_114 rd_1 rfl rfl rfl rfl rfl (c_Cutter_picksColumns (d := (d + 2)) (x1 := p41_2) (x2 := v4) (x3 := p41_0) (by omega) (by omega) (by omega) (by omega) (by omega) (fun h5 frh5 w6 => ?_) (fun h7 frh7 => ?_))
        ·
          have gh5 : my_fr [(8, 0), (8, 1), (42, -1), (44, -1), (45, -1)] h h5 := my_fr.tr gh_41_0 (frh5.mo rfl)
          show wp l rho (d + 3) 122 68 [(2, 114), (2, x1), (0, x2), (0, x3), (2, 98), (0, p41_0), (0, p41_1), (0, p41_2)] [(0, 0)] h5 Q
          refine w_ifeq (t := 122) gz_122_68 rfl (fun u8 => ?_) (fun u8 => by exfalso; omega)
          exact J122_0 (p41_1) h5 (gh5) (by omega) (by omega) (by omega) (by omega) (by omega) (by omega) (by omega) (by omega) (((my_fr.at frh5 is_98 rfl).trans c98_0_41_0).trans (by omega)) (((my_fr.at frh5 is_98 rfl).trans ev4.symm).trans (by omega))
        ·
          have gh7 : my_fr [(8, 0), (8, 1), (42, -1), (44, -1), (45, -1)] h h7 := my_fr.tr gh_41_0 (frh7.mo rfl)
          show wp l rho (d + 3) 122 68 [(2, 114), (2, x1), (0, x2), (0, x3), (2, 98), (0, p41_0), (0, p41_1), (0, p41_2)] [(0, 1)] h7 Q
          refine w_ifeq (t := 122) gz_122_68 rfl (fun u9 => by exfalso; omega) (fun u9 => ?_)
          refine w_aload_n gz_122_71 rfl ?_
          refine w_getX (v := 115) gz_122_72 is_114 rd_1 rfl (by decide) rfl ?_
          refine w_aload_n gz_122_75 rfl ?_
          refine w_iload_n gz_122_76 rfl ?_
          refine w_iload gz_122_77 rfl ?_
          refine w_iload_n gz_122_79 rfl ?_
          refine w_inv (k := 2) (as := [(0, x3), (0, p41_0), (0, x2), (2, x1)]) (r := []) (x := 115) (ls0 := [(2, 115), (2, x1), (0, x2), (0, p41_0), (0, x3), (9, 0), (9, 0)]) gz_122_80 gm_68 rfl is_115 rd_8 rfl rfl rfl rfl rfl (c_View_load (d := (d + 1)) (x0 := 115) (x1 := x1) (x2 := x2) (x3 := p41_0) (x4 := x3) is_115 t1 (by omega) (by omega) (by omega) (by omega) (by omega) (by omega) (by omega) (by omega) (fun h11 frh11 fxh11 w12 w13 w14 w15 xp16 xp17 => ?_))
          have gh11 : my_fr [(8, 0), (8, 1), (42, -1), (44, -1), (45, -1)] h h11 := my_fr.tr gh7 (frh11.mo rfl)
          show wp l rho (d + 3) 122 83 [(2, 114), (2, x1), (0, x2), (0, x3), (2, 98), (0, p41_0), (0, p41_1), (0, p41_2)] [] h11 Q
          refine w_aload_n gz_122_83 rfl ?_
          refine w_getX (v := 115) gz_122_84 is_114 rd_1 rfl (by decide) rfl ?_
          refine w_aload_n gz_122_87 rfl ?_
          refine w_getX (v := 119) gz_122_88 is_114 rd_1 rfl (by decide) rfl ?_
          refine w_iconst gz_122_91 (by decide) ?_
          refine w_aload gz_122_92 rfl ?_
          refine v_getI (j := 1) gz_122_94 rfl is_98 rd_8 rfl (fun v20 ev20 pv20 qv20 => ?_)
          have zv20 := ev20.trans ((my_fx.at fxh11 (by omega)).trans ((my_fr.at frh7 is_98 rfl).trans ev4.symm))
          refine w_inv (k := 3) (as := [(0, v20), (0, 0), (2, 119)]) (r := []) (x := 115) (ls0 := [(2, 115), (2, 119), (0, 0), (0, v20), (9, 0), (9, 0), (9, 0)]) gz_122_97 gm_71 rfl is_115 rd_8 rfl rfl rfl rfl rfl (c_View_few_v8_45 (d := d) (x0 := 115) (x3 := v20) is_115 (by omega) (by omega) (by omega) (by omega) (fun h21 frh21 fxh21 w22 w23 xp24 xp25 => ?_))
          have gh21 : my_fr [(8, 0), (8, 1), (42, -1), (44, -1), (45, -1)] h h21 := my_fr.tr gh11 (frh21.mo rfl)
          show wp l rho (d + 3) 122 100 [(2, 114), (2, x1), (0, x2), (0, x3), (2, 98), (0, p41_0), (0, p41_1), (0, p41_2)] [] h21 Q
          refine w_aload_n gz_122_100 rfl ?_
          refine w_getX (v := 115) gz_122_101 is_114 rd_1 rfl (by decide) rfl ?_
          refine w_inv (k := 3) (as := []) (r := []) (x := 115) (ls0 := [(2, 115), (9, 0), (9, 0), (9, 0)]) gz_122_104 gm_79 rfl is_115 rd_8 rfl rfl rfl rfl rfl (c_View_sort (d := d) (x0 := 115) is_115 (fun h27 frh27 fxh27 xp28 xp29 => ?_))
          have gh27 : my_fr [(8, 0), (8, 1), (42, -1), (44, -1), (45, -1)] h h27 := my_fr.tr gh21 (frh27.mo rfl)
          show wp l rho (d + 3) 122 107 [(2, 114), (2, x1), (0, x2), (0, x3), (2, 98), (0, p41_0), (0, p41_1), (0, p41_2)] [] h27 Q
          refine w_aload_n gz_122_107 rfl ?_
          refine w_getX (v := 115) gz_122_108 is_114 rd_1 rfl (by decide) rfl ?_
          refine w_aload gz_122_111 rfl ?_
          refine w_inv (k := 1) (as := [(2, 98)]) (r := []) (x := 115) (ls0 := [(2, 115), (2, 98), (9, 0)]) gz_122_113 gm_93 rfl is_115 rd_8 rfl rfl rfl rfl rfl (c_View_same (d := (d + 1)) (x0 := 115) (x1 := 98) is_115 is_98 ?_ ?_)
          ·
            show wp l rho (d + 3) 122 116 [(2, 114), (2, x1), (0, x2), (0, x3), (2, 98), (0, p41_0), (0, p41_1), (0, p41_2)] [(0, 0)] h27 Q
            refine w_ifeq (t := 122) gz_122_116 rfl (fun u31 => ?_) (fun u31 => by exfalso; omega)
            exact J122_0 (p41_1) h27 (gh27) (by omega) (by omega) (by omega) (by omega) (by omega) (by omega) (by omega) (by omega) (((my_fr.at frh27 is_98 rfl).trans ((my_fr.at frh21 is_98 rfl).trans ((my_fx.at fxh11 (by omega)).trans ((my_fr.at frh7 is_98 rfl).trans c98_0_41_0)))).trans (by omega)) (((my_fr.at frh27 is_98 rfl).trans ((my_fx.at fxh21 (by omega)).trans ev20.symm)).trans (by omega))
          ·
            show wp l rho (d + 3) 122 116 [(2, 114), (2, x1), (0, x2), (0, x3), (2, 98), (0, p41_0), (0, p41_1), (0, p41_2)] [(0, 1)] h27 Q
            refine w_ifeq (t := 122) gz_122_116 rfl (fun u32 => by exfalso; omega) (fun u32 => ?_)
            refine w_iinc (ls' := [(2, 114), (2, x1), (0, x2), (0, x3), (2, 98), (0, p41_0), (0, (p41_1 + 1)), (0, p41_2)]) gz_122_119 rfl gm_122 rfl rfl rfl ⟨by omega, by omega⟩ ?_
            exact J122_0 ((p41_1 + 1)) h27 (gh27) (by omega) (by omega) (by omega) (by omega) (by omega) (by omega) (by omega) (by omega) (((my_fr.at frh27 is_98 rfl).trans ((my_fr.at frh21 is_98 rfl).trans ((my_fx.at fxh11 (by omega)).trans ((my_fr.at frh7 is_98 rfl).trans c98_0_41_0)))).trans (by omega)) (((my_fr.at frh27 is_98 rfl).trans ((my_fx.at fxh21 (by omega)).trans ev20.symm)).trans (by omega))
  refine w_aload_n gz_122_0 rfl ?_
  refine w_getX (v := 1) gz_122_1 is_114 rd_1 rfl (by decide) rfl ?_
  refine w_getX (v := 2) gz_122_4 is_1 rd_3 rfl (by decide) rfl ?_
  refine w_iload_n gz_122_7 rfl ?_
  refine w_iald gz_122_8 is_2 rd_25 (by omega) (by omega) (fun v35 ev35 pv35 qv35 => ?_)
  refine w_istore (ls' := [(2, 114), (2, x1), (0, x2), (0, x3), (2, 98), (0, v35), (9, 0), (9, 0)]) gz_122_9 gm_122 rfl rfl rfl ?_
  refine w_aload gz_122_11 rfl ?_
  refine v_getI (j := 1) gz_122_13 rfl is_98 rd_8 rfl (fun v36 ev36 pv36 qv36 => ?_)
  have zv36 := ev36.trans ek98_1.symm
  refine w_iload gz_122_16 rfl ?_
  refine w_icgt (t := 33) gz_122_18 rfl (fun u37 => ?_) (fun u37 => ?_)
  ·
    refine w_iconst gz_122_33 (by decide) ?_
    exact w_iret gz_122_34 gm_122 (k0 h (my_fr.rf))
  ·
    refine w_iload_n gz_122_21 rfl ?_
    refine w_inS (k := 0) (as := [(0, x3)]) (r := []) (ls0 := [(0, x3)]) gz_122_22 gm_123 rfl rfl rfl rfl rfl rfl ?_
    refine w_iload_n gz_123_0 rfl ?_
    refine w_iload_n gz_123_1 rfl ?_
    refine w_iconst gz_123_2 (by decide) ?_
    refine w_ianyU gz_123_3 (fun v38 pv38 qv38 => ?_)
    refine w_ldcw (v := 1431655765) dcw_123_4 cw_265 (by decide) ?_
    refine w_iandM gz_123_7 (by decide) (fun v39 pv39 qv39 => ?_)
    refine w_ianyS gz_123_8 (fun v40 pv40 qv40 => ?_)
    refine w_istore_n (ls' := [(0, v40)]) gz_123_9 gm_123 rfl rfl rfl ?_
    refine w_iload_n gz_123_10 rfl ?_
    refine w_ldcw (v := 858993459) dcw_123_11 cw_266 (by decide) ?_
    refine w_iandM gz_123_14 (by decide) (fun v41 pv41 qv41 => ?_)
    refine w_iload_n gz_123_15 rfl ?_
    refine w_iconst gz_123_16 (by decide) ?_
    refine w_ianyU gz_123_17 (fun v42 pv42 qv42 => ?_)
    refine w_ldcw (v := 858993459) dcw_123_18 cw_266 (by decide) ?_
    refine w_iandM gz_123_21 (by decide) (fun v43 pv43 qv43 => ?_)
    refine w_iadd gz_123_22 ⟨by omega, by omega⟩ ?_
    refine w_istore_n (ls' := [(0, (v41 + v43))]) gz_123_23 gm_123 rfl rfl rfl ?_
    refine w_iload_n gz_123_24 rfl ?_
    refine w_iload_n gz_123_25 rfl ?_
    refine w_iconst gz_123_26 (by decide) ?_
    refine w_ianyU gz_123_27 (fun v44 pv44 qv44 => ?_)
    refine w_ianyA gz_123_28 (fun v45 pv45 qv45 => ?_)
    refine w_ldcw (v := 252645135) dcw_123_29 cw_267 (by decide) ?_
    refine w_iandM gz_123_32 (by decide) (fun v46 pv46 qv46 => ?_)
    refine w_istore_n (ls' := [(0, v46)]) gz_123_33 gm_123 rfl rfl rfl ?_
    refine w_iload_n gz_123_34 rfl ?_
    refine w_iload_n gz_123_35 rfl ?_
    refine w_bipush gz_123_36 (by decide) ?_
    refine w_ianyU gz_123_38 (fun v47 pv47 qv47 => ?_)
    refine w_ianyA gz_123_39 (fun v48 pv48 qv48 => ?_)
    refine w_istore_n (ls' := [(0, v48)]) gz_123_40 gm_123 rfl rfl rfl ?_
    refine w_iload_n gz_123_41 rfl ?_
    refine w_iload_n gz_123_42 rfl ?_
    refine w_bipush gz_123_43 (by decide) ?_
    refine w_ianyU gz_123_45 (fun v49 pv49 qv49 => ?_)
    refine w_ianyA gz_123_46 (fun v50 pv50 qv50 => ?_)
    refine w_istore_n (ls' := [(0, v50)]) gz_123_47 gm_123 rfl rfl rfl ?_
    refine w_iload_n gz_123_48 rfl ?_
    refine w_bipush gz_123_49 (by decide) ?_
    refine w_iandM gz_123_51 (by decide) (fun v51 pv51 qv51 => ?_)
    refine w_iret gz_123_52 gm_123 ?_
    show wp l rho (d + 3) 122 25 [(2, 114), (2, x1), (0, x2), (0, x3), (2, 98), (0, v35), (9, 0), (9, 0)] [(0, v51)] h Q
    refine w_aload gz_122_25 rfl ?_
    refine v_getI (j := 0) gz_122_27 rfl is_98 rd_8 rfl (fun v52 ev52 pv52 qv52 => ?_)
    refine w_iceq (t := 35) gz_122_30 rfl (fun u53 => ?_) (fun u53 => ?_)
    ·
      refine w_iconst gz_122_35 (by decide) ?_
      refine w_istore (ls' := [(2, 114), (2, x1), (0, x2), (0, x3), (2, 98), (0, v35), (0, 0), (9, 0)]) gz_122_36 gm_122 rfl rfl rfl ?_
      refine w_iconst gz_122_38 (by decide) ?_
      refine w_istore (ls' := [(2, 114), (2, x1), (0, x2), (0, x3), (2, 98), (0, v35), (0, 0), (0, 0)]) gz_122_39 gm_122 rfl rfl rfl ?_
      exact J41_0 (2147483648) (v35) (0) (0) (v52) h (my_fr.rf) (by omega) (by omega) (by omega) (by omega) (by omega) (by omega) (by omega) (by omega) (by omega) (ev52.symm.trans (by omega)) (ev36.symm.trans (by omega)) (by omega)
    ·
      refine w_iconst gz_122_33 (by decide) ?_
      exact w_iret gz_122_34 gm_122 (k0 h (my_fr.rf))
theorem c_View_show {l : Launch} {rho : Nat → Int32} {d : Nat} {h : my_H} {Q : my_H → my_V → Prop} {x0 x2 x3 : Int} (t0 : my_is 8 x0) (a2 : 0 ≤ x2) (b2 : x2 ≤ 5) (m2_0 : 0 ≤ x2 % 17) (m2_1 : x2 % 17 ≤ 5) (t3 : my_is 6 x3) (n_Ln : Ln h) (htold : h (h 27 x2) 0 = 1) (k0 : ∀ (h' : my_H) (y : Int), my_fr [(8, 0), (8, 1), (42, -1), (43, -1), (44, -1)] h h' → my_fx x0 3 h h' → my_is 8 y → h' x0 0 ≤ 10 → Q h' (2, y)) : wp l rho (d + 3) 67 0 [(2, x0), (2, 27), (0, x2), (2, x3), (9, 0), (9, 0), (9, 0), (9, 0)] [] h Q := by
  have J67_0 : ∀ (n : Nat) (p67_0 p67_1 : Int) (h67_0 : my_H), my_fr [(8, 0), (8, 1), (42, -1), (43, -1), (44, -1)] h h67_0 → my_fx x0 3 h h67_0 → 0 ≤ p67_0 → p67_0 ≤ 6 → (-1) ≤ p67_1 → p67_1 ≤ 5 → p67_1 ≤ (p67_0 - 1) → Ln h67_0 → Sc h h67_0 (x0 + 2) p67_0 (-1) x2 → p67_1 < p67_0 → h67_0 x0 0 ≤ 10 → 0 ≤ p67_1 → h67_0 x0 1 = ln_s h (h 27 (h67_0 (x0 + 2) p67_1)) → p67_1 - (-2) ≤ (n : Int) → wp l rho (d + 3) 67 67 [(2, x0), (2, 27), (0, x2), (2, x3), (0, p67_0), (0, p67_1), (9, 0), (9, 0)] [] h67_0 Q := by
    intro n
    induction n with
    | zero => intro p67_0 p67_1 h67_0 gh_67_0 gx_67_0 q0_67_0 q1_67_0 q2_67_0 q3_67_0 q4_67_0 n_Ln_67_0 sc2_67_0 lv_67_0 rw_67_0 cl_67_0 hm_67_0; exfalso; omega
    | succ n ih_67_0 =>
      intro p67_0 p67_1 h67_0 gh_67_0 gx_67_0 q0_67_0 q1_67_0 q2_67_0 q3_67_0 q4_67_0 n_Ln_67_0 sc2_67_0 lv_67_0 rw_67_0 cl_67_0 hm_67_0
      have J86_0 : ∀ (n : Nat) (r86_0 p86_1 : Int) (h86_0 : my_H), my_fr [(8, 0), (8, 1), (42, -1), (43, -1), (44, -1)] h h86_0 → my_fx x0 3 h h86_0 → my_is 4 r86_0 → 1 ≤ p67_0 → 0 ≤ p67_1 → 0 ≤ p86_1 → p86_1 ≤ 6 → p67_1 ≤ (p67_0 - 1) → Ln h86_0 → Sc h h86_0 (x0 + 2) p67_0 (-1) x2 → p67_1 < p67_0 → 0 ≤ p67_1 → h86_0 x0 0 ≤ 10 → r86_0 = h 27 (h86_0 (x0 + 2) p67_1) → h86_0 x0 1 = ln_f h r86_0 (ln_s h r86_0) p86_1.toNat → p86_1 ≤ h r86_0 9 → 7 - p86_1 ≤ (n : Int) → wp l rho (d + 3) 67 86 [(2, x0), (2, 27), (0, x2), (2, x3), (0, p67_0), (0, p67_1), (2, r86_0), (0, p86_1)] [] h86_0 Q := by
        intro n
        induction n with
        | zero => intro r86_0 p86_1 h86_0 gh_86_0 gx_86_0 tr86_0_86_0 q0_86_0 q1_86_0 q2_86_0 q3_86_0 q4_86_0 n_Ln_86_0 sc2_86_0 lv_86_0 l0_86_0 rw_86_0 lr_86_0 c2_86_0 st_86_0 hm_86_0; exfalso; omega
        | succ n ih_86_0 =>
          intro r86_0 p86_1 h86_0 gh_86_0 gx_86_0 tr86_0_86_0 q0_86_0 q1_86_0 q2_86_0 q3_86_0 q4_86_0 n_Ln_86_0 sc2_86_0 lv_86_0 l0_86_0 rw_86_0 lr_86_0 c2_86_0 st_86_0 hm_86_0
          have f9 : h86_0 r86_0 9 = h r86_0 9 := my_fr.at gh_86_0 tr86_0_86_0 rfl
          have fk : ∀ j : Int, h86_0 (r86_0 + 1) j = h (r86_0 + 1) j := fun j => my_fr.at gh_86_0 (ix_4_1 tr86_0_86_0) rfl
          have f3 : ∀ j : Int, h86_0 (r86_0 + 3) j = h (r86_0 + 3) j := fun j => my_fr.at gh_86_0 (ix_4_3 tr86_0_86_0) rfl
          have f4 : ∀ j : Int, h86_0 (r86_0 + 4) j = h (r86_0 + 4) j := fun j => my_fr.at gh_86_0 (ix_4_4 tr86_0_86_0) rfl
          have qL : LnL h r86_0 (h86_0 (x0 + 2) p67_1) := by rw [lr_86_0]; exact Sc_L n_Ln sc2_86_0 l0_86_0 lv_86_0
          refine w_iload gz_67_86 rfl ?_
          refine w_aload gz_67_88 rfl ?_
          refine v_getI (j := 9) gz_67_90 rfl tr86_0_86_0 rd_4 rfl (fun v1 ev1 pv1 qv1 => ?_)
          refine w_icge (t := 246) gz_67_93 rfl (fun u2 => ?_) (fun u2 => ?_)
          ·
            have e9 : p86_1 = h r86_0 9 := by omega
            have c4 : h86_0 x0 1 = h r86_0 4 := by rw [c2_86_0, e9]; exact qL.2.2.2.2
            refine w_aload_n gz_67_246 rfl ?_
            refine w_inv (k := 3) (as := []) (r := []) (x := x0) (ls0 := [(2, x0), (9, 0), (9, 0), (9, 0)]) gz_67_247 gm_79 rfl t0 rd_8 rfl rfl rfl rfl rfl (c_View_sort (d := d) (x0 := x0) t0 (fun h3 frh3 fxh3 xp4 xp5 => ?_))
            have gh3 : my_fr [(8, 0), (8, 1), (42, -1), (43, -1), (44, -1)] h h3 := my_fr.tr gh_86_0 (frh3.mo rfl)
            have gxh3 : my_fx x0 3 h h3 := my_fx.tr gx_86_0 fxh3
            have Ln_h3 : Ln h3 := Ln_ag (my_ag.fr frh3 rfl) n_Ln_86_0
            show wp l rho (d + 3) 67 250 [(2, x0), (2, 27), (0, x2), (2, x3), (0, p67_0), (0, p67_1), (2, r86_0), (0, p86_1)] [] h3 Q
            refine w_iinc (ls' := [(2, x0), (2, 27), (0, x2), (2, x3), (0, p67_0), (0, (p67_1 + (-1))), (2, r86_0), (0, p86_1)]) gz_67_250 rfl gm_67 rfl rfl rfl ⟨by omega, by omega⟩ ?_
            refine w_goto (t := 67) gz_67_253 rfl ?_
            have ca : ∀ j : Int, h3 (x0 + 2) j = h86_0 (x0 + 2) j := fun j => ((my_fr.at frh3 (ix_8_2 t0) rfl).trans (rfl : h86_0 (x0 + 2) j = h86_0 (x0 + 2) j))
            have ce6 : h3 x0 0 = h86_0 x0 0 := ((my_fr.at frh3 t0 rfl).trans (rfl : h86_0 x0 0 = h86_0 x0 0))
            have ce7 : h3 x0 1 = h86_0 x0 1 := ((my_fr.at frh3 t0 rfl).trans (rfl : h86_0 x0 1 = h86_0 x0 1))
            refine w_weak (ls' := [(2, x0), (2, 27), (0, x2), (2, x3), (0, p67_0), (0, (p67_1 + (-1))), (9, 0), (9, 0)]) (wk_e (wk_e (wk_e (wk_e (wk_e (wk_e (wk_9 (wk_9 wk_n)))))))) ?_
            exact ih_67_0 (p67_0) ((p67_1 + (-1))) h3 (gh3) (gxh3) (by omega) (by omega) (by omega) (by omega) (by omega) Ln_h3 (by first | exact Sc_cg ca sc3 | exact Sc_cg ca sc2_86_0 | exact Sc_cg ca sc2_67_0) (by first | assumption | omega) (by first | assumption | omega) (by first | (intro _; rw [ca, Sc_bot sc3 dp]; omega) | (intro q; rw [ca, Sc_up sc2_86_0 q (by omega), show (p67_1 + (-1)) + 1 = _ from (by omega : (p67_1 + (-1)) + 1 = (p67_1 + (-1)) + 1)]; omega)) (by omega)
          ·
            refine w_aload gz_67_96 rfl ?_
            refine w_getX (v := (r86_0 + 1)) gz_67_98 tr86_0_86_0 rd_4 rfl (by decide) rfl ?_
            refine w_iload gz_67_101 rfl ?_
            refine w_iald gz_67_103 (ix_4_1 tr86_0_86_0) rd_32 (by omega) (by omega) (fun v9 ev9 pv9 qv9 => ?_)
            have qa := ln_ok_at qL.2.2.2.1 (s := p86_1) (by omega) (by omega)
            have g1 := fk p86_1
            have g3 := f3 p86_1
            have g4 := f4 p86_1
            have gs := ln_f_at (h := h) (L := r86_0) (c := ln_s h r86_0) (s := p86_1) (by omega)
            by_cases u10 : v9 = 3
            ·
              refine w_tswE (t := 132) gz_67_104 u10 (by decide) (by decide) rfl rfl ?_
              have k4 : h (r86_0 + 1) p86_1 = 3 := by omega
              rw [k4, ln_st3] at gs
              refine w_aload_n gz_67_132 rfl ?_
              refine w_aload gz_67_133 rfl ?_
              refine w_getX (v := (r86_0 + 5)) gz_67_135 tr86_0_86_0 rd_4 rfl (by decide) rfl ?_
              refine w_iload gz_67_138 rfl ?_
              refine w_bipush gz_67_140 (by decide) ?_
              refine w_imul gz_67_142 ⟨by omega, by omega⟩ ?_
              refine w_aload gz_67_143 rfl ?_
              refine w_getX (v := (r86_0 + 4)) gz_67_145 tr86_0_86_0 rd_4 rfl (by decide) rfl ?_
              refine w_iload gz_67_148 rfl ?_
              refine w_iald gz_67_150 (ix_4_4 tr86_0_86_0) rd_35 (by omega) (by omega) (fun v13 ev13 pv13 qv13 => ?_)
              refine w_inv (k := 3) (as := [(0, v13), (0, (p86_1 * 8)), (2, (r86_0 + 5))]) (r := []) (x := x0) (ls0 := [(2, x0), (2, (r86_0 + 5)), (0, (p86_1 * 8)), (0, v13), (9, 0), (9, 0), (9, 0)]) gz_67_151 gm_71 rfl t0 rd_8 rfl rfl rfl rfl rfl (c_View_few_v8_36 (d := d) (x0 := x0) (x1 := (r86_0 + 5)) (x2 := (p86_1 * 8)) (x3 := v13) t0 (ix_4_5 tr86_0_86_0) (by omega) (by omega) (by omega) (by omega) (by omega) (by omega) (fun h14 frh14 fxh14 xp15 xp16 => ?_))
              have gh14 : my_fr [(8, 0), (8, 1), (42, -1), (43, -1), (44, -1)] h h14 := my_fr.tr gh_86_0 (frh14.mo rfl)
              have gxh14 : my_fx x0 3 h h14 := my_fx.tr gx_86_0 fxh14
              have Ln_h14 : Ln h14 := Ln_ag (my_ag.fr frh14 rfl) n_Ln_86_0
              show wp l rho (d + 3) 67 154 [(2, x0), (2, 27), (0, x2), (2, x3), (0, p67_0), (0, p67_1), (2, r86_0), (0, p86_1)] [] h14 Q
              refine w_goto (t := 240) gz_67_154 rfl ?_
              refine w_iinc (ls' := [(2, x0), (2, 27), (0, x2), (2, x3), (0, p67_0), (0, p67_1), (2, r86_0), (0, (p86_1 + 1))]) gz_67_240 rfl gm_67 rfl rfl rfl ⟨by omega, by omega⟩ ?_
              refine w_goto (t := 86) gz_67_243 rfl ?_
              have ca : ∀ j : Int, h14 (x0 + 2) j = h86_0 (x0 + 2) j := fun j => ((my_fr.at frh14 (ix_8_2 t0) rfl).trans (rfl : h86_0 (x0 + 2) j = h86_0 (x0 + 2) j))
              have ce17 : h14 x0 0 = h86_0 x0 0 := ((my_fr.at frh14 t0 rfl).trans (rfl : h86_0 x0 0 = h86_0 x0 0))
              have ce18 : h14 x0 1 = h86_0 x0 1 := ((my_fx.at fxh14 (by omega)).trans (rfl : h86_0 x0 1 = h86_0 x0 1))
              exact ih_86_0 (r86_0) ((p86_1 + 1)) h14 (gh14) (gxh14) tr86_0_86_0 (by omega) (by omega) (by omega) (by omega) (by omega) Ln_h14 (by first | exact Sc_cg ca sc3 | exact Sc_cg ca sc2_86_0 | exact Sc_cg ca sc2_67_0) (by first | assumption | omega) (by first | assumption | omega) (by first | assumption | omega) (by first | omega | (rw [ca]; omega)) (by first | (rw [gs]; omega) | (show _ = ln_s h _; rw [show r86_0 = h 27 (h14 (x0 + 2) p67_1) by omega]; have := cl_67_0 (by omega); omega)) (by omega) (by omega)
            ·
              by_cases u19 : v9 = 4
              ·
                refine w_tswE (t := 157) gz_67_104 u19 (by decide) (by decide) rfl rfl ?_
                have k4 : h (r86_0 + 1) p86_1 = 4 := by omega
                have k5 := qa.1 k4
                rw [k4, ln_st4] at gs
                refine w_aload_n gz_67_157 rfl ?_
                refine w_aload_n gz_67_158 rfl ?_
                refine w_aload gz_67_159 rfl ?_
                refine w_getX (v := (r86_0 + 3)) gz_67_161 tr86_0_86_0 rd_4 rfl (by decide) rfl ?_
                refine w_iload gz_67_164 rfl ?_
                refine w_iald gz_67_166 (ix_4_3 tr86_0_86_0) rd_34 (by omega) (by omega) (fun v21 ev21 pv21 qv21 => ?_)
                refine w_aload gz_67_167 rfl ?_
                refine w_getX (v := (r86_0 + 4)) gz_67_169 tr86_0_86_0 rd_4 rfl (by decide) rfl ?_
                refine w_iload gz_67_172 rfl ?_
                refine w_iald gz_67_174 (ix_4_4 tr86_0_86_0) rd_35 (by omega) (by omega) (fun v23 ev23 pv23 qv23 => ?_)
                refine w_aload gz_67_175 rfl ?_
                refine w_getX (v := (r86_0 + 2)) gz_67_177 tr86_0_86_0 rd_4 rfl (by decide) rfl ?_
                refine w_iload gz_67_180 rfl ?_
                refine w_iald gz_67_182 (ix_4_2 tr86_0_86_0) rd_33 (by omega) (by omega) (fun v25 ev25 pv25 qv25 => ?_)
                have hi26 : 0 ≤ v21 := by omega
                have hi27 : v21 ≤ 2 := by omega
                have hi28 : 1 ≤ v23 := by omega
                have hi29 : v23 ≤ 4 := by omega
                refine w_inv (k := 3) (as := [(0, v25), (0, v23), (0, v21), (2, x3)]) (r := []) (x := x0) (ls0 := [(2, x0), (2, x3), (0, v21), (0, v23), (0, v25), (9, 0), (9, 0), (9, 0)]) gz_67_183 gm_73 rfl t0 rd_8 rfl rfl rfl rfl rfl (c_View_join (d := d) (x0 := x0) (x1 := x3) (x2 := v21) (x3 := v23) (x4 := v25) t0 t3 (by omega) (by omega) (by omega) (by omega) (by omega) (by omega) (by omega) (by omega) (by omega) (by omega) (by omega) (by omega) (by first | assumption | omega) (fun h30 frh30 fxh30 xp31 xp32 => ?_))
                have gh30 : my_fr [(8, 0), (8, 1), (42, -1), (43, -1), (44, -1)] h h30 := my_fr.tr gh_86_0 (frh30.mo rfl)
                have gxh30 : my_fx x0 3 h h30 := my_fx.tr gx_86_0 fxh30
                have Ln_h30 : Ln h30 := Ln_ag (my_ag.fr frh30 rfl) n_Ln_86_0
                show wp l rho (d + 3) 67 186 [(2, x0), (2, 27), (0, x2), (2, x3), (0, p67_0), (0, p67_1), (2, r86_0), (0, p86_1)] [] h30 Q
                refine w_goto (t := 240) gz_67_186 rfl ?_
                refine w_iinc (ls' := [(2, x0), (2, 27), (0, x2), (2, x3), (0, p67_0), (0, p67_1), (2, r86_0), (0, (p86_1 + 1))]) gz_67_240 rfl gm_67 rfl rfl rfl ⟨by omega, by omega⟩ ?_
                refine w_goto (t := 86) gz_67_243 rfl ?_
                have ca : ∀ j : Int, h30 (x0 + 2) j = h86_0 (x0 + 2) j := fun j => ((my_fr.at frh30 (ix_8_2 t0) rfl).trans (rfl : h86_0 (x0 + 2) j = h86_0 (x0 + 2) j))
                have ce33 : h30 x0 0 = h86_0 x0 0 := ((my_fx.at fxh30 (by omega)).trans (rfl : h86_0 x0 0 = h86_0 x0 0))
                have ce34 : h30 x0 1 = h86_0 x0 1 := ((my_fx.at fxh30 (by omega)).trans (rfl : h86_0 x0 1 = h86_0 x0 1))
                exact ih_86_0 (r86_0) ((p86_1 + 1)) h30 (gh30) (gxh30) tr86_0_86_0 (by omega) (by omega) (by omega) (by omega) (by omega) Ln_h30 (by first | exact Sc_cg ca sc3 | exact Sc_cg ca sc2_86_0 | exact Sc_cg ca sc2_67_0) (by first | assumption | omega) (by first | assumption | omega) (by first | assumption | omega) (by first | omega | (rw [ca]; omega)) (by first | (rw [gs]; omega) | (show _ = ln_s h _; rw [show r86_0 = h 27 (h30 (x0 + 2) p67_1) by omega]; have := cl_67_0 (by omega); omega)) (by omega) (by omega)
              ·
                by_cases u35 : v9 = 5
                ·
                  refine w_tswE (t := 189) gz_67_104 u35 (by decide) (by decide) rfl rfl ?_
                  have k4 : h (r86_0 + 1) p86_1 = 5 := by omega
                  have k5 := qa.2 k4
                  rw [k4, ln_st5] at gs
                  refine w_aload_n gz_67_189 rfl ?_
                  refine w_aload gz_67_190 rfl ?_
                  refine w_getX (v := (r86_0 + 2)) gz_67_192 tr86_0_86_0 rd_4 rfl (by decide) rfl ?_
                  refine w_iload gz_67_195 rfl ?_
                  refine w_iald gz_67_197 (ix_4_2 tr86_0_86_0) rd_33 (by omega) (by omega) (fun v37 ev37 pv37 qv37 => ?_)
                  refine w_aload gz_67_198 rfl ?_
                  refine w_getX (v := (r86_0 + 3)) gz_67_200 tr86_0_86_0 rd_4 rfl (by decide) rfl ?_
                  refine w_iload gz_67_203 rfl ?_
                  refine w_iald gz_67_205 (ix_4_3 tr86_0_86_0) rd_34 (by omega) (by omega) (fun v39 ev39 pv39 qv39 => ?_)
                  have hi40 : 0 ≤ v39 := by omega
                  have hi41 : v39 ≤ 7 := by omega
                  refine w_inv (k := 6) (as := [(0, v39), (0, v37)]) (r := []) (x := x0) (ls0 := [(2, x0), (0, v37), (0, v39), (9, 0), (9, 0), (9, 0), (9, 0), (9, 0), (9, 0)]) gz_67_206 gm_76 rfl t0 rd_8 rfl rfl rfl rfl rfl (c_View_sum (d := (d + 1)) (x0 := x0) (x1 := v37) (x2 := v39) t0 (by omega) (by omega) (by omega) (by omega) (by omega) (by omega) (by omega) (by omega) (fun h42 frh42 fxh42 w43 xp44 xp45 => ?_))
                  have gh42 : my_fr [(8, 0), (8, 1), (42, -1), (43, -1), (44, -1)] h h42 := my_fr.tr gh_86_0 (frh42.mo rfl)
                  have gxh42 : my_fx x0 3 h h42 := my_fx.tr gx_86_0 fxh42
                  have Ln_h42 : Ln h42 := Ln_ag (my_ag.fr frh42 rfl) n_Ln_86_0
                  show wp l rho (d + 3) 67 209 [(2, x0), (2, 27), (0, x2), (2, x3), (0, p67_0), (0, p67_1), (2, r86_0), (0, p86_1)] [] h42 Q
                  refine w_goto (t := 240) gz_67_209 rfl ?_
                  refine w_iinc (ls' := [(2, x0), (2, 27), (0, x2), (2, x3), (0, p67_0), (0, p67_1), (2, r86_0), (0, (p86_1 + 1))]) gz_67_240 rfl gm_67 rfl rfl rfl ⟨by omega, by omega⟩ ?_
                  refine w_goto (t := 86) gz_67_243 rfl ?_
                  have ca : ∀ j : Int, h42 (x0 + 2) j = h86_0 (x0 + 2) j := fun j => ((my_fr.at frh42 (ix_8_2 t0) rfl).trans (rfl : h86_0 (x0 + 2) j = h86_0 (x0 + 2) j))
                  have ce46 : h42 x0 0 = h86_0 x0 0 := ((my_fx.at fxh42 (by omega)).trans (rfl : h86_0 x0 0 = h86_0 x0 0))
                  have ce47 : h42 x0 1 = 2 := w43
                  exact ih_86_0 (r86_0) ((p86_1 + 1)) h42 (gh42) (gxh42) tr86_0_86_0 (by omega) (by omega) (by omega) (by omega) (by omega) Ln_h42 (by first | exact Sc_cg ca sc3 | exact Sc_cg ca sc2_86_0 | exact Sc_cg ca sc2_67_0) (by first | assumption | omega) (by first | assumption | omega) (by first | assumption | omega) (by first | omega | (rw [ca]; omega)) (by first | (rw [gs]; omega) | (show _ = ln_s h _; rw [show r86_0 = h 27 (h42 (x0 + 2) p67_1) by omega]; have := cl_67_0 (by omega); omega)) (by omega) (by omega)
                ·
                  refine w_tswD (t := 212) gz_67_104 (by omega) rfl ?_
                  rw [ln_stN (by omega) (by omega) (by omega)] at gs
                  refine w_aload_n gz_67_212 rfl ?_
                  refine w_aload gz_67_213 rfl ?_
                  refine w_getX (v := (r86_0 + 1)) gz_67_215 tr86_0_86_0 rd_4 rfl (by decide) rfl ?_
                  refine w_iload gz_67_218 rfl ?_
                  refine w_iald gz_67_220 (ix_4_1 tr86_0_86_0) rd_32 (by omega) (by omega) (fun v49 ev49 pv49 qv49 => ?_)
                  have zv49 := ev49.trans ev9.symm
                  refine w_aload gz_67_221 rfl ?_
                  refine w_getX (v := (r86_0 + 2)) gz_67_223 tr86_0_86_0 rd_4 rfl (by decide) rfl ?_
                  refine w_iload gz_67_226 rfl ?_
                  refine w_iald gz_67_228 (ix_4_2 tr86_0_86_0) rd_33 (by omega) (by omega) (fun v51 ev51 pv51 qv51 => ?_)
                  refine w_aload gz_67_229 rfl ?_
                  refine w_getX (v := (r86_0 + 3)) gz_67_231 tr86_0_86_0 rd_4 rfl (by decide) rfl ?_
                  refine w_iload gz_67_234 rfl ?_
                  refine w_iald gz_67_236 (ix_4_3 tr86_0_86_0) rd_34 (by omega) (by omega) (fun v53 ev53 pv53 qv53 => ?_)
                  refine w_inv (k := 2) (as := [(0, v53), (0, v51), (0, v49)]) (r := []) (x := x0) (ls0 := [(2, x0), (0, v49), (0, v51), (0, v53), (9, 0), (9, 0)]) gz_67_237 gm_77 rfl t0 rd_8 rfl rfl rfl rfl rfl (c_View_cut (d := d) (x0 := x0) (x1 := v49) (x2 := v51) (x3 := v53) t0 (by omega) (by omega) (by omega) (by omega) (by omega) (by omega) (by omega) (by omega) (by omega) (by omega) (fun h54 frh54 fxh54 xp55 xp56 => ?_))
                  have gh54 : my_fr [(8, 0), (8, 1), (42, -1), (43, -1), (44, -1)] h h54 := my_fr.tr gh_86_0 (frh54.mo rfl)
                  have gxh54 : my_fx x0 3 h h54 := my_fx.tr gx_86_0 fxh54
                  have Ln_h54 : Ln h54 := Ln_ag (my_ag.fr frh54 rfl) n_Ln_86_0
                  show wp l rho (d + 3) 67 240 [(2, x0), (2, 27), (0, x2), (2, x3), (0, p67_0), (0, p67_1), (2, r86_0), (0, p86_1)] [] h54 Q
                  refine w_iinc (ls' := [(2, x0), (2, 27), (0, x2), (2, x3), (0, p67_0), (0, p67_1), (2, r86_0), (0, (p86_1 + 1))]) gz_67_240 rfl gm_67 rfl rfl rfl ⟨by omega, by omega⟩ ?_
                  refine w_goto (t := 86) gz_67_243 rfl ?_
                  have ca : ∀ j : Int, h54 (x0 + 2) j = h86_0 (x0 + 2) j := fun j => ((my_fr.at frh54 (ix_8_2 t0) rfl).trans (rfl : h86_0 (x0 + 2) j = h86_0 (x0 + 2) j))
                  have ce57 : h54 x0 0 = h86_0 x0 0 := ((my_fx.at fxh54 (by omega)).trans (rfl : h86_0 x0 0 = h86_0 x0 0))
                  have ce58 : h54 x0 1 = h86_0 x0 1 := ((my_fr.at frh54 t0 rfl).trans (rfl : h86_0 x0 1 = h86_0 x0 1))
                  exact ih_86_0 (r86_0) ((p86_1 + 1)) h54 (gh54) (gxh54) tr86_0_86_0 (by omega) (by omega) (by omega) (by omega) (by omega) Ln_h54 (by first | exact Sc_cg ca sc3 | exact Sc_cg ca sc2_86_0 | exact Sc_cg ca sc2_67_0) (by first | assumption | omega) (by first | assumption | omega) (by first | assumption | omega) (by first | omega | (rw [ca]; omega)) (by first | (rw [gs]; omega) | (show _ = ln_s h _; rw [show r86_0 = h 27 (h54 (x0 + 2) p67_1) by omega]; have := cl_67_0 (by omega); omega)) (by omega) (by omega)
      refine w_iload gz_67_67 rfl ?_
      refine w_iflt (t := 256) gz_67_69 rfl (fun u59 => ?_) (fun u59 => ?_)
      ·
        refine w_aload_n gz_67_256 rfl ?_
        exact w_aret gz_67_257 gm_67 (k0 h67_0 (x0) (gh_67_0) (gx_67_0) t0 (by first | assumption | omega))
      ·
        refine w_aload_n gz_67_72 rfl ?_
        refine w_aload_n gz_67_73 rfl ?_
        refine w_getX (v := (x0 + 2)) gz_67_74 t0 rd_8 rfl (by decide) rfl ?_
        refine w_iload gz_67_77 rfl ?_
        refine w_iald gz_67_79 (ix_8_2 t0) rd_43 (by omega) (by omega) (fun v61 ev61 pv61 qv61 => ?_)
        refine w_aald gz_67_80 is_27 rd_22 rfl (by omega) (by omega) (fun v62 ev62 tv62 => ?_)
        refine w_astore (ls' := [(2, x0), (2, 27), (0, x2), (2, x3), (0, p67_0), (0, p67_1), (2, v62), (9, 0)]) gz_67_81 gm_67 rfl rfl rfl ?_
        have d27 : h67_0 27 (h67_0 (x0 + 2) p67_1) = h 27 (h67_0 (x0 + 2) p67_1) := my_fr.at gh_67_0 is_27 rfl
        refine w_iconst gz_67_83 (by decide) ?_
        refine w_istore (ls' := [(2, x0), (2, 27), (0, x2), (2, x3), (0, p67_0), (0, p67_1), (2, v62), (0, 0)]) gz_67_84 gm_67 rfl rfl rfl ?_
        have ca : ∀ j : Int, h67_0 (x0 + 2) j = h67_0 (x0 + 2) j := fun _ => rfl
        exact J86_0 7 (v62) (0) h67_0 (gh_67_0) (gx_67_0) tv62 (by omega) (by omega) (by omega) (by omega) (by omega) n_Ln_67_0 (by first | exact Sc_cg ca sc3 | exact Sc_cg ca sc2_86_0 | exact Sc_cg ca sc2_67_0) (by first | assumption | omega) (by first | assumption | omega) (by first | assumption | omega) (by first | omega | (rw [ca]; omega)) (by first | (rw [gs]; omega) | (show _ = ln_s h _; rw [show v62 = h 27 (h67_0 (x0 + 2) p67_1) by omega]; have := cl_67_0 (by omega); omega)) (by omega) (by omega)
  have J6_0 : ∀ (n : Nat) (p6_0 p6_1 : Int) (h6_0 : my_H), my_fr [(8, 0), (8, 1), (42, -1), (43, -1), (44, -1)] h h6_0 → my_fx x0 3 h h6_0 → 0 ≤ p6_0 → p6_0 ≤ 6 → (-1) ≤ p6_1 → p6_1 ≤ 5 → Ln h6_0 → Sc h h6_0 (x0 + 2) p6_0 p6_1 x2 → 7 - p6_0 ≤ (n : Int) → wp l rho (d + 3) 67 6 [(2, x0), (2, 27), (0, x2), (2, x3), (0, p6_0), (0, p6_1), (9, 0), (9, 0)] [] h6_0 Q := by
    intro n
    induction n with
    | zero => intro p6_0 p6_1 h6_0 gh_6_0 gx_6_0 q0_6_0 q1_6_0 q2_6_0 q3_6_0 n_Ln_6_0 sc_6_0 hm_6_0; exfalso; omega
    | succ n ih_6_0 =>
      intro p6_0 p6_1 h6_0 gh_6_0 gx_6_0 q0_6_0 q1_6_0 q2_6_0 q3_6_0 n_Ln_6_0 sc_6_0 hm_6_0
      refine w_iload gz_67_6 rfl ?_
      refine w_iconst gz_67_8 (by decide) ?_
      refine w_iceq (t := 43) gz_67_9 rfl (fun u63 => ?_) (fun u63 => ?_)
      ·
        have ew : p6_1 = -1 := by have := sc_6_0.1; omega
        have sc3 : Sc h h6_0 (x0 + 2) p6_0 (-1) x2 := by have q := sc_6_0; rw [ew] at q; exact q
        have dp : 0 < p6_0 := by have := sc3.2.2.2; omega
        have b27 : h6_0 27 x2 = h 27 x2 := my_fr.at gh_6_0 is_27 rfl
        refine w_aload_n gz_67_43 rfl ?_
        refine w_aload_n gz_67_44 rfl ?_
        refine w_aload_n gz_67_45 rfl ?_
        refine w_iload_n gz_67_46 rfl ?_
        refine w_aald gz_67_47 is_27 rd_22 rfl (by omega) (by omega) (fun v64 ev64 tv64 => ?_)
        refine v_getI (j := 2) gz_67_48 rfl tv64 rd_4 rfl (fun v65 ev65 pv65 qv65 => ?_)
        refine w_aload_n gz_67_51 rfl ?_
        refine w_iload_n gz_67_52 rfl ?_
        refine w_aald gz_67_53 is_27 rd_22 rfl (by omega) (by omega) (fun v66 ev66 tv66 => ?_)
        have zv66 : v64 = v66 := (ev66.trans ev64.symm).symm
        subst zv66
        have b3 : h6_0 v64 3 = h v64 3 := my_fr.at gh_6_0 tv64 rfl
        have b4 : v64 = h 27 x2 := by omega
        refine v_getI (j := 3) gz_67_54 rfl tv64 rd_4 rfl (fun v67 ev67 pv67 qv67 => ?_)
        have b5 : v67 = h (h 27 x2) 3 := by rw [← b4]; omega
        refine w_iconst gz_67_57 (by decide) ?_
        refine w_inv (k := 2) (as := [(0, (-1)), (0, v67), (0, v65), (2, x3)]) (r := []) (x := x0) (ls0 := [(2, x0), (2, x3), (0, v65), (0, v67), (0, (-1)), (9, 0), (9, 0)]) gz_67_58 gm_68 rfl t0 rd_8 rfl rfl rfl rfl rfl (c_View_load (d := (d + 1)) (x0 := x0) (x1 := x3) (x2 := v65) (x3 := v67) (x4 := (-1)) t0 t3 (by omega) (by omega) (by omega) (by omega) (by omega) (by omega) (by omega) (by omega) (fun h68 frh68 fxh68 w69 w70 w71 w72 xp73 xp74 => ?_))
        have gh68 : my_fr [(8, 0), (8, 1), (42, -1), (43, -1), (44, -1)] h h68 := my_fr.tr gh_6_0 (frh68.mo rfl)
        have gxh68 : my_fx x0 3 h h68 := my_fx.tr gx_6_0 fxh68
        have Ln_h68 : Ln h68 := Ln_ag (my_ag.fr frh68 rfl) n_Ln_6_0
        show wp l rho (d + 3) 67 61 [(2, x0), (2, 27), (0, x2), (2, x3), (0, p6_0), (0, p6_1), (9, 0), (9, 0)] [] h68 Q
        refine w_iload gz_67_61 rfl ?_
        refine w_iconst gz_67_63 (by decide) ?_
        refine w_isub gz_67_64 ⟨by omega, by omega⟩ ?_
        refine w_istore (ls' := [(2, x0), (2, 27), (0, x2), (2, x3), (0, p6_0), (0, (p6_0 - 1)), (9, 0), (9, 0)]) gz_67_65 gm_67 rfl rfl rfl ?_
        have ca : ∀ j : Int, h68 (x0 + 2) j = h6_0 (x0 + 2) j := fun j => ((my_fr.at frh68 (ix_8_2 t0) rfl).trans (rfl : h6_0 (x0 + 2) j = h6_0 (x0 + 2) j))
        have ce75 : h68 x0 0 = (h68 x0 0) := (rfl : h68 x0 0 = h68 x0 0)
        have ce76 : h68 x0 1 = (h68 x0 1) := (rfl : h68 x0 1 = h68 x0 1)
        exact J67_0 7 (p6_0) ((p6_0 - 1)) h68 (gh68) (gxh68) (by omega) (by omega) (by omega) (by omega) (by omega) Ln_h68 (by first | exact Sc_cg ca sc3 | exact Sc_cg ca sc2_86_0 | exact Sc_cg ca sc2_67_0) (by first | assumption | omega) (by first | assumption | omega) (by first | (intro _; rw [ca, Sc_bot sc3 dp]; omega) | (intro q; rw [ca, Sc_up sc2_86_0 q (by omega), show (p6_0 - 1) + 1 = _ from (by omega : (p6_0 - 1) + 1 = (p6_0 - 1) + 1)]; omega)) (by omega)
      ·
        refine w_iload gz_67_12 rfl ?_
        refine w_bipush gz_67_14 (by decide) ?_
        refine w_icge (t := 43) gz_67_16 rfl (fun u77 => ?_) (fun u77 => ?_)
        ·
          have ew : p6_1 = -1 := by have := sc_6_0.1; omega
          have sc3 : Sc h h6_0 (x0 + 2) p6_0 (-1) x2 := by have q := sc_6_0; rw [ew] at q; exact q
          have dp : 0 < p6_0 := by have := sc3.2.2.2; omega
          have b27 : h6_0 27 x2 = h 27 x2 := my_fr.at gh_6_0 is_27 rfl
          refine w_aload_n gz_67_43 rfl ?_
          refine w_aload_n gz_67_44 rfl ?_
          refine w_aload_n gz_67_45 rfl ?_
          refine w_iload_n gz_67_46 rfl ?_
          refine w_aald gz_67_47 is_27 rd_22 rfl (by omega) (by omega) (fun v78 ev78 tv78 => ?_)
          refine v_getI (j := 2) gz_67_48 rfl tv78 rd_4 rfl (fun v79 ev79 pv79 qv79 => ?_)
          refine w_aload_n gz_67_51 rfl ?_
          refine w_iload_n gz_67_52 rfl ?_
          refine w_aald gz_67_53 is_27 rd_22 rfl (by omega) (by omega) (fun v80 ev80 tv80 => ?_)
          have zv80 : v78 = v80 := (ev80.trans ev78.symm).symm
          subst zv80
          have b3 : h6_0 v78 3 = h v78 3 := my_fr.at gh_6_0 tv78 rfl
          have b4 : v78 = h 27 x2 := by omega
          refine v_getI (j := 3) gz_67_54 rfl tv78 rd_4 rfl (fun v81 ev81 pv81 qv81 => ?_)
          have b5 : v81 = h (h 27 x2) 3 := by rw [← b4]; omega
          refine w_iconst gz_67_57 (by decide) ?_
          refine w_inv (k := 2) (as := [(0, (-1)), (0, v81), (0, v79), (2, x3)]) (r := []) (x := x0) (ls0 := [(2, x0), (2, x3), (0, v79), (0, v81), (0, (-1)), (9, 0), (9, 0)]) gz_67_58 gm_68 rfl t0 rd_8 rfl rfl rfl rfl rfl (c_View_load (d := (d + 1)) (x0 := x0) (x1 := x3) (x2 := v79) (x3 := v81) (x4 := (-1)) t0 t3 (by omega) (by omega) (by omega) (by omega) (by omega) (by omega) (by omega) (by omega) (fun h82 frh82 fxh82 w83 w84 w85 w86 xp87 xp88 => ?_))
          have gh82 : my_fr [(8, 0), (8, 1), (42, -1), (43, -1), (44, -1)] h h82 := my_fr.tr gh_6_0 (frh82.mo rfl)
          have gxh82 : my_fx x0 3 h h82 := my_fx.tr gx_6_0 fxh82
          have Ln_h82 : Ln h82 := Ln_ag (my_ag.fr frh82 rfl) n_Ln_6_0
          show wp l rho (d + 3) 67 61 [(2, x0), (2, 27), (0, x2), (2, x3), (0, p6_0), (0, p6_1), (9, 0), (9, 0)] [] h82 Q
          refine w_iload gz_67_61 rfl ?_
          refine w_iconst gz_67_63 (by decide) ?_
          refine w_isub gz_67_64 ⟨by omega, by omega⟩ ?_
          refine w_istore (ls' := [(2, x0), (2, 27), (0, x2), (2, x3), (0, p6_0), (0, (p6_0 - 1)), (9, 0), (9, 0)]) gz_67_65 gm_67 rfl rfl rfl ?_
          have ca : ∀ j : Int, h82 (x0 + 2) j = h6_0 (x0 + 2) j := fun j => ((my_fr.at frh82 (ix_8_2 t0) rfl).trans (rfl : h6_0 (x0 + 2) j = h6_0 (x0 + 2) j))
          have ce89 : h82 x0 0 = (h82 x0 0) := (rfl : h82 x0 0 = h82 x0 0)
          have ce90 : h82 x0 1 = (h82 x0 1) := (rfl : h82 x0 1 = h82 x0 1)
          exact J67_0 7 (p6_0) ((p6_0 - 1)) h82 (gh82) (gxh82) (by omega) (by omega) (by omega) (by omega) (by omega) Ln_h82 (by first | exact Sc_cg ca sc3 | exact Sc_cg ca sc2_86_0 | exact Sc_cg ca sc2_67_0) (by first | assumption | omega) (by first | assumption | omega) (by first | (intro _; rw [ca, Sc_bot sc3 dp]; omega) | (intro q; rw [ca, Sc_up sc2_86_0 q (by omega), show (p6_0 - 1) + 1 = _ from (by omega : (p6_0 - 1) + 1 = (p6_0 - 1) + 1)]; omega)) (by omega)
        ·
          refine w_aload_n gz_67_19 rfl ?_
          refine w_getX (v := (x0 + 2)) gz_67_20 t0 rd_8 rfl (by decide) rfl ?_
          refine w_iload gz_67_23 rfl ?_
          refine w_iinc (ls' := [(2, x0), (2, 27), (0, x2), (2, x3), (0, (p6_0 + 1)), (0, p6_1), (9, 0), (9, 0)]) gz_67_25 rfl gm_67 rfl rfl rfl ⟨by omega, by omega⟩ ?_
          refine w_iload gz_67_28 rfl ?_
          refine w_iast gz_67_30 (ix_8_2 t0) rd_43 (by omega) (by omega) (by omega) (by omega) (fun h92 fh92 => ?_)
          have gh92 : my_fr [(8, 0), (8, 1), (42, -1), (43, -1), (44, -1)] h h92 := my_fr.up gh_6_0 (ix_8_2 t0) fh92 rfl
          have gxh92 : my_fx x0 3 h h92 := my_fx.up gx_6_0 fh92 (by omega)
          have Ln_h92 : Ln h92 := Ln_ag (my_ag.up fh92 (ix_8_2 t0) rfl) n_Ln_6_0
          refine w_aload_n gz_67_31 rfl ?_
          refine w_iload gz_67_32 rfl ?_
          refine w_aald gz_67_34 is_27 rd_22 rfl (by omega) (by omega) (fun v93 ev93 tv93 => ?_)
          have a27 : h92 27 p6_1 = h 27 p6_1 := my_fr.at gh92 is_27 rfl
          have a1 : h92 v93 1 = h v93 1 := my_fr.at gh92 tv93 rfl
          have a3 : v93 = h 27 p6_1 := by omega
          refine v_getI (j := 1) gz_67_35 rfl tv93 rd_4 rfl (fun v94 ev94 pv94 qv94 => ?_)
          have a4 : v94 = h (h 27 p6_1) 1 := by rw [← a3]; omega
          refine w_istore (ls' := [(2, x0), (2, 27), (0, x2), (2, x3), (0, (p6_0 + 1)), (0, v94), (9, 0), (9, 0)]) gz_67_38 gm_67 rfl rfl rfl ?_
          refine w_goto (t := 6) gz_67_40 rfl ?_
          exact ih_6_0 ((p6_0 + 1)) (v94) h92 (gh92) (gxh92) (by omega) (by omega) (by omega) (by omega) Ln_h92 (by first | exact Sc_0 htold (by omega) (by omega) | (rw [a4]; exact Sc_s sc_6_0 (by omega) (by omega) n_Ln fh92)) (by omega)
  refine w_iconst gz_67_0 (by decide) ?_
  refine w_istore (ls' := [(2, x0), (2, 27), (0, x2), (2, x3), (0, 0), (9, 0), (9, 0), (9, 0)]) gz_67_1 gm_67 rfl rfl rfl ?_
  refine w_iload_n gz_67_3 rfl ?_
  refine w_istore (ls' := [(2, x0), (2, 27), (0, x2), (2, x3), (0, 0), (0, x2), (9, 0), (9, 0)]) gz_67_4 gm_67 rfl rfl rfl ?_
  exact J6_0 7 (0) (x2) h (my_fr.rf) (my_fx.rf) (by omega) (by omega) (by omega) (by omega) n_Ln (by first | exact Sc_0 htold (by omega) (by omega) | (rw [a4]; exact Sc_s sc_6_0 (by omega) (by omega) n_Ln )) (by omega)
theorem c_Desk_tryOtherValues {l : Launch} {rho : Nat → Int32} {d : Nat} {h : my_H} {Q : my_H → my_V → Prop} {x1 x2 : Int} (a1 : 0 ≤ x1) (b1 : x1 ≤ 5) (n_Lst : Lst h) (n_Ln : Ln h) (htold : h (h 27 x1) 0 = 1) (k0 : ∀ (h' : my_H), my_fr [(2, 11), (7, 0), (7, 1), (7, 2), (7, 3), (7, 4), (7, 5), (8, 0), (8, 1), (30, -1), (42, -1), (43, -1), (44, -1)] h h' → Lst h' → Q h' (9, 0)) : wp l rho (d + 4) 98 0 [(2, 94), (0, x1), (1, x2), (9, 0), (9, 0), (9, 0), (9, 0), (9, 0), (9, 0), (9, 0)] [] h Q := by
  have J18_0 : ∀ (n : Nat) (z18_l2 r18_0 p18_1 p18_2 : Int) (h18_0 : my_H), my_fr [(2, 11), (7, 0), (7, 1), (7, 2), (7, 3), (7, 4), (7, 5), (8, 0), (8, 1), (30, -1), (42, -1), (43, -1), (44, -1)] h h18_0 → my_is 4 r18_0 → 0 ≤ p18_2 → p18_2 ≤ 240 → Lst h18_0 → Ln h18_0 → 241 - p18_2 ≤ (n : Int) → wp l rho (d + 4) 98 18 [(2, 94), (0, x1), (1, z18_l2), (9, 0), (2, r18_0), (0, p18_1), (0, p18_2), (9, 0), (9, 0), (9, 0)] [] h18_0 Q := by
    intro n
    induction n with
    | zero => intro z18_l2 r18_0 p18_1 p18_2 h18_0 gh_18_0 tr18_0_18_0 q0_18_0 q1_18_0 n_Lst_18_0 n_Ln_18_0 hm_18_0; exfalso; omega
    | succ n ih_18_0 =>
      intro z18_l2 r18_0 p18_1 p18_2 h18_0 gh_18_0 tr18_0_18_0 q0_18_0 q1_18_0 n_Lst_18_0 n_Ln_18_0 hm_18_0
      have J308_0 : ∀ (z308_l2 p308_0 p308_1 p308_2 p308_3 : Int) (h308_0 : my_H), my_fr [(2, 11), (7, 0), (7, 1), (7, 2), (7, 3), (7, 4), (7, 5), (8, 0), (8, 1), (30, -1), (42, -1), (43, -1), (44, -1)] h h308_0 → p18_2 ≤ 239 → 0 ≤ p308_3 → p308_3 ≤ 1 → 0 ≤ p308_0 → p308_0 ≤ 2 → 0 ≤ p308_1 → p308_1 ≤ 19 → 0 ≤ p308_2 → p308_2 ≤ 3 → h308_0 111 2 = p308_0 → h308_0 111 3 = p308_1 → h308_0 111 4 = p308_2 → h308_0 94 13 = p308_3 → Lst h308_0 → Ln h308_0 → wp l rho (d + 4) 98 308 [(2, 94), (0, x1), (1, z308_l2), (9, 0), (2, r18_0), (0, p18_1), (0, p18_2), (0, 0), (9, 0), (9, 0)] [] h308_0 Q := by
        intro z308_l2 p308_0 p308_1 p308_2 p308_3 h308_0 gh_308_0 q0_308_0 q1_308_0 q2_308_0 q3_308_0 q4_308_0 q5_308_0 q6_308_0 q7_308_0 q8_308_0 c111_2_308_0 c111_3_308_0 c111_4_308_0 c94_13_308_0 n_Lst_308_0 n_Ln_308_0
        refine w_iinc (ls' := [(2, 94), (0, x1), (1, z308_l2), (9, 0), (2, r18_0), (0, p18_1), (0, (p18_2 + 1)), (0, 0), (9, 0), (9, 0)]) gz_98_308 rfl gm_98 rfl rfl rfl ⟨by omega, by omega⟩ ?_
        refine w_goto (t := 18) gz_98_311 rfl ?_
        refine w_weak (ls' := [(2, 94), (0, x1), (1, z308_l2), (9, 0), (2, r18_0), (0, p18_1), (0, (p18_2 + 1)), (9, 0), (9, 0), (9, 0)]) (wk_e (wk_e (wk_e (wk_9 (wk_e (wk_e (wk_e (wk_9 (wk_9 (wk_9 wk_n)))))))))) ?_
        exact ih_18_0 (z308_l2) (r18_0) (p18_1) ((p18_2 + 1)) h308_0 (gh_308_0) tr18_0_18_0 (by omega) (by omega) n_Lst_308_0 n_Ln_308_0 (by omega)
      have J296_0 : ∀ (z296_l2 p296_0 p296_1 p296_2 p296_3 : Int) (h296_0 : my_H), my_fr [(2, 11), (7, 0), (7, 1), (7, 2), (7, 3), (7, 4), (7, 5), (8, 0), (8, 1), (30, -1), (42, -1), (43, -1), (44, -1)] h h296_0 → p18_2 ≤ 239 → 0 ≤ p296_0 → p296_0 ≤ 1 → (-1) ≤ p296_1 → p296_1 ≤ 19 → 0 ≤ p296_2 → p296_2 ≤ 20 → 0 ≤ p296_3 → p296_3 ≤ 1 → h296_0 94 13 = p296_3 → Lst h296_0 → Ln h296_0 → wp l rho (d + 4) 98 296 [(2, 94), (0, x1), (1, z296_l2), (9, 0), (2, r18_0), (0, p18_1), (0, p18_2), (0, p296_0), (0, p296_1), (0, p296_2)] [] h296_0 Q := by
        intro z296_l2 p296_0 p296_1 p296_2 p296_3 h296_0 gh_296_0 q0_296_0 q1_296_0 q2_296_0 q3_296_0 q4_296_0 q5_296_0 q6_296_0 q7_296_0 q8_296_0 c94_13_296_0 n_Lst_296_0 n_Ln_296_0
        refine w_aload_n gz_98_296 rfl ?_
        refine w_getX (v := 95) gz_98_297 is_94 rd_2 rfl (by decide) rfl ?_
        refine w_getX (v := 96) gz_98_300 is_95 rd_6 rfl (by decide) rfl ?_
        refine w_iload gz_98_303 rfl ?_
        refine w_iload gz_98_305 rfl ?_
        refine w_iast gz_98_307 is_96 rd_30 (by omega) (by omega) (by omega) (by omega) (fun h3 fh3 => ?_)
        have gh3 : my_fr [(2, 11), (7, 0), (7, 1), (7, 2), (7, 3), (7, 4), (7, 5), (8, 0), (8, 1), (30, -1), (42, -1), (43, -1), (44, -1)] h h3 := my_fr.up gh_296_0 is_96 fh3 rfl
        have Lst_h3 : Lst h3 := Lst_ag (my_ag.up fh3 is_96 rfl) n_Lst_296_0
        have Ln_h3 : Ln h3 := Ln_ag (my_ag.up fh3 is_96 rfl) n_Ln_296_0
        refine w_iinc (ls' := [(2, 94), (0, x1), (1, z296_l2), (9, 0), (2, r18_0), (0, p18_1), (0, (p18_2 + 1)), (0, p296_0), (0, p296_1), (0, p296_2)]) gz_98_308 rfl gm_98 rfl rfl rfl ⟨by omega, by omega⟩ ?_
        refine w_goto (t := 18) gz_98_311 rfl ?_
        refine w_weak (ls' := [(2, 94), (0, x1), (1, z296_l2), (9, 0), (2, r18_0), (0, p18_1), (0, (p18_2 + 1)), (9, 0), (9, 0), (9, 0)]) (wk_e (wk_e (wk_e (wk_9 (wk_e (wk_e (wk_e (wk_9 (wk_9 (wk_9 wk_n)))))))))) ?_
        exact ih_18_0 (z296_l2) (r18_0) (p18_1) ((p18_2 + 1)) h3 (gh3) tr18_0_18_0 (by omega) (by omega) Lst_h3 Ln_h3 (by omega)
      have J174_0 : ∀ (n : Nat) (z174_l2 p174_0 p174_1 p174_2 p174_3 : Int) (h174_0 : my_H), my_fr [(2, 11), (7, 0), (7, 1), (7, 2), (7, 3), (7, 4), (7, 5), (8, 0), (8, 1), (30, -1), (42, -1), (43, -1), (44, -1)] h h174_0 → p18_2 ≤ 239 → 0 ≤ p174_0 → p174_0 ≤ 1 → (-1) ≤ p174_1 → p174_1 ≤ 19 → 0 ≤ p174_2 → p174_2 ≤ 20 → 0 ≤ p174_3 → p174_3 ≤ 1 → h174_0 94 13 = p174_3 → Lst h174_0 → Ln h174_0 → 0 ≤ h174_0 111 2 → 0 ≤ h174_0 111 3 → 0 ≤ h174_0 111 4 → 21 - p174_2 ≤ (n : Int) → wp l rho (d + 4) 98 174 [(2, 94), (0, x1), (1, z174_l2), (9, 0), (2, r18_0), (0, p18_1), (0, p18_2), (0, p174_0), (0, p174_1), (0, p174_2)] [] h174_0 Q := by
        intro n
        induction n with
        | zero => intro z174_l2 p174_0 p174_1 p174_2 p174_3 h174_0 gh_174_0 q0_174_0 q1_174_0 q2_174_0 q3_174_0 q4_174_0 q5_174_0 q6_174_0 q7_174_0 q8_174_0 c94_13_174_0 n_Lst_174_0 n_Ln_174_0 iw_174_0 ik_174_0 ic_174_0 hm_174_0; exfalso; omega
        | succ n ih_174_0 =>
          intro z174_l2 p174_0 p174_1 p174_2 p174_3 h174_0 gh_174_0 q0_174_0 q1_174_0 q2_174_0 q3_174_0 q4_174_0 q5_174_0 q6_174_0 q7_174_0 q8_174_0 c94_13_174_0 n_Lst_174_0 n_Ln_174_0 iw_174_0 ik_174_0 ic_174_0 hm_174_0
          have J290_0 : ∀ (z290_l2 p290_0 p290_1 : Int) (h290_0 : my_H), my_fr [(2, 11), (7, 0), (7, 1), (7, 2), (7, 3), (7, 4), (7, 5), (8, 0), (8, 1), (30, -1), (42, -1), (43, -1), (44, -1)] h h290_0 → 0 ≤ p290_0 → p290_0 ≤ 1 → p174_2 ≤ 19 → 0 ≤ p290_1 → p290_1 ≤ 1 → p290_0 ≤ p174_0 → p290_1 ≤ p174_3 → p174_0 ≤ p290_0 → p174_3 ≤ p290_1 → h290_0 94 13 = p290_1 → Lst h290_0 → Ln h290_0 → wp l rho (d + 4) 98 290 [(2, 94), (0, x1), (1, z290_l2), (9, 0), (2, r18_0), (0, p18_1), (0, p18_2), (0, p290_0), (0, p174_1), (0, p174_2)] [] h290_0 Q := by
            intro z290_l2 p290_0 p290_1 h290_0 gh_290_0 q0_290_0 q1_290_0 q2_290_0 q3_290_0 q4_290_0 q5_290_0 q6_290_0 q7_290_0 q8_290_0 c94_13_290_0 n_Lst_290_0 n_Ln_290_0
            refine w_iinc (ls' := [(2, 94), (0, x1), (1, z290_l2), (9, 0), (2, r18_0), (0, p18_1), (0, p18_2), (0, p290_0), (0, p174_1), (0, (p174_2 + 1))]) gz_98_290 rfl gm_98 rfl rfl rfl ⟨by omega, by omega⟩ ?_
            refine w_goto (t := 174) gz_98_293 rfl ?_
            exact ih_174_0 (z290_l2) (p290_0) (p174_1) ((p174_2 + 1)) (p290_1) h290_0 (gh_290_0) (by omega) (by omega) (by omega) (by omega) (by omega) (by omega) (by omega) (by omega) (by omega) (c94_13_290_0.trans (by omega)) n_Lst_290_0 n_Ln_290_0 (by first | assumption | omega) (by first | assumption | omega) (by first | assumption | omega) (by omega)
          have J275_0 : ∀ (z275_l2 p275_0 p275_1 p275_2 p275_3 p275_4 : Int) (h275_0 : my_H), my_fr [(2, 11), (7, 0), (7, 1), (7, 2), (7, 3), (7, 4), (7, 5), (8, 0), (8, 1), (30, -1), (42, -1), (43, -1), (44, -1)] h h275_0 → 0 ≤ p275_0 → p275_0 ≤ 1 → p174_2 ≤ 19 → 0 ≤ p275_4 → p275_4 ≤ 1 → 0 ≤ p275_1 → p275_1 ≤ 2 → 0 ≤ p275_2 → p275_2 ≤ 19 → 0 ≤ p275_3 → p275_3 ≤ 3 → p275_0 ≤ p174_0 → p275_4 ≤ p174_3 → p174_0 ≤ p275_0 → p174_3 ≤ p275_4 → h275_0 111 2 = p275_1 → h275_0 111 3 = p275_2 → h275_0 111 4 = p275_3 → h275_0 94 13 = p275_4 → Lst h275_0 → Ln h275_0 → wp l rho (d + 4) 98 275 [(2, 94), (0, x1), (1, z275_l2), (9, 0), (2, r18_0), (0, p18_1), (0, p18_2), (0, p275_0), (0, p174_1), (0, p174_2)] [] h275_0 Q := by
            intro z275_l2 p275_0 p275_1 p275_2 p275_3 p275_4 h275_0 gh_275_0 q0_275_0 q1_275_0 q2_275_0 q3_275_0 q4_275_0 q5_275_0 q6_275_0 q7_275_0 q8_275_0 q9_275_0 q10_275_0 q11_275_0 q12_275_0 q13_275_0 q14_275_0 c111_2_275_0 c111_3_275_0 c111_4_275_0 c94_13_275_0 n_Lst_275_0 n_Ln_275_0
            refine w_aload_n gz_98_275 rfl ?_
            refine w_getX (v := 111) gz_98_276 is_94 rd_2 rfl (by decide) rfl ?_
            refine w_iload gz_98_279 rfl ?_
            refine v_putI (j := 5) gz_98_281 rfl is_111 rd_7 rfl (by omega) (by omega) rfl (fun h5 fh5 => ?_)
            have gh5 : my_fr [(2, 11), (7, 0), (7, 1), (7, 2), (7, 3), (7, 4), (7, 5), (8, 0), (8, 1), (30, -1), (42, -1), (43, -1), (44, -1)] h h5 := my_fr.up gh_275_0 is_111 fh5 rfl
            have Lst_h5 : Lst h5 := Lst_ne fh5 (by decide) n_Lst_275_0
            have Ln_h5 : Ln h5 := Ln_ag (my_ag.up fh5 is_111 rfl) n_Ln_275_0
            have ce6 : h5 111 2 = p275_1 := ((my_up_fld fh5 (by decide)).trans c111_2_275_0)
            have ce7 : h5 111 3 = p275_2 := ((my_up_fld fh5 (by decide)).trans c111_3_275_0)
            have ce8 : h5 111 4 = p275_3 := ((my_up_fld fh5 (by decide)).trans c111_4_275_0)
            have ce9 : h5 111 5 = p174_2 := (my_up_self fh5)
            refine w_aload_n gz_98_284 rfl ?_
            refine w_iconst gz_98_285 (by decide) ?_
            refine w_iconst gz_98_286 (by decide) ?_
            refine w_inv (k := 0) (as := [(0, 1), (0, 1)]) (r := []) (x := 94) (ls0 := [(2, 94), (0, 1), (0, 1)]) gz_98_287 gm_94 rfl is_94 rd_2 rfl rfl rfl rfl rfl (c_Desk_keep (d := (d + 2)) (x1 := 1) (x2 := 1) (by omega) (by omega) (by omega) (by omega) Lst_h5 (by first | assumption | omega) (by first | assumption | omega) (by first | assumption | omega) (fun h10 frh10 xp11 xp12 xp13 Lst_h10t14 => ?_))
            have gh10 : my_fr [(2, 11), (7, 0), (7, 1), (7, 2), (7, 3), (7, 4), (7, 5), (8, 0), (8, 1), (30, -1), (42, -1), (43, -1), (44, -1)] h h10 := my_fr.tr gh5 (frh10.mo rfl)
            have Ln_h10 : Ln h10 := Ln_ag (my_ag.fr frh10 rfl) Ln_h5
            show wp l rho (d + 4) 98 290 [(2, 94), (0, x1), (1, z275_l2), (9, 0), (2, r18_0), (0, p18_1), (0, p18_2), (0, p275_0), (0, p174_1), (0, p174_2)] [] h10 Q
            exact J290_0 (z275_l2) (p275_0) (p275_4) h10 (gh10) (by omega) (by omega) (by omega) (by omega) (by omega) (by omega) (by omega) (by omega) (by omega) (((my_fr.at frh10 is_94 rfl).trans ((my_up_role fh5 is_94 is_111 rfl).trans c94_13_275_0)).trans (by omega)) Lst_h10t14 Ln_h10
          refine w_iload gz_98_174 rfl ?_
          refine w_bipush gz_98_176 (by decide) ?_
          refine w_icge (t := 296) gz_98_178 rfl (fun u15 => ?_) (fun u15 => ?_)
          ·
            exact J296_0 (z174_l2) (p174_0) (p174_1) (p174_2) (p174_3) h174_0 (gh_174_0) (by omega) (by omega) (by omega) (by omega) (by omega) (by omega) (by omega) (by omega) (by omega) (c94_13_174_0.trans (by omega)) n_Lst_174_0 n_Ln_174_0
          ·
            refine w_aload_n gz_98_181 rfl ?_
            refine w_inv (k := 0) (as := []) (r := []) (x := 94) (ls0 := [(2, 94)]) gz_98_182 gm_100 rfl is_94 rd_2 rfl rfl rfl rfl rfl ?_
            refine w_aload_n gz_100_0 rfl ?_
            refine v_getI (j := 13) gz_100_1 rfl is_94 rd_2 rfl (fun v16 ev16 pv16 qv16 => ?_)
            have zv16 := ev16.trans c94_13_174_0
            refine w_ifeq (t := 33) gz_100_4 rfl (fun u17 => ?_) (fun u17 => ?_)
            ·
              refine w_iconst gz_100_33 (by decide) ?_
              refine w_bret gz_100_34 gm_100 (by omega) (by omega) ?_
              show wp l rho (d + 4) 98 185 [(2, 94), (0, x1), (1, z174_l2), (9, 0), (2, r18_0), (0, p18_1), (0, p18_2), (0, p174_0), (0, p174_1), (0, p174_2)] [(0, 0)] h174_0 Q
              refine w_ifne (t := 296) gz_98_185 rfl (fun u18 => by exfalso; omega) (fun u18 => ?_)
              refine w_iload gz_98_188 rfl ?_
              refine w_iload gz_98_190 rfl ?_
              refine w_iceq (t := 290) gz_98_192 rfl (fun u19 => ?_) (fun u19 => ?_)
              ·
                exact J290_0 (z174_l2) (p174_0) (v16) h174_0 (gh_174_0) (by omega) (by omega) (by omega) (by omega) (by omega) (by omega) (by omega) (by omega) (by omega) (ev16.symm.trans (by omega)) n_Lst_174_0 n_Ln_174_0
              ·
                refine w_aload_n gz_98_195 rfl ?_
                refine w_getX (v := 1) gz_98_196 is_94 rd_2 rfl (by decide) rfl ?_
                refine w_aload_n gz_98_199 rfl ?_
                refine w_getX (v := 95) gz_98_200 is_94 rd_2 rfl (by decide) rfl ?_
                refine w_aload_n gz_98_203 rfl ?_
                refine w_getX (v := 111) gz_98_204 is_94 rd_2 rfl (by decide) rfl ?_
                refine v_getI (j := 2) gz_98_207 rfl is_111 rd_7 rfl (fun v23 ev23 pv23 qv23 => ?_)
                refine w_aload_n gz_98_210 rfl ?_
                refine w_getX (v := 111) gz_98_211 is_94 rd_2 rfl (by decide) rfl ?_
                refine v_getI (j := 3) gz_98_214 rfl is_111 rd_7 rfl (fun v25 ev25 pv25 qv25 => ?_)
                refine w_aload_n gz_98_217 rfl ?_
                refine w_getX (v := 111) gz_98_218 is_94 rd_2 rfl (by decide) rfl ?_
                refine v_getI (j := 4) gz_98_221 rfl is_111 rd_7 rfl (fun v27 ev27 pv27 qv27 => ?_)
                refine w_iload gz_98_224 rfl ?_
                have hi28 : 0 ≤ v23 := by omega
                have hi29 : v23 ≤ 2 := by omega
                have hi30 : 0 ≤ v25 := by omega
                have hi31 : v25 ≤ 19 := by omega
                have hi32 : 0 ≤ v27 := by omega
                have hi33 : v27 ≤ 3 := by omega
                refine w_inv (k := 1) (as := [(0, p174_2), (0, v27), (0, v25), (0, v23), (2, 95)]) (r := []) (x := 1) (ls0 := [(2, 1), (2, 95), (0, v23), (0, v25), (0, v27), (0, p174_2), (9, 0)]) gz_98_226 gm_102 rfl is_1 rd_3 rfl rfl rfl rfl rfl (c_Laws_allow (d := (d + 1)) (x1 := 95) (x2 := v23) (x3 := v25) (x4 := v27) (x5 := p174_2) is_95 (by omega) (by omega) (by omega) (by omega) (by omega) (by omega) (by omega) (by omega) ?_ ?_)
                ·
                  show wp l rho (d + 4) 98 229 [(2, 94), (0, x1), (1, z174_l2), (9, 0), (2, r18_0), (0, p18_1), (0, p18_2), (0, p174_0), (0, p174_1), (0, p174_2)] [(0, 0)] h174_0 Q
                  refine w_ifeq (t := 290) gz_98_229 rfl (fun u34 => ?_) (fun u34 => by exfalso; omega)
                  exact J290_0 (z174_l2) (p174_0) (v16) h174_0 (gh_174_0) (by omega) (by omega) (by omega) (by omega) (by omega) (by omega) (by omega) (by omega) (by omega) (ev16.symm.trans (by omega)) n_Lst_174_0 n_Ln_174_0
                ·
                  show wp l rho (d + 4) 98 229 [(2, 94), (0, x1), (1, z174_l2), (9, 0), (2, r18_0), (0, p18_1), (0, p18_2), (0, p174_0), (0, p174_1), (0, p174_2)] [(0, 1)] h174_0 Q
                  refine w_ifeq (t := 290) gz_98_229 rfl (fun u35 => by exfalso; omega) (fun u35 => ?_)
                  refine w_aload_n gz_98_232 rfl ?_
                  refine w_getX (v := 95) gz_98_233 is_94 rd_2 rfl (by decide) rfl ?_
                  refine w_getX (v := 96) gz_98_236 is_95 rd_6 rfl (by decide) rfl ?_
                  refine w_iload gz_98_239 rfl ?_
                  refine w_iload gz_98_241 rfl ?_
                  refine w_iast gz_98_243 is_96 rd_30 (by omega) (by omega) (by omega) (by omega) (fun h38 fh38 => ?_)
                  have gh38 : my_fr [(2, 11), (7, 0), (7, 1), (7, 2), (7, 3), (7, 4), (7, 5), (8, 0), (8, 1), (30, -1), (42, -1), (43, -1), (44, -1)] h h38 := my_fr.up gh_174_0 is_96 fh38 rfl
                  have Lst_h38 : Lst h38 := Lst_ag (my_ag.up fh38 is_96 rfl) n_Lst_174_0
                  have Ln_h38 : Ln h38 := Ln_ag (my_ag.up fh38 is_96 rfl) n_Ln_174_0
                  refine w_iload gz_98_244 rfl ?_
                  refine w_ifeq (t := 275) gz_98_246 rfl (fun u39 => ?_) (fun u39 => ?_)
                  ·
                    exact J275_0 (z174_l2) (p174_0) (v23) (v25) (v27) (v16) h38 (gh38) (by omega) (by omega) (by omega) (by omega) (by omega) (by omega) (by omega) (by omega) (by omega) (by omega) (by omega) (by omega) (by omega) (by omega) (by omega) (((my_up_role fh38 is_111 is_96 rfl).trans ev23.symm).trans (by omega)) (((my_up_role fh38 is_111 is_96 rfl).trans ev25.symm).trans (by omega)) (((my_up_role fh38 is_111 is_96 rfl).trans ev27.symm).trans (by omega)) (((my_up_role fh38 is_94 is_96 rfl).trans ev16.symm).trans (by omega)) Lst_h38 Ln_h38
                  ·
                    refine w_aload_n gz_98_249 rfl ?_
                    refine w_getX (v := 106) gz_98_250 is_94 rd_2 rfl (by decide) rfl ?_
                    refine w_aload_n gz_98_253 rfl ?_
                    refine w_getX (v := 27) gz_98_254 is_94 rd_2 rfl (by decide) rfl ?_
                    refine w_iload_n gz_98_257 rfl ?_
                    refine w_aload_n gz_98_258 rfl ?_
                    refine w_getX (v := 95) gz_98_259 is_94 rd_2 rfl (by decide) rfl ?_
                    refine w_inv (k := 4) (as := [(2, 95), (0, x1), (2, 27)]) (r := []) (x := 106) (ls0 := [(2, 106), (2, 27), (0, x1), (2, 95), (9, 0), (9, 0), (9, 0), (9, 0)]) gz_98_262 gm_67 rfl is_106 rd_8 rfl rfl rfl rfl rfl (c_View_show (d := d) (x0 := 106) (x2 := x1) (x3 := 95) is_106 (by omega) (by omega) (by omega) (by omega) is_95 Ln_h38 (by first | assumption | omega) (fun h43 v44 frh43 fxh43 w45 xp46 => ?_))
                    have gh43 : my_fr [(2, 11), (7, 0), (7, 1), (7, 2), (7, 3), (7, 4), (7, 5), (8, 0), (8, 1), (30, -1), (42, -1), (43, -1), (44, -1)] h h43 := my_fr.tr gh38 (frh43.mo rfl)
                    have Lst_h43 : Lst h43 := Lst_ag (my_ag.fr frh43 rfl) Lst_h38
                    have Ln_h43 : Ln h43 := Ln_ag (my_ag.fr frh43 rfl) Ln_h38
                    show wp l rho (d + 4) 98 265 [(2, 94), (0, x1), (1, z174_l2), (9, 0), (2, r18_0), (0, p18_1), (0, p18_2), (0, p174_0), (0, p174_1), (0, p174_2)] [(2, v44)] h43 Q
                    refine w_aload_n gz_98_265 rfl ?_
                    refine w_getX (v := 102) gz_98_266 is_94 rd_2 rfl (by decide) rfl ?_
                    refine w_inv (k := 1) (as := [(2, 102)]) (r := []) (x := v44) (ls0 := [(2, v44), (2, 102), (9, 0)]) gz_98_269 gm_93 rfl w45 rd_8 rfl rfl rfl rfl rfl (c_View_same (d := (d + 2)) (x0 := v44) (x1 := 102) w45 is_102 ?_ ?_)
                    ·
                      show wp l rho (d + 4) 98 272 [(2, 94), (0, x1), (1, z174_l2), (9, 0), (2, r18_0), (0, p18_1), (0, p18_2), (0, p174_0), (0, p174_1), (0, p174_2)] [(0, 0)] h43 Q
                      refine w_ifeq (t := 290) gz_98_272 rfl (fun u48 => ?_) (fun u48 => by exfalso; omega)
                      exact J290_0 (z174_l2) (p174_0) (v16) h43 (gh43) (by omega) (by omega) (by omega) (by omega) (by omega) (by omega) (by omega) (by omega) (by omega) (((my_fr.at frh43 is_94 rfl).trans ((my_up_role fh38 is_94 is_96 rfl).trans ev16.symm)).trans (by omega)) Lst_h43 Ln_h43
                    ·
                      show wp l rho (d + 4) 98 272 [(2, 94), (0, x1), (1, z174_l2), (9, 0), (2, r18_0), (0, p18_1), (0, p18_2), (0, p174_0), (0, p174_1), (0, p174_2)] [(0, 1)] h43 Q
                      refine w_ifeq (t := 290) gz_98_272 rfl (fun u49 => by exfalso; omega) (fun u49 => ?_)
                      exact J275_0 (z174_l2) (p174_0) (v23) (v25) (v27) (v16) h43 (gh43) (by omega) (by omega) (by omega) (by omega) (by omega) (by omega) (by omega) (by omega) (by omega) (by omega) (by omega) (by omega) (by omega) (by omega) (by omega) (((my_fr.at frh43 is_111 rfl).trans ((my_up_role fh38 is_111 is_96 rfl).trans ev23.symm)).trans (by omega)) (((my_fr.at frh43 is_111 rfl).trans ((my_up_role fh38 is_111 is_96 rfl).trans ev25.symm)).trans (by omega)) (((my_fr.at frh43 is_111 rfl).trans ((my_up_role fh38 is_111 is_96 rfl).trans ev27.symm)).trans (by omega)) (((my_fr.at frh43 is_94 rfl).trans ((my_up_role fh38 is_94 is_96 rfl).trans ev16.symm)).trans (by omega)) Lst_h43 Ln_h43
            ·
              refine w_aload_n gz_100_7 rfl ?_
              refine w_getX (v := 112) gz_100_8 is_94 rd_2 rfl (by decide) rfl ?_
              refine v_getI (j := 0) gz_100_11 rfl is_112 rd_7 rfl (fun v51 ev51 pv51 qv51 => ?_)
              refine w_iconst gz_100_14 (by decide) ?_
              refine w_iceq (t := 33) gz_100_15 rfl (fun u52 => ?_) (fun u52 => ?_)
              ·
                refine w_iconst gz_100_33 (by decide) ?_
                refine w_bret gz_100_34 gm_100 (by omega) (by omega) ?_
                show wp l rho (d + 4) 98 185 [(2, 94), (0, x1), (1, z174_l2), (9, 0), (2, r18_0), (0, p18_1), (0, p18_2), (0, p174_0), (0, p174_1), (0, p174_2)] [(0, 0)] h174_0 Q
                refine w_ifne (t := 296) gz_98_185 rfl (fun u53 => by exfalso; omega) (fun u53 => ?_)
                refine w_iload gz_98_188 rfl ?_
                refine w_iload gz_98_190 rfl ?_
                refine w_iceq (t := 290) gz_98_192 rfl (fun u54 => ?_) (fun u54 => ?_)
                ·
                  exact J290_0 (z174_l2) (p174_0) (v16) h174_0 (gh_174_0) (by omega) (by omega) (by omega) (by omega) (by omega) (by omega) (by omega) (by omega) (by omega) (ev16.symm.trans (by omega)) n_Lst_174_0 n_Ln_174_0
                ·
                  refine w_aload_n gz_98_195 rfl ?_
                  refine w_getX (v := 1) gz_98_196 is_94 rd_2 rfl (by decide) rfl ?_
                  refine w_aload_n gz_98_199 rfl ?_
                  refine w_getX (v := 95) gz_98_200 is_94 rd_2 rfl (by decide) rfl ?_
                  refine w_aload_n gz_98_203 rfl ?_
                  refine w_getX (v := 111) gz_98_204 is_94 rd_2 rfl (by decide) rfl ?_
                  refine v_getI (j := 2) gz_98_207 rfl is_111 rd_7 rfl (fun v58 ev58 pv58 qv58 => ?_)
                  refine w_aload_n gz_98_210 rfl ?_
                  refine w_getX (v := 111) gz_98_211 is_94 rd_2 rfl (by decide) rfl ?_
                  refine v_getI (j := 3) gz_98_214 rfl is_111 rd_7 rfl (fun v60 ev60 pv60 qv60 => ?_)
                  refine w_aload_n gz_98_217 rfl ?_
                  refine w_getX (v := 111) gz_98_218 is_94 rd_2 rfl (by decide) rfl ?_
                  refine v_getI (j := 4) gz_98_221 rfl is_111 rd_7 rfl (fun v62 ev62 pv62 qv62 => ?_)
                  refine w_iload gz_98_224 rfl ?_
                  have hi63 : 0 ≤ v58 := by omega
                  have hi64 : v58 ≤ 2 := by omega
                  have hi65 : 0 ≤ v60 := by omega
                  have hi66 : v60 ≤ 19 := by omega
                  have hi67 : 0 ≤ v62 := by omega
                  have hi68 : v62 ≤ 3 := by omega
                  refine w_inv (k := 1) (as := [(0, p174_2), (0, v62), (0, v60), (0, v58), (2, 95)]) (r := []) (x := 1) (ls0 := [(2, 1), (2, 95), (0, v58), (0, v60), (0, v62), (0, p174_2), (9, 0)]) gz_98_226 gm_102 rfl is_1 rd_3 rfl rfl rfl rfl rfl (c_Laws_allow (d := (d + 1)) (x1 := 95) (x2 := v58) (x3 := v60) (x4 := v62) (x5 := p174_2) is_95 (by omega) (by omega) (by omega) (by omega) (by omega) (by omega) (by omega) (by omega) ?_ ?_)
                  ·
                    show wp l rho (d + 4) 98 229 [(2, 94), (0, x1), (1, z174_l2), (9, 0), (2, r18_0), (0, p18_1), (0, p18_2), (0, p174_0), (0, p174_1), (0, p174_2)] [(0, 0)] h174_0 Q
                    refine w_ifeq (t := 290) gz_98_229 rfl (fun u69 => ?_) (fun u69 => by exfalso; omega)
                    exact J290_0 (z174_l2) (p174_0) (v16) h174_0 (gh_174_0) (by omega) (by omega) (by omega) (by omega) (by omega) (by omega) (by omega) (by omega) (by omega) (ev16.symm.trans (by omega)) n_Lst_174_0 n_Ln_174_0
                  ·
                    show wp l rho (d + 4) 98 229 [(2, 94), (0, x1), (1, z174_l2), (9, 0), (2, r18_0), (0, p18_1), (0, p18_2), (0, p174_0), (0, p174_1), (0, p174_2)] [(0, 1)] h174_0 Q
                    refine w_ifeq (t := 290) gz_98_229 rfl (fun u70 => by exfalso; omega) (fun u70 => ?_)
                    refine w_aload_n gz_98_232 rfl ?_
                    refine w_getX (v := 95) gz_98_233 is_94 rd_2 rfl (by decide) rfl ?_
                    refine w_getX (v := 96) gz_98_236 is_95 rd_6 rfl (by decide) rfl ?_
                    refine w_iload gz_98_239 rfl ?_
                    refine w_iload gz_98_241 rfl ?_
                    refine w_iast gz_98_243 is_96 rd_30 (by omega) (by omega) (by omega) (by omega) (fun h73 fh73 => ?_)
                    have gh73 : my_fr [(2, 11), (7, 0), (7, 1), (7, 2), (7, 3), (7, 4), (7, 5), (8, 0), (8, 1), (30, -1), (42, -1), (43, -1), (44, -1)] h h73 := my_fr.up gh_174_0 is_96 fh73 rfl
                    have Lst_h73 : Lst h73 := Lst_ag (my_ag.up fh73 is_96 rfl) n_Lst_174_0
                    have Ln_h73 : Ln h73 := Ln_ag (my_ag.up fh73 is_96 rfl) n_Ln_174_0
                    refine w_iload gz_98_244 rfl ?_
                    refine w_ifeq (t := 275) gz_98_246 rfl (fun u74 => ?_) (fun u74 => ?_)
                    ·
                      exact J275_0 (z174_l2) (p174_0) (v58) (v60) (v62) (v16) h73 (gh73) (by omega) (by omega) (by omega) (by omega) (by omega) (by omega) (by omega) (by omega) (by omega) (by omega) (by omega) (by omega) (by omega) (by omega) (by omega) (((my_up_role fh73 is_111 is_96 rfl).trans ev58.symm).trans (by omega)) (((my_up_role fh73 is_111 is_96 rfl).trans ev60.symm).trans (by omega)) (((my_up_role fh73 is_111 is_96 rfl).trans ev62.symm).trans (by omega)) (((my_up_role fh73 is_94 is_96 rfl).trans ev16.symm).trans (by omega)) Lst_h73 Ln_h73
                    ·
                      refine w_aload_n gz_98_249 rfl ?_
                      refine w_getX (v := 106) gz_98_250 is_94 rd_2 rfl (by decide) rfl ?_
                      refine w_aload_n gz_98_253 rfl ?_
                      refine w_getX (v := 27) gz_98_254 is_94 rd_2 rfl (by decide) rfl ?_
                      refine w_iload_n gz_98_257 rfl ?_
                      refine w_aload_n gz_98_258 rfl ?_
                      refine w_getX (v := 95) gz_98_259 is_94 rd_2 rfl (by decide) rfl ?_
                      refine w_inv (k := 4) (as := [(2, 95), (0, x1), (2, 27)]) (r := []) (x := 106) (ls0 := [(2, 106), (2, 27), (0, x1), (2, 95), (9, 0), (9, 0), (9, 0), (9, 0)]) gz_98_262 gm_67 rfl is_106 rd_8 rfl rfl rfl rfl rfl (c_View_show (d := d) (x0 := 106) (x2 := x1) (x3 := 95) is_106 (by omega) (by omega) (by omega) (by omega) is_95 Ln_h73 (by first | assumption | omega) (fun h78 v79 frh78 fxh78 w80 xp81 => ?_))
                      have gh78 : my_fr [(2, 11), (7, 0), (7, 1), (7, 2), (7, 3), (7, 4), (7, 5), (8, 0), (8, 1), (30, -1), (42, -1), (43, -1), (44, -1)] h h78 := my_fr.tr gh73 (frh78.mo rfl)
                      have Lst_h78 : Lst h78 := Lst_ag (my_ag.fr frh78 rfl) Lst_h73
                      have Ln_h78 : Ln h78 := Ln_ag (my_ag.fr frh78 rfl) Ln_h73
                      show wp l rho (d + 4) 98 265 [(2, 94), (0, x1), (1, z174_l2), (9, 0), (2, r18_0), (0, p18_1), (0, p18_2), (0, p174_0), (0, p174_1), (0, p174_2)] [(2, v79)] h78 Q
                      refine w_aload_n gz_98_265 rfl ?_
                      refine w_getX (v := 102) gz_98_266 is_94 rd_2 rfl (by decide) rfl ?_
                      refine w_inv (k := 1) (as := [(2, 102)]) (r := []) (x := v79) (ls0 := [(2, v79), (2, 102), (9, 0)]) gz_98_269 gm_93 rfl w80 rd_8 rfl rfl rfl rfl rfl (c_View_same (d := (d + 2)) (x0 := v79) (x1 := 102) w80 is_102 ?_ ?_)
                      ·
                        show wp l rho (d + 4) 98 272 [(2, 94), (0, x1), (1, z174_l2), (9, 0), (2, r18_0), (0, p18_1), (0, p18_2), (0, p174_0), (0, p174_1), (0, p174_2)] [(0, 0)] h78 Q
                        refine w_ifeq (t := 290) gz_98_272 rfl (fun u83 => ?_) (fun u83 => by exfalso; omega)
                        exact J290_0 (z174_l2) (p174_0) (v16) h78 (gh78) (by omega) (by omega) (by omega) (by omega) (by omega) (by omega) (by omega) (by omega) (by omega) (((my_fr.at frh78 is_94 rfl).trans ((my_up_role fh73 is_94 is_96 rfl).trans ev16.symm)).trans (by omega)) Lst_h78 Ln_h78
                      ·
                        show wp l rho (d + 4) 98 272 [(2, 94), (0, x1), (1, z174_l2), (9, 0), (2, r18_0), (0, p18_1), (0, p18_2), (0, p174_0), (0, p174_1), (0, p174_2)] [(0, 1)] h78 Q
                        refine w_ifeq (t := 290) gz_98_272 rfl (fun u84 => by exfalso; omega) (fun u84 => ?_)
                        exact J275_0 (z174_l2) (p174_0) (v58) (v60) (v62) (v16) h78 (gh78) (by omega) (by omega) (by omega) (by omega) (by omega) (by omega) (by omega) (by omega) (by omega) (by omega) (by omega) (by omega) (by omega) (by omega) (by omega) (((my_fr.at frh78 is_111 rfl).trans ((my_up_role fh73 is_111 is_96 rfl).trans ev58.symm)).trans (by omega)) (((my_fr.at frh78 is_111 rfl).trans ((my_up_role fh73 is_111 is_96 rfl).trans ev60.symm)).trans (by omega)) (((my_fr.at frh78 is_111 rfl).trans ((my_up_role fh73 is_111 is_96 rfl).trans ev62.symm)).trans (by omega)) (((my_fr.at frh78 is_94 rfl).trans ((my_up_role fh73 is_94 is_96 rfl).trans ev16.symm)).trans (by omega)) Lst_h78 Ln_h78
              ·
                refine w_aload_n gz_100_18 rfl ?_
                refine w_getX (v := 112) gz_100_19 is_94 rd_2 rfl (by decide) rfl ?_
                refine v_getI (j := 0) gz_100_22 rfl is_112 rd_7 rfl (fun v86 ev86 pv86 qv86 => ?_)
                have zv86 := ev86.trans ev51.symm
                refine w_iconst gz_100_25 (by decide) ?_
                refine w_icgt (t := 33) gz_100_26 rfl (fun u87 => ?_) (fun u87 => ?_)
                ·
                  refine w_iconst gz_100_33 (by decide) ?_
                  refine w_bret gz_100_34 gm_100 (by omega) (by omega) ?_
                  show wp l rho (d + 4) 98 185 [(2, 94), (0, x1), (1, z174_l2), (9, 0), (2, r18_0), (0, p18_1), (0, p18_2), (0, p174_0), (0, p174_1), (0, p174_2)] [(0, 0)] h174_0 Q
                  refine w_ifne (t := 296) gz_98_185 rfl (fun u88 => by exfalso; omega) (fun u88 => ?_)
                  refine w_iload gz_98_188 rfl ?_
                  refine w_iload gz_98_190 rfl ?_
                  refine w_iceq (t := 290) gz_98_192 rfl (fun u89 => ?_) (fun u89 => ?_)
                  ·
                    exact J290_0 (z174_l2) (p174_0) (v16) h174_0 (gh_174_0) (by omega) (by omega) (by omega) (by omega) (by omega) (by omega) (by omega) (by omega) (by omega) (ev16.symm.trans (by omega)) n_Lst_174_0 n_Ln_174_0
                  ·
                    refine w_aload_n gz_98_195 rfl ?_
                    refine w_getX (v := 1) gz_98_196 is_94 rd_2 rfl (by decide) rfl ?_
                    refine w_aload_n gz_98_199 rfl ?_
                    refine w_getX (v := 95) gz_98_200 is_94 rd_2 rfl (by decide) rfl ?_
                    refine w_aload_n gz_98_203 rfl ?_
                    refine w_getX (v := 111) gz_98_204 is_94 rd_2 rfl (by decide) rfl ?_
                    refine v_getI (j := 2) gz_98_207 rfl is_111 rd_7 rfl (fun v93 ev93 pv93 qv93 => ?_)
                    refine w_aload_n gz_98_210 rfl ?_
                    refine w_getX (v := 111) gz_98_211 is_94 rd_2 rfl (by decide) rfl ?_
                    refine v_getI (j := 3) gz_98_214 rfl is_111 rd_7 rfl (fun v95 ev95 pv95 qv95 => ?_)
                    refine w_aload_n gz_98_217 rfl ?_
                    refine w_getX (v := 111) gz_98_218 is_94 rd_2 rfl (by decide) rfl ?_
                    refine v_getI (j := 4) gz_98_221 rfl is_111 rd_7 rfl (fun v97 ev97 pv97 qv97 => ?_)
                    refine w_iload gz_98_224 rfl ?_
                    have hi98 : 0 ≤ v93 := by omega
                    have hi99 : v93 ≤ 2 := by omega
                    have hi100 : 0 ≤ v95 := by omega
                    have hi101 : v95 ≤ 19 := by omega
                    have hi102 : 0 ≤ v97 := by omega
                    have hi103 : v97 ≤ 3 := by omega
                    refine w_inv (k := 1) (as := [(0, p174_2), (0, v97), (0, v95), (0, v93), (2, 95)]) (r := []) (x := 1) (ls0 := [(2, 1), (2, 95), (0, v93), (0, v95), (0, v97), (0, p174_2), (9, 0)]) gz_98_226 gm_102 rfl is_1 rd_3 rfl rfl rfl rfl rfl (c_Laws_allow (d := (d + 1)) (x1 := 95) (x2 := v93) (x3 := v95) (x4 := v97) (x5 := p174_2) is_95 (by omega) (by omega) (by omega) (by omega) (by omega) (by omega) (by omega) (by omega) ?_ ?_)
                    ·
                      show wp l rho (d + 4) 98 229 [(2, 94), (0, x1), (1, z174_l2), (9, 0), (2, r18_0), (0, p18_1), (0, p18_2), (0, p174_0), (0, p174_1), (0, p174_2)] [(0, 0)] h174_0 Q
                      refine w_ifeq (t := 290) gz_98_229 rfl (fun u104 => ?_) (fun u104 => by exfalso; omega)
                      exact J290_0 (z174_l2) (p174_0) (v16) h174_0 (gh_174_0) (by omega) (by omega) (by omega) (by omega) (by omega) (by omega) (by omega) (by omega) (by omega) (ev16.symm.trans (by omega)) n_Lst_174_0 n_Ln_174_0
                    ·
                      show wp l rho (d + 4) 98 229 [(2, 94), (0, x1), (1, z174_l2), (9, 0), (2, r18_0), (0, p18_1), (0, p18_2), (0, p174_0), (0, p174_1), (0, p174_2)] [(0, 1)] h174_0 Q
                      refine w_ifeq (t := 290) gz_98_229 rfl (fun u105 => by exfalso; omega) (fun u105 => ?_)
                      refine w_aload_n gz_98_232 rfl ?_
                      refine w_getX (v := 95) gz_98_233 is_94 rd_2 rfl (by decide) rfl ?_
                      refine w_getX (v := 96) gz_98_236 is_95 rd_6 rfl (by decide) rfl ?_
                      refine w_iload gz_98_239 rfl ?_
                      refine w_iload gz_98_241 rfl ?_
                      refine w_iast gz_98_243 is_96 rd_30 (by omega) (by omega) (by omega) (by omega) (fun h108 fh108 => ?_)
                      have gh108 : my_fr [(2, 11), (7, 0), (7, 1), (7, 2), (7, 3), (7, 4), (7, 5), (8, 0), (8, 1), (30, -1), (42, -1), (43, -1), (44, -1)] h h108 := my_fr.up gh_174_0 is_96 fh108 rfl
                      have Lst_h108 : Lst h108 := Lst_ag (my_ag.up fh108 is_96 rfl) n_Lst_174_0
                      have Ln_h108 : Ln h108 := Ln_ag (my_ag.up fh108 is_96 rfl) n_Ln_174_0
                      refine w_iload gz_98_244 rfl ?_
                      refine w_ifeq (t := 275) gz_98_246 rfl (fun u109 => ?_) (fun u109 => ?_)
                      ·
                        exact J275_0 (z174_l2) (p174_0) (v93) (v95) (v97) (v16) h108 (gh108) (by omega) (by omega) (by omega) (by omega) (by omega) (by omega) (by omega) (by omega) (by omega) (by omega) (by omega) (by omega) (by omega) (by omega) (by omega) (((my_up_role fh108 is_111 is_96 rfl).trans ev93.symm).trans (by omega)) (((my_up_role fh108 is_111 is_96 rfl).trans ev95.symm).trans (by omega)) (((my_up_role fh108 is_111 is_96 rfl).trans ev97.symm).trans (by omega)) (((my_up_role fh108 is_94 is_96 rfl).trans ev16.symm).trans (by omega)) Lst_h108 Ln_h108
                      ·
                        refine w_aload_n gz_98_249 rfl ?_
                        refine w_getX (v := 106) gz_98_250 is_94 rd_2 rfl (by decide) rfl ?_
                        refine w_aload_n gz_98_253 rfl ?_
                        refine w_getX (v := 27) gz_98_254 is_94 rd_2 rfl (by decide) rfl ?_
                        refine w_iload_n gz_98_257 rfl ?_
                        refine w_aload_n gz_98_258 rfl ?_
                        refine w_getX (v := 95) gz_98_259 is_94 rd_2 rfl (by decide) rfl ?_
                        refine w_inv (k := 4) (as := [(2, 95), (0, x1), (2, 27)]) (r := []) (x := 106) (ls0 := [(2, 106), (2, 27), (0, x1), (2, 95), (9, 0), (9, 0), (9, 0), (9, 0)]) gz_98_262 gm_67 rfl is_106 rd_8 rfl rfl rfl rfl rfl (c_View_show (d := d) (x0 := 106) (x2 := x1) (x3 := 95) is_106 (by omega) (by omega) (by omega) (by omega) is_95 Ln_h108 (by first | assumption | omega) (fun h113 v114 frh113 fxh113 w115 xp116 => ?_))
                        have gh113 : my_fr [(2, 11), (7, 0), (7, 1), (7, 2), (7, 3), (7, 4), (7, 5), (8, 0), (8, 1), (30, -1), (42, -1), (43, -1), (44, -1)] h h113 := my_fr.tr gh108 (frh113.mo rfl)
                        have Lst_h113 : Lst h113 := Lst_ag (my_ag.fr frh113 rfl) Lst_h108
                        have Ln_h113 : Ln h113 := Ln_ag (my_ag.fr frh113 rfl) Ln_h108
                        show wp l rho (d + 4) 98 265 [(2, 94), (0, x1), (1, z174_l2), (9, 0), (2, r18_0), (0, p18_1), (0, p18_2), (0, p174_0), (0, p174_1), (0, p174_2)] [(2, v114)] h113 Q
                        refine w_aload_n gz_98_265 rfl ?_
                        refine w_getX (v := 102) gz_98_266 is_94 rd_2 rfl (by decide) rfl ?_
                        refine w_inv (k := 1) (as := [(2, 102)]) (r := []) (x := v114) (ls0 := [(2, v114), (2, 102), (9, 0)]) gz_98_269 gm_93 rfl w115 rd_8 rfl rfl rfl rfl rfl (c_View_same (d := (d + 2)) (x0 := v114) (x1 := 102) w115 is_102 ?_ ?_)
                        ·
                          show wp l rho (d + 4) 98 272 [(2, 94), (0, x1), (1, z174_l2), (9, 0), (2, r18_0), (0, p18_1), (0, p18_2), (0, p174_0), (0, p174_1), (0, p174_2)] [(0, 0)] h113 Q
                          refine w_ifeq (t := 290) gz_98_272 rfl (fun u118 => ?_) (fun u118 => by exfalso; omega)
                          exact J290_0 (z174_l2) (p174_0) (v16) h113 (gh113) (by omega) (by omega) (by omega) (by omega) (by omega) (by omega) (by omega) (by omega) (by omega) (((my_fr.at frh113 is_94 rfl).trans ((my_up_role fh108 is_94 is_96 rfl).trans ev16.symm)).trans (by omega)) Lst_h113 Ln_h113
                        ·
                          show wp l rho (d + 4) 98 272 [(2, 94), (0, x1), (1, z174_l2), (9, 0), (2, r18_0), (0, p18_1), (0, p18_2), (0, p174_0), (0, p174_1), (0, p174_2)] [(0, 1)] h113 Q
                          refine w_ifeq (t := 290) gz_98_272 rfl (fun u119 => by exfalso; omega) (fun u119 => ?_)
                          exact J275_0 (z174_l2) (p174_0) (v93) (v95) (v97) (v16) h113 (gh113) (by omega) (by omega) (by omega) (by omega) (by omega) (by omega) (by omega) (by omega) (by omega) (by omega) (by omega) (by omega) (by omega) (by omega) (by omega) (((my_fr.at frh113 is_111 rfl).trans ((my_up_role fh108 is_111 is_96 rfl).trans ev93.symm)).trans (by omega)) (((my_fr.at frh113 is_111 rfl).trans ((my_up_role fh108 is_111 is_96 rfl).trans ev95.symm)).trans (by omega)) (((my_fr.at frh113 is_111 rfl).trans ((my_up_role fh108 is_111 is_96 rfl).trans ev97.symm)).trans (by omega)) (((my_fr.at frh113 is_94 rfl).trans ((my_up_role fh108 is_94 is_96 rfl).trans ev16.symm)).trans (by omega)) Lst_h113 Ln_h113
                ·
                  refine w_iconst gz_100_29 (by decide) ?_
                  refine w_goto (t := 34) gz_100_30 rfl ?_
                  refine w_bret gz_100_34 gm_100 (by omega) (by omega) ?_
                  show wp l rho (d + 4) 98 185 [(2, 94), (0, x1), (1, z174_l2), (9, 0), (2, r18_0), (0, p18_1), (0, p18_2), (0, p174_0), (0, p174_1), (0, p174_2)] [(0, 1)] h174_0 Q
                  refine w_ifne (t := 296) gz_98_185 rfl (fun u120 => ?_) (fun u120 => by exfalso; omega)
                  exact J296_0 (z174_l2) (p174_0) (p174_1) (p174_2) (v16) h174_0 (gh_174_0) (by omega) (by omega) (by omega) (by omega) (by omega) (by omega) (by omega) (by omega) (by omega) (ev16.symm.trans (by omega)) n_Lst_174_0 n_Ln_174_0
      have J133_1 : ∀ (z133_l2 p133_0 p133_1 p133_2 p133_3 : Int) (h133_1 : my_H), my_fr [(2, 11), (7, 0), (7, 1), (7, 2), (7, 3), (7, 4), (7, 5), (8, 0), (8, 1), (30, -1), (42, -1), (43, -1), (44, -1)] h h133_1 → p18_2 ≤ 239 → 0 ≤ p133_3 → p133_3 ≤ 1 → 0 ≤ p133_0 → p133_0 ≤ 2 → 0 ≤ p133_1 → p133_1 ≤ 19 → 0 ≤ p133_2 → p133_2 ≤ 3 → h133_1 111 2 = p133_0 → h133_1 111 3 = p133_1 → h133_1 111 4 = p133_2 → h133_1 94 13 = p133_3 → Lst h133_1 → Ln h133_1 → wp l rho (d + 4) 98 133 [(2, 94), (0, x1), (1, z133_l2), (9, 0), (2, r18_0), (0, p18_1), (0, p18_2), (9, 0), (9, 0), (9, 0)] [(0, 1)] h133_1 Q := by
        intro z133_l2 p133_0 p133_1 p133_2 p133_3 h133_1 gh_133_1 q0_133_1 q1_133_1 q2_133_1 q3_133_1 q4_133_1 q5_133_1 q6_133_1 q7_133_1 q8_133_1 c111_2_133_1 c111_3_133_1 c111_4_133_1 c94_13_133_1 n_Lst_133_1 n_Ln_133_1
        refine w_istore (ls' := [(2, 94), (0, x1), (1, z133_l2), (9, 0), (2, r18_0), (0, p18_1), (0, p18_2), (0, 1), (9, 0), (9, 0)]) gz_98_133 gm_98 rfl rfl rfl ?_
        refine w_aload_n gz_98_135 rfl ?_
        refine w_aload gz_98_136 rfl ?_
        refine w_inv (k := 0) (as := [(2, r18_0)]) (r := []) (x := 94) (ls0 := [(2, 94), (2, r18_0)]) gz_98_138 gm_101 rfl is_94 rd_2 rfl rfl rfl rfl rfl (c_Desk_isChangeable (d := (d + 2)) (x1 := r18_0) tr18_0_18_0 (by first | assumption | omega) ?_ ?_)
        ·
          show wp l rho (d + 4) 98 141 [(2, 94), (0, x1), (1, z133_l2), (9, 0), (2, r18_0), (0, p18_1), (0, p18_2), (0, 1), (9, 0), (9, 0)] [(0, 0)] h133_1 Q
          refine w_ifeq (t := 308) gz_98_141 rfl (fun u121 => ?_) (fun u121 => by exfalso; omega)
          refine w_iinc (ls' := [(2, 94), (0, x1), (1, z133_l2), (9, 0), (2, r18_0), (0, p18_1), (0, (p18_2 + 1)), (0, 1), (9, 0), (9, 0)]) gz_98_308 rfl gm_98 rfl rfl rfl ⟨by omega, by omega⟩ ?_
          refine w_goto (t := 18) gz_98_311 rfl ?_
          refine w_weak (ls' := [(2, 94), (0, x1), (1, z133_l2), (9, 0), (2, r18_0), (0, p18_1), (0, (p18_2 + 1)), (9, 0), (9, 0), (9, 0)]) (wk_e (wk_e (wk_e (wk_9 (wk_e (wk_e (wk_e (wk_9 (wk_9 (wk_9 wk_n)))))))))) ?_
          exact ih_18_0 (z133_l2) (r18_0) (p18_1) ((p18_2 + 1)) h133_1 (gh_133_1) tr18_0_18_0 (by omega) (by omega) n_Lst_133_1 n_Ln_133_1 (by omega)
        ·
          show wp l rho (d + 4) 98 141 [(2, 94), (0, x1), (1, z133_l2), (9, 0), (2, r18_0), (0, p18_1), (0, p18_2), (0, 1), (9, 0), (9, 0)] [(0, 1)] h133_1 Q
          refine w_ifeq (t := 308) gz_98_141 rfl (fun u122 => by exfalso; omega) (fun u122 => ?_)
          refine w_iload gz_98_144 rfl ?_
          refine w_ifne (t := 159) gz_98_146 rfl (fun u123 => ?_) (fun u123 => by exfalso; omega)
          refine w_aload_n gz_98_159 rfl ?_
          refine w_getX (v := 95) gz_98_160 is_94 rd_2 rfl (by decide) rfl ?_
          refine w_getX (v := 96) gz_98_163 is_95 rd_6 rfl (by decide) rfl ?_
          refine w_iload gz_98_166 rfl ?_
          refine w_iald gz_98_168 is_96 rd_30 (by omega) (by omega) (fun v126 ev126 pv126 qv126 => ?_)
          refine w_istore (ls' := [(2, 94), (0, x1), (1, z133_l2), (9, 0), (2, r18_0), (0, p18_1), (0, p18_2), (0, 1), (0, v126), (9, 0)]) gz_98_169 gm_98 rfl rfl rfl ?_
          refine w_iconst gz_98_171 (by decide) ?_
          refine w_istore (ls' := [(2, 94), (0, x1), (1, z133_l2), (9, 0), (2, r18_0), (0, p18_1), (0, p18_2), (0, 1), (0, v126), (0, 0)]) gz_98_172 gm_98 rfl rfl rfl ?_
          have ce127 : h133_1 111 2 = p133_0 := c111_2_133_1
          have ce128 : h133_1 111 3 = p133_1 := c111_3_133_1
          have ce129 : h133_1 111 4 = p133_2 := c111_4_133_1
          exact J174_0 21 (z133_l2) (1) (v126) (0) (p133_3) h133_1 (gh_133_1) (by omega) (by omega) (by omega) (by omega) (by omega) (by omega) (by omega) (by omega) (by omega) (c94_13_133_1.trans (by omega)) n_Lst_133_1 n_Ln_133_1 (by first | assumption | omega) (by first | assumption | omega) (by first | assumption | omega) (by omega)
      have J132_0 : ∀ (z132_l2 p132_0 p132_1 p132_2 p132_3 : Int) (h132_0 : my_H), my_fr [(2, 11), (7, 0), (7, 1), (7, 2), (7, 3), (7, 4), (7, 5), (8, 0), (8, 1), (30, -1), (42, -1), (43, -1), (44, -1)] h h132_0 → p18_2 ≤ 239 → 0 ≤ p132_3 → p132_3 ≤ 1 → 0 ≤ p132_0 → p132_0 ≤ 2 → 0 ≤ p132_1 → p132_1 ≤ 19 → 0 ≤ p132_2 → p132_2 ≤ 3 → h132_0 111 2 = p132_0 → h132_0 111 3 = p132_1 → h132_0 111 4 = p132_2 → h132_0 94 13 = p132_3 → Lst h132_0 → Ln h132_0 → wp l rho (d + 4) 98 132 [(2, 94), (0, x1), (1, z132_l2), (9, 0), (2, r18_0), (0, p18_1), (0, p18_2), (9, 0), (9, 0), (9, 0)] [] h132_0 Q := by
        intro z132_l2 p132_0 p132_1 p132_2 p132_3 h132_0 gh_132_0 q0_132_0 q1_132_0 q2_132_0 q3_132_0 q4_132_0 q5_132_0 q6_132_0 q7_132_0 q8_132_0 c111_2_132_0 c111_3_132_0 c111_4_132_0 c94_13_132_0 n_Lst_132_0 n_Ln_132_0
        refine w_iconst gz_98_132 (by decide) ?_
        refine w_istore (ls' := [(2, 94), (0, x1), (1, z132_l2), (9, 0), (2, r18_0), (0, p18_1), (0, p18_2), (0, 0), (9, 0), (9, 0)]) gz_98_133 gm_98 rfl rfl rfl ?_
        refine w_aload_n gz_98_135 rfl ?_
        refine w_aload gz_98_136 rfl ?_
        refine w_inv (k := 0) (as := [(2, r18_0)]) (r := []) (x := 94) (ls0 := [(2, 94), (2, r18_0)]) gz_98_138 gm_101 rfl is_94 rd_2 rfl rfl rfl rfl rfl (c_Desk_isChangeable (d := (d + 2)) (x1 := r18_0) tr18_0_18_0 (by first | assumption | omega) ?_ ?_)
        ·
          show wp l rho (d + 4) 98 141 [(2, 94), (0, x1), (1, z132_l2), (9, 0), (2, r18_0), (0, p18_1), (0, p18_2), (0, 0), (9, 0), (9, 0)] [(0, 0)] h132_0 Q
          refine w_ifeq (t := 308) gz_98_141 rfl (fun u130 => ?_) (fun u130 => by exfalso; omega)
          exact J308_0 (z132_l2) (p132_0) (p132_1) (p132_2) (p132_3) h132_0 (gh_132_0) (by omega) (by omega) (by omega) (by omega) (by omega) (by omega) (by omega) (by omega) (by omega) (c111_2_132_0.trans (by omega)) (c111_3_132_0.trans (by omega)) (c111_4_132_0.trans (by omega)) (c94_13_132_0.trans (by omega)) n_Lst_132_0 n_Ln_132_0
        ·
          show wp l rho (d + 4) 98 141 [(2, 94), (0, x1), (1, z132_l2), (9, 0), (2, r18_0), (0, p18_1), (0, p18_2), (0, 0), (9, 0), (9, 0)] [(0, 1)] h132_0 Q
          refine w_ifeq (t := 308) gz_98_141 rfl (fun u131 => by exfalso; omega) (fun u131 => ?_)
          refine w_iload gz_98_144 rfl ?_
          refine w_ifne (t := 159) gz_98_146 rfl (fun u132 => by exfalso; omega) (fun u132 => ?_)
          refine w_aload_n gz_98_149 rfl ?_
          refine v_getI (j := 14) gz_98_150 rfl is_94 rd_2 rfl (fun v133 ev133 pv133 qv133 => ?_)
          refine w_ifne (t := 159) gz_98_153 rfl (fun u134 => ?_) (fun u134 => ?_)
          ·
            refine w_aload_n gz_98_159 rfl ?_
            refine w_getX (v := 95) gz_98_160 is_94 rd_2 rfl (by decide) rfl ?_
            refine w_getX (v := 96) gz_98_163 is_95 rd_6 rfl (by decide) rfl ?_
            refine w_iload gz_98_166 rfl ?_
            refine w_iald gz_98_168 is_96 rd_30 (by omega) (by omega) (fun v137 ev137 pv137 qv137 => ?_)
            refine w_istore (ls' := [(2, 94), (0, x1), (1, z132_l2), (9, 0), (2, r18_0), (0, p18_1), (0, p18_2), (0, 0), (0, v137), (9, 0)]) gz_98_169 gm_98 rfl rfl rfl ?_
            refine w_iconst gz_98_171 (by decide) ?_
            refine w_istore (ls' := [(2, 94), (0, x1), (1, z132_l2), (9, 0), (2, r18_0), (0, p18_1), (0, p18_2), (0, 0), (0, v137), (0, 0)]) gz_98_172 gm_98 rfl rfl rfl ?_
            have ce138 : h132_0 111 2 = p132_0 := c111_2_132_0
            have ce139 : h132_0 111 3 = p132_1 := c111_3_132_0
            have ce140 : h132_0 111 4 = p132_2 := c111_4_132_0
            exact J174_0 21 (z132_l2) (0) (v137) (0) (p132_3) h132_0 (gh_132_0) (by omega) (by omega) (by omega) (by omega) (by omega) (by omega) (by omega) (by omega) (by omega) (c94_13_132_0.trans (by omega)) n_Lst_132_0 n_Ln_132_0 (by first | assumption | omega) (by first | assumption | omega) (by first | assumption | omega) (by omega)
          ·
            refine w_goto (t := 308) gz_98_156 rfl ?_
            exact J308_0 (z132_l2) (p132_0) (p132_1) (p132_2) (p132_3) h132_0 (gh_132_0) (by omega) (by omega) (by omega) (by omega) (by omega) (by omega) (by omega) (by omega) (by omega) (c111_2_132_0.trans (by omega)) (c111_3_132_0.trans (by omega)) (c111_4_132_0.trans (by omega)) (c94_13_132_0.trans (by omega)) n_Lst_132_0 n_Ln_132_0
      refine w_iload gz_98_18 rfl ?_
      refine w_aload_n gz_98_20 rfl ?_
      refine w_getX (v := 95) gz_98_21 is_94 rd_2 rfl (by decide) rfl ?_
      refine w_getX (v := 96) gz_98_24 is_95 rd_6 rfl (by decide) rfl ?_
      refine v_alen (j := 240) gz_98_27 rfl is_96 rd_30 (by decide) ?_
      refine w_icge (t := 314) gz_98_28 rfl (fun u143 => ?_) (fun u143 => ?_)
      ·
        exact w_vret gz_98_314 gm_98 (k0 h18_0 (gh_18_0) n_Lst_18_0)
      ·
        refine w_aload_n gz_98_31 rfl ?_
        refine w_inv (k := 0) (as := []) (r := []) (x := 94) (ls0 := [(2, 94)]) gz_98_32 gm_100 rfl is_94 rd_2 rfl rfl rfl rfl rfl ?_
        refine w_aload_n gz_100_0 rfl ?_
        refine v_getI (j := 13) gz_100_1 rfl is_94 rd_2 rfl (fun v144 ev144 pv144 qv144 => ?_)
        refine w_ifeq (t := 33) gz_100_4 rfl (fun u145 => ?_) (fun u145 => ?_)
        ·
          refine w_iconst gz_100_33 (by decide) ?_
          refine w_bret gz_100_34 gm_100 (by omega) (by omega) ?_
          show wp l rho (d + 4) 98 35 [(2, 94), (0, x1), (1, z18_l2), (9, 0), (2, r18_0), (0, p18_1), (0, p18_2), (9, 0), (9, 0), (9, 0)] [(0, 0)] h18_0 Q
          refine w_ifne (t := 314) gz_98_35 rfl (fun u146 => by exfalso; omega) (fun u146 => ?_)
          refine w_aload_n gz_98_38 rfl ?_
          refine w_getX (v := 111) gz_98_39 is_94 rd_2 rfl (by decide) rfl ?_
          refine w_iload gz_98_42 rfl ?_
          refine w_iconst gz_98_44 (by decide) ?_
          refine w_idiv gz_98_45 (by omega) (by decide) ?_
          refine w_bipush gz_98_46 (by decide) ?_
          refine w_idiv gz_98_48 (by omega) (by decide) ?_
          refine v_putI (j := 2) gz_98_49 rfl is_111 rd_7 rfl (by omega) (by omega) rfl (fun h148 fh148 => ?_)
          have gh148 : my_fr [(2, 11), (7, 0), (7, 1), (7, 2), (7, 3), (7, 4), (7, 5), (8, 0), (8, 1), (30, -1), (42, -1), (43, -1), (44, -1)] h h148 := my_fr.up gh_18_0 is_111 fh148 rfl
          have Lst_h148 : Lst h148 := Lst_ne fh148 (by decide) n_Lst_18_0
          have Ln_h148 : Ln h148 := Ln_ag (my_ag.up fh148 is_111 rfl) n_Ln_18_0
          refine w_aload_n gz_98_52 rfl ?_
          refine w_getX (v := 111) gz_98_53 is_94 rd_2 rfl (by decide) rfl ?_
          refine w_iload gz_98_56 rfl ?_
          refine w_iconst gz_98_58 (by decide) ?_
          refine w_idiv gz_98_59 (by omega) (by decide) ?_
          refine w_bipush gz_98_60 (by decide) ?_
          refine w_irem gz_98_62 (by omega) (by decide) ?_
          refine v_putI (j := 3) gz_98_63 rfl is_111 rd_7 rfl (by omega) (by omega) rfl (fun h150 fh150 => ?_)
          have gh150 : my_fr [(2, 11), (7, 0), (7, 1), (7, 2), (7, 3), (7, 4), (7, 5), (8, 0), (8, 1), (30, -1), (42, -1), (43, -1), (44, -1)] h h150 := my_fr.up gh148 is_111 fh150 rfl
          have Lst_h150 : Lst h150 := Lst_ne fh150 (by decide) Lst_h148
          have Ln_h150 : Ln h150 := Ln_ag (my_ag.up fh150 is_111 rfl) Ln_h148
          refine w_aload_n gz_98_66 rfl ?_
          refine w_getX (v := 111) gz_98_67 is_94 rd_2 rfl (by decide) rfl ?_
          refine w_iload gz_98_70 rfl ?_
          refine w_iconst gz_98_72 (by decide) ?_
          refine w_irem gz_98_73 (by omega) (by decide) ?_
          refine v_putI (j := 4) gz_98_74 rfl is_111 rd_7 rfl (by omega) (by omega) rfl (fun h152 fh152 => ?_)
          have gh152 : my_fr [(2, 11), (7, 0), (7, 1), (7, 2), (7, 3), (7, 4), (7, 5), (8, 0), (8, 1), (30, -1), (42, -1), (43, -1), (44, -1)] h h152 := my_fr.up gh150 is_111 fh152 rfl
          have Lst_h152 : Lst h152 := Lst_ne fh152 (by decide) Lst_h150
          have Ln_h152 : Ln h152 := Ln_ag (my_ag.up fh152 is_111 rfl) Ln_h150
          refine w_iload gz_98_77 rfl ?_
          refine w_i2l gz_98_79 ?_
          refine w_aload_n gz_98_80 rfl ?_
          refine w_getX (v := 111) gz_98_81 is_94 rd_2 rfl (by decide) rfl ?_
          refine v_getI (j := 2) gz_98_84 rfl is_111 rd_7 rfl (fun v154 ev154 pv154 qv154 => ?_)
          have zv154 := ev154.trans ((my_up_fld fh152 (by decide)).trans ((my_up_fld fh150 (by decide)).trans (my_up_self fh148)))
          refine w_aload_n gz_98_87 rfl ?_
          refine w_getX (v := 111) gz_98_88 is_94 rd_2 rfl (by decide) rfl ?_
          refine v_getI (j := 4) gz_98_91 rfl is_111 rd_7 rfl (fun v156 ev156 pv156 qv156 => ?_)
          have zv156 := ev156.trans (my_up_self fh152)
          refine w_inS (k := 0) (as := [(0, v156), (0, v154)]) (r := [(1, p18_1)]) (ls0 := [(0, v154), (0, v156)]) gz_98_94 gm_29 rfl rfl rfl rfl rfl rfl ?_
          refine w_iload_n gz_29_0 rfl ?_
          refine w_iconst gz_29_1 (by decide) ?_
          refine w_imul gz_29_2 ⟨by omega, by omega⟩ ?_
          refine w_iload_n gz_29_3 rfl ?_
          refine w_iadd gz_29_4 ⟨by omega, by omega⟩ ?_
          refine w_iret gz_29_5 gm_29 ?_
          show wp l rho (d + 4) 98 97 [(2, 94), (0, x1), (1, z18_l2), (9, 0), (2, r18_0), (0, p18_1), (0, p18_2), (9, 0), (9, 0), (9, 0)] [(0, ((v154 * 4) + v156)), (1, p18_1)] h152 Q
          refine w_inS (k := 0) (as := [(0, ((v154 * 4) + v156)), (1, p18_1)]) (r := []) (ls0 := [(1, p18_1), (9, 0), (0, ((v154 * 4) + v156))]) gz_98_97 gm_69 rfl rfl rfl rfl rfl rfl ?_
          refine w_lload_n gz_69_0 rfl ?_
          refine w_iload_n gz_69_1 rfl ?_
          refine w_jshf gz_69_2 (fun _ => rfl) rfl (fun v157 pv157 => ?_)
          refine w_lconst gz_69_3 ?_
          refine w_jany2 gz_69_4 (fun _ => rfl) rfl (fun v158 pv158 => ?_)
          refine w_lconst gz_69_5 ?_
          refine w_lcmp gz_69_6 (fun v159 pv159 qv159 => ?_)
          refine w_ifeq (t := 14) gz_69_7 rfl (fun u160 => ?_) (fun u160 => ?_)
          ·
            refine w_iconst gz_69_14 (by decide) ?_
            refine w_bret gz_69_15 gm_69 (by omega) (by omega) ?_
            show wp l rho (d + 4) 98 100 [(2, 94), (0, x1), (1, z18_l2), (9, 0), (2, r18_0), (0, p18_1), (0, p18_2), (9, 0), (9, 0), (9, 0)] [(0, 0)] h152 Q
            refine w_ifeq (t := 132) gz_98_100 rfl (fun u161 => ?_) (fun u161 => by exfalso; omega)
            exact J132_0 (z18_l2) (v154) (((p18_2 / 4) % 20)) (v156) (v144) h152 (gh152) (by omega) (by omega) (by omega) (by omega) (by omega) (by omega) (by omega) (by omega) (by omega) (ev154.symm.trans (by omega)) (((my_up_fld fh152 (by decide)).trans (my_up_self fh150)).trans (by omega)) (ev156.symm.trans (by omega)) (((my_up_role fh152 is_94 is_111 rfl).trans ((my_up_role fh150 is_94 is_111 rfl).trans ((my_up_role fh148 is_94 is_111 rfl).trans ev144.symm))).trans (by omega)) Lst_h152 Ln_h152
          ·
            refine w_iconst gz_69_10 (by decide) ?_
            refine w_goto (t := 15) gz_69_11 rfl ?_
            refine w_bret gz_69_15 gm_69 (by omega) (by omega) ?_
            show wp l rho (d + 4) 98 100 [(2, 94), (0, x1), (1, z18_l2), (9, 0), (2, r18_0), (0, p18_1), (0, p18_2), (9, 0), (9, 0), (9, 0)] [(0, 1)] h152 Q
            refine w_ifeq (t := 132) gz_98_100 rfl (fun u162 => by exfalso; omega) (fun u162 => ?_)
            refine w_lload_n gz_98_103 rfl ?_
            refine w_aload_n gz_98_104 rfl ?_
            refine w_getX (v := 111) gz_98_105 is_94 rd_2 rfl (by decide) rfl ?_
            refine v_getI (j := 2) gz_98_108 rfl is_111 rd_7 rfl (fun v164 ev164 pv164 qv164 => ?_)
            have zv164 := ev164.trans ev154.symm
            refine w_bipush gz_98_111 (by decide) ?_
            refine w_imul gz_98_113 ⟨by omega, by omega⟩ ?_
            refine w_aload_n gz_98_114 rfl ?_
            refine w_getX (v := 111) gz_98_115 is_94 rd_2 rfl (by decide) rfl ?_
            refine v_getI (j := 3) gz_98_118 rfl is_111 rd_7 rfl (fun v166 ev166 pv166 qv166 => ?_)
            have zv166 := ev166.trans ((my_up_fld fh152 (by decide)).trans (my_up_self fh150))
            refine w_iadd gz_98_121 ⟨by omega, by omega⟩ ?_
            refine w_inS (k := 0) (as := [(0, ((v164 * 20) + v166)), (1, z18_l2)]) (r := []) (ls0 := [(1, z18_l2), (9, 0), (0, ((v164 * 20) + v166))]) gz_98_122 gm_69 rfl rfl rfl rfl rfl rfl ?_
            refine w_lload_n gz_69_0 rfl ?_
            refine w_iload_n gz_69_1 rfl ?_
            refine w_jshf gz_69_2 (fun _ => rfl) rfl (fun v167 pv167 => ?_)
            refine w_lconst gz_69_3 ?_
            refine w_jany2 gz_69_4 (fun _ => rfl) rfl (fun v168 pv168 => ?_)
            refine w_lconst gz_69_5 ?_
            refine w_lcmp gz_69_6 (fun v169 pv169 qv169 => ?_)
            refine w_ifeq (t := 14) gz_69_7 rfl (fun u170 => ?_) (fun u170 => ?_)
            ·
              refine w_iconst gz_69_14 (by decide) ?_
              refine w_bret gz_69_15 gm_69 (by omega) (by omega) ?_
              show wp l rho (d + 4) 98 125 [(2, 94), (0, x1), (1, z18_l2), (9, 0), (2, r18_0), (0, p18_1), (0, p18_2), (9, 0), (9, 0), (9, 0)] [(0, 0)] h152 Q
              refine w_ifeq (t := 132) gz_98_125 rfl (fun u171 => ?_) (fun u171 => by exfalso; omega)
              exact J132_0 (z18_l2) (v164) (v166) (v156) (v144) h152 (gh152) (by omega) (by omega) (by omega) (by omega) (by omega) (by omega) (by omega) (by omega) (by omega) (ev164.symm.trans (by omega)) (ev166.symm.trans (by omega)) (ev156.symm.trans (by omega)) (((my_up_role fh152 is_94 is_111 rfl).trans ((my_up_role fh150 is_94 is_111 rfl).trans ((my_up_role fh148 is_94 is_111 rfl).trans ev144.symm))).trans (by omega)) Lst_h152 Ln_h152
            ·
              refine w_iconst gz_69_10 (by decide) ?_
              refine w_goto (t := 15) gz_69_11 rfl ?_
              refine w_bret gz_69_15 gm_69 (by omega) (by omega) ?_
              show wp l rho (d + 4) 98 125 [(2, 94), (0, x1), (1, z18_l2), (9, 0), (2, r18_0), (0, p18_1), (0, p18_2), (9, 0), (9, 0), (9, 0)] [(0, 1)] h152 Q
              refine w_ifeq (t := 132) gz_98_125 rfl (fun u172 => by exfalso; omega) (fun u172 => ?_)
              refine w_iconst gz_98_128 (by decide) ?_
              refine w_goto (t := 133) gz_98_129 rfl ?_
              exact J133_1 (z18_l2) (v164) (v166) (v156) (v144) h152 (gh152) (by omega) (by omega) (by omega) (by omega) (by omega) (by omega) (by omega) (by omega) (by omega) (ev164.symm.trans (by omega)) (ev166.symm.trans (by omega)) (ev156.symm.trans (by omega)) (((my_up_role fh152 is_94 is_111 rfl).trans ((my_up_role fh150 is_94 is_111 rfl).trans ((my_up_role fh148 is_94 is_111 rfl).trans ev144.symm))).trans (by omega)) Lst_h152 Ln_h152
        ·
          refine w_aload_n gz_100_7 rfl ?_
          refine w_getX (v := 112) gz_100_8 is_94 rd_2 rfl (by decide) rfl ?_
          refine v_getI (j := 0) gz_100_11 rfl is_112 rd_7 rfl (fun v174 ev174 pv174 qv174 => ?_)
          refine w_iconst gz_100_14 (by decide) ?_
          refine w_iceq (t := 33) gz_100_15 rfl (fun u175 => ?_) (fun u175 => ?_)
          ·
            refine w_iconst gz_100_33 (by decide) ?_
            refine w_bret gz_100_34 gm_100 (by omega) (by omega) ?_
            show wp l rho (d + 4) 98 35 [(2, 94), (0, x1), (1, z18_l2), (9, 0), (2, r18_0), (0, p18_1), (0, p18_2), (9, 0), (9, 0), (9, 0)] [(0, 0)] h18_0 Q
            refine w_ifne (t := 314) gz_98_35 rfl (fun u176 => by exfalso; omega) (fun u176 => ?_)
            refine w_aload_n gz_98_38 rfl ?_
            refine w_getX (v := 111) gz_98_39 is_94 rd_2 rfl (by decide) rfl ?_
            refine w_iload gz_98_42 rfl ?_
            refine w_iconst gz_98_44 (by decide) ?_
            refine w_idiv gz_98_45 (by omega) (by decide) ?_
            refine w_bipush gz_98_46 (by decide) ?_
            refine w_idiv gz_98_48 (by omega) (by decide) ?_
            refine v_putI (j := 2) gz_98_49 rfl is_111 rd_7 rfl (by omega) (by omega) rfl (fun h178 fh178 => ?_)
            have gh178 : my_fr [(2, 11), (7, 0), (7, 1), (7, 2), (7, 3), (7, 4), (7, 5), (8, 0), (8, 1), (30, -1), (42, -1), (43, -1), (44, -1)] h h178 := my_fr.up gh_18_0 is_111 fh178 rfl
            have Lst_h178 : Lst h178 := Lst_ne fh178 (by decide) n_Lst_18_0
            have Ln_h178 : Ln h178 := Ln_ag (my_ag.up fh178 is_111 rfl) n_Ln_18_0
            refine w_aload_n gz_98_52 rfl ?_
            refine w_getX (v := 111) gz_98_53 is_94 rd_2 rfl (by decide) rfl ?_
            refine w_iload gz_98_56 rfl ?_
            refine w_iconst gz_98_58 (by decide) ?_
            refine w_idiv gz_98_59 (by omega) (by decide) ?_
            refine w_bipush gz_98_60 (by decide) ?_
            refine w_irem gz_98_62 (by omega) (by decide) ?_
            refine v_putI (j := 3) gz_98_63 rfl is_111 rd_7 rfl (by omega) (by omega) rfl (fun h180 fh180 => ?_)
            have gh180 : my_fr [(2, 11), (7, 0), (7, 1), (7, 2), (7, 3), (7, 4), (7, 5), (8, 0), (8, 1), (30, -1), (42, -1), (43, -1), (44, -1)] h h180 := my_fr.up gh178 is_111 fh180 rfl
            have Lst_h180 : Lst h180 := Lst_ne fh180 (by decide) Lst_h178
            have Ln_h180 : Ln h180 := Ln_ag (my_ag.up fh180 is_111 rfl) Ln_h178
            refine w_aload_n gz_98_66 rfl ?_
            refine w_getX (v := 111) gz_98_67 is_94 rd_2 rfl (by decide) rfl ?_
            refine w_iload gz_98_70 rfl ?_
            refine w_iconst gz_98_72 (by decide) ?_
            refine w_irem gz_98_73 (by omega) (by decide) ?_
            refine v_putI (j := 4) gz_98_74 rfl is_111 rd_7 rfl (by omega) (by omega) rfl (fun h182 fh182 => ?_)
            have gh182 : my_fr [(2, 11), (7, 0), (7, 1), (7, 2), (7, 3), (7, 4), (7, 5), (8, 0), (8, 1), (30, -1), (42, -1), (43, -1), (44, -1)] h h182 := my_fr.up gh180 is_111 fh182 rfl
            have Lst_h182 : Lst h182 := Lst_ne fh182 (by decide) Lst_h180
            have Ln_h182 : Ln h182 := Ln_ag (my_ag.up fh182 is_111 rfl) Ln_h180
            refine w_iload gz_98_77 rfl ?_
            refine w_i2l gz_98_79 ?_
            refine w_aload_n gz_98_80 rfl ?_
            refine w_getX (v := 111) gz_98_81 is_94 rd_2 rfl (by decide) rfl ?_
            refine v_getI (j := 2) gz_98_84 rfl is_111 rd_7 rfl (fun v184 ev184 pv184 qv184 => ?_)
            have zv184 := ev184.trans ((my_up_fld fh182 (by decide)).trans ((my_up_fld fh180 (by decide)).trans (my_up_self fh178)))
            refine w_aload_n gz_98_87 rfl ?_
            refine w_getX (v := 111) gz_98_88 is_94 rd_2 rfl (by decide) rfl ?_
            refine v_getI (j := 4) gz_98_91 rfl is_111 rd_7 rfl (fun v186 ev186 pv186 qv186 => ?_)
            have zv186 := ev186.trans (my_up_self fh182)
            refine w_inS (k := 0) (as := [(0, v186), (0, v184)]) (r := [(1, p18_1)]) (ls0 := [(0, v184), (0, v186)]) gz_98_94 gm_29 rfl rfl rfl rfl rfl rfl ?_
            refine w_iload_n gz_29_0 rfl ?_
            refine w_iconst gz_29_1 (by decide) ?_
            refine w_imul gz_29_2 ⟨by omega, by omega⟩ ?_
            refine w_iload_n gz_29_3 rfl ?_
            refine w_iadd gz_29_4 ⟨by omega, by omega⟩ ?_
            refine w_iret gz_29_5 gm_29 ?_
            show wp l rho (d + 4) 98 97 [(2, 94), (0, x1), (1, z18_l2), (9, 0), (2, r18_0), (0, p18_1), (0, p18_2), (9, 0), (9, 0), (9, 0)] [(0, ((v184 * 4) + v186)), (1, p18_1)] h182 Q
            refine w_inS (k := 0) (as := [(0, ((v184 * 4) + v186)), (1, p18_1)]) (r := []) (ls0 := [(1, p18_1), (9, 0), (0, ((v184 * 4) + v186))]) gz_98_97 gm_69 rfl rfl rfl rfl rfl rfl ?_
            refine w_lload_n gz_69_0 rfl ?_
            refine w_iload_n gz_69_1 rfl ?_
            refine w_jshf gz_69_2 (fun _ => rfl) rfl (fun v187 pv187 => ?_)
            refine w_lconst gz_69_3 ?_
            refine w_jany2 gz_69_4 (fun _ => rfl) rfl (fun v188 pv188 => ?_)
            refine w_lconst gz_69_5 ?_
            refine w_lcmp gz_69_6 (fun v189 pv189 qv189 => ?_)
            refine w_ifeq (t := 14) gz_69_7 rfl (fun u190 => ?_) (fun u190 => ?_)
            ·
              refine w_iconst gz_69_14 (by decide) ?_
              refine w_bret gz_69_15 gm_69 (by omega) (by omega) ?_
              show wp l rho (d + 4) 98 100 [(2, 94), (0, x1), (1, z18_l2), (9, 0), (2, r18_0), (0, p18_1), (0, p18_2), (9, 0), (9, 0), (9, 0)] [(0, 0)] h182 Q
              refine w_ifeq (t := 132) gz_98_100 rfl (fun u191 => ?_) (fun u191 => by exfalso; omega)
              exact J132_0 (z18_l2) (v184) (((p18_2 / 4) % 20)) (v186) (v144) h182 (gh182) (by omega) (by omega) (by omega) (by omega) (by omega) (by omega) (by omega) (by omega) (by omega) (ev184.symm.trans (by omega)) (((my_up_fld fh182 (by decide)).trans (my_up_self fh180)).trans (by omega)) (ev186.symm.trans (by omega)) (((my_up_role fh182 is_94 is_111 rfl).trans ((my_up_role fh180 is_94 is_111 rfl).trans ((my_up_role fh178 is_94 is_111 rfl).trans ev144.symm))).trans (by omega)) Lst_h182 Ln_h182
            ·
              refine w_iconst gz_69_10 (by decide) ?_
              refine w_goto (t := 15) gz_69_11 rfl ?_
              refine w_bret gz_69_15 gm_69 (by omega) (by omega) ?_
              show wp l rho (d + 4) 98 100 [(2, 94), (0, x1), (1, z18_l2), (9, 0), (2, r18_0), (0, p18_1), (0, p18_2), (9, 0), (9, 0), (9, 0)] [(0, 1)] h182 Q
              refine w_ifeq (t := 132) gz_98_100 rfl (fun u192 => by exfalso; omega) (fun u192 => ?_)
              refine w_lload_n gz_98_103 rfl ?_
              refine w_aload_n gz_98_104 rfl ?_
              refine w_getX (v := 111) gz_98_105 is_94 rd_2 rfl (by decide) rfl ?_
              refine v_getI (j := 2) gz_98_108 rfl is_111 rd_7 rfl (fun v194 ev194 pv194 qv194 => ?_)
              have zv194 := ev194.trans ev184.symm
              refine w_bipush gz_98_111 (by decide) ?_
              refine w_imul gz_98_113 ⟨by omega, by omega⟩ ?_
              refine w_aload_n gz_98_114 rfl ?_
              refine w_getX (v := 111) gz_98_115 is_94 rd_2 rfl (by decide) rfl ?_
              refine v_getI (j := 3) gz_98_118 rfl is_111 rd_7 rfl (fun v196 ev196 pv196 qv196 => ?_)
              have zv196 := ev196.trans ((my_up_fld fh182 (by decide)).trans (my_up_self fh180))
              refine w_iadd gz_98_121 ⟨by omega, by omega⟩ ?_
              refine w_inS (k := 0) (as := [(0, ((v194 * 20) + v196)), (1, z18_l2)]) (r := []) (ls0 := [(1, z18_l2), (9, 0), (0, ((v194 * 20) + v196))]) gz_98_122 gm_69 rfl rfl rfl rfl rfl rfl ?_
              refine w_lload_n gz_69_0 rfl ?_
              refine w_iload_n gz_69_1 rfl ?_
              refine w_jshf gz_69_2 (fun _ => rfl) rfl (fun v197 pv197 => ?_)
              refine w_lconst gz_69_3 ?_
              refine w_jany2 gz_69_4 (fun _ => rfl) rfl (fun v198 pv198 => ?_)
              refine w_lconst gz_69_5 ?_
              refine w_lcmp gz_69_6 (fun v199 pv199 qv199 => ?_)
              refine w_ifeq (t := 14) gz_69_7 rfl (fun u200 => ?_) (fun u200 => ?_)
              ·
                refine w_iconst gz_69_14 (by decide) ?_
                refine w_bret gz_69_15 gm_69 (by omega) (by omega) ?_
                show wp l rho (d + 4) 98 125 [(2, 94), (0, x1), (1, z18_l2), (9, 0), (2, r18_0), (0, p18_1), (0, p18_2), (9, 0), (9, 0), (9, 0)] [(0, 0)] h182 Q
                refine w_ifeq (t := 132) gz_98_125 rfl (fun u201 => ?_) (fun u201 => by exfalso; omega)
                exact J132_0 (z18_l2) (v194) (v196) (v186) (v144) h182 (gh182) (by omega) (by omega) (by omega) (by omega) (by omega) (by omega) (by omega) (by omega) (by omega) (ev194.symm.trans (by omega)) (ev196.symm.trans (by omega)) (ev186.symm.trans (by omega)) (((my_up_role fh182 is_94 is_111 rfl).trans ((my_up_role fh180 is_94 is_111 rfl).trans ((my_up_role fh178 is_94 is_111 rfl).trans ev144.symm))).trans (by omega)) Lst_h182 Ln_h182
              ·
                refine w_iconst gz_69_10 (by decide) ?_
                refine w_goto (t := 15) gz_69_11 rfl ?_
                refine w_bret gz_69_15 gm_69 (by omega) (by omega) ?_
                show wp l rho (d + 4) 98 125 [(2, 94), (0, x1), (1, z18_l2), (9, 0), (2, r18_0), (0, p18_1), (0, p18_2), (9, 0), (9, 0), (9, 0)] [(0, 1)] h182 Q
                refine w_ifeq (t := 132) gz_98_125 rfl (fun u202 => by exfalso; omega) (fun u202 => ?_)
                refine w_iconst gz_98_128 (by decide) ?_
                refine w_goto (t := 133) gz_98_129 rfl ?_
                exact J133_1 (z18_l2) (v194) (v196) (v186) (v144) h182 (gh182) (by omega) (by omega) (by omega) (by omega) (by omega) (by omega) (by omega) (by omega) (by omega) (ev194.symm.trans (by omega)) (ev196.symm.trans (by omega)) (ev186.symm.trans (by omega)) (((my_up_role fh182 is_94 is_111 rfl).trans ((my_up_role fh180 is_94 is_111 rfl).trans ((my_up_role fh178 is_94 is_111 rfl).trans ev144.symm))).trans (by omega)) Lst_h182 Ln_h182
          ·
            refine w_aload_n gz_100_18 rfl ?_
            refine w_getX (v := 112) gz_100_19 is_94 rd_2 rfl (by decide) rfl ?_
            refine v_getI (j := 0) gz_100_22 rfl is_112 rd_7 rfl (fun v204 ev204 pv204 qv204 => ?_)
            have zv204 := ev204.trans ev174.symm
            refine w_iconst gz_100_25 (by decide) ?_
            refine w_icgt (t := 33) gz_100_26 rfl (fun u205 => ?_) (fun u205 => ?_)
            ·
              refine w_iconst gz_100_33 (by decide) ?_
              refine w_bret gz_100_34 gm_100 (by omega) (by omega) ?_
              show wp l rho (d + 4) 98 35 [(2, 94), (0, x1), (1, z18_l2), (9, 0), (2, r18_0), (0, p18_1), (0, p18_2), (9, 0), (9, 0), (9, 0)] [(0, 0)] h18_0 Q
              refine w_ifne (t := 314) gz_98_35 rfl (fun u206 => by exfalso; omega) (fun u206 => ?_)
              refine w_aload_n gz_98_38 rfl ?_
              refine w_getX (v := 111) gz_98_39 is_94 rd_2 rfl (by decide) rfl ?_
              refine w_iload gz_98_42 rfl ?_
              refine w_iconst gz_98_44 (by decide) ?_
              refine w_idiv gz_98_45 (by omega) (by decide) ?_
              refine w_bipush gz_98_46 (by decide) ?_
              refine w_idiv gz_98_48 (by omega) (by decide) ?_
              refine v_putI (j := 2) gz_98_49 rfl is_111 rd_7 rfl (by omega) (by omega) rfl (fun h208 fh208 => ?_)
              have gh208 : my_fr [(2, 11), (7, 0), (7, 1), (7, 2), (7, 3), (7, 4), (7, 5), (8, 0), (8, 1), (30, -1), (42, -1), (43, -1), (44, -1)] h h208 := my_fr.up gh_18_0 is_111 fh208 rfl
              have Lst_h208 : Lst h208 := Lst_ne fh208 (by decide) n_Lst_18_0
              have Ln_h208 : Ln h208 := Ln_ag (my_ag.up fh208 is_111 rfl) n_Ln_18_0
              refine w_aload_n gz_98_52 rfl ?_
              refine w_getX (v := 111) gz_98_53 is_94 rd_2 rfl (by decide) rfl ?_
              refine w_iload gz_98_56 rfl ?_
              refine w_iconst gz_98_58 (by decide) ?_
              refine w_idiv gz_98_59 (by omega) (by decide) ?_
              refine w_bipush gz_98_60 (by decide) ?_
              refine w_irem gz_98_62 (by omega) (by decide) ?_
              refine v_putI (j := 3) gz_98_63 rfl is_111 rd_7 rfl (by omega) (by omega) rfl (fun h210 fh210 => ?_)
              have gh210 : my_fr [(2, 11), (7, 0), (7, 1), (7, 2), (7, 3), (7, 4), (7, 5), (8, 0), (8, 1), (30, -1), (42, -1), (43, -1), (44, -1)] h h210 := my_fr.up gh208 is_111 fh210 rfl
              have Lst_h210 : Lst h210 := Lst_ne fh210 (by decide) Lst_h208
              have Ln_h210 : Ln h210 := Ln_ag (my_ag.up fh210 is_111 rfl) Ln_h208
              refine w_aload_n gz_98_66 rfl ?_
              refine w_getX (v := 111) gz_98_67 is_94 rd_2 rfl (by decide) rfl ?_
              refine w_iload gz_98_70 rfl ?_
              refine w_iconst gz_98_72 (by decide) ?_
              refine w_irem gz_98_73 (by omega) (by decide) ?_
              refine v_putI (j := 4) gz_98_74 rfl is_111 rd_7 rfl (by omega) (by omega) rfl (fun h212 fh212 => ?_)
              have gh212 : my_fr [(2, 11), (7, 0), (7, 1), (7, 2), (7, 3), (7, 4), (7, 5), (8, 0), (8, 1), (30, -1), (42, -1), (43, -1), (44, -1)] h h212 := my_fr.up gh210 is_111 fh212 rfl
              have Lst_h212 : Lst h212 := Lst_ne fh212 (by decide) Lst_h210
              have Ln_h212 : Ln h212 := Ln_ag (my_ag.up fh212 is_111 rfl) Ln_h210
              refine w_iload gz_98_77 rfl ?_
              refine w_i2l gz_98_79 ?_
              refine w_aload_n gz_98_80 rfl ?_
              refine w_getX (v := 111) gz_98_81 is_94 rd_2 rfl (by decide) rfl ?_
              refine v_getI (j := 2) gz_98_84 rfl is_111 rd_7 rfl (fun v214 ev214 pv214 qv214 => ?_)
              have zv214 := ev214.trans ((my_up_fld fh212 (by decide)).trans ((my_up_fld fh210 (by decide)).trans (my_up_self fh208)))
              refine w_aload_n gz_98_87 rfl ?_
              refine w_getX (v := 111) gz_98_88 is_94 rd_2 rfl (by decide) rfl ?_
              refine v_getI (j := 4) gz_98_91 rfl is_111 rd_7 rfl (fun v216 ev216 pv216 qv216 => ?_)
              have zv216 := ev216.trans (my_up_self fh212)
              refine w_inS (k := 0) (as := [(0, v216), (0, v214)]) (r := [(1, p18_1)]) (ls0 := [(0, v214), (0, v216)]) gz_98_94 gm_29 rfl rfl rfl rfl rfl rfl ?_
              refine w_iload_n gz_29_0 rfl ?_
              refine w_iconst gz_29_1 (by decide) ?_
              refine w_imul gz_29_2 ⟨by omega, by omega⟩ ?_
              refine w_iload_n gz_29_3 rfl ?_
              refine w_iadd gz_29_4 ⟨by omega, by omega⟩ ?_
              refine w_iret gz_29_5 gm_29 ?_
              show wp l rho (d + 4) 98 97 [(2, 94), (0, x1), (1, z18_l2), (9, 0), (2, r18_0), (0, p18_1), (0, p18_2), (9, 0), (9, 0), (9, 0)] [(0, ((v214 * 4) + v216)), (1, p18_1)] h212 Q
              refine w_inS (k := 0) (as := [(0, ((v214 * 4) + v216)), (1, p18_1)]) (r := []) (ls0 := [(1, p18_1), (9, 0), (0, ((v214 * 4) + v216))]) gz_98_97 gm_69 rfl rfl rfl rfl rfl rfl ?_
              refine w_lload_n gz_69_0 rfl ?_
              refine w_iload_n gz_69_1 rfl ?_
              refine w_jshf gz_69_2 (fun _ => rfl) rfl (fun v217 pv217 => ?_)
              refine w_lconst gz_69_3 ?_
              refine w_jany2 gz_69_4 (fun _ => rfl) rfl (fun v218 pv218 => ?_)
              refine w_lconst gz_69_5 ?_
              refine w_lcmp gz_69_6 (fun v219 pv219 qv219 => ?_)
              refine w_ifeq (t := 14) gz_69_7 rfl (fun u220 => ?_) (fun u220 => ?_)
              ·
                refine w_iconst gz_69_14 (by decide) ?_
                refine w_bret gz_69_15 gm_69 (by omega) (by omega) ?_
                show wp l rho (d + 4) 98 100 [(2, 94), (0, x1), (1, z18_l2), (9, 0), (2, r18_0), (0, p18_1), (0, p18_2), (9, 0), (9, 0), (9, 0)] [(0, 0)] h212 Q
                refine w_ifeq (t := 132) gz_98_100 rfl (fun u221 => ?_) (fun u221 => by exfalso; omega)
                exact J132_0 (z18_l2) (v214) (((p18_2 / 4) % 20)) (v216) (v144) h212 (gh212) (by omega) (by omega) (by omega) (by omega) (by omega) (by omega) (by omega) (by omega) (by omega) (ev214.symm.trans (by omega)) (((my_up_fld fh212 (by decide)).trans (my_up_self fh210)).trans (by omega)) (ev216.symm.trans (by omega)) (((my_up_role fh212 is_94 is_111 rfl).trans ((my_up_role fh210 is_94 is_111 rfl).trans ((my_up_role fh208 is_94 is_111 rfl).trans ev144.symm))).trans (by omega)) Lst_h212 Ln_h212
              ·
                refine w_iconst gz_69_10 (by decide) ?_
                refine w_goto (t := 15) gz_69_11 rfl ?_
                refine w_bret gz_69_15 gm_69 (by omega) (by omega) ?_
                show wp l rho (d + 4) 98 100 [(2, 94), (0, x1), (1, z18_l2), (9, 0), (2, r18_0), (0, p18_1), (0, p18_2), (9, 0), (9, 0), (9, 0)] [(0, 1)] h212 Q
                refine w_ifeq (t := 132) gz_98_100 rfl (fun u222 => by exfalso; omega) (fun u222 => ?_)
                refine w_lload_n gz_98_103 rfl ?_
                refine w_aload_n gz_98_104 rfl ?_
                refine w_getX (v := 111) gz_98_105 is_94 rd_2 rfl (by decide) rfl ?_
                refine v_getI (j := 2) gz_98_108 rfl is_111 rd_7 rfl (fun v224 ev224 pv224 qv224 => ?_)
                have zv224 := ev224.trans ev214.symm
                refine w_bipush gz_98_111 (by decide) ?_
                refine w_imul gz_98_113 ⟨by omega, by omega⟩ ?_
                refine w_aload_n gz_98_114 rfl ?_
                refine w_getX (v := 111) gz_98_115 is_94 rd_2 rfl (by decide) rfl ?_
                refine v_getI (j := 3) gz_98_118 rfl is_111 rd_7 rfl (fun v226 ev226 pv226 qv226 => ?_)
                have zv226 := ev226.trans ((my_up_fld fh212 (by decide)).trans (my_up_self fh210))
                refine w_iadd gz_98_121 ⟨by omega, by omega⟩ ?_
                refine w_inS (k := 0) (as := [(0, ((v224 * 20) + v226)), (1, z18_l2)]) (r := []) (ls0 := [(1, z18_l2), (9, 0), (0, ((v224 * 20) + v226))]) gz_98_122 gm_69 rfl rfl rfl rfl rfl rfl ?_
                refine w_lload_n gz_69_0 rfl ?_
                refine w_iload_n gz_69_1 rfl ?_
                refine w_jshf gz_69_2 (fun _ => rfl) rfl (fun v227 pv227 => ?_)
                refine w_lconst gz_69_3 ?_
                refine w_jany2 gz_69_4 (fun _ => rfl) rfl (fun v228 pv228 => ?_)
                refine w_lconst gz_69_5 ?_
                refine w_lcmp gz_69_6 (fun v229 pv229 qv229 => ?_)
                refine w_ifeq (t := 14) gz_69_7 rfl (fun u230 => ?_) (fun u230 => ?_)
                ·
                  refine w_iconst gz_69_14 (by decide) ?_
                  refine w_bret gz_69_15 gm_69 (by omega) (by omega) ?_
                  show wp l rho (d + 4) 98 125 [(2, 94), (0, x1), (1, z18_l2), (9, 0), (2, r18_0), (0, p18_1), (0, p18_2), (9, 0), (9, 0), (9, 0)] [(0, 0)] h212 Q
                  refine w_ifeq (t := 132) gz_98_125 rfl (fun u231 => ?_) (fun u231 => by exfalso; omega)
                  exact J132_0 (z18_l2) (v224) (v226) (v216) (v144) h212 (gh212) (by omega) (by omega) (by omega) (by omega) (by omega) (by omega) (by omega) (by omega) (by omega) (ev224.symm.trans (by omega)) (ev226.symm.trans (by omega)) (ev216.symm.trans (by omega)) (((my_up_role fh212 is_94 is_111 rfl).trans ((my_up_role fh210 is_94 is_111 rfl).trans ((my_up_role fh208 is_94 is_111 rfl).trans ev144.symm))).trans (by omega)) Lst_h212 Ln_h212
                ·
                  refine w_iconst gz_69_10 (by decide) ?_
                  refine w_goto (t := 15) gz_69_11 rfl ?_
                  refine w_bret gz_69_15 gm_69 (by omega) (by omega) ?_
                  show wp l rho (d + 4) 98 125 [(2, 94), (0, x1), (1, z18_l2), (9, 0), (2, r18_0), (0, p18_1), (0, p18_2), (9, 0), (9, 0), (9, 0)] [(0, 1)] h212 Q
                  refine w_ifeq (t := 132) gz_98_125 rfl (fun u232 => by exfalso; omega) (fun u232 => ?_)
                  refine w_iconst gz_98_128 (by decide) ?_
                  refine w_goto (t := 133) gz_98_129 rfl ?_
                  exact J133_1 (z18_l2) (v224) (v226) (v216) (v144) h212 (gh212) (by omega) (by omega) (by omega) (by omega) (by omega) (by omega) (by omega) (by omega) (by omega) (ev224.symm.trans (by omega)) (ev226.symm.trans (by omega)) (ev216.symm.trans (by omega)) (((my_up_role fh212 is_94 is_111 rfl).trans ((my_up_role fh210 is_94 is_111 rfl).trans ((my_up_role fh208 is_94 is_111 rfl).trans ev144.symm))).trans (by omega)) Lst_h212 Ln_h212
            ·
              refine w_iconst gz_100_29 (by decide) ?_
              refine w_goto (t := 34) gz_100_30 rfl ?_
              refine w_bret gz_100_34 gm_100 (by omega) (by omega) ?_
              show wp l rho (d + 4) 98 35 [(2, 94), (0, x1), (1, z18_l2), (9, 0), (2, r18_0), (0, p18_1), (0, p18_2), (9, 0), (9, 0), (9, 0)] [(0, 1)] h18_0 Q
              refine w_ifne (t := 314) gz_98_35 rfl (fun u233 => ?_) (fun u233 => by exfalso; omega)
              exact w_vret gz_98_314 gm_98 (k0 h18_0 (gh_18_0) n_Lst_18_0)
  refine w_aload_n gz_98_0 rfl ?_
  refine w_getX (v := 27) gz_98_1 is_94 rd_2 rfl (by decide) rfl ?_
  refine w_iload_n gz_98_4 rfl ?_
  refine w_aald gz_98_5 is_27 rd_22 rfl (by omega) (by omega) (fun v235 ev235 tv235 => ?_)
  refine w_astore (ls' := [(2, 94), (0, x1), (1, x2), (9, 0), (2, v235), (9, 0), (9, 0), (9, 0), (9, 0), (9, 0)]) gz_98_6 gm_98 rfl rfl rfl ?_
  refine w_aload gz_98_8 rfl ?_
  refine w_inv (k := 2) (as := []) (r := []) (x := v235) (ls0 := [(2, v235), (9, 0), (9, 0)]) gz_98_10 gm_99 rfl tv235 rd_4 rfl rfl rfl rfl rfl (c_Lens_liveColumns (d := (d + 3)) (x0 := v235) tv235 (fun v236 => ?_))
  show wp l rho (d + 4) 98 13 [(2, 94), (0, x1), (1, x2), (9, 0), (2, v235), (9, 0), (9, 0), (9, 0), (9, 0), (9, 0)] [(0, v236)] h Q
  refine w_istore (ls' := [(2, 94), (0, x1), (1, x2), (9, 0), (2, v235), (0, v236), (9, 0), (9, 0), (9, 0), (9, 0)]) gz_98_13 gm_98 rfl rfl rfl ?_
  refine w_iconst gz_98_15 (by decide) ?_
  refine w_istore (ls' := [(2, 94), (0, x1), (1, x2), (9, 0), (2, v235), (0, v236), (0, 0), (9, 0), (9, 0), (9, 0)]) gz_98_16 gm_98 rfl rfl rfl ?_
  exact J18_0 241 (x2) (v235) (v236) (0) h (my_fr.rf) tv235 (by omega) (by omega) n_Lst n_Ln (by omega)
theorem c_Desk_tryRowsThatGo {l : Launch} {rho : Nat → Int32} {d : Nat} {h : my_H} {Q : my_H → my_V → Prop} {x1 x2 x3 : Int} (t1 : my_is 6 x1) (a2 : 0 ≤ x2) (b2 : x2 ≤ 5) (n_Lst : Lst h) (n_Ln : Ln h) (htold : h (h 27 x2) 0 = 1) (k0 : ∀ (h' : my_H), my_fr [(2, 11), (7, 0), (7, 1), (7, 2), (7, 3), (7, 4), (7, 5), (8, 0), (8, 1), (30, -1), (31, -1), (42, -1), (43, -1), (44, -1)] h h' → Lst h' → Q h' (9, 0)) : wp l rho (d + 4) 104 0 [(2, 94), (2, x1), (0, x2), (1, x3), (9, 0), (9, 0), (9, 0), (9, 0), (9, 0)] [] h Q := by
  have J10_0 : ∀ (n : Nat) (z10_l3 p10_0 : Int) (h10_0 : my_H), my_fr [(2, 11), (7, 0), (7, 1), (7, 2), (7, 3), (7, 4), (7, 5), (8, 0), (8, 1), (30, -1), (31, -1), (42, -1), (43, -1), (44, -1)] h h10_0 → 0 ≤ p10_0 → p10_0 ≤ 3 → Lst h10_0 → Ln h10_0 → 4 - p10_0 ≤ (n : Int) → wp l rho (d + 4) 104 10 [(2, 94), (2, x1), (0, x2), (1, z10_l3), (9, 0), (0, p10_0), (9, 0), (9, 0), (9, 0)] [] h10_0 Q := by
    intro n
    induction n with
    | zero => intro z10_l3 p10_0 h10_0 gh_10_0 q0_10_0 q1_10_0 n_Lst_10_0 n_Ln_10_0 hm_10_0; exfalso; omega
    | succ n ih_10_0 =>
      intro z10_l3 p10_0 h10_0 gh_10_0 q0_10_0 q1_10_0 n_Lst_10_0 n_Ln_10_0 hm_10_0
      have J199_0 : ∀ (z199_l3 p199_0 p199_1 : Int) (h199_0 : my_H), my_fr [(2, 11), (7, 0), (7, 1), (7, 2), (7, 3), (7, 4), (7, 5), (8, 0), (8, 1), (30, -1), (31, -1), (42, -1), (43, -1), (44, -1)] h h199_0 → p10_0 ≤ 2 → 0 ≤ p199_0 → p199_0 ≤ 1 → 0 ≤ p199_1 → p199_1 ≤ 20 → Lst h199_0 → Ln h199_0 → wp l rho (d + 4) 104 199 [(2, 94), (2, x1), (0, x2), (1, z199_l3), (9, 0), (0, p10_0), (0, p199_0), (0, p199_1), (9, 0)] [] h199_0 Q := by
        intro z199_l3 p199_0 p199_1 h199_0 gh_199_0 q0_199_0 q1_199_0 q2_199_0 q3_199_0 q4_199_0 n_Lst_199_0 n_Ln_199_0
        refine w_iinc (ls' := [(2, 94), (2, x1), (0, x2), (1, z199_l3), (9, 0), (0, (p10_0 + 1)), (0, p199_0), (0, p199_1), (9, 0)]) gz_104_199 rfl gm_104 rfl rfl rfl ⟨by omega, by omega⟩ ?_
        refine w_goto (t := 10) gz_104_202 rfl ?_
        refine w_weak (ls' := [(2, 94), (2, x1), (0, x2), (1, z199_l3), (9, 0), (0, (p10_0 + 1)), (9, 0), (9, 0), (9, 0)]) (wk_e (wk_e (wk_e (wk_e (wk_9 (wk_e (wk_9 (wk_9 (wk_9 wk_n))))))))) ?_
        exact ih_10_0 (z199_l3) ((p10_0 + 1)) h199_0 (gh_199_0) (by omega) (by omega) n_Lst_199_0 n_Ln_199_0 (by omega)
      have J36_0 : ∀ (n : Nat) (z36_l3 p36_0 p36_1 : Int) (h36_0 : my_H), my_fr [(2, 11), (7, 0), (7, 1), (7, 2), (7, 3), (7, 4), (7, 5), (8, 0), (8, 1), (30, -1), (31, -1), (42, -1), (43, -1), (44, -1)] h h36_0 → p10_0 ≤ 2 → 0 ≤ p36_0 → p36_0 ≤ 1 → 0 ≤ p36_1 → p36_1 ≤ 20 → Lst h36_0 → Ln h36_0 → 21 - p36_1 ≤ (n : Int) → wp l rho (d + 4) 104 36 [(2, 94), (2, x1), (0, x2), (1, z36_l3), (9, 0), (0, p10_0), (0, p36_0), (0, p36_1), (9, 0)] [] h36_0 Q := by
        intro n
        induction n with
        | zero => intro z36_l3 p36_0 p36_1 h36_0 gh_36_0 q0_36_0 q1_36_0 q2_36_0 q3_36_0 q4_36_0 n_Lst_36_0 n_Ln_36_0 hm_36_0; exfalso; omega
        | succ n ih_36_0 =>
          intro z36_l3 p36_0 p36_1 h36_0 gh_36_0 q0_36_0 q1_36_0 q2_36_0 q3_36_0 q4_36_0 n_Lst_36_0 n_Ln_36_0 hm_36_0
          have J193_3 : ∀ (z193_l3 p193_0 : Int) (h193_3 : my_H), my_fr [(2, 11), (7, 0), (7, 1), (7, 2), (7, 3), (7, 4), (7, 5), (8, 0), (8, 1), (30, -1), (31, -1), (42, -1), (43, -1), (44, -1)] h h193_3 → p36_1 ≤ 19 → 0 ≤ p193_0 → p193_0 ≤ 1 → 1 ≤ p36_0 → h193_3 94 13 = p193_0 → Lst h193_3 → Ln h193_3 → wp l rho (d + 4) 104 193 [(2, 94), (2, x1), (0, x2), (1, z193_l3), (9, 0), (0, p10_0), (0, 1), (0, p36_1), (0, 1)] [] h193_3 Q := by
            intro z193_l3 p193_0 h193_3 gh_193_3 q0_193_3 q1_193_3 q2_193_3 q3_193_3 c94_13_193_3 n_Lst_193_3 n_Ln_193_3
            refine w_iinc (ls' := [(2, 94), (2, x1), (0, x2), (1, z193_l3), (9, 0), (0, p10_0), (0, 1), (0, (p36_1 + 1)), (0, 1)]) gz_104_193 rfl gm_104 rfl rfl rfl ⟨by omega, by omega⟩ ?_
            refine w_goto (t := 36) gz_104_196 rfl ?_
            refine w_weak (ls' := [(2, 94), (2, x1), (0, x2), (1, z193_l3), (9, 0), (0, p10_0), (0, 1), (0, (p36_1 + 1)), (9, 0)]) (wk_e (wk_e (wk_e (wk_e (wk_9 (wk_e (wk_e (wk_e (wk_9 wk_n))))))))) ?_
            exact ih_36_0 (z193_l3) (1) ((p36_1 + 1)) h193_3 (gh_193_3) (by omega) (by omega) (by omega) (by omega) (by omega) n_Lst_193_3 n_Ln_193_3 (by omega)
          have J193_2 : ∀ (z193_l3 p193_0 : Int) (h193_2 : my_H), my_fr [(2, 11), (7, 0), (7, 1), (7, 2), (7, 3), (7, 4), (7, 5), (8, 0), (8, 1), (30, -1), (31, -1), (42, -1), (43, -1), (44, -1)] h h193_2 → p36_1 ≤ 19 → 0 ≤ p193_0 → p193_0 ≤ 1 → 1 ≤ p36_0 → h193_2 94 13 = p193_0 → Lst h193_2 → Ln h193_2 → wp l rho (d + 4) 104 193 [(2, 94), (2, x1), (0, x2), (1, z193_l3), (9, 0), (0, p10_0), (0, 1), (0, p36_1), (0, 0)] [] h193_2 Q := by
            intro z193_l3 p193_0 h193_2 gh_193_2 q0_193_2 q1_193_2 q2_193_2 q3_193_2 c94_13_193_2 n_Lst_193_2 n_Ln_193_2
            refine w_iinc (ls' := [(2, 94), (2, x1), (0, x2), (1, z193_l3), (9, 0), (0, p10_0), (0, 1), (0, (p36_1 + 1)), (0, 0)]) gz_104_193 rfl gm_104 rfl rfl rfl ⟨by omega, by omega⟩ ?_
            refine w_goto (t := 36) gz_104_196 rfl ?_
            refine w_weak (ls' := [(2, 94), (2, x1), (0, x2), (1, z193_l3), (9, 0), (0, p10_0), (0, 1), (0, (p36_1 + 1)), (9, 0)]) (wk_e (wk_e (wk_e (wk_e (wk_9 (wk_e (wk_e (wk_e (wk_9 wk_n))))))))) ?_
            exact ih_36_0 (z193_l3) (1) ((p36_1 + 1)) h193_2 (gh_193_2) (by omega) (by omega) (by omega) (by omega) (by omega) n_Lst_193_2 n_Ln_193_2 (by omega)
          have J185_1 : ∀ (z185_l3 p185_0 : Int) (h185_1 : my_H), my_fr [(2, 11), (7, 0), (7, 1), (7, 2), (7, 3), (7, 4), (7, 5), (8, 0), (8, 1), (30, -1), (31, -1), (42, -1), (43, -1), (44, -1)] h h185_1 → p36_1 ≤ 19 → 0 ≤ p185_0 → p185_0 ≤ 1 → 1 ≤ p36_0 → h185_1 94 13 = p185_0 → Lst h185_1 → Ln h185_1 → wp l rho (d + 4) 104 185 [(2, 94), (2, x1), (0, x2), (1, z185_l3), (9, 0), (0, p10_0), (0, 1), (0, p36_1), (0, 1)] [] h185_1 Q := by
            intro z185_l3 p185_0 h185_1 gh_185_1 q0_185_1 q1_185_1 q2_185_1 q3_185_1 c94_13_185_1 n_Lst_185_1 n_Ln_185_1
            refine w_aload_n gz_104_185 rfl ?_
            refine w_getX (v := 95) gz_104_186 is_94 rd_2 rfl (by decide) rfl ?_
            refine w_aload_n gz_104_189 rfl ?_
            refine w_inv (k := 0) (as := [(2, x1)]) (r := []) (x := 95) (ls0 := [(2, 95), (2, x1)]) gz_104_190 gm_25 rfl is_95 rd_6 rfl rfl rfl rfl rfl ?_
            refine w_aload_n gz_25_0 rfl ?_
            refine w_getX (v := (x1 + 1)) gz_25_1 t1 rd_6 rfl (by decide) rfl ?_
            refine w_iconst gz_25_4 (by decide) ?_
            refine w_aload_n gz_25_5 rfl ?_
            refine w_getX (v := 96) gz_25_6 is_95 rd_6 rfl (by decide) rfl ?_
            refine w_iconst gz_25_9 (by decide) ?_
            refine w_aload_n gz_25_10 rfl ?_
            refine w_getX (v := 96) gz_25_11 is_95 rd_6 rfl (by decide) rfl ?_
            refine v_alen (j := 240) gz_25_14 rfl is_96 rd_30 (by decide) ?_
            refine w_cpU gz_25_15 (ix_6_1 t1) rd_30 is_96 rd_30 (by omega) (by omega) (by omega) (by omega) (by omega) rfl (by decide) (by decide) (fun h5 fh5 => ?_)
            have gh5 : my_fr [(2, 11), (7, 0), (7, 1), (7, 2), (7, 3), (7, 4), (7, 5), (8, 0), (8, 1), (30, -1), (31, -1), (42, -1), (43, -1), (44, -1)] h h5 := my_fr.cp gh_185_1 is_96 fh5 rfl
            have Lst_h5 : Lst h5 := Lst_ag (my_ag.cp fh5 is_96 rfl) n_Lst_185_1
            have Ln_h5 : Ln h5 := Ln_ag (my_ag.cp fh5 is_96 rfl) n_Ln_185_1
            refine w_aload_n gz_25_18 rfl ?_
            refine w_getX (v := (x1 + 2)) gz_25_19 t1 rd_6 rfl (by decide) rfl ?_
            refine w_iconst gz_25_22 (by decide) ?_
            refine w_aload_n gz_25_23 rfl ?_
            refine w_getX (v := 97) gz_25_24 is_95 rd_6 rfl (by decide) rfl ?_
            refine w_iconst gz_25_27 (by decide) ?_
            refine w_aload_n gz_25_28 rfl ?_
            refine w_getX (v := 97) gz_25_29 is_95 rd_6 rfl (by decide) rfl ?_
            refine v_alen (j := 3) gz_25_32 rfl is_97 rd_31 (by decide) ?_
            refine w_cpU gz_25_33 (ix_6_2 t1) rd_31 is_97 rd_31 (by omega) (by omega) (by omega) (by omega) (by omega) rfl (by decide) (by decide) (fun h9 fh9 => ?_)
            have gh9 : my_fr [(2, 11), (7, 0), (7, 1), (7, 2), (7, 3), (7, 4), (7, 5), (8, 0), (8, 1), (30, -1), (31, -1), (42, -1), (43, -1), (44, -1)] h h9 := my_fr.cp gh5 is_97 fh9 rfl
            have Lst_h9 : Lst h9 := Lst_ag (my_ag.cp fh9 is_97 rfl) Lst_h5
            have Ln_h9 : Ln h9 := Ln_ag (my_ag.cp fh9 is_97 rfl) Ln_h5
            refine w_vret gz_25_36 gm_25 ?_
            show wp l rho (d + 4) 104 193 [(2, 94), (2, x1), (0, x2), (1, z185_l3), (9, 0), (0, p10_0), (0, 1), (0, p36_1), (0, 1)] [] h9 Q
            refine w_iinc (ls' := [(2, 94), (2, x1), (0, x2), (1, z185_l3), (9, 0), (0, p10_0), (0, 1), (0, (p36_1 + 1)), (0, 1)]) gz_104_193 rfl gm_104 rfl rfl rfl ⟨by omega, by omega⟩ ?_
            refine w_goto (t := 36) gz_104_196 rfl ?_
            refine w_weak (ls' := [(2, 94), (2, x1), (0, x2), (1, z185_l3), (9, 0), (0, p10_0), (0, 1), (0, (p36_1 + 1)), (9, 0)]) (wk_e (wk_e (wk_e (wk_e (wk_9 (wk_e (wk_e (wk_e (wk_9 wk_n))))))))) ?_
            exact ih_36_0 (z185_l3) (1) ((p36_1 + 1)) h9 (gh9) (by omega) (by omega) (by omega) (by omega) (by omega) Lst_h9 Ln_h9 (by omega)
          have J185_0 : ∀ (z185_l3 p185_0 : Int) (h185_0 : my_H), my_fr [(2, 11), (7, 0), (7, 1), (7, 2), (7, 3), (7, 4), (7, 5), (8, 0), (8, 1), (30, -1), (31, -1), (42, -1), (43, -1), (44, -1)] h h185_0 → p36_1 ≤ 19 → 0 ≤ p185_0 → p185_0 ≤ 1 → 1 ≤ p36_0 → h185_0 94 13 = p185_0 → h185_0 94 14 = 1 → Lst h185_0 → Ln h185_0 → wp l rho (d + 4) 104 185 [(2, 94), (2, x1), (0, x2), (1, z185_l3), (9, 0), (0, p10_0), (0, 1), (0, p36_1), (0, 0)] [] h185_0 Q := by
            intro z185_l3 p185_0 h185_0 gh_185_0 q0_185_0 q1_185_0 q2_185_0 q3_185_0 c94_13_185_0 c94_14_185_0 n_Lst_185_0 n_Ln_185_0
            refine w_aload_n gz_104_185 rfl ?_
            refine w_getX (v := 95) gz_104_186 is_94 rd_2 rfl (by decide) rfl ?_
            refine w_aload_n gz_104_189 rfl ?_
            refine w_inv (k := 0) (as := [(2, x1)]) (r := []) (x := 95) (ls0 := [(2, 95), (2, x1)]) gz_104_190 gm_25 rfl is_95 rd_6 rfl rfl rfl rfl rfl ?_
            refine w_aload_n gz_25_0 rfl ?_
            refine w_getX (v := (x1 + 1)) gz_25_1 t1 rd_6 rfl (by decide) rfl ?_
            refine w_iconst gz_25_4 (by decide) ?_
            refine w_aload_n gz_25_5 rfl ?_
            refine w_getX (v := 96) gz_25_6 is_95 rd_6 rfl (by decide) rfl ?_
            refine w_iconst gz_25_9 (by decide) ?_
            refine w_aload_n gz_25_10 rfl ?_
            refine w_getX (v := 96) gz_25_11 is_95 rd_6 rfl (by decide) rfl ?_
            refine v_alen (j := 240) gz_25_14 rfl is_96 rd_30 (by decide) ?_
            refine w_cpU gz_25_15 (ix_6_1 t1) rd_30 is_96 rd_30 (by omega) (by omega) (by omega) (by omega) (by omega) rfl (by decide) (by decide) (fun h14 fh14 => ?_)
            have gh14 : my_fr [(2, 11), (7, 0), (7, 1), (7, 2), (7, 3), (7, 4), (7, 5), (8, 0), (8, 1), (30, -1), (31, -1), (42, -1), (43, -1), (44, -1)] h h14 := my_fr.cp gh_185_0 is_96 fh14 rfl
            have Lst_h14 : Lst h14 := Lst_ag (my_ag.cp fh14 is_96 rfl) n_Lst_185_0
            have Ln_h14 : Ln h14 := Ln_ag (my_ag.cp fh14 is_96 rfl) n_Ln_185_0
            refine w_aload_n gz_25_18 rfl ?_
            refine w_getX (v := (x1 + 2)) gz_25_19 t1 rd_6 rfl (by decide) rfl ?_
            refine w_iconst gz_25_22 (by decide) ?_
            refine w_aload_n gz_25_23 rfl ?_
            refine w_getX (v := 97) gz_25_24 is_95 rd_6 rfl (by decide) rfl ?_
            refine w_iconst gz_25_27 (by decide) ?_
            refine w_aload_n gz_25_28 rfl ?_
            refine w_getX (v := 97) gz_25_29 is_95 rd_6 rfl (by decide) rfl ?_
            refine v_alen (j := 3) gz_25_32 rfl is_97 rd_31 (by decide) ?_
            refine w_cpU gz_25_33 (ix_6_2 t1) rd_31 is_97 rd_31 (by omega) (by omega) (by omega) (by omega) (by omega) rfl (by decide) (by decide) (fun h18 fh18 => ?_)
            have gh18 : my_fr [(2, 11), (7, 0), (7, 1), (7, 2), (7, 3), (7, 4), (7, 5), (8, 0), (8, 1), (30, -1), (31, -1), (42, -1), (43, -1), (44, -1)] h h18 := my_fr.cp gh14 is_97 fh18 rfl
            have Lst_h18 : Lst h18 := Lst_ag (my_ag.cp fh18 is_97 rfl) Lst_h14
            have Ln_h18 : Ln h18 := Ln_ag (my_ag.cp fh18 is_97 rfl) Ln_h14
            refine w_vret gz_25_36 gm_25 ?_
            show wp l rho (d + 4) 104 193 [(2, 94), (2, x1), (0, x2), (1, z185_l3), (9, 0), (0, p10_0), (0, 1), (0, p36_1), (0, 0)] [] h18 Q
            refine w_iinc (ls' := [(2, 94), (2, x1), (0, x2), (1, z185_l3), (9, 0), (0, p10_0), (0, 1), (0, (p36_1 + 1)), (0, 0)]) gz_104_193 rfl gm_104 rfl rfl rfl ⟨by omega, by omega⟩ ?_
            refine w_goto (t := 36) gz_104_196 rfl ?_
            refine w_weak (ls' := [(2, 94), (2, x1), (0, x2), (1, z185_l3), (9, 0), (0, p10_0), (0, 1), (0, (p36_1 + 1)), (9, 0)]) (wk_e (wk_e (wk_e (wk_e (wk_9 (wk_e (wk_e (wk_e (wk_9 wk_n))))))))) ?_
            exact ih_36_0 (z185_l3) (1) ((p36_1 + 1)) h18 (gh18) (by omega) (by omega) (by omega) (by omega) (by omega) Lst_h18 Ln_h18 (by omega)
          have J95_1 : ∀ (z95_l3 p95_0 : Int) (h95_1 : my_H), my_fr [(2, 11), (7, 0), (7, 1), (7, 2), (7, 3), (7, 4), (7, 5), (8, 0), (8, 1), (30, -1), (31, -1), (42, -1), (43, -1), (44, -1)] h h95_1 → p36_1 ≤ 19 → 0 ≤ p95_0 → p95_0 ≤ 1 → 1 ≤ p36_0 → h95_1 94 13 = p95_0 → Lst h95_1 → Ln h95_1 → wp l rho (d + 4) 104 95 [(2, 94), (2, x1), (0, x2), (1, z95_l3), (9, 0), (0, p10_0), (0, 1), (0, p36_1), (0, 1)] [] h95_1 Q := by
            intro z95_l3 p95_0 h95_1 gh_95_1 q0_95_1 q1_95_1 q2_95_1 q3_95_1 c94_13_95_1 n_Lst_95_1 n_Ln_95_1
            refine w_aload_n gz_104_95 rfl ?_
            refine w_getX (v := 95) gz_104_96 is_94 rd_2 rfl (by decide) rfl ?_
            refine w_iload gz_104_99 rfl ?_
            refine w_iload gz_104_101 rfl ?_
            refine w_inv (k := 2) (as := [(0, p36_1), (0, p10_0)]) (r := []) (x := 95) (ls0 := [(2, 95), (0, p10_0), (0, p36_1), (9, 0), (9, 0)]) gz_104_103 gm_23 rfl is_95 rd_6 rfl rfl rfl rfl rfl (c_Rows_drop (d := (d + 2)) (x0 := 95) (x1 := p10_0) (x2 := p36_1) is_95 (by omega) (by omega) (by omega) (by omega) (fun h20 frh20 fxh20 => ?_))
            have gh20 : my_fr [(2, 11), (7, 0), (7, 1), (7, 2), (7, 3), (7, 4), (7, 5), (8, 0), (8, 1), (30, -1), (31, -1), (42, -1), (43, -1), (44, -1)] h h20 := my_fr.tr gh_95_1 (frh20.mo rfl)
            have Lst_h20 : Lst h20 := Lst_ag (my_ag.fr frh20 rfl) n_Lst_95_1
            have Ln_h20 : Ln h20 := Ln_ag (my_ag.fr frh20 rfl) n_Ln_95_1
            show wp l rho (d + 4) 104 106 [(2, 94), (2, x1), (0, x2), (1, z95_l3), (9, 0), (0, p10_0), (0, 1), (0, p36_1), (0, 1)] [] h20 Q
            refine w_aload_n gz_104_106 rfl ?_
            refine w_getX (v := 1) gz_104_107 is_94 rd_2 rfl (by decide) rfl ?_
            refine w_aload_n gz_104_110 rfl ?_
            refine w_getX (v := 95) gz_104_111 is_94 rd_2 rfl (by decide) rfl ?_
            refine w_inv (k := 4) (as := [(2, 95)]) (r := []) (x := 1) (ls0 := [(2, 1), (2, 95), (9, 0), (9, 0), (9, 0), (9, 0)]) gz_104_114 gm_19 rfl is_1 rd_3 rfl rfl rfl rfl rfl (c_Laws_firstBroken (d := (d + 1)) (x1 := 95) is_95 ?_ (fun v23 w24 w25 => ?_))
            ·
              show wp l rho (d + 4) 104 117 [(2, 94), (2, x1), (0, x2), (1, z95_l3), (9, 0), (0, p10_0), (0, 1), (0, p36_1), (0, 1)] [(0, (-1))] h20 Q
              refine w_iconst gz_104_117 (by decide) ?_
              refine w_icne (t := 185) gz_104_118 rfl (fun u26 => by exfalso; omega) (fun u26 => ?_)
              refine w_iload gz_104_121 rfl ?_
              refine w_ifeq (t := 152) gz_104_123 rfl (fun u27 => by exfalso; omega) (fun u27 => ?_)
              refine w_aload_n gz_104_126 rfl ?_
              refine w_getX (v := 106) gz_104_127 is_94 rd_2 rfl (by decide) rfl ?_
              refine w_aload_n gz_104_130 rfl ?_
              refine w_getX (v := 27) gz_104_131 is_94 rd_2 rfl (by decide) rfl ?_
              refine w_iload_n gz_104_134 rfl ?_
              refine w_aload_n gz_104_135 rfl ?_
              refine w_getX (v := 95) gz_104_136 is_94 rd_2 rfl (by decide) rfl ?_
              refine w_inv (k := 4) (as := [(2, 95), (0, x2), (2, 27)]) (r := []) (x := 106) (ls0 := [(2, 106), (2, 27), (0, x2), (2, 95), (9, 0), (9, 0), (9, 0), (9, 0)]) gz_104_139 gm_67 rfl is_106 rd_8 rfl rfl rfl rfl rfl (c_View_show (d := d) (x0 := 106) (x2 := x2) (x3 := 95) is_106 (by omega) (by omega) (by omega) (by omega) is_95 Ln_h20 (by first | assumption | omega) (fun h31 v32 frh31 fxh31 w33 xp34 => ?_))
              have gh31 : my_fr [(2, 11), (7, 0), (7, 1), (7, 2), (7, 3), (7, 4), (7, 5), (8, 0), (8, 1), (30, -1), (31, -1), (42, -1), (43, -1), (44, -1)] h h31 := my_fr.tr gh20 (frh31.mo rfl)
              have Lst_h31 : Lst h31 := Lst_ag (my_ag.fr frh31 rfl) Lst_h20
              have Ln_h31 : Ln h31 := Ln_ag (my_ag.fr frh31 rfl) Ln_h20
              show wp l rho (d + 4) 104 142 [(2, 94), (2, x1), (0, x2), (1, z95_l3), (9, 0), (0, p10_0), (0, 1), (0, p36_1), (0, 1)] [(2, v32)] h31 Q
              refine w_aload_n gz_104_142 rfl ?_
              refine w_getX (v := 102) gz_104_143 is_94 rd_2 rfl (by decide) rfl ?_
              refine w_inv (k := 1) (as := [(2, 102)]) (r := []) (x := v32) (ls0 := [(2, v32), (2, 102), (9, 0)]) gz_104_146 gm_93 rfl w33 rd_8 rfl rfl rfl rfl rfl (c_View_same (d := (d + 2)) (x0 := v32) (x1 := 102) w33 is_102 ?_ ?_)
              ·
                show wp l rho (d + 4) 104 149 [(2, 94), (2, x1), (0, x2), (1, z95_l3), (9, 0), (0, p10_0), (0, 1), (0, p36_1), (0, 1)] [(0, 0)] h31 Q
                refine w_ifeq (t := 185) gz_104_149 rfl (fun u36 => ?_) (fun u36 => by exfalso; omega)
                exact J185_1 (z95_l3) (p95_0) h31 (gh31) (by omega) (by omega) (by omega) (by omega) (((my_fr.at frh31 is_94 rfl).trans ((my_fr.at frh20 is_94 rfl).trans c94_13_95_1)).trans (by omega)) Lst_h31 Ln_h31
              ·
                show wp l rho (d + 4) 104 149 [(2, 94), (2, x1), (0, x2), (1, z95_l3), (9, 0), (0, p10_0), (0, 1), (0, p36_1), (0, 1)] [(0, 1)] h31 Q
                refine w_ifeq (t := 185) gz_104_149 rfl (fun u37 => by exfalso; omega) (fun u37 => ?_)
                refine w_aload_n gz_104_152 rfl ?_
                refine w_getX (v := 111) gz_104_153 is_94 rd_2 rfl (by decide) rfl ?_
                refine w_iload gz_104_156 rfl ?_
                refine v_putI (j := 2) gz_104_158 rfl is_111 rd_7 rfl (by omega) (by omega) rfl (fun h39 fh39 => ?_)
                have gh39 : my_fr [(2, 11), (7, 0), (7, 1), (7, 2), (7, 3), (7, 4), (7, 5), (8, 0), (8, 1), (30, -1), (31, -1), (42, -1), (43, -1), (44, -1)] h h39 := my_fr.up gh31 is_111 fh39 rfl
                have Lst_h39 : Lst h39 := Lst_ne fh39 (by decide) Lst_h31
                have Ln_h39 : Ln h39 := Ln_ag (my_ag.up fh39 is_111 rfl) Ln_h31
                refine w_aload_n gz_104_161 rfl ?_
                refine w_getX (v := 111) gz_104_162 is_94 rd_2 rfl (by decide) rfl ?_
                refine w_iload gz_104_165 rfl ?_
                refine v_putI (j := 3) gz_104_167 rfl is_111 rd_7 rfl (by omega) (by omega) rfl (fun h41 fh41 => ?_)
                have gh41 : my_fr [(2, 11), (7, 0), (7, 1), (7, 2), (7, 3), (7, 4), (7, 5), (8, 0), (8, 1), (30, -1), (31, -1), (42, -1), (43, -1), (44, -1)] h h41 := my_fr.up gh39 is_111 fh41 rfl
                have Lst_h41 : Lst h41 := Lst_ne fh41 (by decide) Lst_h39
                have Ln_h41 : Ln h41 := Ln_ag (my_ag.up fh41 is_111 rfl) Ln_h39
                refine w_aload_n gz_104_170 rfl ?_
                refine w_iconst gz_104_171 (by decide) ?_
                refine w_aload_n gz_104_172 rfl ?_
                refine w_getX (v := 1) gz_104_173 is_94 rd_2 rfl (by decide) rfl ?_
                refine w_getX (v := 2) gz_104_176 is_1 rd_3 rfl (by decide) rfl ?_
                refine w_iload gz_104_179 rfl ?_
                refine w_iald gz_104_181 is_2 rd_25 (by omega) (by omega) (fun v44 ev44 pv44 qv44 => ?_)
                have ce45 : h41 111 2 = p10_0 := ((my_up_fld fh41 (by decide)).trans (my_up_self fh39))
                have ce46 : h41 111 3 = p36_1 := (my_up_self fh41)
                have ce47 : h41 111 4 = h95_1 111 4 := ((my_up_fld fh41 (by decide)).trans ((my_up_fld fh39 (by decide)).trans ((my_fr.at frh31 is_111 rfl).trans ((my_fr.at frh20 is_111 rfl).trans (rfl : h95_1 111 4 = h95_1 111 4)))))
                have ce48 : h41 111 5 = h95_1 111 5 := ((my_up_fld fh41 (by decide)).trans ((my_up_fld fh39 (by decide)).trans ((my_fr.at frh31 is_111 rfl).trans ((my_fr.at frh20 is_111 rfl).trans (rfl : h95_1 111 5 = h95_1 111 5)))))
                refine w_inv (k := 0) (as := [(0, v44), (0, 2)]) (r := []) (x := 94) (ls0 := [(2, 94), (0, 2), (0, v44)]) gz_104_182 gm_94 rfl is_94 rd_2 rfl rfl rfl rfl rfl (c_Desk_keep (d := (d + 2)) (x1 := 2) (x2 := v44) (by omega) (by omega) (by omega) (by omega) Lst_h41 (by first | assumption | omega) (by first | assumption | omega) (by first | assumption | omega) (fun h49 frh49 xp50 xp51 xp52 Lst_h49t53 => ?_))
                have gh49 : my_fr [(2, 11), (7, 0), (7, 1), (7, 2), (7, 3), (7, 4), (7, 5), (8, 0), (8, 1), (30, -1), (31, -1), (42, -1), (43, -1), (44, -1)] h h49 := my_fr.tr gh41 (frh49.mo rfl)
                have Ln_h49 : Ln h49 := Ln_ag (my_ag.fr frh49 rfl) Ln_h41
                show wp l rho (d + 4) 104 185 [(2, 94), (2, x1), (0, x2), (1, z95_l3), (9, 0), (0, p10_0), (0, 1), (0, p36_1), (0, 1)] [] h49 Q
                exact J185_1 (z95_l3) (p95_0) h49 (gh49) (by omega) (by omega) (by omega) (by omega) (((my_fr.at frh49 is_94 rfl).trans ((my_up_role fh41 is_94 is_111 rfl).trans ((my_up_role fh39 is_94 is_111 rfl).trans ((my_fr.at frh31 is_94 rfl).trans ((my_fr.at frh20 is_94 rfl).trans c94_13_95_1))))).trans (by omega)) Lst_h49t53 Ln_h49
            ·
              show wp l rho (d + 4) 104 117 [(2, 94), (2, x1), (0, x2), (1, z95_l3), (9, 0), (0, p10_0), (0, 1), (0, p36_1), (0, 1)] [(0, v23)] h20 Q
              refine w_iconst gz_104_117 (by decide) ?_
              refine w_icne (t := 185) gz_104_118 rfl (fun u54 => ?_) (fun u54 => by exfalso; omega)
              exact J185_1 (z95_l3) (p95_0) h20 (gh20) (by omega) (by omega) (by omega) (by omega) (((my_fr.at frh20 is_94 rfl).trans c94_13_95_1).trans (by omega)) Lst_h20 Ln_h20
          have J95_0 : ∀ (z95_l3 p95_0 : Int) (h95_0 : my_H), my_fr [(2, 11), (7, 0), (7, 1), (7, 2), (7, 3), (7, 4), (7, 5), (8, 0), (8, 1), (30, -1), (31, -1), (42, -1), (43, -1), (44, -1)] h h95_0 → p36_1 ≤ 19 → 0 ≤ p95_0 → p95_0 ≤ 1 → 1 ≤ p36_0 → h95_0 94 13 = p95_0 → h95_0 94 14 = 1 → Lst h95_0 → Ln h95_0 → wp l rho (d + 4) 104 95 [(2, 94), (2, x1), (0, x2), (1, z95_l3), (9, 0), (0, p10_0), (0, 1), (0, p36_1), (0, 0)] [] h95_0 Q := by
            intro z95_l3 p95_0 h95_0 gh_95_0 q0_95_0 q1_95_0 q2_95_0 q3_95_0 c94_13_95_0 c94_14_95_0 n_Lst_95_0 n_Ln_95_0
            refine w_aload_n gz_104_95 rfl ?_
            refine w_getX (v := 95) gz_104_96 is_94 rd_2 rfl (by decide) rfl ?_
            refine w_iload gz_104_99 rfl ?_
            refine w_iload gz_104_101 rfl ?_
            refine w_inv (k := 2) (as := [(0, p36_1), (0, p10_0)]) (r := []) (x := 95) (ls0 := [(2, 95), (0, p10_0), (0, p36_1), (9, 0), (9, 0)]) gz_104_103 gm_23 rfl is_95 rd_6 rfl rfl rfl rfl rfl (c_Rows_drop (d := (d + 2)) (x0 := 95) (x1 := p10_0) (x2 := p36_1) is_95 (by omega) (by omega) (by omega) (by omega) (fun h56 frh56 fxh56 => ?_))
            have gh56 : my_fr [(2, 11), (7, 0), (7, 1), (7, 2), (7, 3), (7, 4), (7, 5), (8, 0), (8, 1), (30, -1), (31, -1), (42, -1), (43, -1), (44, -1)] h h56 := my_fr.tr gh_95_0 (frh56.mo rfl)
            have Lst_h56 : Lst h56 := Lst_ag (my_ag.fr frh56 rfl) n_Lst_95_0
            have Ln_h56 : Ln h56 := Ln_ag (my_ag.fr frh56 rfl) n_Ln_95_0
            show wp l rho (d + 4) 104 106 [(2, 94), (2, x1), (0, x2), (1, z95_l3), (9, 0), (0, p10_0), (0, 1), (0, p36_1), (0, 0)] [] h56 Q
            refine w_aload_n gz_104_106 rfl ?_
            refine w_getX (v := 1) gz_104_107 is_94 rd_2 rfl (by decide) rfl ?_
            refine w_aload_n gz_104_110 rfl ?_
            refine w_getX (v := 95) gz_104_111 is_94 rd_2 rfl (by decide) rfl ?_
            refine w_inv (k := 4) (as := [(2, 95)]) (r := []) (x := 1) (ls0 := [(2, 1), (2, 95), (9, 0), (9, 0), (9, 0), (9, 0)]) gz_104_114 gm_19 rfl is_1 rd_3 rfl rfl rfl rfl rfl (c_Laws_firstBroken (d := (d + 1)) (x1 := 95) is_95 ?_ (fun v59 w60 w61 => ?_))
            ·
              show wp l rho (d + 4) 104 117 [(2, 94), (2, x1), (0, x2), (1, z95_l3), (9, 0), (0, p10_0), (0, 1), (0, p36_1), (0, 0)] [(0, (-1))] h56 Q
              refine w_iconst gz_104_117 (by decide) ?_
              refine w_icne (t := 185) gz_104_118 rfl (fun u62 => by exfalso; omega) (fun u62 => ?_)
              refine w_iload gz_104_121 rfl ?_
              refine w_ifeq (t := 152) gz_104_123 rfl (fun u63 => ?_) (fun u63 => by exfalso; omega)
              refine w_aload_n gz_104_152 rfl ?_
              refine w_getX (v := 111) gz_104_153 is_94 rd_2 rfl (by decide) rfl ?_
              refine w_iload gz_104_156 rfl ?_
              refine v_putI (j := 2) gz_104_158 rfl is_111 rd_7 rfl (by omega) (by omega) rfl (fun h65 fh65 => ?_)
              have gh65 : my_fr [(2, 11), (7, 0), (7, 1), (7, 2), (7, 3), (7, 4), (7, 5), (8, 0), (8, 1), (30, -1), (31, -1), (42, -1), (43, -1), (44, -1)] h h65 := my_fr.up gh56 is_111 fh65 rfl
              have Lst_h65 : Lst h65 := Lst_ne fh65 (by decide) Lst_h56
              have Ln_h65 : Ln h65 := Ln_ag (my_ag.up fh65 is_111 rfl) Ln_h56
              refine w_aload_n gz_104_161 rfl ?_
              refine w_getX (v := 111) gz_104_162 is_94 rd_2 rfl (by decide) rfl ?_
              refine w_iload gz_104_165 rfl ?_
              refine v_putI (j := 3) gz_104_167 rfl is_111 rd_7 rfl (by omega) (by omega) rfl (fun h67 fh67 => ?_)
              have gh67 : my_fr [(2, 11), (7, 0), (7, 1), (7, 2), (7, 3), (7, 4), (7, 5), (8, 0), (8, 1), (30, -1), (31, -1), (42, -1), (43, -1), (44, -1)] h h67 := my_fr.up gh65 is_111 fh67 rfl
              have Lst_h67 : Lst h67 := Lst_ne fh67 (by decide) Lst_h65
              have Ln_h67 : Ln h67 := Ln_ag (my_ag.up fh67 is_111 rfl) Ln_h65
              refine w_aload_n gz_104_170 rfl ?_
              refine w_iconst gz_104_171 (by decide) ?_
              refine w_aload_n gz_104_172 rfl ?_
              refine w_getX (v := 1) gz_104_173 is_94 rd_2 rfl (by decide) rfl ?_
              refine w_getX (v := 2) gz_104_176 is_1 rd_3 rfl (by decide) rfl ?_
              refine w_iload gz_104_179 rfl ?_
              refine w_iald gz_104_181 is_2 rd_25 (by omega) (by omega) (fun v70 ev70 pv70 qv70 => ?_)
              have ce71 : h67 111 2 = p10_0 := ((my_up_fld fh67 (by decide)).trans (my_up_self fh65))
              have ce72 : h67 111 3 = p36_1 := (my_up_self fh67)
              have ce73 : h67 111 4 = h95_0 111 4 := ((my_up_fld fh67 (by decide)).trans ((my_up_fld fh65 (by decide)).trans ((my_fr.at frh56 is_111 rfl).trans (rfl : h95_0 111 4 = h95_0 111 4))))
              have ce74 : h67 111 5 = h95_0 111 5 := ((my_up_fld fh67 (by decide)).trans ((my_up_fld fh65 (by decide)).trans ((my_fr.at frh56 is_111 rfl).trans (rfl : h95_0 111 5 = h95_0 111 5))))
              refine w_inv (k := 0) (as := [(0, v70), (0, 2)]) (r := []) (x := 94) (ls0 := [(2, 94), (0, 2), (0, v70)]) gz_104_182 gm_94 rfl is_94 rd_2 rfl rfl rfl rfl rfl (c_Desk_keep (d := (d + 2)) (x1 := 2) (x2 := v70) (by omega) (by omega) (by omega) (by omega) Lst_h67 (by first | assumption | omega) (by first | assumption | omega) (by first | assumption | omega) (fun h75 frh75 xp76 xp77 xp78 Lst_h75t79 => ?_))
              have gh75 : my_fr [(2, 11), (7, 0), (7, 1), (7, 2), (7, 3), (7, 4), (7, 5), (8, 0), (8, 1), (30, -1), (31, -1), (42, -1), (43, -1), (44, -1)] h h75 := my_fr.tr gh67 (frh75.mo rfl)
              have Ln_h75 : Ln h75 := Ln_ag (my_ag.fr frh75 rfl) Ln_h67
              show wp l rho (d + 4) 104 185 [(2, 94), (2, x1), (0, x2), (1, z95_l3), (9, 0), (0, p10_0), (0, 1), (0, p36_1), (0, 0)] [] h75 Q
              exact J185_0 (z95_l3) (p95_0) h75 (gh75) (by omega) (by omega) (by omega) (by omega) (((my_fr.at frh75 is_94 rfl).trans ((my_up_role fh67 is_94 is_111 rfl).trans ((my_up_role fh65 is_94 is_111 rfl).trans ((my_fr.at frh56 is_94 rfl).trans c94_13_95_0)))).trans (by omega)) (((my_fr.at frh75 is_94 rfl).trans ((my_up_role fh67 is_94 is_111 rfl).trans ((my_up_role fh65 is_94 is_111 rfl).trans ((my_fr.at frh56 is_94 rfl).trans c94_14_95_0)))).trans (by omega)) Lst_h75t79 Ln_h75
            ·
              show wp l rho (d + 4) 104 117 [(2, 94), (2, x1), (0, x2), (1, z95_l3), (9, 0), (0, p10_0), (0, 1), (0, p36_1), (0, 0)] [(0, v59)] h56 Q
              refine w_iconst gz_104_117 (by decide) ?_
              refine w_icne (t := 185) gz_104_118 rfl (fun u80 => ?_) (fun u80 => by exfalso; omega)
              exact J185_0 (z95_l3) (p95_0) h56 (gh56) (by omega) (by omega) (by omega) (by omega) (((my_fr.at frh56 is_94 rfl).trans c94_13_95_0).trans (by omega)) (((my_fr.at frh56 is_94 rfl).trans c94_14_95_0).trans (by omega)) Lst_h56 Ln_h56
          refine w_iload gz_104_36 rfl ?_
          refine w_bipush gz_104_38 (by decide) ?_
          refine w_icge (t := 199) gz_104_40 rfl (fun u81 => ?_) (fun u81 => ?_)
          ·
            exact J199_0 (z36_l3) (p36_0) (p36_1) h36_0 (gh_36_0) (by omega) (by omega) (by omega) (by omega) (by omega) n_Lst_36_0 n_Ln_36_0
          ·
            refine w_iload gz_104_43 rfl ?_
            refine w_ifeq (t := 199) gz_104_45 rfl (fun u82 => ?_) (fun u82 => ?_)
            ·
              exact J199_0 (z36_l3) (p36_0) (p36_1) h36_0 (gh_36_0) (by omega) (by omega) (by omega) (by omega) (by omega) n_Lst_36_0 n_Ln_36_0
            ·
              refine w_aload_n gz_104_48 rfl ?_
              refine w_inv (k := 0) (as := []) (r := []) (x := 94) (ls0 := [(2, 94)]) gz_104_49 gm_100 rfl is_94 rd_2 rfl rfl rfl rfl rfl ?_
              refine w_aload_n gz_100_0 rfl ?_
              refine v_getI (j := 13) gz_100_1 rfl is_94 rd_2 rfl (fun v83 ev83 pv83 qv83 => ?_)
              refine w_ifeq (t := 33) gz_100_4 rfl (fun u84 => ?_) (fun u84 => ?_)
              ·
                refine w_iconst gz_100_33 (by decide) ?_
                refine w_bret gz_100_34 gm_100 (by omega) (by omega) ?_
                show wp l rho (d + 4) 104 52 [(2, 94), (2, x1), (0, x2), (1, z36_l3), (9, 0), (0, p10_0), (0, p36_0), (0, p36_1), (9, 0)] [(0, 0)] h36_0 Q
                refine w_ifne (t := 199) gz_104_52 rfl (fun u85 => by exfalso; omega) (fun u85 => ?_)
                refine w_lload_n gz_104_55 rfl ?_
                refine w_iload gz_104_56 rfl ?_
                refine w_bipush gz_104_58 (by decide) ?_
                refine w_imul gz_104_60 ⟨by omega, by omega⟩ ?_
                refine w_iload gz_104_61 rfl ?_
                refine w_iadd gz_104_63 ⟨by omega, by omega⟩ ?_
                refine w_inS (k := 0) (as := [(0, ((p10_0 * 20) + p36_1)), (1, z36_l3)]) (r := []) (ls0 := [(1, z36_l3), (9, 0), (0, ((p10_0 * 20) + p36_1))]) gz_104_64 gm_69 rfl rfl rfl rfl rfl rfl ?_
                refine w_lload_n gz_69_0 rfl ?_
                refine w_iload_n gz_69_1 rfl ?_
                refine w_jshf gz_69_2 (fun _ => rfl) rfl (fun v86 pv86 => ?_)
                refine w_lconst gz_69_3 ?_
                refine w_jany2 gz_69_4 (fun _ => rfl) rfl (fun v87 pv87 => ?_)
                refine w_lconst gz_69_5 ?_
                refine w_lcmp gz_69_6 (fun v88 pv88 qv88 => ?_)
                refine w_ifeq (t := 14) gz_69_7 rfl (fun u89 => ?_) (fun u89 => ?_)
                ·
                  refine w_iconst gz_69_14 (by decide) ?_
                  refine w_bret gz_69_15 gm_69 (by omega) (by omega) ?_
                  show wp l rho (d + 4) 104 67 [(2, 94), (2, x1), (0, x2), (1, z36_l3), (9, 0), (0, p10_0), (0, p36_0), (0, p36_1), (9, 0)] [(0, 0)] h36_0 Q
                  refine w_istore (ls' := [(2, 94), (2, x1), (0, x2), (1, z36_l3), (9, 0), (0, p10_0), (0, p36_0), (0, p36_1), (0, 0)]) gz_104_67 gm_104 rfl rfl rfl ?_
                  refine w_aload_n gz_104_69 rfl ?_
                  refine w_iload gz_104_70 rfl ?_
                  refine w_iload gz_104_72 rfl ?_
                  refine w_inv (k := 0) (as := [(0, p36_1), (0, p10_0)]) (r := []) (x := x1) (ls0 := [(2, x1), (0, p10_0), (0, p36_1)]) gz_104_74 gm_15 rfl t1 rd_6 rfl rfl rfl rfl rfl ?_
                  refine w_iload_n gz_15_0 rfl ?_
                  refine w_iflt (t := 31) gz_15_1 rfl (fun u90 => by exfalso; omega) (fun u90 => ?_)
                  refine w_iload_n gz_15_4 rfl ?_
                  refine w_bipush gz_15_5 (by decide) ?_
                  refine w_icge (t := 31) gz_15_7 rfl (fun u91 => by exfalso; omega) (fun u91 => ?_)
                  refine w_aload_n gz_15_10 rfl ?_
                  refine w_getX (v := (x1 + 1)) gz_15_11 t1 rd_6 rfl (by decide) rfl ?_
                  refine w_iload_n gz_15_14 rfl ?_
                  refine w_bipush gz_15_15 (by decide) ?_
                  refine w_imul gz_15_17 ⟨by omega, by omega⟩ ?_
                  refine w_iload_n gz_15_18 rfl ?_
                  refine w_iadd gz_15_19 ⟨by omega, by omega⟩ ?_
                  refine w_iconst gz_15_20 (by decide) ?_
                  refine w_imul gz_15_21 ⟨by omega, by omega⟩ ?_
                  refine w_iald gz_15_22 (ix_6_1 t1) rd_30 (by omega) (by omega) (fun v93 ev93 pv93 qv93 => ?_)
                  refine w_iconst gz_15_23 (by decide) ?_
                  refine w_iceq (t := 31) gz_15_24 rfl (fun u94 => ?_) (fun u94 => ?_)
                  ·
                    refine w_iconst gz_15_31 (by decide) ?_
                    refine w_bret gz_15_32 gm_15 (by omega) (by omega) ?_
                    show wp l rho (d + 4) 104 77 [(2, 94), (2, x1), (0, x2), (1, z36_l3), (9, 0), (0, p10_0), (0, p36_0), (0, p36_1), (0, 0)] [(0, 0)] h36_0 Q
                    refine w_ifeq (t := 193) gz_104_77 rfl (fun u95 => ?_) (fun u95 => by exfalso; omega)
                    rw [show (p36_0 : Int) = 1 from by omega]
                    exact J193_2 (z36_l3) (v83) h36_0 (gh_36_0) (by omega) (by omega) (by omega) (by omega) (ev83.symm.trans (by omega)) n_Lst_36_0 n_Ln_36_0
                  ·
                    refine w_iconst gz_15_27 (by decide) ?_
                    refine w_goto (t := 32) gz_15_28 rfl ?_
                    refine w_bret gz_15_32 gm_15 (by omega) (by omega) ?_
                    show wp l rho (d + 4) 104 77 [(2, 94), (2, x1), (0, x2), (1, z36_l3), (9, 0), (0, p10_0), (0, p36_0), (0, p36_1), (0, 0)] [(0, 1)] h36_0 Q
                    refine w_ifeq (t := 193) gz_104_77 rfl (fun u96 => by exfalso; omega) (fun u96 => ?_)
                    refine w_iload gz_104_80 rfl ?_
                    refine w_ifne (t := 95) gz_104_82 rfl (fun u97 => by exfalso; omega) (fun u97 => ?_)
                    refine w_aload_n gz_104_85 rfl ?_
                    refine v_getI (j := 14) gz_104_86 rfl is_94 rd_2 rfl (fun v98 ev98 pv98 qv98 => ?_)
                    refine w_ifne (t := 95) gz_104_89 rfl (fun u99 => ?_) (fun u99 => ?_)
                    ·
                      rw [show (p36_0 : Int) = 1 from by omega]
                      exact J95_0 (z36_l3) (v83) h36_0 (gh_36_0) (by omega) (by omega) (by omega) (by omega) (ev83.symm.trans (by omega)) (ev98.symm.trans (by omega)) n_Lst_36_0 n_Ln_36_0
                    ·
                      refine w_goto (t := 193) gz_104_92 rfl ?_
                      rw [show (p36_0 : Int) = 1 from by omega]
                      exact J193_2 (z36_l3) (v83) h36_0 (gh_36_0) (by omega) (by omega) (by omega) (by omega) (ev83.symm.trans (by omega)) n_Lst_36_0 n_Ln_36_0
                ·
                  refine w_iconst gz_69_10 (by decide) ?_
                  refine w_goto (t := 15) gz_69_11 rfl ?_
                  refine w_bret gz_69_15 gm_69 (by omega) (by omega) ?_
                  show wp l rho (d + 4) 104 67 [(2, 94), (2, x1), (0, x2), (1, z36_l3), (9, 0), (0, p10_0), (0, p36_0), (0, p36_1), (9, 0)] [(0, 1)] h36_0 Q
                  refine w_istore (ls' := [(2, 94), (2, x1), (0, x2), (1, z36_l3), (9, 0), (0, p10_0), (0, p36_0), (0, p36_1), (0, 1)]) gz_104_67 gm_104 rfl rfl rfl ?_
                  refine w_aload_n gz_104_69 rfl ?_
                  refine w_iload gz_104_70 rfl ?_
                  refine w_iload gz_104_72 rfl ?_
                  refine w_inv (k := 0) (as := [(0, p36_1), (0, p10_0)]) (r := []) (x := x1) (ls0 := [(2, x1), (0, p10_0), (0, p36_1)]) gz_104_74 gm_15 rfl t1 rd_6 rfl rfl rfl rfl rfl ?_
                  refine w_iload_n gz_15_0 rfl ?_
                  refine w_iflt (t := 31) gz_15_1 rfl (fun u100 => by exfalso; omega) (fun u100 => ?_)
                  refine w_iload_n gz_15_4 rfl ?_
                  refine w_bipush gz_15_5 (by decide) ?_
                  refine w_icge (t := 31) gz_15_7 rfl (fun u101 => by exfalso; omega) (fun u101 => ?_)
                  refine w_aload_n gz_15_10 rfl ?_
                  refine w_getX (v := (x1 + 1)) gz_15_11 t1 rd_6 rfl (by decide) rfl ?_
                  refine w_iload_n gz_15_14 rfl ?_
                  refine w_bipush gz_15_15 (by decide) ?_
                  refine w_imul gz_15_17 ⟨by omega, by omega⟩ ?_
                  refine w_iload_n gz_15_18 rfl ?_
                  refine w_iadd gz_15_19 ⟨by omega, by omega⟩ ?_
                  refine w_iconst gz_15_20 (by decide) ?_
                  refine w_imul gz_15_21 ⟨by omega, by omega⟩ ?_
                  refine w_iald gz_15_22 (ix_6_1 t1) rd_30 (by omega) (by omega) (fun v103 ev103 pv103 qv103 => ?_)
                  refine w_iconst gz_15_23 (by decide) ?_
                  refine w_iceq (t := 31) gz_15_24 rfl (fun u104 => ?_) (fun u104 => ?_)
                  ·
                    refine w_iconst gz_15_31 (by decide) ?_
                    refine w_bret gz_15_32 gm_15 (by omega) (by omega) ?_
                    show wp l rho (d + 4) 104 77 [(2, 94), (2, x1), (0, x2), (1, z36_l3), (9, 0), (0, p10_0), (0, p36_0), (0, p36_1), (0, 1)] [(0, 0)] h36_0 Q
                    refine w_ifeq (t := 193) gz_104_77 rfl (fun u105 => ?_) (fun u105 => by exfalso; omega)
                    rw [show (p36_0 : Int) = 1 from by omega]
                    exact J193_3 (z36_l3) (v83) h36_0 (gh_36_0) (by omega) (by omega) (by omega) (by omega) (ev83.symm.trans (by omega)) n_Lst_36_0 n_Ln_36_0
                  ·
                    refine w_iconst gz_15_27 (by decide) ?_
                    refine w_goto (t := 32) gz_15_28 rfl ?_
                    refine w_bret gz_15_32 gm_15 (by omega) (by omega) ?_
                    show wp l rho (d + 4) 104 77 [(2, 94), (2, x1), (0, x2), (1, z36_l3), (9, 0), (0, p10_0), (0, p36_0), (0, p36_1), (0, 1)] [(0, 1)] h36_0 Q
                    refine w_ifeq (t := 193) gz_104_77 rfl (fun u106 => by exfalso; omega) (fun u106 => ?_)
                    refine w_iload gz_104_80 rfl ?_
                    refine w_ifne (t := 95) gz_104_82 rfl (fun u107 => ?_) (fun u107 => by exfalso; omega)
                    rw [show (p36_0 : Int) = 1 from by omega]
                    exact J95_1 (z36_l3) (v83) h36_0 (gh_36_0) (by omega) (by omega) (by omega) (by omega) (ev83.symm.trans (by omega)) n_Lst_36_0 n_Ln_36_0
              ·
                refine w_aload_n gz_100_7 rfl ?_
                refine w_getX (v := 112) gz_100_8 is_94 rd_2 rfl (by decide) rfl ?_
                refine v_getI (j := 0) gz_100_11 rfl is_112 rd_7 rfl (fun v109 ev109 pv109 qv109 => ?_)
                refine w_iconst gz_100_14 (by decide) ?_
                refine w_iceq (t := 33) gz_100_15 rfl (fun u110 => ?_) (fun u110 => ?_)
                ·
                  refine w_iconst gz_100_33 (by decide) ?_
                  refine w_bret gz_100_34 gm_100 (by omega) (by omega) ?_
                  show wp l rho (d + 4) 104 52 [(2, 94), (2, x1), (0, x2), (1, z36_l3), (9, 0), (0, p10_0), (0, p36_0), (0, p36_1), (9, 0)] [(0, 0)] h36_0 Q
                  refine w_ifne (t := 199) gz_104_52 rfl (fun u111 => by exfalso; omega) (fun u111 => ?_)
                  refine w_lload_n gz_104_55 rfl ?_
                  refine w_iload gz_104_56 rfl ?_
                  refine w_bipush gz_104_58 (by decide) ?_
                  refine w_imul gz_104_60 ⟨by omega, by omega⟩ ?_
                  refine w_iload gz_104_61 rfl ?_
                  refine w_iadd gz_104_63 ⟨by omega, by omega⟩ ?_
                  refine w_inS (k := 0) (as := [(0, ((p10_0 * 20) + p36_1)), (1, z36_l3)]) (r := []) (ls0 := [(1, z36_l3), (9, 0), (0, ((p10_0 * 20) + p36_1))]) gz_104_64 gm_69 rfl rfl rfl rfl rfl rfl ?_
                  refine w_lload_n gz_69_0 rfl ?_
                  refine w_iload_n gz_69_1 rfl ?_
                  refine w_jshf gz_69_2 (fun _ => rfl) rfl (fun v112 pv112 => ?_)
                  refine w_lconst gz_69_3 ?_
                  refine w_jany2 gz_69_4 (fun _ => rfl) rfl (fun v113 pv113 => ?_)
                  refine w_lconst gz_69_5 ?_
                  refine w_lcmp gz_69_6 (fun v114 pv114 qv114 => ?_)
                  refine w_ifeq (t := 14) gz_69_7 rfl (fun u115 => ?_) (fun u115 => ?_)
                  ·
                    refine w_iconst gz_69_14 (by decide) ?_
                    refine w_bret gz_69_15 gm_69 (by omega) (by omega) ?_
                    show wp l rho (d + 4) 104 67 [(2, 94), (2, x1), (0, x2), (1, z36_l3), (9, 0), (0, p10_0), (0, p36_0), (0, p36_1), (9, 0)] [(0, 0)] h36_0 Q
                    refine w_istore (ls' := [(2, 94), (2, x1), (0, x2), (1, z36_l3), (9, 0), (0, p10_0), (0, p36_0), (0, p36_1), (0, 0)]) gz_104_67 gm_104 rfl rfl rfl ?_
                    refine w_aload_n gz_104_69 rfl ?_
                    refine w_iload gz_104_70 rfl ?_
                    refine w_iload gz_104_72 rfl ?_
                    refine w_inv (k := 0) (as := [(0, p36_1), (0, p10_0)]) (r := []) (x := x1) (ls0 := [(2, x1), (0, p10_0), (0, p36_1)]) gz_104_74 gm_15 rfl t1 rd_6 rfl rfl rfl rfl rfl ?_
                    refine w_iload_n gz_15_0 rfl ?_
                    refine w_iflt (t := 31) gz_15_1 rfl (fun u116 => by exfalso; omega) (fun u116 => ?_)
                    refine w_iload_n gz_15_4 rfl ?_
                    refine w_bipush gz_15_5 (by decide) ?_
                    refine w_icge (t := 31) gz_15_7 rfl (fun u117 => by exfalso; omega) (fun u117 => ?_)
                    refine w_aload_n gz_15_10 rfl ?_
                    refine w_getX (v := (x1 + 1)) gz_15_11 t1 rd_6 rfl (by decide) rfl ?_
                    refine w_iload_n gz_15_14 rfl ?_
                    refine w_bipush gz_15_15 (by decide) ?_
                    refine w_imul gz_15_17 ⟨by omega, by omega⟩ ?_
                    refine w_iload_n gz_15_18 rfl ?_
                    refine w_iadd gz_15_19 ⟨by omega, by omega⟩ ?_
                    refine w_iconst gz_15_20 (by decide) ?_
                    refine w_imul gz_15_21 ⟨by omega, by omega⟩ ?_
                    refine w_iald gz_15_22 (ix_6_1 t1) rd_30 (by omega) (by omega) (fun v119 ev119 pv119 qv119 => ?_)
                    refine w_iconst gz_15_23 (by decide) ?_
                    refine w_iceq (t := 31) gz_15_24 rfl (fun u120 => ?_) (fun u120 => ?_)
                    ·
                      refine w_iconst gz_15_31 (by decide) ?_
                      refine w_bret gz_15_32 gm_15 (by omega) (by omega) ?_
                      show wp l rho (d + 4) 104 77 [(2, 94), (2, x1), (0, x2), (1, z36_l3), (9, 0), (0, p10_0), (0, p36_0), (0, p36_1), (0, 0)] [(0, 0)] h36_0 Q
                      refine w_ifeq (t := 193) gz_104_77 rfl (fun u121 => ?_) (fun u121 => by exfalso; omega)
                      rw [show (p36_0 : Int) = 1 from by omega]
                      exact J193_2 (z36_l3) (v83) h36_0 (gh_36_0) (by omega) (by omega) (by omega) (by omega) (ev83.symm.trans (by omega)) n_Lst_36_0 n_Ln_36_0
                    ·
                      refine w_iconst gz_15_27 (by decide) ?_
                      refine w_goto (t := 32) gz_15_28 rfl ?_
                      refine w_bret gz_15_32 gm_15 (by omega) (by omega) ?_
                      show wp l rho (d + 4) 104 77 [(2, 94), (2, x1), (0, x2), (1, z36_l3), (9, 0), (0, p10_0), (0, p36_0), (0, p36_1), (0, 0)] [(0, 1)] h36_0 Q
                      refine w_ifeq (t := 193) gz_104_77 rfl (fun u122 => by exfalso; omega) (fun u122 => ?_)
                      refine w_iload gz_104_80 rfl ?_
                      refine w_ifne (t := 95) gz_104_82 rfl (fun u123 => by exfalso; omega) (fun u123 => ?_)
                      refine w_aload_n gz_104_85 rfl ?_
                      refine v_getI (j := 14) gz_104_86 rfl is_94 rd_2 rfl (fun v124 ev124 pv124 qv124 => ?_)
                      refine w_ifne (t := 95) gz_104_89 rfl (fun u125 => ?_) (fun u125 => ?_)
                      ·
                        rw [show (p36_0 : Int) = 1 from by omega]
                        exact J95_0 (z36_l3) (v83) h36_0 (gh_36_0) (by omega) (by omega) (by omega) (by omega) (ev83.symm.trans (by omega)) (ev124.symm.trans (by omega)) n_Lst_36_0 n_Ln_36_0
                      ·
                        refine w_goto (t := 193) gz_104_92 rfl ?_
                        rw [show (p36_0 : Int) = 1 from by omega]
                        exact J193_2 (z36_l3) (v83) h36_0 (gh_36_0) (by omega) (by omega) (by omega) (by omega) (ev83.symm.trans (by omega)) n_Lst_36_0 n_Ln_36_0
                  ·
                    refine w_iconst gz_69_10 (by decide) ?_
                    refine w_goto (t := 15) gz_69_11 rfl ?_
                    refine w_bret gz_69_15 gm_69 (by omega) (by omega) ?_
                    show wp l rho (d + 4) 104 67 [(2, 94), (2, x1), (0, x2), (1, z36_l3), (9, 0), (0, p10_0), (0, p36_0), (0, p36_1), (9, 0)] [(0, 1)] h36_0 Q
                    refine w_istore (ls' := [(2, 94), (2, x1), (0, x2), (1, z36_l3), (9, 0), (0, p10_0), (0, p36_0), (0, p36_1), (0, 1)]) gz_104_67 gm_104 rfl rfl rfl ?_
                    refine w_aload_n gz_104_69 rfl ?_
                    refine w_iload gz_104_70 rfl ?_
                    refine w_iload gz_104_72 rfl ?_
                    refine w_inv (k := 0) (as := [(0, p36_1), (0, p10_0)]) (r := []) (x := x1) (ls0 := [(2, x1), (0, p10_0), (0, p36_1)]) gz_104_74 gm_15 rfl t1 rd_6 rfl rfl rfl rfl rfl ?_
                    refine w_iload_n gz_15_0 rfl ?_
                    refine w_iflt (t := 31) gz_15_1 rfl (fun u126 => by exfalso; omega) (fun u126 => ?_)
                    refine w_iload_n gz_15_4 rfl ?_
                    refine w_bipush gz_15_5 (by decide) ?_
                    refine w_icge (t := 31) gz_15_7 rfl (fun u127 => by exfalso; omega) (fun u127 => ?_)
                    refine w_aload_n gz_15_10 rfl ?_
                    refine w_getX (v := (x1 + 1)) gz_15_11 t1 rd_6 rfl (by decide) rfl ?_
                    refine w_iload_n gz_15_14 rfl ?_
                    refine w_bipush gz_15_15 (by decide) ?_
                    refine w_imul gz_15_17 ⟨by omega, by omega⟩ ?_
                    refine w_iload_n gz_15_18 rfl ?_
                    refine w_iadd gz_15_19 ⟨by omega, by omega⟩ ?_
                    refine w_iconst gz_15_20 (by decide) ?_
                    refine w_imul gz_15_21 ⟨by omega, by omega⟩ ?_
                    refine w_iald gz_15_22 (ix_6_1 t1) rd_30 (by omega) (by omega) (fun v129 ev129 pv129 qv129 => ?_)
                    refine w_iconst gz_15_23 (by decide) ?_
                    refine w_iceq (t := 31) gz_15_24 rfl (fun u130 => ?_) (fun u130 => ?_)
                    ·
                      refine w_iconst gz_15_31 (by decide) ?_
                      refine w_bret gz_15_32 gm_15 (by omega) (by omega) ?_
                      show wp l rho (d + 4) 104 77 [(2, 94), (2, x1), (0, x2), (1, z36_l3), (9, 0), (0, p10_0), (0, p36_0), (0, p36_1), (0, 1)] [(0, 0)] h36_0 Q
                      refine w_ifeq (t := 193) gz_104_77 rfl (fun u131 => ?_) (fun u131 => by exfalso; omega)
                      rw [show (p36_0 : Int) = 1 from by omega]
                      exact J193_3 (z36_l3) (v83) h36_0 (gh_36_0) (by omega) (by omega) (by omega) (by omega) (ev83.symm.trans (by omega)) n_Lst_36_0 n_Ln_36_0
                    ·
                      refine w_iconst gz_15_27 (by decide) ?_
                      refine w_goto (t := 32) gz_15_28 rfl ?_
                      refine w_bret gz_15_32 gm_15 (by omega) (by omega) ?_
                      show wp l rho (d + 4) 104 77 [(2, 94), (2, x1), (0, x2), (1, z36_l3), (9, 0), (0, p10_0), (0, p36_0), (0, p36_1), (0, 1)] [(0, 1)] h36_0 Q
                      refine w_ifeq (t := 193) gz_104_77 rfl (fun u132 => by exfalso; omega) (fun u132 => ?_)
                      refine w_iload gz_104_80 rfl ?_
                      refine w_ifne (t := 95) gz_104_82 rfl (fun u133 => ?_) (fun u133 => by exfalso; omega)
                      rw [show (p36_0 : Int) = 1 from by omega]
                      exact J95_1 (z36_l3) (v83) h36_0 (gh_36_0) (by omega) (by omega) (by omega) (by omega) (ev83.symm.trans (by omega)) n_Lst_36_0 n_Ln_36_0
                ·
                  refine w_aload_n gz_100_18 rfl ?_
                  refine w_getX (v := 112) gz_100_19 is_94 rd_2 rfl (by decide) rfl ?_
                  refine v_getI (j := 0) gz_100_22 rfl is_112 rd_7 rfl (fun v135 ev135 pv135 qv135 => ?_)
                  have zv135 := ev135.trans ev109.symm
                  refine w_iconst gz_100_25 (by decide) ?_
                  refine w_icgt (t := 33) gz_100_26 rfl (fun u136 => ?_) (fun u136 => ?_)
                  ·
                    refine w_iconst gz_100_33 (by decide) ?_
                    refine w_bret gz_100_34 gm_100 (by omega) (by omega) ?_
                    show wp l rho (d + 4) 104 52 [(2, 94), (2, x1), (0, x2), (1, z36_l3), (9, 0), (0, p10_0), (0, p36_0), (0, p36_1), (9, 0)] [(0, 0)] h36_0 Q
                    refine w_ifne (t := 199) gz_104_52 rfl (fun u137 => by exfalso; omega) (fun u137 => ?_)
                    refine w_lload_n gz_104_55 rfl ?_
                    refine w_iload gz_104_56 rfl ?_
                    refine w_bipush gz_104_58 (by decide) ?_
                    refine w_imul gz_104_60 ⟨by omega, by omega⟩ ?_
                    refine w_iload gz_104_61 rfl ?_
                    refine w_iadd gz_104_63 ⟨by omega, by omega⟩ ?_
                    refine w_inS (k := 0) (as := [(0, ((p10_0 * 20) + p36_1)), (1, z36_l3)]) (r := []) (ls0 := [(1, z36_l3), (9, 0), (0, ((p10_0 * 20) + p36_1))]) gz_104_64 gm_69 rfl rfl rfl rfl rfl rfl ?_
                    refine w_lload_n gz_69_0 rfl ?_
                    refine w_iload_n gz_69_1 rfl ?_
                    refine w_jshf gz_69_2 (fun _ => rfl) rfl (fun v138 pv138 => ?_)
                    refine w_lconst gz_69_3 ?_
                    refine w_jany2 gz_69_4 (fun _ => rfl) rfl (fun v139 pv139 => ?_)
                    refine w_lconst gz_69_5 ?_
                    refine w_lcmp gz_69_6 (fun v140 pv140 qv140 => ?_)
                    refine w_ifeq (t := 14) gz_69_7 rfl (fun u141 => ?_) (fun u141 => ?_)
                    ·
                      refine w_iconst gz_69_14 (by decide) ?_
                      refine w_bret gz_69_15 gm_69 (by omega) (by omega) ?_
                      show wp l rho (d + 4) 104 67 [(2, 94), (2, x1), (0, x2), (1, z36_l3), (9, 0), (0, p10_0), (0, p36_0), (0, p36_1), (9, 0)] [(0, 0)] h36_0 Q
                      refine w_istore (ls' := [(2, 94), (2, x1), (0, x2), (1, z36_l3), (9, 0), (0, p10_0), (0, p36_0), (0, p36_1), (0, 0)]) gz_104_67 gm_104 rfl rfl rfl ?_
                      refine w_aload_n gz_104_69 rfl ?_
                      refine w_iload gz_104_70 rfl ?_
                      refine w_iload gz_104_72 rfl ?_
                      refine w_inv (k := 0) (as := [(0, p36_1), (0, p10_0)]) (r := []) (x := x1) (ls0 := [(2, x1), (0, p10_0), (0, p36_1)]) gz_104_74 gm_15 rfl t1 rd_6 rfl rfl rfl rfl rfl ?_
                      refine w_iload_n gz_15_0 rfl ?_
                      refine w_iflt (t := 31) gz_15_1 rfl (fun u142 => by exfalso; omega) (fun u142 => ?_)
                      refine w_iload_n gz_15_4 rfl ?_
                      refine w_bipush gz_15_5 (by decide) ?_
                      refine w_icge (t := 31) gz_15_7 rfl (fun u143 => by exfalso; omega) (fun u143 => ?_)
                      refine w_aload_n gz_15_10 rfl ?_
                      refine w_getX (v := (x1 + 1)) gz_15_11 t1 rd_6 rfl (by decide) rfl ?_
                      refine w_iload_n gz_15_14 rfl ?_
                      refine w_bipush gz_15_15 (by decide) ?_
                      refine w_imul gz_15_17 ⟨by omega, by omega⟩ ?_
                      refine w_iload_n gz_15_18 rfl ?_
                      refine w_iadd gz_15_19 ⟨by omega, by omega⟩ ?_
                      refine w_iconst gz_15_20 (by decide) ?_
                      refine w_imul gz_15_21 ⟨by omega, by omega⟩ ?_
                      refine w_iald gz_15_22 (ix_6_1 t1) rd_30 (by omega) (by omega) (fun v145 ev145 pv145 qv145 => ?_)
                      refine w_iconst gz_15_23 (by decide) ?_
                      refine w_iceq (t := 31) gz_15_24 rfl (fun u146 => ?_) (fun u146 => ?_)
                      ·
                        refine w_iconst gz_15_31 (by decide) ?_
                        refine w_bret gz_15_32 gm_15 (by omega) (by omega) ?_
                        show wp l rho (d + 4) 104 77 [(2, 94), (2, x1), (0, x2), (1, z36_l3), (9, 0), (0, p10_0), (0, p36_0), (0, p36_1), (0, 0)] [(0, 0)] h36_0 Q
                        refine w_ifeq (t := 193) gz_104_77 rfl (fun u147 => ?_) (fun u147 => by exfalso; omega)
                        rw [show (p36_0 : Int) = 1 from by omega]
                        exact J193_2 (z36_l3) (v83) h36_0 (gh_36_0) (by omega) (by omega) (by omega) (by omega) (ev83.symm.trans (by omega)) n_Lst_36_0 n_Ln_36_0
                      ·
                        refine w_iconst gz_15_27 (by decide) ?_
                        refine w_goto (t := 32) gz_15_28 rfl ?_
                        refine w_bret gz_15_32 gm_15 (by omega) (by omega) ?_
                        show wp l rho (d + 4) 104 77 [(2, 94), (2, x1), (0, x2), (1, z36_l3), (9, 0), (0, p10_0), (0, p36_0), (0, p36_1), (0, 0)] [(0, 1)] h36_0 Q
                        refine w_ifeq (t := 193) gz_104_77 rfl (fun u148 => by exfalso; omega) (fun u148 => ?_)
                        refine w_iload gz_104_80 rfl ?_
                        refine w_ifne (t := 95) gz_104_82 rfl (fun u149 => by exfalso; omega) (fun u149 => ?_)
                        refine w_aload_n gz_104_85 rfl ?_
                        refine v_getI (j := 14) gz_104_86 rfl is_94 rd_2 rfl (fun v150 ev150 pv150 qv150 => ?_)
                        refine w_ifne (t := 95) gz_104_89 rfl (fun u151 => ?_) (fun u151 => ?_)
                        ·
                          rw [show (p36_0 : Int) = 1 from by omega]
                          exact J95_0 (z36_l3) (v83) h36_0 (gh_36_0) (by omega) (by omega) (by omega) (by omega) (ev83.symm.trans (by omega)) (ev150.symm.trans (by omega)) n_Lst_36_0 n_Ln_36_0
                        ·
                          refine w_goto (t := 193) gz_104_92 rfl ?_
                          rw [show (p36_0 : Int) = 1 from by omega]
                          exact J193_2 (z36_l3) (v83) h36_0 (gh_36_0) (by omega) (by omega) (by omega) (by omega) (ev83.symm.trans (by omega)) n_Lst_36_0 n_Ln_36_0
                    ·
                      refine w_iconst gz_69_10 (by decide) ?_
                      refine w_goto (t := 15) gz_69_11 rfl ?_
                      refine w_bret gz_69_15 gm_69 (by omega) (by omega) ?_
                      show wp l rho (d + 4) 104 67 [(2, 94), (2, x1), (0, x2), (1, z36_l3), (9, 0), (0, p10_0), (0, p36_0), (0, p36_1), (9, 0)] [(0, 1)] h36_0 Q
                      refine w_istore (ls' := [(2, 94), (2, x1), (0, x2), (1, z36_l3), (9, 0), (0, p10_0), (0, p36_0), (0, p36_1), (0, 1)]) gz_104_67 gm_104 rfl rfl rfl ?_
                      refine w_aload_n gz_104_69 rfl ?_
                      refine w_iload gz_104_70 rfl ?_
                      refine w_iload gz_104_72 rfl ?_
                      refine w_inv (k := 0) (as := [(0, p36_1), (0, p10_0)]) (r := []) (x := x1) (ls0 := [(2, x1), (0, p10_0), (0, p36_1)]) gz_104_74 gm_15 rfl t1 rd_6 rfl rfl rfl rfl rfl ?_
                      refine w_iload_n gz_15_0 rfl ?_
                      refine w_iflt (t := 31) gz_15_1 rfl (fun u152 => by exfalso; omega) (fun u152 => ?_)
                      refine w_iload_n gz_15_4 rfl ?_
                      refine w_bipush gz_15_5 (by decide) ?_
                      refine w_icge (t := 31) gz_15_7 rfl (fun u153 => by exfalso; omega) (fun u153 => ?_)
                      refine w_aload_n gz_15_10 rfl ?_
                      refine w_getX (v := (x1 + 1)) gz_15_11 t1 rd_6 rfl (by decide) rfl ?_
                      refine w_iload_n gz_15_14 rfl ?_
                      refine w_bipush gz_15_15 (by decide) ?_
                      refine w_imul gz_15_17 ⟨by omega, by omega⟩ ?_
                      refine w_iload_n gz_15_18 rfl ?_
                      refine w_iadd gz_15_19 ⟨by omega, by omega⟩ ?_
                      refine w_iconst gz_15_20 (by decide) ?_
                      refine w_imul gz_15_21 ⟨by omega, by omega⟩ ?_
                      refine w_iald gz_15_22 (ix_6_1 t1) rd_30 (by omega) (by omega) (fun v155 ev155 pv155 qv155 => ?_)
                      refine w_iconst gz_15_23 (by decide) ?_
                      refine w_iceq (t := 31) gz_15_24 rfl (fun u156 => ?_) (fun u156 => ?_)
                      ·
                        refine w_iconst gz_15_31 (by decide) ?_
                        refine w_bret gz_15_32 gm_15 (by omega) (by omega) ?_
                        show wp l rho (d + 4) 104 77 [(2, 94), (2, x1), (0, x2), (1, z36_l3), (9, 0), (0, p10_0), (0, p36_0), (0, p36_1), (0, 1)] [(0, 0)] h36_0 Q
                        refine w_ifeq (t := 193) gz_104_77 rfl (fun u157 => ?_) (fun u157 => by exfalso; omega)
                        rw [show (p36_0 : Int) = 1 from by omega]
                        exact J193_3 (z36_l3) (v83) h36_0 (gh_36_0) (by omega) (by omega) (by omega) (by omega) (ev83.symm.trans (by omega)) n_Lst_36_0 n_Ln_36_0
                      ·
                        refine w_iconst gz_15_27 (by decide) ?_
                        refine w_goto (t := 32) gz_15_28 rfl ?_
                        refine w_bret gz_15_32 gm_15 (by omega) (by omega) ?_
                        show wp l rho (d + 4) 104 77 [(2, 94), (2, x1), (0, x2), (1, z36_l3), (9, 0), (0, p10_0), (0, p36_0), (0, p36_1), (0, 1)] [(0, 1)] h36_0 Q
                        refine w_ifeq (t := 193) gz_104_77 rfl (fun u158 => by exfalso; omega) (fun u158 => ?_)
                        refine w_iload gz_104_80 rfl ?_
                        refine w_ifne (t := 95) gz_104_82 rfl (fun u159 => ?_) (fun u159 => by exfalso; omega)
                        rw [show (p36_0 : Int) = 1 from by omega]
                        exact J95_1 (z36_l3) (v83) h36_0 (gh_36_0) (by omega) (by omega) (by omega) (by omega) (ev83.symm.trans (by omega)) n_Lst_36_0 n_Ln_36_0
                  ·
                    refine w_iconst gz_100_29 (by decide) ?_
                    refine w_goto (t := 34) gz_100_30 rfl ?_
                    refine w_bret gz_100_34 gm_100 (by omega) (by omega) ?_
                    show wp l rho (d + 4) 104 52 [(2, 94), (2, x1), (0, x2), (1, z36_l3), (9, 0), (0, p10_0), (0, p36_0), (0, p36_1), (9, 0)] [(0, 1)] h36_0 Q
                    refine w_ifne (t := 199) gz_104_52 rfl (fun u160 => ?_) (fun u160 => by exfalso; omega)
                    exact J199_0 (z36_l3) (p36_0) (p36_1) h36_0 (gh_36_0) (by omega) (by omega) (by omega) (by omega) (by omega) n_Lst_36_0 n_Ln_36_0
      refine w_iload gz_104_10 rfl ?_
      refine w_iconst gz_104_12 (by decide) ?_
      refine w_icge (t := 205) gz_104_13 rfl (fun u161 => ?_) (fun u161 => ?_)
      ·
        exact w_vret gz_104_205 gm_104 (k0 h10_0 (gh_10_0) n_Lst_10_0)
      ·
        refine w_aload_n gz_104_16 rfl ?_
        refine w_getX (v := 27) gz_104_17 is_94 rd_2 rfl (by decide) rfl ?_
        refine w_iload_n gz_104_20 rfl ?_
        refine w_aald gz_104_21 is_27 rd_22 rfl (by omega) (by omega) (fun v163 ev163 tv163 => ?_)
        refine v_getI (j := 6) gz_104_22 rfl tv163 rd_4 rfl (fun v164 ev164 pv164 qv164 => ?_)
        refine w_i2l gz_104_25 ?_
        refine w_iload gz_104_26 rfl ?_
        refine w_inS (k := 0) (as := [(0, p10_0), (1, v164)]) (r := []) (ls0 := [(1, v164), (9, 0), (0, p10_0)]) gz_104_28 gm_69 rfl rfl rfl rfl rfl rfl ?_
        refine w_lload_n gz_69_0 rfl ?_
        refine w_iload_n gz_69_1 rfl ?_
        refine w_jshf gz_69_2 (fun _ => rfl) rfl (fun v165 pv165 => ?_)
        refine w_lconst gz_69_3 ?_
        refine w_jany2 gz_69_4 (fun _ => rfl) rfl (fun v166 pv166 => ?_)
        refine w_lconst gz_69_5 ?_
        refine w_lcmp gz_69_6 (fun v167 pv167 qv167 => ?_)
        refine w_ifeq (t := 14) gz_69_7 rfl (fun u168 => ?_) (fun u168 => ?_)
        ·
          refine w_iconst gz_69_14 (by decide) ?_
          refine w_bret gz_69_15 gm_69 (by omega) (by omega) ?_
          show wp l rho (d + 4) 104 31 [(2, 94), (2, x1), (0, x2), (1, z10_l3), (9, 0), (0, p10_0), (9, 0), (9, 0), (9, 0)] [(0, 0)] h10_0 Q
          refine w_istore (ls' := [(2, 94), (2, x1), (0, x2), (1, z10_l3), (9, 0), (0, p10_0), (0, 0), (9, 0), (9, 0)]) gz_104_31 gm_104 rfl rfl rfl ?_
          refine w_iconst gz_104_33 (by decide) ?_
          refine w_istore (ls' := [(2, 94), (2, x1), (0, x2), (1, z10_l3), (9, 0), (0, p10_0), (0, 0), (0, 0), (9, 0)]) gz_104_34 gm_104 rfl rfl rfl ?_
          exact J36_0 21 (z10_l3) (0) (0) h10_0 (gh_10_0) (by omega) (by omega) (by omega) (by omega) (by omega) n_Lst_10_0 n_Ln_10_0 (by omega)
        ·
          refine w_iconst gz_69_10 (by decide) ?_
          refine w_goto (t := 15) gz_69_11 rfl ?_
          refine w_bret gz_69_15 gm_69 (by omega) (by omega) ?_
          show wp l rho (d + 4) 104 31 [(2, 94), (2, x1), (0, x2), (1, z10_l3), (9, 0), (0, p10_0), (9, 0), (9, 0), (9, 0)] [(0, 1)] h10_0 Q
          refine w_istore (ls' := [(2, 94), (2, x1), (0, x2), (1, z10_l3), (9, 0), (0, p10_0), (0, 1), (9, 0), (9, 0)]) gz_104_31 gm_104 rfl rfl rfl ?_
          refine w_iconst gz_104_33 (by decide) ?_
          refine w_istore (ls' := [(2, 94), (2, x1), (0, x2), (1, z10_l3), (9, 0), (0, p10_0), (0, 1), (0, 0), (9, 0)]) gz_104_34 gm_104 rfl rfl rfl ?_
          exact J36_0 21 (z10_l3) (1) (0) h10_0 (gh_10_0) (by omega) (by omega) (by omega) (by omega) (by omega) n_Lst_10_0 n_Ln_10_0 (by omega)
  refine w_aload_n gz_104_0 rfl ?_
  refine w_getX (v := 111) gz_104_1 is_94 rd_2 rfl (by decide) rfl ?_
  refine w_inv (k := 0) (as := []) (r := []) (x := 111) (ls0 := [(2, 111)]) gz_104_4 gm_9 rfl is_111 rd_7 rfl rfl rfl rfl rfl ?_
  refine w_aload_n gz_9_0 rfl ?_
  refine w_iconst gz_9_1 (by decide) ?_
  refine v_putA (j := 0) gz_9_2 rfl is_111 rd_7 rfl rfl (fun h170 fh170 => ?_)
  have gh170 : my_fr [(2, 11), (7, 0), (7, 1), (7, 2), (7, 3), (7, 4), (7, 5), (8, 0), (8, 1), (30, -1), (31, -1), (42, -1), (43, -1), (44, -1)] h h170 := my_fr.up my_fr.rf is_111 fh170 rfl
  have Lst_h170 : Lst h170 := Lst_ne fh170 (by decide) n_Lst
  have Ln_h170 : Ln h170 := Ln_ag (my_ag.up fh170 is_111 rfl) n_Ln
  refine w_aload_n gz_9_5 rfl ?_
  refine w_iconst gz_9_6 (by decide) ?_
  refine v_putI (j := 1) gz_9_7 rfl is_111 rd_7 rfl (by omega) (by omega) rfl (fun h171 fh171 => ?_)
  have gh171 : my_fr [(2, 11), (7, 0), (7, 1), (7, 2), (7, 3), (7, 4), (7, 5), (8, 0), (8, 1), (30, -1), (31, -1), (42, -1), (43, -1), (44, -1)] h h171 := my_fr.up gh170 is_111 fh171 rfl
  have Lst_h171 : Lst h171 := Lst_ne fh171 (by decide) Lst_h170
  have Ln_h171 : Ln h171 := Ln_ag (my_ag.up fh171 is_111 rfl) Ln_h170
  refine w_aload_n gz_9_10 rfl ?_
  refine w_iconst gz_9_11 (by decide) ?_
  refine v_putI (j := 2) gz_9_12 rfl is_111 rd_7 rfl (by omega) (by omega) rfl (fun h172 fh172 => ?_)
  have gh172 : my_fr [(2, 11), (7, 0), (7, 1), (7, 2), (7, 3), (7, 4), (7, 5), (8, 0), (8, 1), (30, -1), (31, -1), (42, -1), (43, -1), (44, -1)] h h172 := my_fr.up gh171 is_111 fh172 rfl
  have Lst_h172 : Lst h172 := Lst_ne fh172 (by decide) Lst_h171
  have Ln_h172 : Ln h172 := Ln_ag (my_ag.up fh172 is_111 rfl) Ln_h171
  refine w_aload_n gz_9_15 rfl ?_
  refine w_iconst gz_9_16 (by decide) ?_
  refine v_putI (j := 3) gz_9_17 rfl is_111 rd_7 rfl (by omega) (by omega) rfl (fun h173 fh173 => ?_)
  have gh173 : my_fr [(2, 11), (7, 0), (7, 1), (7, 2), (7, 3), (7, 4), (7, 5), (8, 0), (8, 1), (30, -1), (31, -1), (42, -1), (43, -1), (44, -1)] h h173 := my_fr.up gh172 is_111 fh173 rfl
  have Lst_h173 : Lst h173 := Lst_ne fh173 (by decide) Lst_h172
  have Ln_h173 : Ln h173 := Ln_ag (my_ag.up fh173 is_111 rfl) Ln_h172
  refine w_aload_n gz_9_20 rfl ?_
  refine w_iconst gz_9_21 (by decide) ?_
  refine v_putI (j := 4) gz_9_22 rfl is_111 rd_7 rfl (by omega) (by omega) rfl (fun h174 fh174 => ?_)
  have gh174 : my_fr [(2, 11), (7, 0), (7, 1), (7, 2), (7, 3), (7, 4), (7, 5), (8, 0), (8, 1), (30, -1), (31, -1), (42, -1), (43, -1), (44, -1)] h h174 := my_fr.up gh173 is_111 fh174 rfl
  have Lst_h174 : Lst h174 := Lst_ne fh174 (by decide) Lst_h173
  have Ln_h174 : Ln h174 := Ln_ag (my_ag.up fh174 is_111 rfl) Ln_h173
  refine w_aload_n gz_9_25 rfl ?_
  refine w_iconst gz_9_26 (by decide) ?_
  refine v_putI (j := 5) gz_9_27 rfl is_111 rd_7 rfl (by omega) (by omega) rfl (fun h175 fh175 => ?_)
  have gh175 : my_fr [(2, 11), (7, 0), (7, 1), (7, 2), (7, 3), (7, 4), (7, 5), (8, 0), (8, 1), (30, -1), (31, -1), (42, -1), (43, -1), (44, -1)] h h175 := my_fr.up gh174 is_111 fh175 rfl
  have Lst_h175 : Lst h175 := Lst_ne fh175 (by decide) Lst_h174
  have Ln_h175 : Ln h175 := Ln_ag (my_ag.up fh175 is_111 rfl) Ln_h174
  refine w_vret gz_9_30 gm_9 ?_
  show wp l rho (d + 4) 104 7 [(2, 94), (2, x1), (0, x2), (1, x3), (9, 0), (9, 0), (9, 0), (9, 0), (9, 0)] [] h175 Q
  refine w_iconst gz_104_7 (by decide) ?_
  refine w_istore (ls' := [(2, 94), (2, x1), (0, x2), (1, x3), (9, 0), (0, 0), (9, 0), (9, 0), (9, 0)]) gz_104_8 gm_104 rfl rfl rfl ?_
  exact J10_0 4 (x3) (0) h175 (gh175) (by omega) (by omega) Lst_h175 Ln_h175 (by omega)
theorem c_Desk_tryRowThatComes {l : Launch} {rho : Nat → Int32} {d : Nat} {h : my_H} {Q : my_H → my_V → Prop} {x1 : Int} (a1 : 0 ≤ x1) (b1 : x1 ≤ 5) (n_Lst : Lst h) (n_Ln : Ln h) (htold : h (h 27 x1) 0 = 1) (k0 : ∀ (h' : my_H), my_fr [(2, 11), (7, 0), (7, 1), (7, 2), (7, 3), (7, 4), (7, 5), (8, 0), (8, 1), (30, -1), (31, -1), (41, -1), (42, -1), (43, -1), (44, -1)] h h' → 0 ≤ h' 94 13 → h' 94 13 ≤ 1 → Lst h' → Q h' (9, 0)) : wp l rho (d + 4) 105 0 [(2, 94), (0, x1)] [] h Q := by
  refine w_aload_n gz_105_0 rfl ?_
  refine w_inv (k := 0) (as := []) (r := []) (x := 94) (ls0 := [(2, 94)]) gz_105_1 gm_100 rfl is_94 rd_2 rfl rfl rfl rfl rfl ?_
  refine w_aload_n gz_100_0 rfl ?_
  refine v_getI (j := 13) gz_100_1 rfl is_94 rd_2 rfl (fun v1 ev1 pv1 qv1 => ?_)
  refine w_ifeq (t := 33) gz_100_4 rfl (fun u2 => ?_) (fun u2 => ?_)
  ·
    refine w_iconst gz_100_33 (by decide) ?_
    refine w_bret gz_100_34 gm_100 (by omega) (by omega) ?_
    show wp l rho (d + 4) 105 4 [(2, 94), (0, x1)] [(0, 0)] h Q
    refine w_ifne (t := 110) gz_105_4 rfl (fun u3 => by exfalso; omega) (fun u3 => ?_)
    refine w_aload_n gz_105_7 rfl ?_
    refine w_aload_n gz_105_8 rfl ?_
    refine w_getX (v := 27) gz_105_9 is_94 rd_2 rfl (by decide) rfl ?_
    refine w_iload_n gz_105_12 rfl ?_
    refine w_aald gz_105_13 is_27 rd_22 rfl (by omega) (by omega) (fun v5 ev5 tv5 => ?_)
    refine w_inv (k := 2) (as := [(2, v5)]) (r := []) (x := 94) (ls0 := [(2, 94), (2, v5), (9, 0), (9, 0)]) gz_105_14 gm_106 rfl is_94 rd_2 rfl rfl rfl rfl rfl (c_Desk_rowComes (d := (d + 1)) (x1 := v5) tv5 (fun h6 frh6 => ?_) (fun h7 frh7 => ?_))
    ·
      have gh6 : my_fr [(2, 11), (7, 0), (7, 1), (7, 2), (7, 3), (7, 4), (7, 5), (8, 0), (8, 1), (30, -1), (31, -1), (41, -1), (42, -1), (43, -1), (44, -1)] h h6 := my_fr.tr my_fr.rf (frh6.mo rfl)
      have Lst_h6 : Lst h6 := Lst_ag (my_ag.fr frh6 rfl) n_Lst
      have Ln_h6 : Ln h6 := Ln_ag (my_ag.fr frh6 rfl) n_Ln
      show wp l rho (d + 4) 105 17 [(2, 94), (0, x1)] [(0, 0)] h6 Q
      refine w_ifeq (t := 110) gz_105_17 rfl (fun u8 => ?_) (fun u8 => by exfalso; omega)
      have c9 := ((my_fr.at frh6 is_94 rfl).trans ev1.symm)
      exact w_vret gz_105_110 gm_105 (k0 h6 (gh6) (by omega) (by omega) Lst_h6)
    ·
      have gh7 : my_fr [(2, 11), (7, 0), (7, 1), (7, 2), (7, 3), (7, 4), (7, 5), (8, 0), (8, 1), (30, -1), (31, -1), (41, -1), (42, -1), (43, -1), (44, -1)] h h7 := my_fr.tr my_fr.rf (frh7.mo rfl)
      have Lst_h7 : Lst h7 := Lst_ag (my_ag.fr frh7 rfl) n_Lst
      have Ln_h7 : Ln h7 := Ln_ag (my_ag.fr frh7 rfl) n_Ln
      show wp l rho (d + 4) 105 17 [(2, 94), (0, x1)] [(0, 1)] h7 Q
      refine w_ifeq (t := 110) gz_105_17 rfl (fun u10 => by exfalso; omega) (fun u10 => ?_)
      refine w_aload_n gz_105_20 rfl ?_
      refine w_getX (v := 1) gz_105_21 is_94 rd_2 rfl (by decide) rfl ?_
      refine w_aload_n gz_105_24 rfl ?_
      refine w_getX (v := 95) gz_105_25 is_94 rd_2 rfl (by decide) rfl ?_
      refine w_inv (k := 4) (as := [(2, 95)]) (r := []) (x := 1) (ls0 := [(2, 1), (2, 95), (9, 0), (9, 0), (9, 0), (9, 0)]) gz_105_28 gm_19 rfl is_1 rd_3 rfl rfl rfl rfl rfl (c_Laws_firstBroken (d := (d + 1)) (x1 := 95) is_95 ?_ (fun v13 w14 w15 => ?_))
      ·
        show wp l rho (d + 4) 105 31 [(2, 94), (0, x1)] [(0, (-1))] h7 Q
        refine w_iconst gz_105_31 (by decide) ?_
        refine w_icne (t := 110) gz_105_32 rfl (fun u16 => by exfalso; omega) (fun u16 => ?_)
        refine w_aload_n gz_105_35 rfl ?_
        refine w_getX (v := 106) gz_105_36 is_94 rd_2 rfl (by decide) rfl ?_
        refine w_aload_n gz_105_39 rfl ?_
        refine w_getX (v := 27) gz_105_40 is_94 rd_2 rfl (by decide) rfl ?_
        refine w_iload_n gz_105_43 rfl ?_
        refine w_aload_n gz_105_44 rfl ?_
        refine w_getX (v := 95) gz_105_45 is_94 rd_2 rfl (by decide) rfl ?_
        refine w_inv (k := 4) (as := [(2, 95), (0, x1), (2, 27)]) (r := []) (x := 106) (ls0 := [(2, 106), (2, 27), (0, x1), (2, 95), (9, 0), (9, 0), (9, 0), (9, 0)]) gz_105_48 gm_67 rfl is_106 rd_8 rfl rfl rfl rfl rfl (c_View_show (d := d) (x0 := 106) (x2 := x1) (x3 := 95) is_106 (by omega) (by omega) (by omega) (by omega) is_95 Ln_h7 (by first | assumption | omega) (fun h20 v21 frh20 fxh20 w22 xp23 => ?_))
        have gh20 : my_fr [(2, 11), (7, 0), (7, 1), (7, 2), (7, 3), (7, 4), (7, 5), (8, 0), (8, 1), (30, -1), (31, -1), (41, -1), (42, -1), (43, -1), (44, -1)] h h20 := my_fr.tr gh7 (frh20.mo rfl)
        have Lst_h20 : Lst h20 := Lst_ag (my_ag.fr frh20 rfl) Lst_h7
        have Ln_h20 : Ln h20 := Ln_ag (my_ag.fr frh20 rfl) Ln_h7
        show wp l rho (d + 4) 105 51 [(2, 94), (0, x1)] [(2, v21)] h20 Q
        refine w_aload_n gz_105_51 rfl ?_
        refine w_getX (v := 102) gz_105_52 is_94 rd_2 rfl (by decide) rfl ?_
        refine w_inv (k := 1) (as := [(2, 102)]) (r := []) (x := v21) (ls0 := [(2, v21), (2, 102), (9, 0)]) gz_105_55 gm_93 rfl w22 rd_8 rfl rfl rfl rfl rfl (c_View_same (d := (d + 2)) (x0 := v21) (x1 := 102) w22 is_102 ?_ ?_)
        ·
          show wp l rho (d + 4) 105 58 [(2, 94), (0, x1)] [(0, 0)] h20 Q
          refine w_ifeq (t := 110) gz_105_58 rfl (fun u25 => ?_) (fun u25 => by exfalso; omega)
          have c26 := ((my_fr.at frh20 is_94 rfl).trans ((my_fr.at frh7 is_94 rfl).trans ev1.symm))
          exact w_vret gz_105_110 gm_105 (k0 h20 (gh20) (by omega) (by omega) Lst_h20)
        ·
          show wp l rho (d + 4) 105 58 [(2, 94), (0, x1)] [(0, 1)] h20 Q
          refine w_ifeq (t := 110) gz_105_58 rfl (fun u27 => by exfalso; omega) (fun u27 => ?_)
          refine w_aload_n gz_105_61 rfl ?_
          refine w_getX (v := 111) gz_105_62 is_94 rd_2 rfl (by decide) rfl ?_
          refine w_aload_n gz_105_65 rfl ?_
          refine w_getX (v := 27) gz_105_66 is_94 rd_2 rfl (by decide) rfl ?_
          refine w_iload_n gz_105_69 rfl ?_
          refine w_aald gz_105_70 is_27 rd_22 rfl (by omega) (by omega) (fun v30 ev30 tv30 => ?_)
          have zv30 : v5 = v30 := (ev30.trans ((my_fr.at frh20 is_27 rfl).trans ((my_fr.at frh7 is_27 rfl).trans ev5.symm))).symm
          subst zv30
          refine v_getI (j := 2) gz_105_71 rfl tv5 rd_4 rfl (fun v31 ev31 pv31 qv31 => ?_)
          refine v_putI (j := 2) gz_105_74 rfl is_111 rd_7 rfl (by omega) (by omega) rfl (fun h32 fh32 => ?_)
          have gh32 : my_fr [(2, 11), (7, 0), (7, 1), (7, 2), (7, 3), (7, 4), (7, 5), (8, 0), (8, 1), (30, -1), (31, -1), (41, -1), (42, -1), (43, -1), (44, -1)] h h32 := my_fr.up gh20 is_111 fh32 rfl
          have Lst_h32 : Lst h32 := Lst_ne fh32 (by decide) Lst_h20
          have Ln_h32 : Ln h32 := Ln_ag (my_ag.up fh32 is_111 rfl) Ln_h20
          refine w_aload_n gz_105_77 rfl ?_
          refine w_getX (v := 111) gz_105_78 is_94 rd_2 rfl (by decide) rfl ?_
          refine w_aload_n gz_105_81 rfl ?_
          refine w_getX (v := 110) gz_105_82 is_94 rd_2 rfl (by decide) rfl ?_
          refine w_iconst gz_105_85 (by decide) ?_
          refine w_iald gz_105_86 is_110 rd_41 (by omega) (by omega) (fun v35 ev35 pv35 qv35 => ?_)
          refine v_putI (j := 3) gz_105_87 rfl is_111 rd_7 rfl (by omega) (by omega) rfl (fun h36 fh36 => ?_)
          have gh36 : my_fr [(2, 11), (7, 0), (7, 1), (7, 2), (7, 3), (7, 4), (7, 5), (8, 0), (8, 1), (30, -1), (31, -1), (41, -1), (42, -1), (43, -1), (44, -1)] h h36 := my_fr.up gh32 is_111 fh36 rfl
          have Lst_h36 : Lst h36 := Lst_ne fh36 (by decide) Lst_h32
          have Ln_h36 : Ln h36 := Ln_ag (my_ag.up fh36 is_111 rfl) Ln_h32
          refine w_aload_n gz_105_90 rfl ?_
          refine w_iconst gz_105_91 (by decide) ?_
          refine w_aload_n gz_105_92 rfl ?_
          refine w_getX (v := 1) gz_105_93 is_94 rd_2 rfl (by decide) rfl ?_
          refine w_getX (v := 2) gz_105_96 is_1 rd_3 rfl (by decide) rfl ?_
          refine w_aload_n gz_105_99 rfl ?_
          refine w_getX (v := 111) gz_105_100 is_94 rd_2 rfl (by decide) rfl ?_
          refine v_getI (j := 2) gz_105_103 rfl is_111 rd_7 rfl (fun v40 ev40 pv40 qv40 => ?_)
          have zv40 := ev40.trans ((my_up_fld fh36 (by decide)).trans (my_up_self fh32))
          refine w_iald gz_105_106 is_2 rd_25 (by omega) (by omega) (fun v41 ev41 pv41 qv41 => ?_)
          have ce42 : h36 111 2 = v40 := ev40.symm
          have ce43 : h36 111 3 = v35 := (my_up_self fh36)
          have ce44 : h36 111 4 = h 111 4 := ((my_up_fld fh36 (by decide)).trans ((my_up_fld fh32 (by decide)).trans ((my_fr.at frh20 is_111 rfl).trans ((my_fr.at frh7 is_111 rfl).trans (rfl : h 111 4 = h 111 4)))))
          have ce45 : h36 111 5 = h 111 5 := ((my_up_fld fh36 (by decide)).trans ((my_up_fld fh32 (by decide)).trans ((my_fr.at frh20 is_111 rfl).trans ((my_fr.at frh7 is_111 rfl).trans (rfl : h 111 5 = h 111 5)))))
          refine w_inv (k := 0) (as := [(0, v41), (0, 3)]) (r := []) (x := 94) (ls0 := [(2, 94), (0, 3), (0, v41)]) gz_105_107 gm_94 rfl is_94 rd_2 rfl rfl rfl rfl rfl (c_Desk_keep (d := (d + 2)) (x1 := 3) (x2 := v41) (by omega) (by omega) (by omega) (by omega) Lst_h36 (by first | assumption | omega) (by first | assumption | omega) (by first | assumption | omega) (fun h46 frh46 xp47 xp48 xp49 Lst_h46t50 => ?_))
          have gh46 : my_fr [(2, 11), (7, 0), (7, 1), (7, 2), (7, 3), (7, 4), (7, 5), (8, 0), (8, 1), (30, -1), (31, -1), (41, -1), (42, -1), (43, -1), (44, -1)] h h46 := my_fr.tr gh36 (frh46.mo rfl)
          have Ln_h46 : Ln h46 := Ln_ag (my_ag.fr frh46 rfl) Ln_h36
          show wp l rho (d + 4) 105 110 [(2, 94), (0, x1)] [] h46 Q
          have c51 := ((my_fr.at frh46 is_94 rfl).trans ((my_up_role fh36 is_94 is_111 rfl).trans ((my_up_role fh32 is_94 is_111 rfl).trans ((my_fr.at frh20 is_94 rfl).trans ((my_fr.at frh7 is_94 rfl).trans ev1.symm)))))
          exact w_vret gz_105_110 gm_105 (k0 h46 (gh46) (by omega) (by omega) Lst_h46t50)
      ·
        show wp l rho (d + 4) 105 31 [(2, 94), (0, x1)] [(0, v13)] h7 Q
        refine w_iconst gz_105_31 (by decide) ?_
        refine w_icne (t := 110) gz_105_32 rfl (fun u52 => ?_) (fun u52 => by exfalso; omega)
        have c53 := ((my_fr.at frh7 is_94 rfl).trans ev1.symm)
        exact w_vret gz_105_110 gm_105 (k0 h7 (gh7) (by omega) (by omega) Lst_h7)
  ·
    refine w_aload_n gz_100_7 rfl ?_
    refine w_getX (v := 112) gz_100_8 is_94 rd_2 rfl (by decide) rfl ?_
    refine v_getI (j := 0) gz_100_11 rfl is_112 rd_7 rfl (fun v55 ev55 pv55 qv55 => ?_)
    refine w_iconst gz_100_14 (by decide) ?_
    refine w_iceq (t := 33) gz_100_15 rfl (fun u56 => ?_) (fun u56 => ?_)
    ·
      refine w_iconst gz_100_33 (by decide) ?_
      refine w_bret gz_100_34 gm_100 (by omega) (by omega) ?_
      show wp l rho (d + 4) 105 4 [(2, 94), (0, x1)] [(0, 0)] h Q
      refine w_ifne (t := 110) gz_105_4 rfl (fun u57 => by exfalso; omega) (fun u57 => ?_)
      refine w_aload_n gz_105_7 rfl ?_
      refine w_aload_n gz_105_8 rfl ?_
      refine w_getX (v := 27) gz_105_9 is_94 rd_2 rfl (by decide) rfl ?_
      refine w_iload_n gz_105_12 rfl ?_
      refine w_aald gz_105_13 is_27 rd_22 rfl (by omega) (by omega) (fun v59 ev59 tv59 => ?_)
      refine w_inv (k := 2) (as := [(2, v59)]) (r := []) (x := 94) (ls0 := [(2, 94), (2, v59), (9, 0), (9, 0)]) gz_105_14 gm_106 rfl is_94 rd_2 rfl rfl rfl rfl rfl (c_Desk_rowComes (d := (d + 1)) (x1 := v59) tv59 (fun h60 frh60 => ?_) (fun h61 frh61 => ?_))
      ·
        have gh60 : my_fr [(2, 11), (7, 0), (7, 1), (7, 2), (7, 3), (7, 4), (7, 5), (8, 0), (8, 1), (30, -1), (31, -1), (41, -1), (42, -1), (43, -1), (44, -1)] h h60 := my_fr.tr my_fr.rf (frh60.mo rfl)
        have Lst_h60 : Lst h60 := Lst_ag (my_ag.fr frh60 rfl) n_Lst
        have Ln_h60 : Ln h60 := Ln_ag (my_ag.fr frh60 rfl) n_Ln
        show wp l rho (d + 4) 105 17 [(2, 94), (0, x1)] [(0, 0)] h60 Q
        refine w_ifeq (t := 110) gz_105_17 rfl (fun u62 => ?_) (fun u62 => by exfalso; omega)
        have c63 := ((my_fr.at frh60 is_94 rfl).trans ev1.symm)
        exact w_vret gz_105_110 gm_105 (k0 h60 (gh60) (by omega) (by omega) Lst_h60)
      ·
        have gh61 : my_fr [(2, 11), (7, 0), (7, 1), (7, 2), (7, 3), (7, 4), (7, 5), (8, 0), (8, 1), (30, -1), (31, -1), (41, -1), (42, -1), (43, -1), (44, -1)] h h61 := my_fr.tr my_fr.rf (frh61.mo rfl)
        have Lst_h61 : Lst h61 := Lst_ag (my_ag.fr frh61 rfl) n_Lst
        have Ln_h61 : Ln h61 := Ln_ag (my_ag.fr frh61 rfl) n_Ln
        show wp l rho (d + 4) 105 17 [(2, 94), (0, x1)] [(0, 1)] h61 Q
        refine w_ifeq (t := 110) gz_105_17 rfl (fun u64 => by exfalso; omega) (fun u64 => ?_)
        refine w_aload_n gz_105_20 rfl ?_
        refine w_getX (v := 1) gz_105_21 is_94 rd_2 rfl (by decide) rfl ?_
        refine w_aload_n gz_105_24 rfl ?_
        refine w_getX (v := 95) gz_105_25 is_94 rd_2 rfl (by decide) rfl ?_
        refine w_inv (k := 4) (as := [(2, 95)]) (r := []) (x := 1) (ls0 := [(2, 1), (2, 95), (9, 0), (9, 0), (9, 0), (9, 0)]) gz_105_28 gm_19 rfl is_1 rd_3 rfl rfl rfl rfl rfl (c_Laws_firstBroken (d := (d + 1)) (x1 := 95) is_95 ?_ (fun v67 w68 w69 => ?_))
        ·
          show wp l rho (d + 4) 105 31 [(2, 94), (0, x1)] [(0, (-1))] h61 Q
          refine w_iconst gz_105_31 (by decide) ?_
          refine w_icne (t := 110) gz_105_32 rfl (fun u70 => by exfalso; omega) (fun u70 => ?_)
          refine w_aload_n gz_105_35 rfl ?_
          refine w_getX (v := 106) gz_105_36 is_94 rd_2 rfl (by decide) rfl ?_
          refine w_aload_n gz_105_39 rfl ?_
          refine w_getX (v := 27) gz_105_40 is_94 rd_2 rfl (by decide) rfl ?_
          refine w_iload_n gz_105_43 rfl ?_
          refine w_aload_n gz_105_44 rfl ?_
          refine w_getX (v := 95) gz_105_45 is_94 rd_2 rfl (by decide) rfl ?_
          refine w_inv (k := 4) (as := [(2, 95), (0, x1), (2, 27)]) (r := []) (x := 106) (ls0 := [(2, 106), (2, 27), (0, x1), (2, 95), (9, 0), (9, 0), (9, 0), (9, 0)]) gz_105_48 gm_67 rfl is_106 rd_8 rfl rfl rfl rfl rfl (c_View_show (d := d) (x0 := 106) (x2 := x1) (x3 := 95) is_106 (by omega) (by omega) (by omega) (by omega) is_95 Ln_h61 (by first | assumption | omega) (fun h74 v75 frh74 fxh74 w76 xp77 => ?_))
          have gh74 : my_fr [(2, 11), (7, 0), (7, 1), (7, 2), (7, 3), (7, 4), (7, 5), (8, 0), (8, 1), (30, -1), (31, -1), (41, -1), (42, -1), (43, -1), (44, -1)] h h74 := my_fr.tr gh61 (frh74.mo rfl)
          have Lst_h74 : Lst h74 := Lst_ag (my_ag.fr frh74 rfl) Lst_h61
          have Ln_h74 : Ln h74 := Ln_ag (my_ag.fr frh74 rfl) Ln_h61
          show wp l rho (d + 4) 105 51 [(2, 94), (0, x1)] [(2, v75)] h74 Q
          refine w_aload_n gz_105_51 rfl ?_
          refine w_getX (v := 102) gz_105_52 is_94 rd_2 rfl (by decide) rfl ?_
          refine w_inv (k := 1) (as := [(2, 102)]) (r := []) (x := v75) (ls0 := [(2, v75), (2, 102), (9, 0)]) gz_105_55 gm_93 rfl w76 rd_8 rfl rfl rfl rfl rfl (c_View_same (d := (d + 2)) (x0 := v75) (x1 := 102) w76 is_102 ?_ ?_)
          ·
            show wp l rho (d + 4) 105 58 [(2, 94), (0, x1)] [(0, 0)] h74 Q
            refine w_ifeq (t := 110) gz_105_58 rfl (fun u79 => ?_) (fun u79 => by exfalso; omega)
            have c80 := ((my_fr.at frh74 is_94 rfl).trans ((my_fr.at frh61 is_94 rfl).trans ev1.symm))
            exact w_vret gz_105_110 gm_105 (k0 h74 (gh74) (by omega) (by omega) Lst_h74)
          ·
            show wp l rho (d + 4) 105 58 [(2, 94), (0, x1)] [(0, 1)] h74 Q
            refine w_ifeq (t := 110) gz_105_58 rfl (fun u81 => by exfalso; omega) (fun u81 => ?_)
            refine w_aload_n gz_105_61 rfl ?_
            refine w_getX (v := 111) gz_105_62 is_94 rd_2 rfl (by decide) rfl ?_
            refine w_aload_n gz_105_65 rfl ?_
            refine w_getX (v := 27) gz_105_66 is_94 rd_2 rfl (by decide) rfl ?_
            refine w_iload_n gz_105_69 rfl ?_
            refine w_aald gz_105_70 is_27 rd_22 rfl (by omega) (by omega) (fun v84 ev84 tv84 => ?_)
            have zv84 : v59 = v84 := (ev84.trans ((my_fr.at frh74 is_27 rfl).trans ((my_fr.at frh61 is_27 rfl).trans ev59.symm))).symm
            subst zv84
            refine v_getI (j := 2) gz_105_71 rfl tv59 rd_4 rfl (fun v85 ev85 pv85 qv85 => ?_)
            refine v_putI (j := 2) gz_105_74 rfl is_111 rd_7 rfl (by omega) (by omega) rfl (fun h86 fh86 => ?_)
            have gh86 : my_fr [(2, 11), (7, 0), (7, 1), (7, 2), (7, 3), (7, 4), (7, 5), (8, 0), (8, 1), (30, -1), (31, -1), (41, -1), (42, -1), (43, -1), (44, -1)] h h86 := my_fr.up gh74 is_111 fh86 rfl
            have Lst_h86 : Lst h86 := Lst_ne fh86 (by decide) Lst_h74
            have Ln_h86 : Ln h86 := Ln_ag (my_ag.up fh86 is_111 rfl) Ln_h74
            refine w_aload_n gz_105_77 rfl ?_
            refine w_getX (v := 111) gz_105_78 is_94 rd_2 rfl (by decide) rfl ?_
            refine w_aload_n gz_105_81 rfl ?_
            refine w_getX (v := 110) gz_105_82 is_94 rd_2 rfl (by decide) rfl ?_
            refine w_iconst gz_105_85 (by decide) ?_
            refine w_iald gz_105_86 is_110 rd_41 (by omega) (by omega) (fun v89 ev89 pv89 qv89 => ?_)
            refine v_putI (j := 3) gz_105_87 rfl is_111 rd_7 rfl (by omega) (by omega) rfl (fun h90 fh90 => ?_)
            have gh90 : my_fr [(2, 11), (7, 0), (7, 1), (7, 2), (7, 3), (7, 4), (7, 5), (8, 0), (8, 1), (30, -1), (31, -1), (41, -1), (42, -1), (43, -1), (44, -1)] h h90 := my_fr.up gh86 is_111 fh90 rfl
            have Lst_h90 : Lst h90 := Lst_ne fh90 (by decide) Lst_h86
            have Ln_h90 : Ln h90 := Ln_ag (my_ag.up fh90 is_111 rfl) Ln_h86
            refine w_aload_n gz_105_90 rfl ?_
            refine w_iconst gz_105_91 (by decide) ?_
            refine w_aload_n gz_105_92 rfl ?_
            refine w_getX (v := 1) gz_105_93 is_94 rd_2 rfl (by decide) rfl ?_
            refine w_getX (v := 2) gz_105_96 is_1 rd_3 rfl (by decide) rfl ?_
            refine w_aload_n gz_105_99 rfl ?_
            refine w_getX (v := 111) gz_105_100 is_94 rd_2 rfl (by decide) rfl ?_
            refine v_getI (j := 2) gz_105_103 rfl is_111 rd_7 rfl (fun v94 ev94 pv94 qv94 => ?_)
            have zv94 := ev94.trans ((my_up_fld fh90 (by decide)).trans (my_up_self fh86))
            refine w_iald gz_105_106 is_2 rd_25 (by omega) (by omega) (fun v95 ev95 pv95 qv95 => ?_)
            have ce96 : h90 111 2 = v94 := ev94.symm
            have ce97 : h90 111 3 = v89 := (my_up_self fh90)
            have ce98 : h90 111 4 = h 111 4 := ((my_up_fld fh90 (by decide)).trans ((my_up_fld fh86 (by decide)).trans ((my_fr.at frh74 is_111 rfl).trans ((my_fr.at frh61 is_111 rfl).trans (rfl : h 111 4 = h 111 4)))))
            have ce99 : h90 111 5 = h 111 5 := ((my_up_fld fh90 (by decide)).trans ((my_up_fld fh86 (by decide)).trans ((my_fr.at frh74 is_111 rfl).trans ((my_fr.at frh61 is_111 rfl).trans (rfl : h 111 5 = h 111 5)))))
            refine w_inv (k := 0) (as := [(0, v95), (0, 3)]) (r := []) (x := 94) (ls0 := [(2, 94), (0, 3), (0, v95)]) gz_105_107 gm_94 rfl is_94 rd_2 rfl rfl rfl rfl rfl (c_Desk_keep (d := (d + 2)) (x1 := 3) (x2 := v95) (by omega) (by omega) (by omega) (by omega) Lst_h90 (by first | assumption | omega) (by first | assumption | omega) (by first | assumption | omega) (fun h100 frh100 xp101 xp102 xp103 Lst_h100t104 => ?_))
            have gh100 : my_fr [(2, 11), (7, 0), (7, 1), (7, 2), (7, 3), (7, 4), (7, 5), (8, 0), (8, 1), (30, -1), (31, -1), (41, -1), (42, -1), (43, -1), (44, -1)] h h100 := my_fr.tr gh90 (frh100.mo rfl)
            have Ln_h100 : Ln h100 := Ln_ag (my_ag.fr frh100 rfl) Ln_h90
            show wp l rho (d + 4) 105 110 [(2, 94), (0, x1)] [] h100 Q
            have c105 := ((my_fr.at frh100 is_94 rfl).trans ((my_up_role fh90 is_94 is_111 rfl).trans ((my_up_role fh86 is_94 is_111 rfl).trans ((my_fr.at frh74 is_94 rfl).trans ((my_fr.at frh61 is_94 rfl).trans ev1.symm)))))
            exact w_vret gz_105_110 gm_105 (k0 h100 (gh100) (by omega) (by omega) Lst_h100t104)
        ·
          show wp l rho (d + 4) 105 31 [(2, 94), (0, x1)] [(0, v67)] h61 Q
          refine w_iconst gz_105_31 (by decide) ?_
          refine w_icne (t := 110) gz_105_32 rfl (fun u106 => ?_) (fun u106 => by exfalso; omega)
          have c107 := ((my_fr.at frh61 is_94 rfl).trans ev1.symm)
          exact w_vret gz_105_110 gm_105 (k0 h61 (gh61) (by omega) (by omega) Lst_h61)
    ·
      refine w_aload_n gz_100_18 rfl ?_
      refine w_getX (v := 112) gz_100_19 is_94 rd_2 rfl (by decide) rfl ?_
      refine v_getI (j := 0) gz_100_22 rfl is_112 rd_7 rfl (fun v109 ev109 pv109 qv109 => ?_)
      have zv109 := ev109.trans ev55.symm
      refine w_iconst gz_100_25 (by decide) ?_
      refine w_icgt (t := 33) gz_100_26 rfl (fun u110 => ?_) (fun u110 => ?_)
      ·
        refine w_iconst gz_100_33 (by decide) ?_
        refine w_bret gz_100_34 gm_100 (by omega) (by omega) ?_
        show wp l rho (d + 4) 105 4 [(2, 94), (0, x1)] [(0, 0)] h Q
        refine w_ifne (t := 110) gz_105_4 rfl (fun u111 => by exfalso; omega) (fun u111 => ?_)
        refine w_aload_n gz_105_7 rfl ?_
        refine w_aload_n gz_105_8 rfl ?_
        refine w_getX (v := 27) gz_105_9 is_94 rd_2 rfl (by decide) rfl ?_
        refine w_iload_n gz_105_12 rfl ?_
        refine w_aald gz_105_13 is_27 rd_22 rfl (by omega) (by omega) (fun v113 ev113 tv113 => ?_)
        refine w_inv (k := 2) (as := [(2, v113)]) (r := []) (x := 94) (ls0 := [(2, 94), (2, v113), (9, 0), (9, 0)]) gz_105_14 gm_106 rfl is_94 rd_2 rfl rfl rfl rfl rfl (c_Desk_rowComes (d := (d + 1)) (x1 := v113) tv113 (fun h114 frh114 => ?_) (fun h115 frh115 => ?_))
        ·
          have gh114 : my_fr [(2, 11), (7, 0), (7, 1), (7, 2), (7, 3), (7, 4), (7, 5), (8, 0), (8, 1), (30, -1), (31, -1), (41, -1), (42, -1), (43, -1), (44, -1)] h h114 := my_fr.tr my_fr.rf (frh114.mo rfl)
          have Lst_h114 : Lst h114 := Lst_ag (my_ag.fr frh114 rfl) n_Lst
          have Ln_h114 : Ln h114 := Ln_ag (my_ag.fr frh114 rfl) n_Ln
          show wp l rho (d + 4) 105 17 [(2, 94), (0, x1)] [(0, 0)] h114 Q
          refine w_ifeq (t := 110) gz_105_17 rfl (fun u116 => ?_) (fun u116 => by exfalso; omega)
          have c117 := ((my_fr.at frh114 is_94 rfl).trans ev1.symm)
          exact w_vret gz_105_110 gm_105 (k0 h114 (gh114) (by omega) (by omega) Lst_h114)
        ·
          have gh115 : my_fr [(2, 11), (7, 0), (7, 1), (7, 2), (7, 3), (7, 4), (7, 5), (8, 0), (8, 1), (30, -1), (31, -1), (41, -1), (42, -1), (43, -1), (44, -1)] h h115 := my_fr.tr my_fr.rf (frh115.mo rfl)
          have Lst_h115 : Lst h115 := Lst_ag (my_ag.fr frh115 rfl) n_Lst
          have Ln_h115 : Ln h115 := Ln_ag (my_ag.fr frh115 rfl) n_Ln
          show wp l rho (d + 4) 105 17 [(2, 94), (0, x1)] [(0, 1)] h115 Q
          refine w_ifeq (t := 110) gz_105_17 rfl (fun u118 => by exfalso; omega) (fun u118 => ?_)
          refine w_aload_n gz_105_20 rfl ?_
          refine w_getX (v := 1) gz_105_21 is_94 rd_2 rfl (by decide) rfl ?_
          refine w_aload_n gz_105_24 rfl ?_
          refine w_getX (v := 95) gz_105_25 is_94 rd_2 rfl (by decide) rfl ?_
          refine w_inv (k := 4) (as := [(2, 95)]) (r := []) (x := 1) (ls0 := [(2, 1), (2, 95), (9, 0), (9, 0), (9, 0), (9, 0)]) gz_105_28 gm_19 rfl is_1 rd_3 rfl rfl rfl rfl rfl (c_Laws_firstBroken (d := (d + 1)) (x1 := 95) is_95 ?_ (fun v121 w122 w123 => ?_))
          ·
            show wp l rho (d + 4) 105 31 [(2, 94), (0, x1)] [(0, (-1))] h115 Q
            refine w_iconst gz_105_31 (by decide) ?_
            refine w_icne (t := 110) gz_105_32 rfl (fun u124 => by exfalso; omega) (fun u124 => ?_)
            refine w_aload_n gz_105_35 rfl ?_
            refine w_getX (v := 106) gz_105_36 is_94 rd_2 rfl (by decide) rfl ?_
            refine w_aload_n gz_105_39 rfl ?_
            refine w_getX (v := 27) gz_105_40 is_94 rd_2 rfl (by decide) rfl ?_
            refine w_iload_n gz_105_43 rfl ?_
            refine w_aload_n gz_105_44 rfl ?_
            refine w_getX (v := 95) gz_105_45 is_94 rd_2 rfl (by decide) rfl ?_
            refine w_inv (k := 4) (as := [(2, 95), (0, x1), (2, 27)]) (r := []) (x := 106) (ls0 := [(2, 106), (2, 27), (0, x1), (2, 95), (9, 0), (9, 0), (9, 0), (9, 0)]) gz_105_48 gm_67 rfl is_106 rd_8 rfl rfl rfl rfl rfl (c_View_show (d := d) (x0 := 106) (x2 := x1) (x3 := 95) is_106 (by omega) (by omega) (by omega) (by omega) is_95 Ln_h115 (by first | assumption | omega) (fun h128 v129 frh128 fxh128 w130 xp131 => ?_))
            have gh128 : my_fr [(2, 11), (7, 0), (7, 1), (7, 2), (7, 3), (7, 4), (7, 5), (8, 0), (8, 1), (30, -1), (31, -1), (41, -1), (42, -1), (43, -1), (44, -1)] h h128 := my_fr.tr gh115 (frh128.mo rfl)
            have Lst_h128 : Lst h128 := Lst_ag (my_ag.fr frh128 rfl) Lst_h115
            have Ln_h128 : Ln h128 := Ln_ag (my_ag.fr frh128 rfl) Ln_h115
            show wp l rho (d + 4) 105 51 [(2, 94), (0, x1)] [(2, v129)] h128 Q
            refine w_aload_n gz_105_51 rfl ?_
            refine w_getX (v := 102) gz_105_52 is_94 rd_2 rfl (by decide) rfl ?_
            refine w_inv (k := 1) (as := [(2, 102)]) (r := []) (x := v129) (ls0 := [(2, v129), (2, 102), (9, 0)]) gz_105_55 gm_93 rfl w130 rd_8 rfl rfl rfl rfl rfl (c_View_same (d := (d + 2)) (x0 := v129) (x1 := 102) w130 is_102 ?_ ?_)
            ·
              show wp l rho (d + 4) 105 58 [(2, 94), (0, x1)] [(0, 0)] h128 Q
              refine w_ifeq (t := 110) gz_105_58 rfl (fun u133 => ?_) (fun u133 => by exfalso; omega)
              have c134 := ((my_fr.at frh128 is_94 rfl).trans ((my_fr.at frh115 is_94 rfl).trans ev1.symm))
              exact w_vret gz_105_110 gm_105 (k0 h128 (gh128) (by omega) (by omega) Lst_h128)
            ·
              show wp l rho (d + 4) 105 58 [(2, 94), (0, x1)] [(0, 1)] h128 Q
              refine w_ifeq (t := 110) gz_105_58 rfl (fun u135 => by exfalso; omega) (fun u135 => ?_)
              refine w_aload_n gz_105_61 rfl ?_
              refine w_getX (v := 111) gz_105_62 is_94 rd_2 rfl (by decide) rfl ?_
              refine w_aload_n gz_105_65 rfl ?_
              refine w_getX (v := 27) gz_105_66 is_94 rd_2 rfl (by decide) rfl ?_
              refine w_iload_n gz_105_69 rfl ?_
              refine w_aald gz_105_70 is_27 rd_22 rfl (by omega) (by omega) (fun v138 ev138 tv138 => ?_)
              have zv138 : v113 = v138 := (ev138.trans ((my_fr.at frh128 is_27 rfl).trans ((my_fr.at frh115 is_27 rfl).trans ev113.symm))).symm
              subst zv138
              refine v_getI (j := 2) gz_105_71 rfl tv113 rd_4 rfl (fun v139 ev139 pv139 qv139 => ?_)
              refine v_putI (j := 2) gz_105_74 rfl is_111 rd_7 rfl (by omega) (by omega) rfl (fun h140 fh140 => ?_)
              have gh140 : my_fr [(2, 11), (7, 0), (7, 1), (7, 2), (7, 3), (7, 4), (7, 5), (8, 0), (8, 1), (30, -1), (31, -1), (41, -1), (42, -1), (43, -1), (44, -1)] h h140 := my_fr.up gh128 is_111 fh140 rfl
              have Lst_h140 : Lst h140 := Lst_ne fh140 (by decide) Lst_h128
              have Ln_h140 : Ln h140 := Ln_ag (my_ag.up fh140 is_111 rfl) Ln_h128
              refine w_aload_n gz_105_77 rfl ?_
              refine w_getX (v := 111) gz_105_78 is_94 rd_2 rfl (by decide) rfl ?_
              refine w_aload_n gz_105_81 rfl ?_
              refine w_getX (v := 110) gz_105_82 is_94 rd_2 rfl (by decide) rfl ?_
              refine w_iconst gz_105_85 (by decide) ?_
              refine w_iald gz_105_86 is_110 rd_41 (by omega) (by omega) (fun v143 ev143 pv143 qv143 => ?_)
              refine v_putI (j := 3) gz_105_87 rfl is_111 rd_7 rfl (by omega) (by omega) rfl (fun h144 fh144 => ?_)
              have gh144 : my_fr [(2, 11), (7, 0), (7, 1), (7, 2), (7, 3), (7, 4), (7, 5), (8, 0), (8, 1), (30, -1), (31, -1), (41, -1), (42, -1), (43, -1), (44, -1)] h h144 := my_fr.up gh140 is_111 fh144 rfl
              have Lst_h144 : Lst h144 := Lst_ne fh144 (by decide) Lst_h140
              have Ln_h144 : Ln h144 := Ln_ag (my_ag.up fh144 is_111 rfl) Ln_h140
              refine w_aload_n gz_105_90 rfl ?_
              refine w_iconst gz_105_91 (by decide) ?_
              refine w_aload_n gz_105_92 rfl ?_
              refine w_getX (v := 1) gz_105_93 is_94 rd_2 rfl (by decide) rfl ?_
              refine w_getX (v := 2) gz_105_96 is_1 rd_3 rfl (by decide) rfl ?_
              refine w_aload_n gz_105_99 rfl ?_
              refine w_getX (v := 111) gz_105_100 is_94 rd_2 rfl (by decide) rfl ?_
              refine v_getI (j := 2) gz_105_103 rfl is_111 rd_7 rfl (fun v148 ev148 pv148 qv148 => ?_)
              have zv148 := ev148.trans ((my_up_fld fh144 (by decide)).trans (my_up_self fh140))
              refine w_iald gz_105_106 is_2 rd_25 (by omega) (by omega) (fun v149 ev149 pv149 qv149 => ?_)
              have ce150 : h144 111 2 = v148 := ev148.symm
              have ce151 : h144 111 3 = v143 := (my_up_self fh144)
              have ce152 : h144 111 4 = h 111 4 := ((my_up_fld fh144 (by decide)).trans ((my_up_fld fh140 (by decide)).trans ((my_fr.at frh128 is_111 rfl).trans ((my_fr.at frh115 is_111 rfl).trans (rfl : h 111 4 = h 111 4)))))
              have ce153 : h144 111 5 = h 111 5 := ((my_up_fld fh144 (by decide)).trans ((my_up_fld fh140 (by decide)).trans ((my_fr.at frh128 is_111 rfl).trans ((my_fr.at frh115 is_111 rfl).trans (rfl : h 111 5 = h 111 5)))))
              refine w_inv (k := 0) (as := [(0, v149), (0, 3)]) (r := []) (x := 94) (ls0 := [(2, 94), (0, 3), (0, v149)]) gz_105_107 gm_94 rfl is_94 rd_2 rfl rfl rfl rfl rfl (c_Desk_keep (d := (d + 2)) (x1 := 3) (x2 := v149) (by omega) (by omega) (by omega) (by omega) Lst_h144 (by first | assumption | omega) (by first | assumption | omega) (by first | assumption | omega) (fun h154 frh154 xp155 xp156 xp157 Lst_h154t158 => ?_))
              have gh154 : my_fr [(2, 11), (7, 0), (7, 1), (7, 2), (7, 3), (7, 4), (7, 5), (8, 0), (8, 1), (30, -1), (31, -1), (41, -1), (42, -1), (43, -1), (44, -1)] h h154 := my_fr.tr gh144 (frh154.mo rfl)
              have Ln_h154 : Ln h154 := Ln_ag (my_ag.fr frh154 rfl) Ln_h144
              show wp l rho (d + 4) 105 110 [(2, 94), (0, x1)] [] h154 Q
              have c159 := ((my_fr.at frh154 is_94 rfl).trans ((my_up_role fh144 is_94 is_111 rfl).trans ((my_up_role fh140 is_94 is_111 rfl).trans ((my_fr.at frh128 is_94 rfl).trans ((my_fr.at frh115 is_94 rfl).trans ev1.symm)))))
              exact w_vret gz_105_110 gm_105 (k0 h154 (gh154) (by omega) (by omega) Lst_h154t158)
          ·
            show wp l rho (d + 4) 105 31 [(2, 94), (0, x1)] [(0, v121)] h115 Q
            refine w_iconst gz_105_31 (by decide) ?_
            refine w_icne (t := 110) gz_105_32 rfl (fun u160 => ?_) (fun u160 => by exfalso; omega)
            have c161 := ((my_fr.at frh115 is_94 rfl).trans ev1.symm)
            exact w_vret gz_105_110 gm_105 (k0 h115 (gh115) (by omega) (by omega) Lst_h115)
      ·
        refine w_iconst gz_100_29 (by decide) ?_
        refine w_goto (t := 34) gz_100_30 rfl ?_
        refine w_bret gz_100_34 gm_100 (by omega) (by omega) ?_
        show wp l rho (d + 4) 105 4 [(2, 94), (0, x1)] [(0, 1)] h Q
        refine w_ifne (t := 110) gz_105_4 rfl (fun u162 => ?_) (fun u162 => by exfalso; omega)
        have c163 := ev1.symm
        exact w_vret gz_105_110 gm_105 (k0 h (my_fr.rf) (by omega) (by omega) n_Lst)
theorem c_Desk_faultsOfTrial {l : Launch} {rho : Nat → Int32} {d : Nat} {h : my_H} {Q : my_H → my_V → Prop} {x1 : Int} (a1 : 0 ≤ x1) (b1 : x1 ≤ 5) (n_Ln : Ln h) (htold : h (h 27 x1) 0 = 1) (k0 : ∀ (h' : my_H), my_fr [(8, 0), (8, 1), (42, -1), (43, -1), (44, -1)] h h' → Q h' (0, 0)) (k1 : ∀ (h' : my_H), my_fr [(8, 0), (8, 1), (42, -1), (43, -1), (44, -1)] h h' → Q h' (0, 1)) (k2 : ∀ (h' : my_H) (y : Int), my_fr [(8, 0), (8, 1), (42, -1), (43, -1), (44, -1)] h h' → Q h' (0, y)) : wp l rho (d + 4) 111 0 [(2, 94), (0, x1), (9, 0)] [] h Q := by
  refine w_aload_n gz_111_0 rfl ?_
  refine w_getX (v := 1) gz_111_1 is_94 rd_2 rfl (by decide) rfl ?_
  refine w_aload_n gz_111_4 rfl ?_
  refine w_getX (v := 95) gz_111_5 is_94 rd_2 rfl (by decide) rfl ?_
  refine w_inv (k := 0) (as := [(2, 95)]) (r := []) (x := 1) (ls0 := [(2, 1), (2, 95)]) gz_111_8 gm_18 rfl is_1 rd_3 rfl rfl rfl rfl rfl (c_Laws_hold (d := d) (x1 := 95) is_95 ?_ ?_)
  ·
    show wp l rho (d + 4) 111 11 [(2, 94), (0, x1), (9, 0)] [(0, 0)] h Q
    refine w_ifeq (t := 18) gz_111_11 rfl (fun u3 => ?_) (fun u3 => by exfalso; omega)
    refine w_iconst gz_111_18 (by decide) ?_
    refine w_istore_n (ls' := [(2, 94), (0, x1), (0, 1)]) gz_111_19 gm_111 rfl rfl rfl ?_
    refine w_aload_n gz_111_20 rfl ?_
    refine w_getX (v := 106) gz_111_21 is_94 rd_2 rfl (by decide) rfl ?_
    refine w_aload_n gz_111_24 rfl ?_
    refine w_getX (v := 27) gz_111_25 is_94 rd_2 rfl (by decide) rfl ?_
    refine w_iload_n gz_111_28 rfl ?_
    refine w_aload_n gz_111_29 rfl ?_
    refine w_getX (v := 95) gz_111_30 is_94 rd_2 rfl (by decide) rfl ?_
    refine w_inv (k := 4) (as := [(2, 95), (0, x1), (2, 27)]) (r := []) (x := 106) (ls0 := [(2, 106), (2, 27), (0, x1), (2, 95), (9, 0), (9, 0), (9, 0), (9, 0)]) gz_111_33 gm_67 rfl is_106 rd_8 rfl rfl rfl rfl rfl (c_View_show (d := d) (x0 := 106) (x2 := x1) (x3 := 95) is_106 (by omega) (by omega) (by omega) (by omega) is_95 n_Ln (by first | assumption | omega) (fun h7 v8 frh7 fxh7 w9 xp10 => ?_))
    have gh7 : my_fr [(8, 0), (8, 1), (42, -1), (43, -1), (44, -1)] h h7 := my_fr.tr my_fr.rf (frh7.mo rfl)
    have Ln_h7 : Ln h7 := Ln_ag (my_ag.fr frh7 rfl) n_Ln
    show wp l rho (d + 4) 111 36 [(2, 94), (0, x1), (0, 1)] [(2, v8)] h7 Q
    refine v_getI (j := 0) gz_111_36 rfl w9 rd_8 rfl (fun v11 ev11 pv11 qv11 => ?_)
    refine w_aload_n gz_111_39 rfl ?_
    refine w_getX (v := 102) gz_111_40 is_94 rd_2 rfl (by decide) rfl ?_
    refine v_getI (j := 0) gz_111_43 rfl is_102 rd_8 rfl (fun v13 ev13 pv13 qv13 => ?_)
    refine w_iceq (t := 53) gz_111_46 rfl (fun u14 => ?_) (fun u14 => ?_)
    ·
      refine w_aload_n gz_111_53 rfl ?_
      refine w_getX (v := 106) gz_111_54 is_94 rd_2 rfl (by decide) rfl ?_
      refine w_aload_n gz_111_57 rfl ?_
      refine w_getX (v := 102) gz_111_58 is_94 rd_2 rfl (by decide) rfl ?_
      refine w_inv (k := 1) (as := [(2, 102)]) (r := []) (x := 106) (ls0 := [(2, 106), (2, 102), (9, 0)]) gz_111_61 gm_93 rfl is_106 rd_8 rfl rfl rfl rfl rfl (c_View_same (d := (d + 2)) (x0 := 106) (x1 := 102) is_106 is_102 ?_ ?_)
      ·
        show wp l rho (d + 4) 111 64 [(2, 94), (0, x1), (0, 1)] [(0, 0)] h7 Q
        refine w_ifeq (t := 71) gz_111_64 rfl (fun u17 => ?_) (fun u17 => by exfalso; omega)
        refine w_iload_n gz_111_71 rfl ?_
        refine w_iconst gz_111_72 (by decide) ?_
        refine w_ianyO gz_111_73 (fun v18 pv18 qv18 => ?_)
        exact w_iret gz_111_74 gm_111 (k2 h7 (v18) (gh7))
      ·
        show wp l rho (d + 4) 111 64 [(2, 94), (0, x1), (0, 1)] [(0, 1)] h7 Q
        refine w_ifeq (t := 71) gz_111_64 rfl (fun u19 => by exfalso; omega) (fun u19 => ?_)
        refine w_iload_n gz_111_67 rfl ?_
        refine w_goto (t := 74) gz_111_68 rfl ?_
        exact w_iret gz_111_74 gm_111 (k1 h7 (gh7))
    ·
      refine w_iload_n gz_111_49 rfl ?_
      refine w_iconst gz_111_50 (by decide) ?_
      refine w_ianyO gz_111_51 (fun v20 pv20 qv20 => ?_)
      exact w_iret gz_111_52 gm_111 (k2 h7 (v20) (gh7))
  ·
    show wp l rho (d + 4) 111 11 [(2, 94), (0, x1), (9, 0)] [(0, 1)] h Q
    refine w_ifeq (t := 18) gz_111_11 rfl (fun u21 => by exfalso; omega) (fun u21 => ?_)
    refine w_iconst gz_111_14 (by decide) ?_
    refine w_goto (t := 19) gz_111_15 rfl ?_
    refine w_istore_n (ls' := [(2, 94), (0, x1), (0, 0)]) gz_111_19 gm_111 rfl rfl rfl ?_
    refine w_aload_n gz_111_20 rfl ?_
    refine w_getX (v := 106) gz_111_21 is_94 rd_2 rfl (by decide) rfl ?_
    refine w_aload_n gz_111_24 rfl ?_
    refine w_getX (v := 27) gz_111_25 is_94 rd_2 rfl (by decide) rfl ?_
    refine w_iload_n gz_111_28 rfl ?_
    refine w_aload_n gz_111_29 rfl ?_
    refine w_getX (v := 95) gz_111_30 is_94 rd_2 rfl (by decide) rfl ?_
    refine w_inv (k := 4) (as := [(2, 95), (0, x1), (2, 27)]) (r := []) (x := 106) (ls0 := [(2, 106), (2, 27), (0, x1), (2, 95), (9, 0), (9, 0), (9, 0), (9, 0)]) gz_111_33 gm_67 rfl is_106 rd_8 rfl rfl rfl rfl rfl (c_View_show (d := d) (x0 := 106) (x2 := x1) (x3 := 95) is_106 (by omega) (by omega) (by omega) (by omega) is_95 n_Ln (by first | assumption | omega) (fun h25 v26 frh25 fxh25 w27 xp28 => ?_))
    have gh25 : my_fr [(8, 0), (8, 1), (42, -1), (43, -1), (44, -1)] h h25 := my_fr.tr my_fr.rf (frh25.mo rfl)
    have Ln_h25 : Ln h25 := Ln_ag (my_ag.fr frh25 rfl) n_Ln
    show wp l rho (d + 4) 111 36 [(2, 94), (0, x1), (0, 0)] [(2, v26)] h25 Q
    refine v_getI (j := 0) gz_111_36 rfl w27 rd_8 rfl (fun v29 ev29 pv29 qv29 => ?_)
    refine w_aload_n gz_111_39 rfl ?_
    refine w_getX (v := 102) gz_111_40 is_94 rd_2 rfl (by decide) rfl ?_
    refine v_getI (j := 0) gz_111_43 rfl is_102 rd_8 rfl (fun v31 ev31 pv31 qv31 => ?_)
    refine w_iceq (t := 53) gz_111_46 rfl (fun u32 => ?_) (fun u32 => ?_)
    ·
      refine w_aload_n gz_111_53 rfl ?_
      refine w_getX (v := 106) gz_111_54 is_94 rd_2 rfl (by decide) rfl ?_
      refine w_aload_n gz_111_57 rfl ?_
      refine w_getX (v := 102) gz_111_58 is_94 rd_2 rfl (by decide) rfl ?_
      refine w_inv (k := 1) (as := [(2, 102)]) (r := []) (x := 106) (ls0 := [(2, 106), (2, 102), (9, 0)]) gz_111_61 gm_93 rfl is_106 rd_8 rfl rfl rfl rfl rfl (c_View_same (d := (d + 2)) (x0 := 106) (x1 := 102) is_106 is_102 ?_ ?_)
      ·
        show wp l rho (d + 4) 111 64 [(2, 94), (0, x1), (0, 0)] [(0, 0)] h25 Q
        refine w_ifeq (t := 71) gz_111_64 rfl (fun u35 => ?_) (fun u35 => by exfalso; omega)
        refine w_iload_n gz_111_71 rfl ?_
        refine w_iconst gz_111_72 (by decide) ?_
        refine w_ianyO gz_111_73 (fun v36 pv36 qv36 => ?_)
        exact w_iret gz_111_74 gm_111 (k2 h25 (v36) (gh25))
      ·
        show wp l rho (d + 4) 111 64 [(2, 94), (0, x1), (0, 0)] [(0, 1)] h25 Q
        refine w_ifeq (t := 71) gz_111_64 rfl (fun u37 => by exfalso; omega) (fun u37 => ?_)
        refine w_iload_n gz_111_67 rfl ?_
        refine w_goto (t := 74) gz_111_68 rfl ?_
        exact w_iret gz_111_74 gm_111 (k0 h25 (gh25))
    ·
      refine w_iload_n gz_111_49 rfl ?_
      refine w_iconst gz_111_50 (by decide) ?_
      refine w_ianyO gz_111_51 (fun v38 pv38 qv38 => ?_)
      exact w_iret gz_111_52 gm_111 (k2 h25 (v38) (gh25))
theorem c_Cutter_countFits {l : Launch} {rho : Nat → Int32} {d : Nat} {h : my_H} {Q : my_H → my_V → Prop} {x1 x2 : Int} (t1 : my_is 6 x1) (a2 : 0 ≤ x2) (b2 : x2 ≤ 2) (k0 : ∀ (h' : my_H), my_fr [(8, 0), (8, 1), (42, -1), (44, -1), (45, -1)] h h' → Q h' (0, 0)) (k1 : ∀ (h' : my_H) (y : Int), my_fr [(8, 0), (8, 1), (42, -1), (44, -1), (45, -1)] h h' → Q h' (0, y)) : wp l rho (d + 4) 120 0 [(2, 114), (2, x1), (0, x2), (2, 98), (9, 0), (9, 0), (9, 0), (9, 0), (9, 0), (9, 0), (9, 0)] [] h Q := by
  have J26_0 : ∀ (n : Nat) (p26_0 p26_1 p26_2 p26_3 : Int) (h26_0 : my_H), my_fr [(8, 0), (8, 1), (42, -1), (44, -1), (45, -1)] h h26_0 → 0 ≤ p26_1 → 0 ≤ p26_3 → p26_3 ≤ 4 → 5 - p26_3 ≤ (n : Int) → wp l rho (d + 4) 120 26 [(2, 114), (2, x1), (0, x2), (2, 98), (0, p26_0), (0, p26_1), (0, p26_2), (0, p26_3), (9, 0), (9, 0), (9, 0)] [] h26_0 Q := by
    intro n
    induction n with
    | zero => intro p26_0 p26_1 p26_2 p26_3 h26_0 gh_26_0 q0_26_0 q1_26_0 q2_26_0 hm_26_0; exfalso; omega
    | succ n ih_26_0 =>
      intro p26_0 p26_1 p26_2 p26_3 h26_0 gh_26_0 q0_26_0 q1_26_0 q2_26_0 hm_26_0
      have J43_0 : ∀ (n : Nat) (p43_0 p43_1 p43_2 p43_3 p43_4 : Int) (h43_0 : my_H), my_fr [(8, 0), (8, 1), (42, -1), (44, -1), (45, -1)] h h43_0 → 0 ≤ p43_1 → 0 ≤ p43_3 → p43_3 ≤ 3 → 0 ≤ p43_4 → p43_4 ≤ 3 → p26_3 ≤ 3 → p43_3 ≤ p26_3 → p26_3 ≤ p43_3 → 4 - p43_4 ≤ (n : Int) → wp l rho (d + 4) 120 43 [(2, 114), (2, x1), (0, x2), (2, 98), (0, p43_0), (0, p43_1), (0, p43_2), (0, p43_3), (0, p43_4), (9, 0), (9, 0)] [] h43_0 Q := by
        intro n
        induction n with
        | zero => intro p43_0 p43_1 p43_2 p43_3 p43_4 h43_0 gh_43_0 q0_43_0 q1_43_0 q2_43_0 q3_43_0 q4_43_0 q5_43_0 q6_43_0 q7_43_0 hm_43_0; exfalso; omega
        | succ n ih_43_0 =>
          intro p43_0 p43_1 p43_2 p43_3 p43_4 h43_0 gh_43_0 q0_43_0 q1_43_0 q2_43_0 q3_43_0 q4_43_0 q5_43_0 q6_43_0 q7_43_0 hm_43_0
          have J52_0 : ∀ (n : Nat) (p52_0 p52_1 p52_2 p52_3 p52_4 p52_5 : Int) (h52_0 : my_H), my_fr [(8, 0), (8, 1), (42, -1), (44, -1), (45, -1)] h h52_0 → 0 ≤ p52_1 → 0 ≤ p52_3 → p52_3 ≤ 3 → 0 ≤ p52_4 → p52_4 ≤ 2 → 0 ≤ p52_5 → p52_5 ≤ 21 → p43_4 ≤ 2 → p52_3 ≤ p43_3 → p52_3 ≤ p26_3 → p52_4 ≤ p43_4 → p43_3 ≤ p52_3 → p43_3 ≤ p26_3 → p43_4 ≤ p52_4 → p26_3 ≤ p52_3 → p26_3 ≤ p43_3 → 22 - p52_5 ≤ (n : Int) → wp l rho (d + 4) 120 52 [(2, 114), (2, x1), (0, x2), (2, 98), (0, p52_0), (0, p52_1), (0, p52_2), (0, p52_3), (0, p52_4), (0, p52_5), (9, 0)] [] h52_0 Q := by
            intro n
            induction n with
            | zero => intro p52_0 p52_1 p52_2 p52_3 p52_4 p52_5 h52_0 gh_52_0 q0_52_0 q1_52_0 q2_52_0 q3_52_0 q4_52_0 q5_52_0 q6_52_0 q7_52_0 q8_52_0 q9_52_0 q10_52_0 q11_52_0 q12_52_0 q13_52_0 q14_52_0 q15_52_0 hm_52_0; exfalso; omega
            | succ n ih_52_0 =>
              intro p52_0 p52_1 p52_2 p52_3 p52_4 p52_5 h52_0 gh_52_0 q0_52_0 q1_52_0 q2_52_0 q3_52_0 q4_52_0 q5_52_0 q6_52_0 q7_52_0 q8_52_0 q9_52_0 q10_52_0 q11_52_0 q12_52_0 q13_52_0 q14_52_0 q15_52_0 hm_52_0
              have J94_4 : ∀ (p94_0 p94_1 p94_2 : Int) (h94_4 : my_H), my_fr [(8, 0), (8, 1), (42, -1), (44, -1), (45, -1)] h h94_4 → 0 ≤ p94_1 → p52_5 ≤ 20 → p94_0 ≤ p94_2 → p94_2 ≤ p94_0 → p52_3 ≤ p43_3 → p52_3 ≤ p26_3 → p52_4 ≤ p43_4 → p43_3 ≤ p52_3 → p43_3 ≤ p26_3 → p43_4 ≤ p52_4 → p26_3 ≤ p52_3 → p26_3 ≤ p43_3 → wp l rho (d + 4) 120 94 [(2, 114), (2, x1), (0, x2), (2, 98), (0, p94_0), (0, p94_1), (0, p52_2), (0, p52_3), (0, p52_4), (0, p52_5), (0, p94_2)] [] h94_4 Q := by
                intro p94_0 p94_1 p94_2 h94_4 gh_94_4 q0_94_4 q1_94_4 q2_94_4 q3_94_4 q4_94_4 q5_94_4 q6_94_4 q7_94_4 q8_94_4 q9_94_4 q10_94_4 q11_94_4
                refine w_iload gz_120_94 rfl ?_
                refine w_iload gz_120_96 rfl ?_
                refine w_iload gz_120_98 rfl ?_
                refine w_inS (k := 0) (as := [(0, p52_5)]) (r := [(0, p94_1), (0, p52_2)]) (ls0 := [(0, p52_5)]) gz_120_100 gm_126 rfl rfl rfl rfl rfl rfl ?_
                refine w_iload_n gz_126_0 rfl ?_
                refine w_bipush gz_126_1 (by decide) ?_
                refine w_icge (t := 10) gz_126_3 rfl (fun u1 => ?_) (fun u1 => ?_)
                ·
                  refine w_sipush gz_126_10 (by decide) ?_
                  refine w_iret gz_126_13 gm_126 ?_
                  show wp l rho (d + 4) 120 103 [(2, 114), (2, x1), (0, x2), (2, 98), (0, p94_0), (0, p94_1), (0, p52_2), (0, p52_3), (0, p52_4), (0, p52_5), (0, p94_2)] [(0, 180), (0, p94_1), (0, p52_2)] h94_4 Q
                  refine w_ianyM gz_120_103 (fun v2 pv2 qv2 => ?_)
                  refine w_ianyA gz_120_104 (fun v3 pv3 qv3 => ?_)
                  refine w_istore (ls' := [(2, 114), (2, x1), (0, x2), (2, 98), (0, p94_0), (0, p94_1), (0, v3), (0, p52_3), (0, p52_4), (0, p52_5), (0, p94_2)]) gz_120_105 gm_120 rfl rfl rfl ?_
                  refine w_iinc (ls' := [(2, 114), (2, x1), (0, x2), (2, 98), (0, p94_0), (0, p94_1), (0, v3), (0, p52_3), (0, p52_4), (0, (p52_5 + 1)), (0, p94_2)]) gz_120_107 rfl gm_120 rfl rfl rfl ⟨by omega, by omega⟩ ?_
                  refine w_goto (t := 52) gz_120_110 rfl ?_
                  refine w_weak (ls' := [(2, 114), (2, x1), (0, x2), (2, 98), (0, p94_0), (0, p94_1), (0, v3), (0, p52_3), (0, p52_4), (0, (p52_5 + 1)), (9, 0)]) (wk_e (wk_e (wk_e (wk_e (wk_e (wk_e (wk_e (wk_e (wk_e (wk_e (wk_9 wk_n))))))))))) ?_
                  exact ih_52_0 (p94_0) (p94_1) (v3) (p52_3) (p52_4) ((p52_5 + 1)) h94_4 (gh_94_4) (by omega) (by omega) (by omega) (by omega) (by omega) (by omega) (by omega) (by omega) (by omega) (by omega) (by omega) (by omega) (by omega) (by omega) (by omega) (by omega) (by omega)
                ·
                  refine w_iconst gz_126_6 (by decide) ?_
                  refine w_goto (t := 13) gz_126_7 rfl ?_
                  refine w_iret gz_126_13 gm_126 ?_
                  show wp l rho (d + 4) 120 103 [(2, 114), (2, x1), (0, x2), (2, 98), (0, p94_0), (0, p94_1), (0, p52_2), (0, p52_3), (0, p52_4), (0, p52_5), (0, p94_2)] [(0, 1), (0, p94_1), (0, p52_2)] h94_4 Q
                  refine w_imul gz_120_103 ⟨by omega, by omega⟩ ?_
                  refine w_ianyA gz_120_104 (fun v4 pv4 qv4 => ?_)
                  refine w_istore (ls' := [(2, 114), (2, x1), (0, x2), (2, 98), (0, p94_0), (0, p94_1), (0, v4), (0, p52_3), (0, p52_4), (0, p52_5), (0, p94_2)]) gz_120_105 gm_120 rfl rfl rfl ?_
                  refine w_iinc (ls' := [(2, 114), (2, x1), (0, x2), (2, 98), (0, p94_0), (0, p94_1), (0, v4), (0, p52_3), (0, p52_4), (0, (p52_5 + 1)), (0, p94_2)]) gz_120_107 rfl gm_120 rfl rfl rfl ⟨by omega, by omega⟩ ?_
                  refine w_goto (t := 52) gz_120_110 rfl ?_
                  refine w_weak (ls' := [(2, 114), (2, x1), (0, x2), (2, 98), (0, p94_0), (0, p94_1), (0, v4), (0, p52_3), (0, p52_4), (0, (p52_5 + 1)), (9, 0)]) (wk_e (wk_e (wk_e (wk_e (wk_e (wk_e (wk_e (wk_e (wk_e (wk_e (wk_9 wk_n))))))))))) ?_
                  exact ih_52_0 (p94_0) (p94_1) (v4) (p52_3) (p52_4) ((p52_5 + 1)) h94_4 (gh_94_4) (by omega) (by omega) (by omega) (by omega) (by omega) (by omega) (by omega) (by omega) (by omega) (by omega) (by omega) (by omega) (by omega) (by omega) (by omega) (by omega) (by omega)
              refine w_iload gz_120_52 rfl ?_
              refine w_bipush gz_120_54 (by decide) ?_
              refine w_icgt (t := 113) gz_120_56 rfl (fun u5 => ?_) (fun u5 => ?_)
              ·
                refine w_iinc (ls' := [(2, 114), (2, x1), (0, x2), (2, 98), (0, p52_0), (0, p52_1), (0, p52_2), (0, p52_3), (0, (p52_4 + 1)), (0, p52_5), (9, 0)]) gz_120_113 rfl gm_120 rfl rfl rfl ⟨by omega, by omega⟩ ?_
                refine w_goto (t := 43) gz_120_116 rfl ?_
                refine w_weak (ls' := [(2, 114), (2, x1), (0, x2), (2, 98), (0, p52_0), (0, p52_1), (0, p52_2), (0, p52_3), (0, (p52_4 + 1)), (9, 0), (9, 0)]) (wk_e (wk_e (wk_e (wk_e (wk_e (wk_e (wk_e (wk_e (wk_e (wk_9 (wk_9 wk_n))))))))))) ?_
                exact ih_43_0 (p52_0) (p52_1) (p52_2) (p52_3) ((p52_4 + 1)) h52_0 (gh_52_0) (by omega) (by omega) (by omega) (by omega) (by omega) (by omega) (by omega) (by omega) (by omega)
              ·
                refine w_aload_n gz_120_59 rfl ?_
                refine w_iload_n gz_120_60 rfl ?_
                refine w_iload gz_120_61 rfl ?_
                refine w_iload gz_120_63 rfl ?_
                refine w_iload gz_120_65 rfl ?_
                refine w_inS (k := 3) (as := [(0, p52_5), (0, p52_4), (0, p52_3), (0, x2), (2, x1)]) (r := []) (ls0 := [(2, x1), (0, x2), (0, p52_3), (0, p52_4), (0, p52_5), (9, 0), (9, 0), (9, 0)]) gz_120_67 gm_125 rfl rfl rfl rfl rfl rfl (c_Cutter_keysLeft (d := (d + 2)) (x0 := x1) (x1 := x2) (x2 := p52_3) (x3 := p52_4) (x4 := p52_5) t1 (by omega) (by omega) (by omega) (by omega) (by omega) (by omega) (by omega) (by omega) (fun w6 w7 w8 => ?_) (fun v9 => ?_))
                ·
                  show wp l rho (d + 4) 120 70 [(2, 114), (2, x1), (0, x2), (2, 98), (0, p52_0), (0, p52_1), (0, p52_2), (0, p52_3), (0, p52_4), (0, p52_5), (9, 0)] [(0, 0)] h52_0 Q
                  refine w_istore (ls' := [(2, 114), (2, x1), (0, x2), (2, 98), (0, p52_0), (0, p52_1), (0, p52_2), (0, p52_3), (0, p52_4), (0, p52_5), (0, 0)]) gz_120_70 gm_120 rfl rfl rfl ?_
                  refine w_iload gz_120_72 rfl ?_
                  refine w_iload gz_120_74 rfl ?_
                  refine w_iceq (t := 94) gz_120_76 rfl (fun u10 => ?_) (fun u10 => ?_)
                  ·
                    refine w_iload gz_120_94 rfl ?_
                    refine w_iload gz_120_96 rfl ?_
                    refine w_iload gz_120_98 rfl ?_
                    refine w_inS (k := 0) (as := [(0, p52_5)]) (r := [(0, p52_1), (0, p52_2)]) (ls0 := [(0, p52_5)]) gz_120_100 gm_126 rfl rfl rfl rfl rfl rfl ?_
                    refine w_iload_n gz_126_0 rfl ?_
                    refine w_bipush gz_126_1 (by decide) ?_
                    refine w_icge (t := 10) gz_126_3 rfl (fun u11 => by exfalso; omega) (fun u11 => ?_)
                    refine w_iconst gz_126_6 (by decide) ?_
                    refine w_goto (t := 13) gz_126_7 rfl ?_
                    refine w_iret gz_126_13 gm_126 ?_
                    show wp l rho (d + 4) 120 103 [(2, 114), (2, x1), (0, x2), (2, 98), (0, p52_0), (0, p52_1), (0, p52_2), (0, p52_3), (0, p52_4), (0, p52_5), (0, 0)] [(0, 1), (0, p52_1), (0, p52_2)] h52_0 Q
                    refine w_imul gz_120_103 ⟨by omega, by omega⟩ ?_
                    refine w_ianyA gz_120_104 (fun v12 pv12 qv12 => ?_)
                    refine w_istore (ls' := [(2, 114), (2, x1), (0, x2), (2, 98), (0, p52_0), (0, p52_1), (0, v12), (0, p52_3), (0, p52_4), (0, p52_5), (0, 0)]) gz_120_105 gm_120 rfl rfl rfl ?_
                    refine w_iinc (ls' := [(2, 114), (2, x1), (0, x2), (2, 98), (0, p52_0), (0, p52_1), (0, v12), (0, p52_3), (0, p52_4), (0, (p52_5 + 1)), (0, 0)]) gz_120_107 rfl gm_120 rfl rfl rfl ⟨by omega, by omega⟩ ?_
                    refine w_goto (t := 52) gz_120_110 rfl ?_
                    refine w_weak (ls' := [(2, 114), (2, x1), (0, x2), (2, 98), (0, p52_0), (0, p52_1), (0, v12), (0, p52_3), (0, p52_4), (0, (p52_5 + 1)), (9, 0)]) (wk_e (wk_e (wk_e (wk_e (wk_e (wk_e (wk_e (wk_e (wk_e (wk_e (wk_9 wk_n))))))))))) ?_
                    exact ih_52_0 (p52_0) (p52_1) (v12) (p52_3) (p52_4) ((p52_5 + 1)) h52_0 (gh_52_0) (by omega) (by omega) (by omega) (by omega) (by omega) (by omega) (by omega) (by omega) (by omega) (by omega) (by omega) (by omega) (by omega) (by omega) (by omega) (by omega) (by omega)
                  ·
                    refine w_iload gz_120_79 rfl ?_
                    refine w_istore (ls' := [(2, 114), (2, x1), (0, x2), (2, 98), (0, 0), (0, p52_1), (0, p52_2), (0, p52_3), (0, p52_4), (0, p52_5), (0, 0)]) gz_120_81 gm_120 rfl rfl rfl ?_
                    refine w_aload_n gz_120_83 rfl ?_
                    refine w_aload_n gz_120_84 rfl ?_
                    refine w_iload_n gz_120_85 rfl ?_
                    refine w_iload gz_120_86 rfl ?_
                    refine w_aload_n gz_120_88 rfl ?_
                    refine w_inv (k := 3) (as := [(2, 98), (0, 0), (0, x2), (2, x1)]) (r := []) (x := 114) (ls0 := [(2, 114), (2, x1), (0, x2), (0, 0), (2, 98), (9, 0), (9, 0), (9, 0)]) gz_120_89 gm_122 rfl is_114 rd_1 rfl rfl rfl rfl rfl (c_Cutter_countArranged (d := d) (x1 := x1) (x2 := x2) (x3 := 0) t1 (by omega) (by omega) (fun h13 frh13 => ?_) (fun h14 v15 frh14 w16 => ?_))
                    ·
                      have gh13 : my_fr [(8, 0), (8, 1), (42, -1), (44, -1), (45, -1)] h h13 := my_fr.tr gh_52_0 (frh13.mo rfl)
                      show wp l rho (d + 4) 120 92 [(2, 114), (2, x1), (0, x2), (2, 98), (0, 0), (0, p52_1), (0, p52_2), (0, p52_3), (0, p52_4), (0, p52_5), (0, 0)] [(0, 0)] h13 Q
                      refine w_istore (ls' := [(2, 114), (2, x1), (0, x2), (2, 98), (0, 0), (0, 0), (0, p52_2), (0, p52_3), (0, p52_4), (0, p52_5), (0, 0)]) gz_120_92 gm_120 rfl rfl rfl ?_
                      refine w_iload gz_120_94 rfl ?_
                      refine w_iload gz_120_96 rfl ?_
                      refine w_iload gz_120_98 rfl ?_
                      refine w_inS (k := 0) (as := [(0, p52_5)]) (r := [(0, 0), (0, p52_2)]) (ls0 := [(0, p52_5)]) gz_120_100 gm_126 rfl rfl rfl rfl rfl rfl ?_
                      refine w_iload_n gz_126_0 rfl ?_
                      refine w_bipush gz_126_1 (by decide) ?_
                      refine w_icge (t := 10) gz_126_3 rfl (fun u17 => by exfalso; omega) (fun u17 => ?_)
                      refine w_iconst gz_126_6 (by decide) ?_
                      refine w_goto (t := 13) gz_126_7 rfl ?_
                      refine w_iret gz_126_13 gm_126 ?_
                      show wp l rho (d + 4) 120 103 [(2, 114), (2, x1), (0, x2), (2, 98), (0, 0), (0, 0), (0, p52_2), (0, p52_3), (0, p52_4), (0, p52_5), (0, 0)] [(0, 1), (0, 0), (0, p52_2)] h13 Q
                      refine w_imul gz_120_103 ⟨by omega, by omega⟩ ?_
                      refine w_iadd gz_120_104 ⟨by omega, by omega⟩ ?_
                      refine w_istore (ls' := [(2, 114), (2, x1), (0, x2), (2, 98), (0, 0), (0, 0), (0, (p52_2 + (0 * 1))), (0, p52_3), (0, p52_4), (0, p52_5), (0, 0)]) gz_120_105 gm_120 rfl rfl rfl ?_
                      refine w_iinc (ls' := [(2, 114), (2, x1), (0, x2), (2, 98), (0, 0), (0, 0), (0, (p52_2 + (0 * 1))), (0, p52_3), (0, p52_4), (0, (p52_5 + 1)), (0, 0)]) gz_120_107 rfl gm_120 rfl rfl rfl ⟨by omega, by omega⟩ ?_
                      refine w_goto (t := 52) gz_120_110 rfl ?_
                      refine w_weak (ls' := [(2, 114), (2, x1), (0, x2), (2, 98), (0, 0), (0, 0), (0, (p52_2 + (0 * 1))), (0, p52_3), (0, p52_4), (0, (p52_5 + 1)), (9, 0)]) (wk_e (wk_e (wk_e (wk_e (wk_e (wk_e (wk_e (wk_e (wk_e (wk_e (wk_9 wk_n))))))))))) ?_
                      exact ih_52_0 (0) (0) ((p52_2 + (0 * 1))) (p52_3) (p52_4) ((p52_5 + 1)) h13 (gh13) (by omega) (by omega) (by omega) (by omega) (by omega) (by omega) (by omega) (by omega) (by omega) (by omega) (by omega) (by omega) (by omega) (by omega) (by omega) (by omega) (by omega)
                    ·
                      have gh14 : my_fr [(8, 0), (8, 1), (42, -1), (44, -1), (45, -1)] h h14 := my_fr.tr gh_52_0 (frh14.mo rfl)
                      show wp l rho (d + 4) 120 92 [(2, 114), (2, x1), (0, x2), (2, 98), (0, 0), (0, p52_1), (0, p52_2), (0, p52_3), (0, p52_4), (0, p52_5), (0, 0)] [(0, v15)] h14 Q
                      refine w_istore (ls' := [(2, 114), (2, x1), (0, x2), (2, 98), (0, 0), (0, v15), (0, p52_2), (0, p52_3), (0, p52_4), (0, p52_5), (0, 0)]) gz_120_92 gm_120 rfl rfl rfl ?_
                      refine w_iload gz_120_94 rfl ?_
                      refine w_iload gz_120_96 rfl ?_
                      refine w_iload gz_120_98 rfl ?_
                      refine w_inS (k := 0) (as := [(0, p52_5)]) (r := [(0, v15), (0, p52_2)]) (ls0 := [(0, p52_5)]) gz_120_100 gm_126 rfl rfl rfl rfl rfl rfl ?_
                      refine w_iload_n gz_126_0 rfl ?_
                      refine w_bipush gz_126_1 (by decide) ?_
                      refine w_icge (t := 10) gz_126_3 rfl (fun u18 => by exfalso; omega) (fun u18 => ?_)
                      refine w_iconst gz_126_6 (by decide) ?_
                      refine w_goto (t := 13) gz_126_7 rfl ?_
                      refine w_iret gz_126_13 gm_126 ?_
                      show wp l rho (d + 4) 120 103 [(2, 114), (2, x1), (0, x2), (2, 98), (0, 0), (0, v15), (0, p52_2), (0, p52_3), (0, p52_4), (0, p52_5), (0, 0)] [(0, 1), (0, v15), (0, p52_2)] h14 Q
                      refine w_imul gz_120_103 ⟨by omega, by omega⟩ ?_
                      refine w_ianyA gz_120_104 (fun v19 pv19 qv19 => ?_)
                      refine w_istore (ls' := [(2, 114), (2, x1), (0, x2), (2, 98), (0, 0), (0, v15), (0, v19), (0, p52_3), (0, p52_4), (0, p52_5), (0, 0)]) gz_120_105 gm_120 rfl rfl rfl ?_
                      refine w_iinc (ls' := [(2, 114), (2, x1), (0, x2), (2, 98), (0, 0), (0, v15), (0, v19), (0, p52_3), (0, p52_4), (0, (p52_5 + 1)), (0, 0)]) gz_120_107 rfl gm_120 rfl rfl rfl ⟨by omega, by omega⟩ ?_
                      refine w_goto (t := 52) gz_120_110 rfl ?_
                      refine w_weak (ls' := [(2, 114), (2, x1), (0, x2), (2, 98), (0, 0), (0, v15), (0, v19), (0, p52_3), (0, p52_4), (0, (p52_5 + 1)), (9, 0)]) (wk_e (wk_e (wk_e (wk_e (wk_e (wk_e (wk_e (wk_e (wk_e (wk_e (wk_9 wk_n))))))))))) ?_
                      exact ih_52_0 (0) (v15) (v19) (p52_3) (p52_4) ((p52_5 + 1)) h14 (gh14) (by omega) (by omega) (by omega) (by omega) (by omega) (by omega) (by omega) (by omega) (by omega) (by omega) (by omega) (by omega) (by omega) (by omega) (by omega) (by omega) (by omega)
                ·
                  show wp l rho (d + 4) 120 70 [(2, 114), (2, x1), (0, x2), (2, 98), (0, p52_0), (0, p52_1), (0, p52_2), (0, p52_3), (0, p52_4), (0, p52_5), (9, 0)] [(0, v9)] h52_0 Q
                  refine w_istore (ls' := [(2, 114), (2, x1), (0, x2), (2, 98), (0, p52_0), (0, p52_1), (0, p52_2), (0, p52_3), (0, p52_4), (0, p52_5), (0, v9)]) gz_120_70 gm_120 rfl rfl rfl ?_
                  refine w_iload gz_120_72 rfl ?_
                  refine w_iload gz_120_74 rfl ?_
                  refine w_iceq (t := 94) gz_120_76 rfl (fun u20 => ?_) (fun u20 => ?_)
                  ·
                    exact J94_4 (p52_0) (p52_1) (v9) h52_0 (gh_52_0) (by omega) (by omega) (by omega) (by omega) (by omega) (by omega) (by omega) (by omega) (by omega) (by omega) (by omega) (by omega)
                  ·
                    refine w_iload gz_120_79 rfl ?_
                    refine w_istore (ls' := [(2, 114), (2, x1), (0, x2), (2, 98), (0, v9), (0, p52_1), (0, p52_2), (0, p52_3), (0, p52_4), (0, p52_5), (0, v9)]) gz_120_81 gm_120 rfl rfl rfl ?_
                    refine w_aload_n gz_120_83 rfl ?_
                    refine w_aload_n gz_120_84 rfl ?_
                    refine w_iload_n gz_120_85 rfl ?_
                    refine w_iload gz_120_86 rfl ?_
                    refine w_aload_n gz_120_88 rfl ?_
                    refine w_inv (k := 3) (as := [(2, 98), (0, v9), (0, x2), (2, x1)]) (r := []) (x := 114) (ls0 := [(2, 114), (2, x1), (0, x2), (0, v9), (2, 98), (9, 0), (9, 0), (9, 0)]) gz_120_89 gm_122 rfl is_114 rd_1 rfl rfl rfl rfl rfl (c_Cutter_countArranged (d := d) (x1 := x1) (x2 := x2) (x3 := v9) t1 (by omega) (by omega) (fun h21 frh21 => ?_) (fun h22 v23 frh22 w24 => ?_))
                    ·
                      have gh21 : my_fr [(8, 0), (8, 1), (42, -1), (44, -1), (45, -1)] h h21 := my_fr.tr gh_52_0 (frh21.mo rfl)
                      show wp l rho (d + 4) 120 92 [(2, 114), (2, x1), (0, x2), (2, 98), (0, v9), (0, p52_1), (0, p52_2), (0, p52_3), (0, p52_4), (0, p52_5), (0, v9)] [(0, 0)] h21 Q
                      refine w_istore (ls' := [(2, 114), (2, x1), (0, x2), (2, 98), (0, v9), (0, 0), (0, p52_2), (0, p52_3), (0, p52_4), (0, p52_5), (0, v9)]) gz_120_92 gm_120 rfl rfl rfl ?_
                      refine w_iload gz_120_94 rfl ?_
                      refine w_iload gz_120_96 rfl ?_
                      refine w_iload gz_120_98 rfl ?_
                      refine w_inS (k := 0) (as := [(0, p52_5)]) (r := [(0, 0), (0, p52_2)]) (ls0 := [(0, p52_5)]) gz_120_100 gm_126 rfl rfl rfl rfl rfl rfl ?_
                      refine w_iload_n gz_126_0 rfl ?_
                      refine w_bipush gz_126_1 (by decide) ?_
                      refine w_icge (t := 10) gz_126_3 rfl (fun u25 => ?_) (fun u25 => ?_)
                      ·
                        refine w_sipush gz_126_10 (by decide) ?_
                        refine w_iret gz_126_13 gm_126 ?_
                        show wp l rho (d + 4) 120 103 [(2, 114), (2, x1), (0, x2), (2, 98), (0, v9), (0, 0), (0, p52_2), (0, p52_3), (0, p52_4), (0, p52_5), (0, v9)] [(0, 180), (0, 0), (0, p52_2)] h21 Q
                        refine w_imul gz_120_103 ⟨by omega, by omega⟩ ?_
                        refine w_iadd gz_120_104 ⟨by omega, by omega⟩ ?_
                        refine w_istore (ls' := [(2, 114), (2, x1), (0, x2), (2, 98), (0, v9), (0, 0), (0, (p52_2 + (0 * 180))), (0, p52_3), (0, p52_4), (0, p52_5), (0, v9)]) gz_120_105 gm_120 rfl rfl rfl ?_
                        refine w_iinc (ls' := [(2, 114), (2, x1), (0, x2), (2, 98), (0, v9), (0, 0), (0, (p52_2 + (0 * 180))), (0, p52_3), (0, p52_4), (0, (p52_5 + 1)), (0, v9)]) gz_120_107 rfl gm_120 rfl rfl rfl ⟨by omega, by omega⟩ ?_
                        refine w_goto (t := 52) gz_120_110 rfl ?_
                        refine w_weak (ls' := [(2, 114), (2, x1), (0, x2), (2, 98), (0, v9), (0, 0), (0, (p52_2 + (0 * 180))), (0, p52_3), (0, p52_4), (0, (p52_5 + 1)), (9, 0)]) (wk_e (wk_e (wk_e (wk_e (wk_e (wk_e (wk_e (wk_e (wk_e (wk_e (wk_9 wk_n))))))))))) ?_
                        exact ih_52_0 (v9) (0) ((p52_2 + (0 * 180))) (p52_3) (p52_4) ((p52_5 + 1)) h21 (gh21) (by omega) (by omega) (by omega) (by omega) (by omega) (by omega) (by omega) (by omega) (by omega) (by omega) (by omega) (by omega) (by omega) (by omega) (by omega) (by omega) (by omega)
                      ·
                        refine w_iconst gz_126_6 (by decide) ?_
                        refine w_goto (t := 13) gz_126_7 rfl ?_
                        refine w_iret gz_126_13 gm_126 ?_
                        show wp l rho (d + 4) 120 103 [(2, 114), (2, x1), (0, x2), (2, 98), (0, v9), (0, 0), (0, p52_2), (0, p52_3), (0, p52_4), (0, p52_5), (0, v9)] [(0, 1), (0, 0), (0, p52_2)] h21 Q
                        refine w_imul gz_120_103 ⟨by omega, by omega⟩ ?_
                        refine w_iadd gz_120_104 ⟨by omega, by omega⟩ ?_
                        refine w_istore (ls' := [(2, 114), (2, x1), (0, x2), (2, 98), (0, v9), (0, 0), (0, (p52_2 + (0 * 1))), (0, p52_3), (0, p52_4), (0, p52_5), (0, v9)]) gz_120_105 gm_120 rfl rfl rfl ?_
                        refine w_iinc (ls' := [(2, 114), (2, x1), (0, x2), (2, 98), (0, v9), (0, 0), (0, (p52_2 + (0 * 1))), (0, p52_3), (0, p52_4), (0, (p52_5 + 1)), (0, v9)]) gz_120_107 rfl gm_120 rfl rfl rfl ⟨by omega, by omega⟩ ?_
                        refine w_goto (t := 52) gz_120_110 rfl ?_
                        refine w_weak (ls' := [(2, 114), (2, x1), (0, x2), (2, 98), (0, v9), (0, 0), (0, (p52_2 + (0 * 1))), (0, p52_3), (0, p52_4), (0, (p52_5 + 1)), (9, 0)]) (wk_e (wk_e (wk_e (wk_e (wk_e (wk_e (wk_e (wk_e (wk_e (wk_e (wk_9 wk_n))))))))))) ?_
                        exact ih_52_0 (v9) (0) ((p52_2 + (0 * 1))) (p52_3) (p52_4) ((p52_5 + 1)) h21 (gh21) (by omega) (by omega) (by omega) (by omega) (by omega) (by omega) (by omega) (by omega) (by omega) (by omega) (by omega) (by omega) (by omega) (by omega) (by omega) (by omega) (by omega)
                    ·
                      have gh22 : my_fr [(8, 0), (8, 1), (42, -1), (44, -1), (45, -1)] h h22 := my_fr.tr gh_52_0 (frh22.mo rfl)
                      show wp l rho (d + 4) 120 92 [(2, 114), (2, x1), (0, x2), (2, 98), (0, v9), (0, p52_1), (0, p52_2), (0, p52_3), (0, p52_4), (0, p52_5), (0, v9)] [(0, v23)] h22 Q
                      refine w_istore (ls' := [(2, 114), (2, x1), (0, x2), (2, 98), (0, v9), (0, v23), (0, p52_2), (0, p52_3), (0, p52_4), (0, p52_5), (0, v9)]) gz_120_92 gm_120 rfl rfl rfl ?_
                      exact J94_4 (v9) (v23) (v9) h22 (gh22) (by omega) (by omega) (by omega) (by omega) (by omega) (by omega) (by omega) (by omega) (by omega) (by omega) (by omega) (by omega)
          refine w_iload gz_120_43 rfl ?_
          refine w_iconst gz_120_45 (by decide) ?_
          refine w_icgt (t := 119) gz_120_46 rfl (fun u26 => ?_) (fun u26 => ?_)
          ·
            refine w_iinc (ls' := [(2, 114), (2, x1), (0, x2), (2, 98), (0, p43_0), (0, p43_1), (0, p43_2), (0, (p43_3 + 1)), (0, p43_4), (9, 0), (9, 0)]) gz_120_119 rfl gm_120 rfl rfl rfl ⟨by omega, by omega⟩ ?_
            refine w_goto (t := 26) gz_120_122 rfl ?_
            refine w_weak (ls' := [(2, 114), (2, x1), (0, x2), (2, 98), (0, p43_0), (0, p43_1), (0, p43_2), (0, (p43_3 + 1)), (9, 0), (9, 0), (9, 0)]) (wk_e (wk_e (wk_e (wk_e (wk_e (wk_e (wk_e (wk_e (wk_9 (wk_9 (wk_9 wk_n))))))))))) ?_
            exact ih_26_0 (p43_0) (p43_1) (p43_2) ((p43_3 + 1)) h43_0 (gh_43_0) (by omega) (by omega) (by omega) (by omega)
          ·
            refine w_iconst gz_120_49 (by decide) ?_
            refine w_istore (ls' := [(2, 114), (2, x1), (0, x2), (2, 98), (0, p43_0), (0, p43_1), (0, p43_2), (0, p43_3), (0, p43_4), (0, 0), (9, 0)]) gz_120_50 gm_120 rfl rfl rfl ?_
            exact J52_0 22 (p43_0) (p43_1) (p43_2) (p43_3) (p43_4) (0) h43_0 (gh_43_0) (by omega) (by omega) (by omega) (by omega) (by omega) (by omega) (by omega) (by omega) (by omega) (by omega) (by omega) (by omega) (by omega) (by omega) (by omega) (by omega) (by omega)
      refine w_iload gz_120_26 rfl ?_
      refine w_aload_n gz_120_28 rfl ?_
      refine w_getX (v := 1) gz_120_29 is_114 rd_1 rfl (by decide) rfl ?_
      refine w_getX (v := 2) gz_120_32 is_1 rd_3 rfl (by decide) rfl ?_
      refine w_iload_n gz_120_35 rfl ?_
      refine w_iald gz_120_36 is_2 rd_25 (by omega) (by omega) (fun v29 ev29 pv29 qv29 => ?_)
      refine w_icge (t := 125) gz_120_37 rfl (fun u30 => ?_) (fun u30 => ?_)
      ·
        refine w_iload gz_120_125 rfl ?_
        exact w_iret gz_120_127 gm_120 (k1 h26_0 (p26_2) (gh_26_0))
      ·
        refine w_iconst gz_120_40 (by decide) ?_
        refine w_istore (ls' := [(2, 114), (2, x1), (0, x2), (2, 98), (0, p26_0), (0, p26_1), (0, p26_2), (0, p26_3), (0, 0), (9, 0), (9, 0)]) gz_120_41 gm_120 rfl rfl rfl ?_
        exact J43_0 4 (p26_0) (p26_1) (p26_2) (p26_3) (0) h26_0 (gh_26_0) (by omega) (by omega) (by omega) (by omega) (by omega) (by omega) (by omega) (by omega) (by omega)
  refine w_aload_n gz_120_0 rfl ?_
  refine w_iload_n gz_120_1 rfl ?_
  refine w_iconst gz_120_2 (by decide) ?_
  refine w_inv (k := 3) (as := [(0, (-1)), (0, x2)]) (r := []) (x := x1) (ls0 := [(2, x1), (0, x2), (0, (-1)), (9, 0), (9, 0), (9, 0)]) gz_120_3 gm_121 rfl t1 rd_6 rfl rfl rfl rfl rfl (c_Rows_keysOf (d := (d + 2)) (x0 := x1) (x1 := x2) (x2 := (-1)) t1 (by omega) (by omega) (by omega) (by omega) (fun v31 => ?_))
  show wp l rho (d + 4) 120 6 [(2, 114), (2, x1), (0, x2), (2, 98), (9, 0), (9, 0), (9, 0), (9, 0), (9, 0), (9, 0), (9, 0)] [(0, v31)] h Q
  refine w_istore (ls' := [(2, 114), (2, x1), (0, x2), (2, 98), (0, v31), (9, 0), (9, 0), (9, 0), (9, 0), (9, 0), (9, 0)]) gz_120_6 gm_120 rfl rfl rfl ?_
  refine w_aload_n gz_120_8 rfl ?_
  refine w_aload_n gz_120_9 rfl ?_
  refine w_iload_n gz_120_10 rfl ?_
  refine w_iload gz_120_11 rfl ?_
  refine w_aload_n gz_120_13 rfl ?_
  refine w_inv (k := 3) (as := [(2, 98), (0, v31), (0, x2), (2, x1)]) (r := []) (x := 114) (ls0 := [(2, 114), (2, x1), (0, x2), (0, v31), (2, 98), (9, 0), (9, 0), (9, 0)]) gz_120_14 gm_122 rfl is_114 rd_1 rfl rfl rfl rfl rfl (c_Cutter_countArranged (d := d) (x1 := x1) (x2 := x2) (x3 := v31) t1 (by omega) (by omega) (fun h32 frh32 => ?_) (fun h33 v34 frh33 w35 => ?_))
  ·
    have gh32 : my_fr [(8, 0), (8, 1), (42, -1), (44, -1), (45, -1)] h h32 := my_fr.tr my_fr.rf (frh32.mo rfl)
    show wp l rho (d + 4) 120 17 [(2, 114), (2, x1), (0, x2), (2, 98), (0, v31), (9, 0), (9, 0), (9, 0), (9, 0), (9, 0), (9, 0)] [(0, 0)] h32 Q
    refine w_istore (ls' := [(2, 114), (2, x1), (0, x2), (2, 98), (0, v31), (0, 0), (9, 0), (9, 0), (9, 0), (9, 0), (9, 0)]) gz_120_17 gm_120 rfl rfl rfl ?_
    refine w_iload gz_120_19 rfl ?_
    refine w_istore (ls' := [(2, 114), (2, x1), (0, x2), (2, 98), (0, v31), (0, 0), (0, 0), (9, 0), (9, 0), (9, 0), (9, 0)]) gz_120_21 gm_120 rfl rfl rfl ?_
    refine w_iconst gz_120_23 (by decide) ?_
    refine w_istore (ls' := [(2, 114), (2, x1), (0, x2), (2, 98), (0, v31), (0, 0), (0, 0), (0, 0), (9, 0), (9, 0), (9, 0)]) gz_120_24 gm_120 rfl rfl rfl ?_
    exact J26_0 5 (v31) (0) (0) (0) h32 (gh32) (by omega) (by omega) (by omega) (by omega)
  ·
    have gh33 : my_fr [(8, 0), (8, 1), (42, -1), (44, -1), (45, -1)] h h33 := my_fr.tr my_fr.rf (frh33.mo rfl)
    show wp l rho (d + 4) 120 17 [(2, 114), (2, x1), (0, x2), (2, 98), (0, v31), (9, 0), (9, 0), (9, 0), (9, 0), (9, 0), (9, 0)] [(0, v34)] h33 Q
    refine w_istore (ls' := [(2, 114), (2, x1), (0, x2), (2, 98), (0, v31), (0, v34), (9, 0), (9, 0), (9, 0), (9, 0), (9, 0)]) gz_120_17 gm_120 rfl rfl rfl ?_
    refine w_iload gz_120_19 rfl ?_
    refine w_istore (ls' := [(2, 114), (2, x1), (0, x2), (2, 98), (0, v31), (0, v34), (0, v34), (9, 0), (9, 0), (9, 0), (9, 0)]) gz_120_21 gm_120 rfl rfl rfl ?_
    refine w_iconst gz_120_23 (by decide) ?_
    refine w_istore (ls' := [(2, 114), (2, x1), (0, x2), (2, 98), (0, v31), (0, v34), (0, v34), (0, 0), (9, 0), (9, 0), (9, 0)]) gz_120_24 gm_120 rfl rfl rfl ?_
    exact J26_0 5 (v31) (v34) (v34) (0) h33 (gh33) (by omega) (by omega) (by omega) (by omega)
theorem c_Desk_looks {l : Launch} {rho : Nat → Int32} {d : Nat} {h : my_H} {Q : my_H → my_V → Prop} {x1 x2 : Int} (t1 : my_is 6 x1) (n_Ln : Ln h) (k0 : ∀ (h' : my_H), my_fr [(8, 0), (8, 1), (42, -1), (43, -1), (44, -1)] h h' → Q h' (0, 0)) (k1 : ∀ (h' : my_H), my_fr [(8, 0), (8, 1), (42, -1), (43, -1), (44, -1)] h h' → 0 ≤ x2 → x2 ≤ 5 → h' 98 0 ≤ 10 → h (h 27 x2) 0 = 1 → Q h' (0, 1)) : wp l rho (d + 4) 65 0 [(2, 94), (2, x1), (0, x2)] [] h Q := by
  refine w_aload_n gz_65_0 rfl ?_
  refine w_iload_n gz_65_1 rfl ?_
  refine w_inv (k := 0) (as := [(0, x2)]) (r := []) (x := 94) (ls0 := [(2, 94), (0, x2)]) gz_65_2 gm_66 rfl is_94 rd_2 rfl rfl rfl rfl rfl ?_
  refine w_iload_n gz_66_0 rfl ?_
  refine w_iflt (t := 26) gz_66_1 rfl (fun u1 => ?_) (fun u1 => ?_)
  ·
    refine w_iconst gz_66_26 (by decide) ?_
    refine w_bret gz_66_27 gm_66 (by omega) (by omega) ?_
    show wp l rho (d + 4) 65 5 [(2, 94), (2, x1), (0, x2)] [(0, 0)] h Q
    refine w_ifne (t := 10) gz_65_5 rfl (fun u2 => by exfalso; omega) (fun u2 => ?_)
    refine w_iconst gz_65_8 (by decide) ?_
    exact w_bret gz_65_9 gm_65 (by omega) (by omega) (k0 h (my_fr.rf))
  ·
    refine w_iload_n gz_66_4 rfl ?_
    refine w_bipush gz_66_5 (by decide) ?_
    refine w_icge (t := 26) gz_66_7 rfl (fun u3 => ?_) (fun u3 => ?_)
    ·
      refine w_iconst gz_66_26 (by decide) ?_
      refine w_bret gz_66_27 gm_66 (by omega) (by omega) ?_
      show wp l rho (d + 4) 65 5 [(2, 94), (2, x1), (0, x2)] [(0, 0)] h Q
      refine w_ifne (t := 10) gz_65_5 rfl (fun u4 => by exfalso; omega) (fun u4 => ?_)
      refine w_iconst gz_65_8 (by decide) ?_
      exact w_bret gz_65_9 gm_65 (by omega) (by omega) (k0 h (my_fr.rf))
    ·
      refine w_aload_n gz_66_10 rfl ?_
      refine w_getX (v := 27) gz_66_11 is_94 rd_2 rfl (by decide) rfl ?_
      refine w_iload_n gz_66_14 rfl ?_
      refine w_aald gz_66_15 is_27 rd_22 rfl (by omega) (by omega) (fun v6 ev6 tv6 => ?_)
      refine v_getI (j := 0) gz_66_16 rfl tv6 rd_4 rfl (fun v7 ev7 pv7 qv7 => ?_)
      refine w_ifeq (t := 26) gz_66_19 rfl (fun u8 => ?_) (fun u8 => ?_)
      ·
        refine w_iconst gz_66_26 (by decide) ?_
        refine w_bret gz_66_27 gm_66 (by omega) (by omega) ?_
        show wp l rho (d + 4) 65 5 [(2, 94), (2, x1), (0, x2)] [(0, 0)] h Q
        refine w_ifne (t := 10) gz_65_5 rfl (fun u9 => by exfalso; omega) (fun u9 => ?_)
        refine w_iconst gz_65_8 (by decide) ?_
        exact w_bret gz_65_9 gm_65 (by omega) (by omega) (k0 h (my_fr.rf))
      ·
        refine w_iconst gz_66_22 (by decide) ?_
        refine w_goto (t := 27) gz_66_23 rfl ?_
        refine w_bret gz_66_27 gm_66 (by omega) (by omega) ?_
        show wp l rho (d + 4) 65 5 [(2, 94), (2, x1), (0, x2)] [(0, 1)] h Q
        refine w_ifne (t := 10) gz_65_5 rfl (fun u10 => ?_) (fun u10 => by exfalso; omega)
        refine w_aload_n gz_65_10 rfl ?_
        refine w_getX (v := 98) gz_65_11 is_94 rd_2 rfl (by decide) rfl ?_
        refine w_aload_n gz_65_14 rfl ?_
        refine w_getX (v := 27) gz_65_15 is_94 rd_2 rfl (by decide) rfl ?_
        refine w_iload_n gz_65_18 rfl ?_
        refine w_aload_n gz_65_19 rfl ?_
        refine w_inv (k := 4) (as := [(2, x1), (0, x2), (2, 27)]) (r := []) (x := 98) (ls0 := [(2, 98), (2, 27), (0, x2), (2, x1), (9, 0), (9, 0), (9, 0), (9, 0)]) gz_65_20 gm_67 rfl is_98 rd_8 rfl rfl rfl rfl rfl (c_View_show (d := d) (x0 := 98) (x2 := x2) (x3 := x1) is_98 (by omega) (by omega) (by omega) (by omega) t1 n_Ln (by first | assumption | omega) (fun h13 v14 frh13 fxh13 w15 xp16 => ?_))
        have gh13 : my_fr [(8, 0), (8, 1), (42, -1), (43, -1), (44, -1)] h h13 := my_fr.tr my_fr.rf (frh13.mo rfl)
        have Ln_h13 : Ln h13 := Ln_ag (my_ag.fr frh13 rfl) n_Ln
        show wp l rho (d + 4) 65 23 [(2, 94), (2, x1), (0, x2)] [(2, v14)] h13 Q
        refine w_pop gz_65_23 rfl ?_
        refine w_iconst gz_65_24 (by decide) ?_
        have ce17 : h13 98 0 = h 98 0 := ((my_fx.at fxh13 (by omega)).trans (rfl : h 98 0 = h 98 0))
        exact w_bret gz_65_25 gm_65 (by omega) (by omega) (k1 h13 (gh13) (by omega) (by omega) (by first | assumption | omega) (by first | assumption | omega))
theorem c_ThroughWindow_source {l : Launch} {rho : Nat → Int32} {d : Nat} {h : my_H} {Q : my_H → my_V → Prop} {x1 x2 x3 x4 : Int} (n_Ln : Ln h) (k0 : ∀ (h' : my_H), my_fr [(8, 0), (8, 1), (42, -1), (43, -1), (44, -1)] h h' → Ln h' → Q h' (0, (-1))) (k1 : ∀ (h' : my_H) (y : Int), my_fr [(8, 0), (8, 1), (42, -1), (43, -1), (44, -1)] h h' → 0 ≤ y → y ≤ 19 → 0 ≤ x1 → x1 ≤ 5 → 0 ≤ x2 → x2 ≤ 10 → 0 ≤ x3 → x3 ≤ 7 → 0 ≤ x4 → x4 ≤ 2 → Ln h' → Q h' (0, y)) : wp l rho (d + 5) 82 0 [(2, 0), (0, x1), (0, x2), (0, x3), (0, x4), (9, 0), (9, 0)] [] h Q := by
  refine w_aload_n gz_82_0 rfl ?_
  refine w_getX (v := 94) gz_82_1 is_0 rd_9 rfl (by decide) rfl ?_
  refine w_getX (v := 98) gz_82_4 is_94 rd_2 rfl (by decide) rfl ?_
  refine w_astore (ls' := [(2, 0), (0, x1), (0, x2), (0, x3), (0, x4), (2, 98), (9, 0)]) gz_82_7 gm_82 rfl rfl rfl ?_
  refine w_aload_n gz_82_9 rfl ?_
  refine w_getX (v := 94) gz_82_10 is_0 rd_9 rfl (by decide) rfl ?_
  refine w_aload_n gz_82_13 rfl ?_
  refine w_getX (v := 7) gz_82_14 is_0 rd_9 rfl (by decide) rfl ?_
  refine w_iload_n gz_82_17 rfl ?_
  refine w_inv (k := 0) (as := [(0, x1), (2, 7)]) (r := []) (x := 94) (ls0 := [(2, 94), (2, 7), (0, x1)]) gz_82_18 gm_65 rfl is_94 rd_2 rfl rfl rfl rfl rfl (c_Desk_looks (d := d) (x1 := 7) (x2 := x1) is_7 n_Ln (fun h5 frh5 => ?_) (fun h6 frh6 w7 w8 xp9 xp10 => ?_))
  ·
    have gh5 : my_fr [(8, 0), (8, 1), (42, -1), (43, -1), (44, -1)] h h5 := my_fr.tr my_fr.rf (frh5.mo rfl)
    have Ln_h5 : Ln h5 := Ln_ag (my_ag.fr frh5 rfl) n_Ln
    show wp l rho (d + 5) 82 21 [(2, 0), (0, x1), (0, x2), (0, x3), (0, x4), (2, 98), (9, 0)] [(0, 0)] h5 Q
    refine w_ifeq (t := 34) gz_82_21 rfl (fun u11 => ?_) (fun u11 => by exfalso; omega)
    refine w_iconst gz_82_34 (by decide) ?_
    exact w_iret gz_82_35 gm_82 (k0 h5 (gh5) Ln_h5)
  ·
    have gh6 : my_fr [(8, 0), (8, 1), (42, -1), (43, -1), (44, -1)] h h6 := my_fr.tr my_fr.rf (frh6.mo rfl)
    have Ln_h6 : Ln h6 := Ln_ag (my_ag.fr frh6 rfl) n_Ln
    show wp l rho (d + 5) 82 21 [(2, 0), (0, x1), (0, x2), (0, x3), (0, x4), (2, 98), (9, 0)] [(0, 1)] h6 Q
    refine w_ifeq (t := 34) gz_82_21 rfl (fun u12 => by exfalso; omega) (fun u12 => ?_)
    refine w_aload gz_82_24 rfl ?_
    refine w_iload_n gz_82_26 rfl ?_
    refine w_iload_n gz_82_27 rfl ?_
    refine w_inv (k := 0) (as := [(0, x3), (0, x2)]) (r := []) (x := 98) (ls0 := [(2, 98), (0, x2), (0, x3)]) gz_82_28 gm_81 rfl is_98 rd_8 rfl rfl rfl rfl rfl ?_
    refine w_iload_n gz_81_0 rfl ?_
    refine w_iflt (t := 28) gz_81_1 rfl (fun u13 => ?_) (fun u13 => ?_)
    ·
      refine w_iconst gz_81_28 (by decide) ?_
      refine w_bret gz_81_29 gm_81 (by omega) (by omega) ?_
      show wp l rho (d + 5) 82 31 [(2, 0), (0, x1), (0, x2), (0, x3), (0, x4), (2, 98), (9, 0)] [(0, 0)] h6 Q
      refine w_ifne (t := 36) gz_82_31 rfl (fun u14 => by exfalso; omega) (fun u14 => ?_)
      refine w_iconst gz_82_34 (by decide) ?_
      exact w_iret gz_82_35 gm_82 (k0 h6 (gh6) Ln_h6)
    ·
      refine w_iload_n gz_81_4 rfl ?_
      refine w_aload_n gz_81_5 rfl ?_
      refine v_getI (j := 0) gz_81_6 rfl is_98 rd_8 rfl (fun v15 ev15 pv15 qv15 => ?_)
      refine w_icge (t := 28) gz_81_9 rfl (fun u16 => ?_) (fun u16 => ?_)
      ·
        refine w_iconst gz_81_28 (by decide) ?_
        refine w_bret gz_81_29 gm_81 (by omega) (by omega) ?_
        show wp l rho (d + 5) 82 31 [(2, 0), (0, x1), (0, x2), (0, x3), (0, x4), (2, 98), (9, 0)] [(0, 0)] h6 Q
        refine w_ifne (t := 36) gz_82_31 rfl (fun u17 => by exfalso; omega) (fun u17 => ?_)
        refine w_iconst gz_82_34 (by decide) ?_
        exact w_iret gz_82_35 gm_82 (k0 h6 (gh6) Ln_h6)
      ·
        refine w_iload_n gz_81_12 rfl ?_
        refine w_iflt (t := 28) gz_81_13 rfl (fun u18 => ?_) (fun u18 => ?_)
        ·
          refine w_iconst gz_81_28 (by decide) ?_
          refine w_bret gz_81_29 gm_81 (by omega) (by omega) ?_
          show wp l rho (d + 5) 82 31 [(2, 0), (0, x1), (0, x2), (0, x3), (0, x4), (2, 98), (9, 0)] [(0, 0)] h6 Q
          refine w_ifne (t := 36) gz_82_31 rfl (fun u19 => by exfalso; omega) (fun u19 => ?_)
          refine w_iconst gz_82_34 (by decide) ?_
          exact w_iret gz_82_35 gm_82 (k0 h6 (gh6) Ln_h6)
        ·
          refine w_iload_n gz_81_16 rfl ?_
          refine w_aload_n gz_81_17 rfl ?_
          refine v_getI (j := 1) gz_81_18 rfl is_98 rd_8 rfl (fun v20 ev20 pv20 qv20 => ?_)
          refine w_icge (t := 28) gz_81_21 rfl (fun u21 => ?_) (fun u21 => ?_)
          ·
            refine w_iconst gz_81_28 (by decide) ?_
            refine w_bret gz_81_29 gm_81 (by omega) (by omega) ?_
            show wp l rho (d + 5) 82 31 [(2, 0), (0, x1), (0, x2), (0, x3), (0, x4), (2, 98), (9, 0)] [(0, 0)] h6 Q
            refine w_ifne (t := 36) gz_82_31 rfl (fun u22 => by exfalso; omega) (fun u22 => ?_)
            refine w_iconst gz_82_34 (by decide) ?_
            exact w_iret gz_82_35 gm_82 (k0 h6 (gh6) Ln_h6)
          ·
            refine w_iconst gz_81_24 (by decide) ?_
            refine w_goto (t := 29) gz_81_25 rfl ?_
            refine w_bret gz_81_29 gm_81 (by omega) (by omega) ?_
            show wp l rho (d + 5) 82 31 [(2, 0), (0, x1), (0, x2), (0, x3), (0, x4), (2, 98), (9, 0)] [(0, 1)] h6 Q
            refine w_ifne (t := 36) gz_82_31 rfl (fun u23 => ?_) (fun u23 => by exfalso; omega)
            refine w_aload gz_82_36 rfl ?_
            refine w_iload_n gz_82_38 rfl ?_
            refine w_iload_n gz_82_39 rfl ?_
            refine w_inv (k := 0) (as := [(0, x3), (0, x2)]) (r := []) (x := 98) (ls0 := [(2, 98), (0, x2), (0, x3)]) gz_82_40 gm_83 rfl is_98 rd_8 rfl rfl rfl rfl rfl ?_
            refine w_aload_n gz_83_0 rfl ?_
            refine w_getX (v := 99) gz_83_1 is_98 rd_8 rfl (by decide) rfl ?_
            refine w_iload_n gz_83_4 rfl ?_
            refine w_bipush gz_83_5 (by decide) ?_
            refine w_imul gz_83_7 ⟨by omega, by omega⟩ ?_
            refine w_bipush gz_83_8 (by decide) ?_
            refine w_iadd gz_83_10 ⟨by omega, by omega⟩ ?_
            refine w_iload_n gz_83_11 rfl ?_
            refine w_iadd gz_83_12 ⟨by omega, by omega⟩ ?_
            refine w_gldS gz_83_13 is_99 rd_42 (by omega) (by omega) (by omega) (by omega) (fun v25 ev25 pv25 qv25 => ?_)
            refine w_iret gz_83_14 gm_83 ?_
            show wp l rho (d + 5) 82 43 [(2, 0), (0, x1), (0, x2), (0, x3), (0, x4), (2, 98), (9, 0)] [(0, v25)] h6 Q
            refine w_istore (ls' := [(2, 0), (0, x1), (0, x2), (0, x3), (0, x4), (2, 98), (0, v25)]) gz_82_43 gm_82 rfl rfl rfl ?_
            refine w_iload gz_82_45 rfl ?_
            refine w_iconst gz_82_47 (by decide) ?_
            refine w_icne (t := 53) gz_82_48 rfl (fun u26 => ?_) (fun u26 => ?_)
            ·
              refine w_iload gz_82_53 rfl ?_
              by_cases u27 : x4 = 0
              ·
                refine w_tswE (t := 80) gz_82_55 u27 (by decide) (by decide) rfl rfl ?_
                refine w_iload gz_82_80 rfl ?_
                refine w_bipush gz_82_82 (by decide) ?_
                refine w_idiv gz_82_84 (by omega) (by decide) ?_
                exact w_iret gz_82_85 gm_82 (k1 h6 ((v25 / 80)) (gh6) (by omega) (by omega) (by omega) (by omega) (by omega) (by omega) (by omega) (by omega) (by omega) (by omega) Ln_h6)
              ·
                by_cases u28 : x4 = 1
                ·
                  refine w_tswE (t := 86) gz_82_55 u28 (by decide) (by decide) rfl rfl ?_
                  refine w_iload gz_82_86 rfl ?_
                  refine w_iconst gz_82_88 (by decide) ?_
                  refine w_idiv gz_82_89 (by omega) (by decide) ?_
                  refine w_bipush gz_82_90 (by decide) ?_
                  refine w_irem gz_82_92 (by omega) (by decide) ?_
                  exact w_iret gz_82_93 gm_82 (k1 h6 (((v25 / 4) % 20)) (gh6) (by omega) (by omega) (by omega) (by omega) (by omega) (by omega) (by omega) (by omega) (by omega) (by omega) Ln_h6)
                ·
                  by_cases u29 : x4 = 2
                  ·
                    refine w_tswE (t := 94) gz_82_55 u29 (by decide) (by decide) rfl rfl ?_
                    refine w_iload gz_82_94 rfl ?_
                    refine w_iconst gz_82_96 (by decide) ?_
                    refine w_irem gz_82_97 (by omega) (by decide) ?_
                    exact w_iret gz_82_98 gm_82 (k1 h6 ((v25 % 4)) (gh6) (by omega) (by omega) (by omega) (by omega) (by omega) (by omega) (by omega) (by omega) (by omega) (by omega) Ln_h6)
                  ·
                    refine w_tswD (t := 99) gz_82_55 (by omega) rfl ?_
                    refine w_iconst gz_82_99 (by decide) ?_
                    exact w_iret gz_82_100 gm_82 (k0 h6 (gh6) Ln_h6)
            ·
              refine w_iconst gz_82_51 (by decide) ?_
              exact w_iret gz_82_52 gm_82 (k0 h6 (gh6) Ln_h6)
theorem c_ThroughWindow_look {l : Launch} {rho : Nat → Int32} {d : Nat} {h : my_H} {Q : my_H → my_V → Prop} {x1 x2 : Int} (n_Ln : Ln h) (k0 : ∀ (h' : my_H), my_fr [(8, 0), (8, 1), (42, -1), (43, -1), (44, -1)] h h' → Ln h' → Q h' (0, (-1))) (k1 : ∀ (h' : my_H) (y : Int), my_fr [(8, 0), (8, 1), (42, -1), (43, -1), (44, -1)] h h' → 0 ≤ x1 → x1 ≤ 5 → 0 ≤ x2 → x2 ≤ 4 → Ln h' → Q h' (0, y)) : wp l rho (d + 5) 84 0 [(2, 0), (0, x1), (0, x2), (9, 0)] [] h Q := by
  refine w_aload_n gz_84_0 rfl ?_
  refine w_getX (v := 94) gz_84_1 is_0 rd_9 rfl (by decide) rfl ?_
  refine w_aload_n gz_84_4 rfl ?_
  refine w_getX (v := 7) gz_84_5 is_0 rd_9 rfl (by decide) rfl ?_
  refine w_iload_n gz_84_8 rfl ?_
  refine w_inv (k := 0) (as := [(0, x1), (2, 7)]) (r := []) (x := 94) (ls0 := [(2, 94), (2, 7), (0, x1)]) gz_84_9 gm_65 rfl is_94 rd_2 rfl rfl rfl rfl rfl (c_Desk_looks (d := d) (x1 := 7) (x2 := x1) is_7 n_Ln (fun h3 frh3 => ?_) (fun h4 frh4 w5 w6 xp7 xp8 => ?_))
  ·
    have gh3 : my_fr [(8, 0), (8, 1), (42, -1), (43, -1), (44, -1)] h h3 := my_fr.tr my_fr.rf (frh3.mo rfl)
    have Ln_h3 : Ln h3 := Ln_ag (my_ag.fr frh3 rfl) n_Ln
    show wp l rho (d + 5) 84 12 [(2, 0), (0, x1), (0, x2), (9, 0)] [(0, 0)] h3 Q
    refine w_ifne (t := 17) gz_84_12 rfl (fun u9 => by exfalso; omega) (fun u9 => ?_)
    refine w_iconst gz_84_15 (by decide) ?_
    exact w_iret gz_84_16 gm_84 (k0 h3 (gh3) Ln_h3)
  ·
    have gh4 : my_fr [(8, 0), (8, 1), (42, -1), (43, -1), (44, -1)] h h4 := my_fr.tr my_fr.rf (frh4.mo rfl)
    have Ln_h4 : Ln h4 := Ln_ag (my_ag.fr frh4 rfl) n_Ln
    show wp l rho (d + 5) 84 12 [(2, 0), (0, x1), (0, x2), (9, 0)] [(0, 1)] h4 Q
    refine w_ifne (t := 17) gz_84_12 rfl (fun u10 => ?_) (fun u10 => by exfalso; omega)
    refine w_aload_n gz_84_17 rfl ?_
    refine w_getX (v := 27) gz_84_18 is_0 rd_9 rfl (by decide) rfl ?_
    refine w_iload_n gz_84_21 rfl ?_
    refine w_aald gz_84_22 is_27 rd_22 rfl (by omega) (by omega) (fun v12 ev12 tv12 => ?_)
    refine w_astore_n (ls' := [(2, 0), (0, x1), (0, x2), (2, v12)]) gz_84_23 gm_84 rfl rfl rfl ?_
    refine w_iload_n gz_84_24 rfl ?_
    by_cases u13 : x2 = 0
    ·
      refine w_tswE (t := 60) gz_84_25 u13 (by decide) (by decide) rfl rfl ?_
      refine w_aload_n gz_84_60 rfl ?_
      refine w_getX (v := 94) gz_84_61 is_0 rd_9 rfl (by decide) rfl ?_
      refine w_getX (v := 98) gz_84_64 is_94 rd_2 rfl (by decide) rfl ?_
      refine v_getI (j := 0) gz_84_67 rfl is_98 rd_8 rfl (fun v16 ev16 pv16 qv16 => ?_)
      exact w_iret gz_84_70 gm_84 (k1 h4 (v16) (gh4) (by omega) (by omega) (by omega) (by omega) Ln_h4)
    ·
      by_cases u17 : x2 = 1
      ·
        refine w_tswE (t := 71) gz_84_25 u17 (by decide) (by decide) rfl rfl ?_
        refine w_aload_n gz_84_71 rfl ?_
        refine v_getI (j := 4) gz_84_72 rfl tv12 rd_4 rfl (fun v18 ev18 pv18 qv18 => ?_)
        exact w_iret gz_84_75 gm_84 (k1 h4 (v18) (gh4) (by omega) (by omega) (by omega) (by omega) Ln_h4)
      ·
        by_cases u19 : x2 = 2
        ·
          refine w_tswE (t := 76) gz_84_25 u19 (by decide) (by decide) rfl rfl ?_
          refine w_aload_n gz_84_76 rfl ?_
          refine v_getI (j := 5) gz_84_77 rfl tv12 rd_4 rfl (fun v20 ev20 pv20 qv20 => ?_)
          exact w_iret gz_84_80 gm_84 (k1 h4 (v20) (gh4) (by omega) (by omega) (by omega) (by omega) Ln_h4)
        ·
          by_cases u21 : x2 = 3
          ·
            refine w_tswE (t := 81) gz_84_25 u21 (by decide) (by decide) rfl rfl ?_
            refine w_aload_n gz_84_81 rfl ?_
            refine v_getI (j := 2) gz_84_82 rfl tv12 rd_4 rfl (fun v22 ev22 pv22 qv22 => ?_)
            exact w_iret gz_84_85 gm_84 (k1 h4 (v22) (gh4) (by omega) (by omega) (by omega) (by omega) Ln_h4)
          ·
            by_cases u23 : x2 = 4
            ·
              refine w_tswE (t := 86) gz_84_25 u23 (by decide) (by decide) rfl rfl ?_
              refine w_aload_n gz_84_86 rfl ?_
              refine v_getI (j := 6) gz_84_87 rfl tv12 rd_4 rfl (fun v24 ev24 pv24 qv24 => ?_)
              exact w_iret gz_84_90 gm_84 (k1 h4 (v24) (gh4) (by omega) (by omega) (by omega) (by omega) Ln_h4)
            ·
              refine w_tswD (t := 91) gz_84_25 (by omega) rfl ?_
              refine w_iconst gz_84_91 (by decide) ?_
              exact w_iret gz_84_92 gm_84 (k0 h4 (gh4) Ln_h4)
theorem c_Desk_opens {l : Launch} {rho : Nat → Int32} {d : Nat} {h : my_H} {Q : my_H → my_V → Prop} {x1 x2 x3 x4 x5 x6 : Int} (t1 : my_is 6 x1) (n_Ln : Ln h) (k0 : ∀ (h' : my_H), my_fr [(2, 15), (2, 16), (8, 0), (8, 1), (42, -1), (43, -1), (44, -1)] h h' → Q h' (0, 0)) (k1 : ∀ (h' : my_H), my_fr [(2, 15), (2, 16), (8, 0), (8, 1), (42, -1), (43, -1), (44, -1)] h h' → 0 ≤ x2 → x2 ≤ 5 → 0 ≤ x3 → x3 ≤ 2 → 0 ≤ h' 94 15 → h' 94 15 ≤ 2 → h' 94 15 = x3 → h' 94 16 = x4 → x3 ≠ 2 → 0 ≤ x4 ∧ x4 ≤ 9 → x3 = 0 → 0 ≤ x5 ∧ x5 ≤ 7 ∧ 0 ≤ x6 ∧ x6 ≤ 199 → h (h 27 x2) 0 = 1 → Q h' (0, 1)) : wp l rho (d + 5) 87 0 [(2, 94), (2, x1), (0, x2), (0, x3), (0, x4), (0, x5), (0, x6)] [] h Q := by
  refine w_iload_n gz_87_0 rfl ?_
  refine w_iflt (t := 18) gz_87_1 rfl (fun u1 => ?_) (fun u1 => ?_)
  ·
    refine w_iconst gz_87_18 (by decide) ?_
    exact w_bret gz_87_19 gm_87 (by omega) (by omega) (k0 h (my_fr.rf))
  ·
    refine w_iload_n gz_87_4 rfl ?_
    refine w_iconst gz_87_5 (by decide) ?_
    refine w_icgt (t := 18) gz_87_6 rfl (fun u2 => ?_) (fun u2 => ?_)
    ·
      refine w_iconst gz_87_18 (by decide) ?_
      exact w_bret gz_87_19 gm_87 (by omega) (by omega) (k0 h (my_fr.rf))
    ·
      refine w_aload_n gz_87_9 rfl ?_
      refine w_aload_n gz_87_10 rfl ?_
      refine w_iload_n gz_87_11 rfl ?_
      refine w_inv (k := 0) (as := [(0, x2), (2, x1)]) (r := []) (x := 94) (ls0 := [(2, 94), (2, x1), (0, x2)]) gz_87_12 gm_65 rfl is_94 rd_2 rfl rfl rfl rfl rfl (c_Desk_looks (d := d) (x1 := x1) (x2 := x2) t1 n_Ln (fun h3 frh3 => ?_) (fun h4 frh4 w5 w6 xp7 xp8 => ?_))
      ·
        have gh3 : my_fr [(2, 15), (2, 16), (8, 0), (8, 1), (42, -1), (43, -1), (44, -1)] h h3 := my_fr.tr my_fr.rf (frh3.mo rfl)
        have Ln_h3 : Ln h3 := Ln_ag (my_ag.fr frh3 rfl) n_Ln
        show wp l rho (d + 5) 87 15 [(2, 94), (2, x1), (0, x2), (0, x3), (0, x4), (0, x5), (0, x6)] [(0, 0)] h3 Q
        refine w_ifne (t := 20) gz_87_15 rfl (fun u9 => by exfalso; omega) (fun u9 => ?_)
        refine w_iconst gz_87_18 (by decide) ?_
        have ce10 : h3 94 15 = h 94 15 := ((my_fr.at frh3 is_94 rfl).trans (rfl : h 94 15 = h 94 15))
        have ce11 : h3 94 16 = h 94 16 := ((my_fr.at frh3 is_94 rfl).trans (rfl : h 94 16 = h 94 16))
        exact w_bret gz_87_19 gm_87 (by omega) (by omega) (k0 h3 (gh3))
      ·
        have gh4 : my_fr [(2, 15), (2, 16), (8, 0), (8, 1), (42, -1), (43, -1), (44, -1)] h h4 := my_fr.tr my_fr.rf (frh4.mo rfl)
        have Ln_h4 : Ln h4 := Ln_ag (my_ag.fr frh4 rfl) n_Ln
        show wp l rho (d + 5) 87 15 [(2, 94), (2, x1), (0, x2), (0, x3), (0, x4), (0, x5), (0, x6)] [(0, 1)] h4 Q
        refine w_ifne (t := 20) gz_87_15 rfl (fun u12 => ?_) (fun u12 => by exfalso; omega)
        refine w_iload_n gz_87_20 rfl ?_
        refine w_iconst gz_87_21 (by decide) ?_
        refine w_iceq (t := 44) gz_87_22 rfl (fun u13 => ?_) (fun u13 => ?_)
        ·
          refine w_iload_n gz_87_44 rfl ?_
          refine w_ifne (t := 77) gz_87_45 rfl (fun u14 => ?_) (fun u14 => by exfalso; omega)
          refine w_aload_n gz_87_77 rfl ?_
          refine w_iload_n gz_87_78 rfl ?_
          refine v_putI (j := 15) gz_87_79 rfl is_94 rd_2 rfl (by omega) (by omega) rfl (fun h15 fh15 => ?_)
          have gh15 : my_fr [(2, 15), (2, 16), (8, 0), (8, 1), (42, -1), (43, -1), (44, -1)] h h15 := my_fr.up gh4 is_94 fh15 rfl
          have Ln_h15 : Ln h15 := Ln_ag (my_ag.up fh15 is_94 rfl) Ln_h4
          refine w_aload_n gz_87_82 rfl ?_
          refine w_iload gz_87_83 rfl ?_
          refine v_putA (j := 16) gz_87_85 rfl is_94 rd_2 rfl rfl (fun h16 fh16 => ?_)
          have gh16 : my_fr [(2, 15), (2, 16), (8, 0), (8, 1), (42, -1), (43, -1), (44, -1)] h h16 := my_fr.up gh15 is_94 fh16 rfl
          have Ln_h16 : Ln h16 := Ln_ag (my_ag.up fh16 is_94 rfl) Ln_h15
          refine w_aload_n gz_87_88 rfl ?_
          refine w_getX (v := 102) gz_87_89 is_94 rd_2 rfl (by decide) rfl ?_
          refine w_aload_n gz_87_92 rfl ?_
          refine w_getX (v := 98) gz_87_93 is_94 rd_2 rfl (by decide) rfl ?_
          refine w_inv (k := 0) (as := [(2, 98)]) (r := []) (x := 102) (ls0 := [(2, 102), (2, 98)]) gz_87_96 gm_88 rfl is_102 rd_8 rfl rfl rfl rfl rfl ?_
          refine w_aload_n gz_88_0 rfl ?_
          refine w_aload_n gz_88_1 rfl ?_
          refine v_getI (j := 0) gz_88_2 rfl is_98 rd_8 rfl (fun v19 ev19 pv19 qv19 => ?_)
          refine v_putI (j := 0) gz_88_5 rfl is_102 rd_8 rfl (by omega) (by omega) rfl (fun h20 fh20 => ?_)
          have gh20 : my_fr [(2, 15), (2, 16), (8, 0), (8, 1), (42, -1), (43, -1), (44, -1)] h h20 := my_fr.up gh16 is_102 fh20 rfl
          have Ln_h20 : Ln h20 := Ln_ag (my_ag.up fh20 is_102 rfl) Ln_h16
          refine w_aload_n gz_88_8 rfl ?_
          refine w_aload_n gz_88_9 rfl ?_
          refine v_getI (j := 1) gz_88_10 rfl is_98 rd_8 rfl (fun v21 ev21 pv21 qv21 => ?_)
          refine v_putI (j := 1) gz_88_13 rfl is_102 rd_8 rfl (by omega) (by omega) rfl (fun h22 fh22 => ?_)
          have gh22 : my_fr [(2, 15), (2, 16), (8, 0), (8, 1), (42, -1), (43, -1), (44, -1)] h h22 := my_fr.up gh20 is_102 fh22 rfl
          have Ln_h22 : Ln h22 := Ln_ag (my_ag.up fh22 is_102 rfl) Ln_h20
          refine w_aload_n gz_88_16 rfl ?_
          refine w_getX (v := 99) gz_88_17 is_98 rd_8 rfl (by decide) rfl ?_
          refine w_iconst gz_88_20 (by decide) ?_
          refine w_aload_n gz_88_21 rfl ?_
          refine w_getX (v := 103) gz_88_22 is_102 rd_8 rfl (by decide) rfl ?_
          refine w_iconst gz_88_25 (by decide) ?_
          refine w_aload_n gz_88_26 rfl ?_
          refine w_getX (v := 103) gz_88_27 is_102 rd_8 rfl (by decide) rfl ?_
          refine v_alen (j := 204) gz_88_30 rfl is_103 rd_42 (by decide) ?_
          refine w_cpG gz_88_31 is_99 rd_42 is_103 rd_42 (by omega) (by omega) (by omega) (by omega) (by omega) rfl (by omega) (fun h26 fh26 => ?_)
          have gh26 : my_fr [(2, 15), (2, 16), (8, 0), (8, 1), (42, -1), (43, -1), (44, -1)] h h26 := my_fr.cp gh22 is_103 fh26 rfl
          have Ln_h26 : Ln h26 := Ln_ag (my_ag.cp fh26 is_103 rfl) Ln_h22
          refine w_vret gz_88_34 gm_88 ?_
          show wp l rho (d + 5) 87 99 [(2, 94), (2, x1), (0, x2), (0, x3), (0, x4), (0, x5), (0, x6)] [] h26 Q
          refine w_iload_n gz_87_99 rfl ?_
          refine w_ifne (t := 119) gz_87_100 rfl (fun u27 => ?_) (fun u27 => by exfalso; omega)
          refine w_iload_n gz_87_119 rfl ?_
          refine w_iconst gz_87_120 (by decide) ?_
          refine w_icne (t := 136) gz_87_121 rfl (fun u28 => ?_) (fun u28 => by exfalso; omega)
          refine w_aload_n gz_87_136 rfl ?_
          refine w_getX (v := 102) gz_87_137 is_94 rd_2 rfl (by decide) rfl ?_
          refine w_aload_n gz_87_140 rfl ?_
          refine w_getX (v := 93) gz_87_141 is_94 rd_2 rfl (by decide) rfl ?_
          refine w_inv (k := 0) (as := [(2, 93)]) (r := []) (x := 102) (ls0 := [(2, 102), (2, 93)]) gz_87_144 gm_91 rfl is_102 rd_8 rfl rfl rfl rfl rfl ?_
          refine w_aload_n gz_91_0 rfl ?_
          refine w_iconst gz_91_1 (by decide) ?_
          refine w_aload_n gz_91_2 rfl ?_
          refine w_getX (v := 103) gz_91_3 is_102 rd_8 rfl (by decide) rfl ?_
          refine w_aload_n gz_91_6 rfl ?_
          refine v_getI (j := 0) gz_91_7 rfl is_102 rd_8 rfl (fun v32 ev32 pv32 qv32 => ?_)
          have zv32 := ev32.trans ((my_cp_role fh26 is_102 is_103 rfl).trans ((my_up_fld fh22 (by decide)).trans (my_up_self fh20)))
          refine w_bipush gz_91_10 (by decide) ?_
          refine w_imul gz_91_12 ⟨by omega, by omega⟩ ?_
          refine w_aload_n gz_91_13 rfl ?_
          refine v_getI (j := 1) gz_91_14 rfl is_102 rd_8 rfl (fun v33 ev33 pv33 qv33 => ?_)
          have zv33 := ev33.trans ((my_cp_role fh26 is_102 is_103 rfl).trans (my_up_self fh22))
          refine w_cpV gz_91_17 is_93 rd_23 is_103 rd_42 (by omega) (by omega) (by omega) (by omega) (by omega) rfl (by omega) (fun h34 fh34 => ?_)
          have gh34 : my_fr [(2, 15), (2, 16), (8, 0), (8, 1), (42, -1), (43, -1), (44, -1)] h h34 := my_fr.cp gh26 is_103 fh34 rfl
          have Ln_h34 : Ln h34 := Ln_ag (my_ag.cp fh34 is_103 rfl) Ln_h26
          refine w_aload_n gz_91_20 rfl ?_
          refine w_dup gz_91_21 rfl ?_
          refine v_getI (j := 0) gz_91_22 rfl is_102 rd_8 rfl (fun v35 ev35 pv35 qv35 => ?_)
          have zv35 := ev35.trans ((my_cp_role fh34 is_102 is_103 rfl).trans ev32.symm)
          refine w_iconst gz_91_25 (by decide) ?_
          refine w_iadd gz_91_26 ⟨by omega, by omega⟩ ?_
          have hi36 : 0 ≤ (v35 + 1) := by omega
          have hi37 : (v35 + 1) ≤ 11 := by omega
          refine v_putI (j := 0) gz_91_27 rfl is_102 rd_8 rfl (by omega) (by omega) rfl (fun h38 fh38 => ?_)
          have gh38 : my_fr [(2, 15), (2, 16), (8, 0), (8, 1), (42, -1), (43, -1), (44, -1)] h h38 := my_fr.up gh34 is_102 fh38 rfl
          have Ln_h38 : Ln h38 := Ln_ag (my_ag.up fh38 is_102 rfl) Ln_h34
          refine w_vret gz_91_30 gm_91 ?_
          show wp l rho (d + 5) 87 147 [(2, 94), (2, x1), (0, x2), (0, x3), (0, x4), (0, x5), (0, x6)] [] h38 Q
          refine w_aload_n gz_87_147 rfl ?_
          refine w_getX (v := 102) gz_87_148 is_94 rd_2 rfl (by decide) rfl ?_
          refine w_inv (k := 3) (as := []) (r := []) (x := 102) (ls0 := [(2, 102), (9, 0), (9, 0), (9, 0)]) gz_87_151 gm_79 rfl is_102 rd_8 rfl rfl rfl rfl rfl (c_View_sort (d := (d + 2)) (x0 := 102) is_102 (fun h40 frh40 fxh40 xp41 xp42 => ?_))
          have gh40 : my_fr [(2, 15), (2, 16), (8, 0), (8, 1), (42, -1), (43, -1), (44, -1)] h h40 := my_fr.tr gh38 (frh40.mo rfl)
          have Ln_h40 : Ln h40 := Ln_ag (my_ag.fr frh40 rfl) Ln_h38
          show wp l rho (d + 5) 87 154 [(2, 94), (2, x1), (0, x2), (0, x3), (0, x4), (0, x5), (0, x6)] [] h40 Q
          refine w_iconst gz_87_154 (by decide) ?_
          have ce43 : h40 94 15 = x3 := ((my_fr.at frh40 is_94 rfl).trans ((my_up_role fh38 is_94 is_102 rfl).trans ((my_cp_role fh34 is_94 is_103 rfl).trans ((my_cp_role fh26 is_94 is_103 rfl).trans ((my_up_role fh22 is_94 is_102 rfl).trans ((my_up_role fh20 is_94 is_102 rfl).trans ((my_up_fld fh16 (by decide)).trans (my_up_self fh15))))))))
          have ce44 : h40 94 16 = x4 := ((my_fr.at frh40 is_94 rfl).trans ((my_up_role fh38 is_94 is_102 rfl).trans ((my_cp_role fh34 is_94 is_103 rfl).trans ((my_cp_role fh26 is_94 is_103 rfl).trans ((my_up_role fh22 is_94 is_102 rfl).trans ((my_up_role fh20 is_94 is_102 rfl).trans (my_up_self fh16)))))))
          have c45 := ((my_fr.at frh40 is_94 rfl).trans ((my_up_role fh38 is_94 is_102 rfl).trans ((my_cp_role fh34 is_94 is_103 rfl).trans ((my_cp_role fh26 is_94 is_103 rfl).trans ((my_up_role fh22 is_94 is_102 rfl).trans ((my_up_role fh20 is_94 is_102 rfl).trans ((my_up_fld fh16 (by decide)).trans (my_up_self fh15))))))))
          exact w_bret gz_87_155 gm_87 (by omega) (by omega) (k1 h40 (gh40) (by omega) (by omega) (by omega) (by omega) (by omega) (by omega) (by first | assumption | omega) (by first | assumption | omega) (by first | assumption | omega) (by first | assumption | omega) (by first | assumption | omega))
        ·
          refine w_iload gz_87_25 rfl ?_
          refine w_iflt (t := 42) gz_87_27 rfl (fun u46 => ?_) (fun u46 => ?_)
          ·
            refine w_iconst gz_87_42 (by decide) ?_
            have ce47 : h4 94 15 = h 94 15 := ((my_fr.at frh4 is_94 rfl).trans (rfl : h 94 15 = h 94 15))
            have ce48 : h4 94 16 = h 94 16 := ((my_fr.at frh4 is_94 rfl).trans (rfl : h 94 16 = h 94 16))
            exact w_bret gz_87_43 gm_87 (by omega) (by omega) (k0 h4 (gh4))
          ·
            refine w_iload gz_87_30 rfl ?_
            refine w_aload_n gz_87_32 rfl ?_
            refine w_getX (v := 98) gz_87_33 is_94 rd_2 rfl (by decide) rfl ?_
            refine v_getI (j := 0) gz_87_36 rfl is_98 rd_8 rfl (fun v50 ev50 pv50 qv50 => ?_)
            have hi51 : 0 ≤ v50 := by omega
            have hi52 : v50 ≤ 10 := by omega
            refine w_iclt (t := 44) gz_87_39 rfl (fun u53 => ?_) (fun u53 => ?_)
            ·
              refine w_iload_n gz_87_44 rfl ?_
              refine w_ifne (t := 77) gz_87_45 rfl (fun u54 => ?_) (fun u54 => ?_)
              ·
                refine w_aload_n gz_87_77 rfl ?_
                refine w_iload_n gz_87_78 rfl ?_
                refine v_putI (j := 15) gz_87_79 rfl is_94 rd_2 rfl (by omega) (by omega) rfl (fun h55 fh55 => ?_)
                have gh55 : my_fr [(2, 15), (2, 16), (8, 0), (8, 1), (42, -1), (43, -1), (44, -1)] h h55 := my_fr.up gh4 is_94 fh55 rfl
                have Ln_h55 : Ln h55 := Ln_ag (my_ag.up fh55 is_94 rfl) Ln_h4
                refine w_aload_n gz_87_82 rfl ?_
                refine w_iload gz_87_83 rfl ?_
                refine v_putA (j := 16) gz_87_85 rfl is_94 rd_2 rfl rfl (fun h56 fh56 => ?_)
                have gh56 : my_fr [(2, 15), (2, 16), (8, 0), (8, 1), (42, -1), (43, -1), (44, -1)] h h56 := my_fr.up gh55 is_94 fh56 rfl
                have Ln_h56 : Ln h56 := Ln_ag (my_ag.up fh56 is_94 rfl) Ln_h55
                refine w_aload_n gz_87_88 rfl ?_
                refine w_getX (v := 102) gz_87_89 is_94 rd_2 rfl (by decide) rfl ?_
                refine w_aload_n gz_87_92 rfl ?_
                refine w_getX (v := 98) gz_87_93 is_94 rd_2 rfl (by decide) rfl ?_
                refine w_inv (k := 0) (as := [(2, 98)]) (r := []) (x := 102) (ls0 := [(2, 102), (2, 98)]) gz_87_96 gm_88 rfl is_102 rd_8 rfl rfl rfl rfl rfl ?_
                refine w_aload_n gz_88_0 rfl ?_
                refine w_aload_n gz_88_1 rfl ?_
                refine v_getI (j := 0) gz_88_2 rfl is_98 rd_8 rfl (fun v59 ev59 pv59 qv59 => ?_)
                have zv59 := ev59.trans ((my_up_role fh56 is_98 is_94 rfl).trans ((my_up_role fh55 is_98 is_94 rfl).trans ev50.symm))
                refine v_putI (j := 0) gz_88_5 rfl is_102 rd_8 rfl (by omega) (by omega) rfl (fun h60 fh60 => ?_)
                have gh60 : my_fr [(2, 15), (2, 16), (8, 0), (8, 1), (42, -1), (43, -1), (44, -1)] h h60 := my_fr.up gh56 is_102 fh60 rfl
                have Ln_h60 : Ln h60 := Ln_ag (my_ag.up fh60 is_102 rfl) Ln_h56
                refine w_aload_n gz_88_8 rfl ?_
                refine w_aload_n gz_88_9 rfl ?_
                refine v_getI (j := 1) gz_88_10 rfl is_98 rd_8 rfl (fun v61 ev61 pv61 qv61 => ?_)
                refine v_putI (j := 1) gz_88_13 rfl is_102 rd_8 rfl (by omega) (by omega) rfl (fun h62 fh62 => ?_)
                have gh62 : my_fr [(2, 15), (2, 16), (8, 0), (8, 1), (42, -1), (43, -1), (44, -1)] h h62 := my_fr.up gh60 is_102 fh62 rfl
                have Ln_h62 : Ln h62 := Ln_ag (my_ag.up fh62 is_102 rfl) Ln_h60
                refine w_aload_n gz_88_16 rfl ?_
                refine w_getX (v := 99) gz_88_17 is_98 rd_8 rfl (by decide) rfl ?_
                refine w_iconst gz_88_20 (by decide) ?_
                refine w_aload_n gz_88_21 rfl ?_
                refine w_getX (v := 103) gz_88_22 is_102 rd_8 rfl (by decide) rfl ?_
                refine w_iconst gz_88_25 (by decide) ?_
                refine w_aload_n gz_88_26 rfl ?_
                refine w_getX (v := 103) gz_88_27 is_102 rd_8 rfl (by decide) rfl ?_
                refine v_alen (j := 204) gz_88_30 rfl is_103 rd_42 (by decide) ?_
                refine w_cpG gz_88_31 is_99 rd_42 is_103 rd_42 (by omega) (by omega) (by omega) (by omega) (by omega) rfl (by omega) (fun h66 fh66 => ?_)
                have gh66 : my_fr [(2, 15), (2, 16), (8, 0), (8, 1), (42, -1), (43, -1), (44, -1)] h h66 := my_fr.cp gh62 is_103 fh66 rfl
                have Ln_h66 : Ln h66 := Ln_ag (my_ag.cp fh66 is_103 rfl) Ln_h62
                refine w_vret gz_88_34 gm_88 ?_
                show wp l rho (d + 5) 87 99 [(2, 94), (2, x1), (0, x2), (0, x3), (0, x4), (0, x5), (0, x6)] [] h66 Q
                refine w_iload_n gz_87_99 rfl ?_
                refine w_ifne (t := 119) gz_87_100 rfl (fun u67 => ?_) (fun u67 => by exfalso; omega)
                refine w_iload_n gz_87_119 rfl ?_
                refine w_iconst gz_87_120 (by decide) ?_
                refine w_icne (t := 136) gz_87_121 rfl (fun u68 => by exfalso; omega) (fun u68 => ?_)
                have hi69 : 0 ≤ x4 := by omega
                have hi70 : x4 ≤ 9 := by omega
                refine w_aload_n gz_87_124 rfl ?_
                refine w_getX (v := 102) gz_87_125 is_94 rd_2 rfl (by decide) rfl ?_
                refine w_iload gz_87_128 rfl ?_
                refine w_inv (k := 1) (as := [(0, x4)]) (r := []) (x := 102) (ls0 := [(2, 102), (0, x4), (9, 0)]) gz_87_130 gm_90 rfl is_102 rd_8 rfl rfl rfl rfl rfl (c_View_dropRow (d := (d + 2)) (x0 := 102) (x1 := x4) is_102 (by omega) (by omega) (by omega) (by omega) (by first | assumption | omega) (fun h72 frh72 fxh72 w73 w74 => ?_))
                have gh72 : my_fr [(2, 15), (2, 16), (8, 0), (8, 1), (42, -1), (43, -1), (44, -1)] h h72 := my_fr.tr gh66 (frh72.mo rfl)
                have Ln_h72 : Ln h72 := Ln_ag (my_ag.fr frh72 rfl) Ln_h66
                show wp l rho (d + 5) 87 133 [(2, 94), (2, x1), (0, x2), (0, x3), (0, x4), (0, x5), (0, x6)] [] h72 Q
                refine w_goto (t := 147) gz_87_133 rfl ?_
                refine w_aload_n gz_87_147 rfl ?_
                refine w_getX (v := 102) gz_87_148 is_94 rd_2 rfl (by decide) rfl ?_
                refine w_inv (k := 3) (as := []) (r := []) (x := 102) (ls0 := [(2, 102), (9, 0), (9, 0), (9, 0)]) gz_87_151 gm_79 rfl is_102 rd_8 rfl rfl rfl rfl rfl (c_View_sort (d := (d + 2)) (x0 := 102) is_102 (fun h76 frh76 fxh76 xp77 xp78 => ?_))
                have gh76 : my_fr [(2, 15), (2, 16), (8, 0), (8, 1), (42, -1), (43, -1), (44, -1)] h h76 := my_fr.tr gh72 (frh76.mo rfl)
                have Ln_h76 : Ln h76 := Ln_ag (my_ag.fr frh76 rfl) Ln_h72
                show wp l rho (d + 5) 87 154 [(2, 94), (2, x1), (0, x2), (0, x3), (0, x4), (0, x5), (0, x6)] [] h76 Q
                refine w_iconst gz_87_154 (by decide) ?_
                have ce79 : h76 94 15 = x3 := ((my_fr.at frh76 is_94 rfl).trans ((my_fr.at frh72 is_94 rfl).trans ((my_cp_role fh66 is_94 is_103 rfl).trans ((my_up_role fh62 is_94 is_102 rfl).trans ((my_up_role fh60 is_94 is_102 rfl).trans ((my_up_fld fh56 (by decide)).trans (my_up_self fh55)))))))
                have ce80 : h76 94 16 = x4 := ((my_fr.at frh76 is_94 rfl).trans ((my_fr.at frh72 is_94 rfl).trans ((my_cp_role fh66 is_94 is_103 rfl).trans ((my_up_role fh62 is_94 is_102 rfl).trans ((my_up_role fh60 is_94 is_102 rfl).trans (my_up_self fh56))))))
                have c81 := ((my_fr.at frh76 is_94 rfl).trans ((my_fr.at frh72 is_94 rfl).trans ((my_cp_role fh66 is_94 is_103 rfl).trans ((my_up_role fh62 is_94 is_102 rfl).trans ((my_up_role fh60 is_94 is_102 rfl).trans ((my_up_fld fh56 (by decide)).trans (my_up_self fh55)))))))
                exact w_bret gz_87_155 gm_87 (by omega) (by omega) (k1 h76 (gh76) (by omega) (by omega) (by omega) (by omega) (by omega) (by omega) (by first | assumption | omega) (by first | assumption | omega) (by first | assumption | omega) (by first | assumption | omega) (by first | assumption | omega))
              ·
                refine w_aload_n gz_87_48 rfl ?_
                refine w_getX (v := 98) gz_87_49 is_94 rd_2 rfl (by decide) rfl ?_
                refine w_iload gz_87_52 rfl ?_
                refine w_iload gz_87_54 rfl ?_
                refine w_inv (k := 0) (as := [(0, x5), (0, x4)]) (r := []) (x := 98) (ls0 := [(2, 98), (0, x4), (0, x5)]) gz_87_56 gm_81 rfl is_98 rd_8 rfl rfl rfl rfl rfl ?_
                refine w_iload_n gz_81_0 rfl ?_
                refine w_iflt (t := 28) gz_81_1 rfl (fun u83 => by exfalso; omega) (fun u83 => ?_)
                refine w_iload_n gz_81_4 rfl ?_
                refine w_aload_n gz_81_5 rfl ?_
                refine v_getI (j := 0) gz_81_6 rfl is_98 rd_8 rfl (fun v84 ev84 pv84 qv84 => ?_)
                have zv84 := ev84.trans ev50.symm
                refine w_icge (t := 28) gz_81_9 rfl (fun u85 => by exfalso; omega) (fun u85 => ?_)
                refine w_iload_n gz_81_12 rfl ?_
                refine w_iflt (t := 28) gz_81_13 rfl (fun u86 => ?_) (fun u86 => ?_)
                ·
                  refine w_iconst gz_81_28 (by decide) ?_
                  refine w_bret gz_81_29 gm_81 (by omega) (by omega) ?_
                  show wp l rho (d + 5) 87 59 [(2, 94), (2, x1), (0, x2), (0, x3), (0, x4), (0, x5), (0, x6)] [(0, 0)] h4 Q
                  refine w_ifeq (t := 75) gz_87_59 rfl (fun u87 => ?_) (fun u87 => by exfalso; omega)
                  refine w_iconst gz_87_75 (by decide) ?_
                  have ce88 : h4 94 15 = h 94 15 := ((my_fr.at frh4 is_94 rfl).trans (rfl : h 94 15 = h 94 15))
                  have ce89 : h4 94 16 = h 94 16 := ((my_fr.at frh4 is_94 rfl).trans (rfl : h 94 16 = h 94 16))
                  exact w_bret gz_87_76 gm_87 (by omega) (by omega) (k0 h4 (gh4))
                ·
                  refine w_iload_n gz_81_16 rfl ?_
                  refine w_aload_n gz_81_17 rfl ?_
                  refine v_getI (j := 1) gz_81_18 rfl is_98 rd_8 rfl (fun v90 ev90 pv90 qv90 => ?_)
                  refine w_icge (t := 28) gz_81_21 rfl (fun u91 => ?_) (fun u91 => ?_)
                  ·
                    refine w_iconst gz_81_28 (by decide) ?_
                    refine w_bret gz_81_29 gm_81 (by omega) (by omega) ?_
                    show wp l rho (d + 5) 87 59 [(2, 94), (2, x1), (0, x2), (0, x3), (0, x4), (0, x5), (0, x6)] [(0, 0)] h4 Q
                    refine w_ifeq (t := 75) gz_87_59 rfl (fun u92 => ?_) (fun u92 => by exfalso; omega)
                    refine w_iconst gz_87_75 (by decide) ?_
                    have ce93 : h4 94 15 = h 94 15 := ((my_fr.at frh4 is_94 rfl).trans (rfl : h 94 15 = h 94 15))
                    have ce94 : h4 94 16 = h 94 16 := ((my_fr.at frh4 is_94 rfl).trans (rfl : h 94 16 = h 94 16))
                    exact w_bret gz_87_76 gm_87 (by omega) (by omega) (k0 h4 (gh4))
                  ·
                    refine w_iconst gz_81_24 (by decide) ?_
                    refine w_goto (t := 29) gz_81_25 rfl ?_
                    refine w_bret gz_81_29 gm_81 (by omega) (by omega) ?_
                    show wp l rho (d + 5) 87 59 [(2, 94), (2, x1), (0, x2), (0, x3), (0, x4), (0, x5), (0, x6)] [(0, 1)] h4 Q
                    refine w_ifeq (t := 75) gz_87_59 rfl (fun u95 => by exfalso; omega) (fun u95 => ?_)
                    refine w_iload gz_87_62 rfl ?_
                    refine w_iflt (t := 75) gz_87_64 rfl (fun u96 => ?_) (fun u96 => ?_)
                    ·
                      refine w_iconst gz_87_75 (by decide) ?_
                      have ce97 : h4 94 15 = h 94 15 := ((my_fr.at frh4 is_94 rfl).trans (rfl : h 94 15 = h 94 15))
                      have ce98 : h4 94 16 = h 94 16 := ((my_fr.at frh4 is_94 rfl).trans (rfl : h 94 16 = h 94 16))
                      exact w_bret gz_87_76 gm_87 (by omega) (by omega) (k0 h4 (gh4))
                    ·
                      refine w_iload gz_87_67 rfl ?_
                      refine w_sipush gz_87_69 (by decide) ?_
                      refine w_iclt (t := 77) gz_87_72 rfl (fun u99 => ?_) (fun u99 => ?_)
                      ·
                        refine w_aload_n gz_87_77 rfl ?_
                        refine w_iload_n gz_87_78 rfl ?_
                        refine v_putI (j := 15) gz_87_79 rfl is_94 rd_2 rfl (by omega) (by omega) rfl (fun h100 fh100 => ?_)
                        have gh100 : my_fr [(2, 15), (2, 16), (8, 0), (8, 1), (42, -1), (43, -1), (44, -1)] h h100 := my_fr.up gh4 is_94 fh100 rfl
                        have Ln_h100 : Ln h100 := Ln_ag (my_ag.up fh100 is_94 rfl) Ln_h4
                        refine w_aload_n gz_87_82 rfl ?_
                        refine w_iload gz_87_83 rfl ?_
                        refine v_putA (j := 16) gz_87_85 rfl is_94 rd_2 rfl rfl (fun h101 fh101 => ?_)
                        have gh101 : my_fr [(2, 15), (2, 16), (8, 0), (8, 1), (42, -1), (43, -1), (44, -1)] h h101 := my_fr.up gh100 is_94 fh101 rfl
                        have Ln_h101 : Ln h101 := Ln_ag (my_ag.up fh101 is_94 rfl) Ln_h100
                        refine w_aload_n gz_87_88 rfl ?_
                        refine w_getX (v := 102) gz_87_89 is_94 rd_2 rfl (by decide) rfl ?_
                        refine w_aload_n gz_87_92 rfl ?_
                        refine w_getX (v := 98) gz_87_93 is_94 rd_2 rfl (by decide) rfl ?_
                        refine w_inv (k := 0) (as := [(2, 98)]) (r := []) (x := 102) (ls0 := [(2, 102), (2, 98)]) gz_87_96 gm_88 rfl is_102 rd_8 rfl rfl rfl rfl rfl ?_
                        refine w_aload_n gz_88_0 rfl ?_
                        refine w_aload_n gz_88_1 rfl ?_
                        refine v_getI (j := 0) gz_88_2 rfl is_98 rd_8 rfl (fun v104 ev104 pv104 qv104 => ?_)
                        have zv104 := ev104.trans ((my_up_role fh101 is_98 is_94 rfl).trans ((my_up_role fh100 is_98 is_94 rfl).trans ev84.symm))
                        refine v_putI (j := 0) gz_88_5 rfl is_102 rd_8 rfl (by omega) (by omega) rfl (fun h105 fh105 => ?_)
                        have gh105 : my_fr [(2, 15), (2, 16), (8, 0), (8, 1), (42, -1), (43, -1), (44, -1)] h h105 := my_fr.up gh101 is_102 fh105 rfl
                        have Ln_h105 : Ln h105 := Ln_ag (my_ag.up fh105 is_102 rfl) Ln_h101
                        refine w_aload_n gz_88_8 rfl ?_
                        refine w_aload_n gz_88_9 rfl ?_
                        refine v_getI (j := 1) gz_88_10 rfl is_98 rd_8 rfl (fun v106 ev106 pv106 qv106 => ?_)
                        have zv106 := ev106.trans ((my_up_fld fh105 (by decide)).trans ((my_up_role fh101 is_98 is_94 rfl).trans ((my_up_role fh100 is_98 is_94 rfl).trans ev90.symm)))
                        refine v_putI (j := 1) gz_88_13 rfl is_102 rd_8 rfl (by omega) (by omega) rfl (fun h107 fh107 => ?_)
                        have gh107 : my_fr [(2, 15), (2, 16), (8, 0), (8, 1), (42, -1), (43, -1), (44, -1)] h h107 := my_fr.up gh105 is_102 fh107 rfl
                        have Ln_h107 : Ln h107 := Ln_ag (my_ag.up fh107 is_102 rfl) Ln_h105
                        refine w_aload_n gz_88_16 rfl ?_
                        refine w_getX (v := 99) gz_88_17 is_98 rd_8 rfl (by decide) rfl ?_
                        refine w_iconst gz_88_20 (by decide) ?_
                        refine w_aload_n gz_88_21 rfl ?_
                        refine w_getX (v := 103) gz_88_22 is_102 rd_8 rfl (by decide) rfl ?_
                        refine w_iconst gz_88_25 (by decide) ?_
                        refine w_aload_n gz_88_26 rfl ?_
                        refine w_getX (v := 103) gz_88_27 is_102 rd_8 rfl (by decide) rfl ?_
                        refine v_alen (j := 204) gz_88_30 rfl is_103 rd_42 (by decide) ?_
                        refine w_cpG gz_88_31 is_99 rd_42 is_103 rd_42 (by omega) (by omega) (by omega) (by omega) (by omega) rfl (by omega) (fun h111 fh111 => ?_)
                        have gh111 : my_fr [(2, 15), (2, 16), (8, 0), (8, 1), (42, -1), (43, -1), (44, -1)] h h111 := my_fr.cp gh107 is_103 fh111 rfl
                        have Ln_h111 : Ln h111 := Ln_ag (my_ag.cp fh111 is_103 rfl) Ln_h107
                        refine w_vret gz_88_34 gm_88 ?_
                        show wp l rho (d + 5) 87 99 [(2, 94), (2, x1), (0, x2), (0, x3), (0, x4), (0, x5), (0, x6)] [] h111 Q
                        refine w_iload_n gz_87_99 rfl ?_
                        refine w_ifne (t := 119) gz_87_100 rfl (fun u112 => by exfalso; omega) (fun u112 => ?_)
                        have hi113 : 0 ≤ x4 := by omega
                        have hi114 : x4 ≤ 9 := by omega
                        have hi115 : 0 ≤ x5 := by omega
                        have hi116 : x5 ≤ 7 := by omega
                        refine w_aload_n gz_87_103 rfl ?_
                        refine w_getX (v := 102) gz_87_104 is_94 rd_2 rfl (by decide) rfl ?_
                        refine w_iload gz_87_107 rfl ?_
                        refine w_iload gz_87_109 rfl ?_
                        refine w_iload gz_87_111 rfl ?_
                        refine w_inv (k := 0) (as := [(0, x6), (0, x5), (0, x4)]) (r := []) (x := 102) (ls0 := [(2, 102), (0, x4), (0, x5), (0, x6)]) gz_87_113 gm_89 rfl is_102 rd_8 rfl rfl rfl rfl rfl ?_
                        refine w_aload_n gz_89_0 rfl ?_
                        refine w_getX (v := 103) gz_89_1 is_102 rd_8 rfl (by decide) rfl ?_
                        refine w_iload_n gz_89_4 rfl ?_
                        refine w_bipush gz_89_5 (by decide) ?_
                        refine w_imul gz_89_7 ⟨by omega, by omega⟩ ?_
                        refine w_iload_n gz_89_8 rfl ?_
                        refine w_iadd gz_89_9 ⟨by omega, by omega⟩ ?_
                        refine w_iload_n gz_89_10 rfl ?_
                        refine w_gstV gz_89_11 is_103 rd_42 (by omega) (by omega) (by omega) (fun h119 fh119 => ?_)
                        have gh119 : my_fr [(2, 15), (2, 16), (8, 0), (8, 1), (42, -1), (43, -1), (44, -1)] h h119 := my_fr.up gh111 is_103 fh119 rfl
                        have Ln_h119 : Ln h119 := Ln_ag (my_ag.up fh119 is_103 rfl) Ln_h111
                        refine w_vret gz_89_12 gm_89 ?_
                        show wp l rho (d + 5) 87 116 [(2, 94), (2, x1), (0, x2), (0, x3), (0, x4), (0, x5), (0, x6)] [] h119 Q
                        refine w_goto (t := 147) gz_87_116 rfl ?_
                        refine w_aload_n gz_87_147 rfl ?_
                        refine w_getX (v := 102) gz_87_148 is_94 rd_2 rfl (by decide) rfl ?_
                        refine w_inv (k := 3) (as := []) (r := []) (x := 102) (ls0 := [(2, 102), (9, 0), (9, 0), (9, 0)]) gz_87_151 gm_79 rfl is_102 rd_8 rfl rfl rfl rfl rfl (c_View_sort (d := (d + 2)) (x0 := 102) is_102 (fun h121 frh121 fxh121 xp122 xp123 => ?_))
                        have gh121 : my_fr [(2, 15), (2, 16), (8, 0), (8, 1), (42, -1), (43, -1), (44, -1)] h h121 := my_fr.tr gh119 (frh121.mo rfl)
                        have Ln_h121 : Ln h121 := Ln_ag (my_ag.fr frh121 rfl) Ln_h119
                        show wp l rho (d + 5) 87 154 [(2, 94), (2, x1), (0, x2), (0, x3), (0, x4), (0, x5), (0, x6)] [] h121 Q
                        refine w_iconst gz_87_154 (by decide) ?_
                        have ce124 : h121 94 15 = x3 := ((my_fr.at frh121 is_94 rfl).trans ((my_up_role fh119 is_94 is_103 rfl).trans ((my_cp_role fh111 is_94 is_103 rfl).trans ((my_up_role fh107 is_94 is_102 rfl).trans ((my_up_role fh105 is_94 is_102 rfl).trans ((my_up_fld fh101 (by decide)).trans (my_up_self fh100)))))))
                        have ce125 : h121 94 16 = x4 := ((my_fr.at frh121 is_94 rfl).trans ((my_up_role fh119 is_94 is_103 rfl).trans ((my_cp_role fh111 is_94 is_103 rfl).trans ((my_up_role fh107 is_94 is_102 rfl).trans ((my_up_role fh105 is_94 is_102 rfl).trans (my_up_self fh101))))))
                        have c126 := ((my_fr.at frh121 is_94 rfl).trans ((my_up_role fh119 is_94 is_103 rfl).trans ((my_cp_role fh111 is_94 is_103 rfl).trans ((my_up_role fh107 is_94 is_102 rfl).trans ((my_up_role fh105 is_94 is_102 rfl).trans ((my_up_fld fh101 (by decide)).trans (my_up_self fh100)))))))
                        exact w_bret gz_87_155 gm_87 (by omega) (by omega) (k1 h121 (gh121) (by omega) (by omega) (by omega) (by omega) (by omega) (by omega) (by first | assumption | omega) (by first | assumption | omega) (by first | assumption | omega) (by first | assumption | omega) (by first | assumption | omega))
                      ·
                        refine w_iconst gz_87_75 (by decide) ?_
                        have ce127 : h4 94 15 = h 94 15 := ((my_fr.at frh4 is_94 rfl).trans (rfl : h 94 15 = h 94 15))
                        have ce128 : h4 94 16 = h 94 16 := ((my_fr.at frh4 is_94 rfl).trans (rfl : h 94 16 = h 94 16))
                        exact w_bret gz_87_76 gm_87 (by omega) (by omega) (k0 h4 (gh4))
            ·
              refine w_iconst gz_87_42 (by decide) ?_
              have ce129 : h4 94 15 = h 94 15 := ((my_fr.at frh4 is_94 rfl).trans (rfl : h 94 15 = h 94 15))
              have ce130 : h4 94 16 = h 94 16 := ((my_fr.at frh4 is_94 rfl).trans (rfl : h 94 16 = h 94 16))
              exact w_bret gz_87_43 gm_87 (by omega) (by omega) (k0 h4 (gh4))
theorem c_Desk_search {l : Launch} {rho : Nat → Int32} {d : Nat} {h : my_H} {Q : my_H → my_V → Prop} {x1 x2 x3 x4 : Int} (t1 : my_is 6 x1) (a2 : 0 ≤ x2) (b2 : x2 ≤ 5) (a3 : (-1) ≤ x3) (a4 : 0 ≤ x4) (b4 : x4 ≤ 1) (n_Ln : Ln h) (hor : h 94 15 ≠ 2 → 0 ≤ h 94 16 ∧ h 94 16 ≤ 9) (htold : h (h 27 x2) 0 = 1) (k0 : ∀ (h' : my_H), my_fr [(2, 11), (2, 12), (2, 13), (2, 14), (7, 0), (7, 1), (7, 2), (7, 3), (7, 4), (7, 5), (8, 0), (8, 1), (30, -1), (31, -1), (41, -1), (42, -1), (43, -1), (44, -1)] h h' → (-1) ≤ h' 94 12 → h' 94 12 ≤ 2147483647 → 0 ≤ h' 94 14 → h' 94 14 ≤ 1 → Lst h' → Q h' (9, 0)) : wp l rho (d + 5) 92 0 [(2, 94), (2, x1), (0, x2), (0, x3), (0, x4), (9, 0), (9, 0)] [] h Q := by
  refine w_aload_n gz_92_0 rfl ?_
  refine w_iload gz_92_1 rfl ?_
  refine v_putB (j := 13) gz_92_3 rfl is_94 rd_2 rfl (by omega) (by omega) rfl (fun h1 fh1 => ?_)
  have gh1 : my_fr [(2, 11), (2, 12), (2, 13), (2, 14), (7, 0), (7, 1), (7, 2), (7, 3), (7, 4), (7, 5), (8, 0), (8, 1), (30, -1), (31, -1), (41, -1), (42, -1), (43, -1), (44, -1)] h h1 := my_fr.up my_fr.rf is_94 fh1 rfl
  have Ln_h1 : Ln h1 := Ln_ag (my_ag.up fh1 is_94 rfl) n_Ln
  refine w_aload_n gz_92_6 rfl ?_
  refine w_iconst gz_92_7 (by decide) ?_
  refine v_putA (j := 11) gz_92_8 rfl is_94 rd_2 rfl rfl (fun h2 fh2 => ?_)
  have gh2 : my_fr [(2, 11), (2, 12), (2, 13), (2, 14), (7, 0), (7, 1), (7, 2), (7, 3), (7, 4), (7, 5), (8, 0), (8, 1), (30, -1), (31, -1), (41, -1), (42, -1), (43, -1), (44, -1)] h h2 := my_fr.up gh1 is_94 fh2 rfl
  have Ln_h2 : Ln h2 := Ln_ag (my_ag.up fh2 is_94 rfl) Ln_h1
  refine w_aload_n gz_92_11 rfl ?_
  refine w_iload_n gz_92_12 rfl ?_
  refine v_putA (j := 12) gz_92_13 rfl is_94 rd_2 rfl rfl (fun h3 fh3 => ?_)
  have gh3 : my_fr [(2, 11), (2, 12), (2, 13), (2, 14), (7, 0), (7, 1), (7, 2), (7, 3), (7, 4), (7, 5), (8, 0), (8, 1), (30, -1), (31, -1), (41, -1), (42, -1), (43, -1), (44, -1)] h h3 := my_fr.up gh2 is_94 fh3 rfl
  have Ln_h3 : Ln h3 := Ln_ag (my_ag.up fh3 is_94 rfl) Ln_h2
  refine w_aload_n gz_92_16 rfl ?_
  refine w_getX (v := 112) gz_92_17 is_94 rd_2 rfl (by decide) rfl ?_
  refine w_inv (k := 0) (as := []) (r := []) (x := 112) (ls0 := [(2, 112)]) gz_92_20 gm_9 rfl is_112 rd_7 rfl rfl rfl rfl rfl ?_
  refine w_aload_n gz_9_0 rfl ?_
  refine w_iconst gz_9_1 (by decide) ?_
  refine v_putA (j := 0) gz_9_2 rfl is_112 rd_7 rfl rfl (fun h5 fh5 => ?_)
  have gh5 : my_fr [(2, 11), (2, 12), (2, 13), (2, 14), (7, 0), (7, 1), (7, 2), (7, 3), (7, 4), (7, 5), (8, 0), (8, 1), (30, -1), (31, -1), (41, -1), (42, -1), (43, -1), (44, -1)] h h5 := my_fr.up gh3 is_112 fh5 rfl
  have Ln_h5 : Ln h5 := Ln_ag (my_ag.up fh5 is_112 rfl) Ln_h3
  refine w_aload_n gz_9_5 rfl ?_
  refine w_iconst gz_9_6 (by decide) ?_
  refine v_putI (j := 1) gz_9_7 rfl is_112 rd_7 rfl (by omega) (by omega) rfl (fun h6 fh6 => ?_)
  have gh6 : my_fr [(2, 11), (2, 12), (2, 13), (2, 14), (7, 0), (7, 1), (7, 2), (7, 3), (7, 4), (7, 5), (8, 0), (8, 1), (30, -1), (31, -1), (41, -1), (42, -1), (43, -1), (44, -1)] h h6 := my_fr.up gh5 is_112 fh6 rfl
  have Ln_h6 : Ln h6 := Ln_ag (my_ag.up fh6 is_112 rfl) Ln_h5
  refine w_aload_n gz_9_10 rfl ?_
  refine w_iconst gz_9_11 (by decide) ?_
  refine v_putI (j := 2) gz_9_12 rfl is_112 rd_7 rfl (by omega) (by omega) rfl (fun h7 fh7 => ?_)
  have gh7 : my_fr [(2, 11), (2, 12), (2, 13), (2, 14), (7, 0), (7, 1), (7, 2), (7, 3), (7, 4), (7, 5), (8, 0), (8, 1), (30, -1), (31, -1), (41, -1), (42, -1), (43, -1), (44, -1)] h h7 := my_fr.up gh6 is_112 fh7 rfl
  have Ln_h7 : Ln h7 := Ln_ag (my_ag.up fh7 is_112 rfl) Ln_h6
  refine w_aload_n gz_9_15 rfl ?_
  refine w_iconst gz_9_16 (by decide) ?_
  refine v_putI (j := 3) gz_9_17 rfl is_112 rd_7 rfl (by omega) (by omega) rfl (fun h8 fh8 => ?_)
  have gh8 : my_fr [(2, 11), (2, 12), (2, 13), (2, 14), (7, 0), (7, 1), (7, 2), (7, 3), (7, 4), (7, 5), (8, 0), (8, 1), (30, -1), (31, -1), (41, -1), (42, -1), (43, -1), (44, -1)] h h8 := my_fr.up gh7 is_112 fh8 rfl
  have Ln_h8 : Ln h8 := Ln_ag (my_ag.up fh8 is_112 rfl) Ln_h7
  refine w_aload_n gz_9_20 rfl ?_
  refine w_iconst gz_9_21 (by decide) ?_
  refine v_putI (j := 4) gz_9_22 rfl is_112 rd_7 rfl (by omega) (by omega) rfl (fun h9 fh9 => ?_)
  have gh9 : my_fr [(2, 11), (2, 12), (2, 13), (2, 14), (7, 0), (7, 1), (7, 2), (7, 3), (7, 4), (7, 5), (8, 0), (8, 1), (30, -1), (31, -1), (41, -1), (42, -1), (43, -1), (44, -1)] h h9 := my_fr.up gh8 is_112 fh9 rfl
  have Ln_h9 : Ln h9 := Ln_ag (my_ag.up fh9 is_112 rfl) Ln_h8
  refine w_aload_n gz_9_25 rfl ?_
  refine w_iconst gz_9_26 (by decide) ?_
  refine v_putI (j := 5) gz_9_27 rfl is_112 rd_7 rfl (by omega) (by omega) rfl (fun h10 fh10 => ?_)
  have gh10 : my_fr [(2, 11), (2, 12), (2, 13), (2, 14), (7, 0), (7, 1), (7, 2), (7, 3), (7, 4), (7, 5), (8, 0), (8, 1), (30, -1), (31, -1), (41, -1), (42, -1), (43, -1), (44, -1)] h h10 := my_fr.up gh9 is_112 fh10 rfl
  have Ln_h10 : Ln h10 := Ln_ag (my_ag.up fh10 is_112 rfl) Ln_h9
  refine w_vret gz_9_30 gm_9 ?_
  show wp l rho (d + 5) 92 23 [(2, 94), (2, x1), (0, x2), (0, x3), (0, x4), (9, 0), (9, 0)] [] h10 Q
  have ce11 : h10 112 1 = (-1) := ((my_up_fld fh10 (by decide)).trans ((my_up_fld fh9 (by decide)).trans ((my_up_fld fh8 (by decide)).trans ((my_up_fld fh7 (by decide)).trans (my_up_self fh6)))))
  have Lst_h10t12 : Lst h10 := by unfold Lst; omega
  refine w_aload_n gz_92_23 rfl ?_
  refine w_getX (v := 113) gz_92_24 is_94 rd_2 rfl (by decide) rfl ?_
  refine w_inv (k := 0) (as := []) (r := []) (x := 113) (ls0 := [(2, 113)]) gz_92_27 gm_9 rfl is_113 rd_7 rfl rfl rfl rfl rfl ?_
  refine w_aload_n gz_9_0 rfl ?_
  refine w_iconst gz_9_1 (by decide) ?_
  refine v_putA (j := 0) gz_9_2 rfl is_113 rd_7 rfl rfl (fun h14 fh14 => ?_)
  have gh14 : my_fr [(2, 11), (2, 12), (2, 13), (2, 14), (7, 0), (7, 1), (7, 2), (7, 3), (7, 4), (7, 5), (8, 0), (8, 1), (30, -1), (31, -1), (41, -1), (42, -1), (43, -1), (44, -1)] h h14 := my_fr.up gh10 is_113 fh14 rfl
  have Ln_h14 : Ln h14 := Ln_ag (my_ag.up fh14 is_113 rfl) Ln_h10
  have Lst_h14 : Lst h14 := Lst_ne fh14 (by decide) Lst_h10t12
  refine w_aload_n gz_9_5 rfl ?_
  refine w_iconst gz_9_6 (by decide) ?_
  refine v_putI (j := 1) gz_9_7 rfl is_113 rd_7 rfl (by omega) (by omega) rfl (fun h15 fh15 => ?_)
  have gh15 : my_fr [(2, 11), (2, 12), (2, 13), (2, 14), (7, 0), (7, 1), (7, 2), (7, 3), (7, 4), (7, 5), (8, 0), (8, 1), (30, -1), (31, -1), (41, -1), (42, -1), (43, -1), (44, -1)] h h15 := my_fr.up gh14 is_113 fh15 rfl
  have Ln_h15 : Ln h15 := Ln_ag (my_ag.up fh15 is_113 rfl) Ln_h14
  have Lst_h15 : Lst h15 := Lst_ne fh15 (by decide) Lst_h14
  refine w_aload_n gz_9_10 rfl ?_
  refine w_iconst gz_9_11 (by decide) ?_
  refine v_putI (j := 2) gz_9_12 rfl is_113 rd_7 rfl (by omega) (by omega) rfl (fun h16 fh16 => ?_)
  have gh16 : my_fr [(2, 11), (2, 12), (2, 13), (2, 14), (7, 0), (7, 1), (7, 2), (7, 3), (7, 4), (7, 5), (8, 0), (8, 1), (30, -1), (31, -1), (41, -1), (42, -1), (43, -1), (44, -1)] h h16 := my_fr.up gh15 is_113 fh16 rfl
  have Ln_h16 : Ln h16 := Ln_ag (my_ag.up fh16 is_113 rfl) Ln_h15
  have Lst_h16 : Lst h16 := Lst_ne fh16 (by decide) Lst_h15
  refine w_aload_n gz_9_15 rfl ?_
  refine w_iconst gz_9_16 (by decide) ?_
  refine v_putI (j := 3) gz_9_17 rfl is_113 rd_7 rfl (by omega) (by omega) rfl (fun h17 fh17 => ?_)
  have gh17 : my_fr [(2, 11), (2, 12), (2, 13), (2, 14), (7, 0), (7, 1), (7, 2), (7, 3), (7, 4), (7, 5), (8, 0), (8, 1), (30, -1), (31, -1), (41, -1), (42, -1), (43, -1), (44, -1)] h h17 := my_fr.up gh16 is_113 fh17 rfl
  have Ln_h17 : Ln h17 := Ln_ag (my_ag.up fh17 is_113 rfl) Ln_h16
  have Lst_h17 : Lst h17 := Lst_ne fh17 (by decide) Lst_h16
  refine w_aload_n gz_9_20 rfl ?_
  refine w_iconst gz_9_21 (by decide) ?_
  refine v_putI (j := 4) gz_9_22 rfl is_113 rd_7 rfl (by omega) (by omega) rfl (fun h18 fh18 => ?_)
  have gh18 : my_fr [(2, 11), (2, 12), (2, 13), (2, 14), (7, 0), (7, 1), (7, 2), (7, 3), (7, 4), (7, 5), (8, 0), (8, 1), (30, -1), (31, -1), (41, -1), (42, -1), (43, -1), (44, -1)] h h18 := my_fr.up gh17 is_113 fh18 rfl
  have Ln_h18 : Ln h18 := Ln_ag (my_ag.up fh18 is_113 rfl) Ln_h17
  have Lst_h18 : Lst h18 := Lst_ne fh18 (by decide) Lst_h17
  refine w_aload_n gz_9_25 rfl ?_
  refine w_iconst gz_9_26 (by decide) ?_
  refine v_putI (j := 5) gz_9_27 rfl is_113 rd_7 rfl (by omega) (by omega) rfl (fun h19 fh19 => ?_)
  have gh19 : my_fr [(2, 11), (2, 12), (2, 13), (2, 14), (7, 0), (7, 1), (7, 2), (7, 3), (7, 4), (7, 5), (8, 0), (8, 1), (30, -1), (31, -1), (41, -1), (42, -1), (43, -1), (44, -1)] h h19 := my_fr.up gh18 is_113 fh19 rfl
  have Ln_h19 : Ln h19 := Ln_ag (my_ag.up fh19 is_113 rfl) Ln_h18
  have Lst_h19 : Lst h19 := Lst_ne fh19 (by decide) Lst_h18
  refine w_vret gz_9_30 gm_9 ?_
  show wp l rho (d + 5) 92 30 [(2, 94), (2, x1), (0, x2), (0, x3), (0, x4), (9, 0), (9, 0)] [] h19 Q
  refine w_aload_n gz_92_30 rfl ?_
  refine w_getX (v := 111) gz_92_31 is_94 rd_2 rfl (by decide) rfl ?_
  refine w_inv (k := 0) (as := []) (r := []) (x := 111) (ls0 := [(2, 111)]) gz_92_34 gm_9 rfl is_111 rd_7 rfl rfl rfl rfl rfl ?_
  refine w_aload_n gz_9_0 rfl ?_
  refine w_iconst gz_9_1 (by decide) ?_
  refine v_putA (j := 0) gz_9_2 rfl is_111 rd_7 rfl rfl (fun h21 fh21 => ?_)
  have gh21 : my_fr [(2, 11), (2, 12), (2, 13), (2, 14), (7, 0), (7, 1), (7, 2), (7, 3), (7, 4), (7, 5), (8, 0), (8, 1), (30, -1), (31, -1), (41, -1), (42, -1), (43, -1), (44, -1)] h h21 := my_fr.up gh19 is_111 fh21 rfl
  have Ln_h21 : Ln h21 := Ln_ag (my_ag.up fh21 is_111 rfl) Ln_h19
  have Lst_h21 : Lst h21 := Lst_ne fh21 (by decide) Lst_h19
  refine w_aload_n gz_9_5 rfl ?_
  refine w_iconst gz_9_6 (by decide) ?_
  refine v_putI (j := 1) gz_9_7 rfl is_111 rd_7 rfl (by omega) (by omega) rfl (fun h22 fh22 => ?_)
  have gh22 : my_fr [(2, 11), (2, 12), (2, 13), (2, 14), (7, 0), (7, 1), (7, 2), (7, 3), (7, 4), (7, 5), (8, 0), (8, 1), (30, -1), (31, -1), (41, -1), (42, -1), (43, -1), (44, -1)] h h22 := my_fr.up gh21 is_111 fh22 rfl
  have Ln_h22 : Ln h22 := Ln_ag (my_ag.up fh22 is_111 rfl) Ln_h21
  have Lst_h22 : Lst h22 := Lst_ne fh22 (by decide) Lst_h21
  refine w_aload_n gz_9_10 rfl ?_
  refine w_iconst gz_9_11 (by decide) ?_
  refine v_putI (j := 2) gz_9_12 rfl is_111 rd_7 rfl (by omega) (by omega) rfl (fun h23 fh23 => ?_)
  have gh23 : my_fr [(2, 11), (2, 12), (2, 13), (2, 14), (7, 0), (7, 1), (7, 2), (7, 3), (7, 4), (7, 5), (8, 0), (8, 1), (30, -1), (31, -1), (41, -1), (42, -1), (43, -1), (44, -1)] h h23 := my_fr.up gh22 is_111 fh23 rfl
  have Ln_h23 : Ln h23 := Ln_ag (my_ag.up fh23 is_111 rfl) Ln_h22
  have Lst_h23 : Lst h23 := Lst_ne fh23 (by decide) Lst_h22
  refine w_aload_n gz_9_15 rfl ?_
  refine w_iconst gz_9_16 (by decide) ?_
  refine v_putI (j := 3) gz_9_17 rfl is_111 rd_7 rfl (by omega) (by omega) rfl (fun h24 fh24 => ?_)
  have gh24 : my_fr [(2, 11), (2, 12), (2, 13), (2, 14), (7, 0), (7, 1), (7, 2), (7, 3), (7, 4), (7, 5), (8, 0), (8, 1), (30, -1), (31, -1), (41, -1), (42, -1), (43, -1), (44, -1)] h h24 := my_fr.up gh23 is_111 fh24 rfl
  have Ln_h24 : Ln h24 := Ln_ag (my_ag.up fh24 is_111 rfl) Ln_h23
  have Lst_h24 : Lst h24 := Lst_ne fh24 (by decide) Lst_h23
  refine w_aload_n gz_9_20 rfl ?_
  refine w_iconst gz_9_21 (by decide) ?_
  refine v_putI (j := 4) gz_9_22 rfl is_111 rd_7 rfl (by omega) (by omega) rfl (fun h25 fh25 => ?_)
  have gh25 : my_fr [(2, 11), (2, 12), (2, 13), (2, 14), (7, 0), (7, 1), (7, 2), (7, 3), (7, 4), (7, 5), (8, 0), (8, 1), (30, -1), (31, -1), (41, -1), (42, -1), (43, -1), (44, -1)] h h25 := my_fr.up gh24 is_111 fh25 rfl
  have Ln_h25 : Ln h25 := Ln_ag (my_ag.up fh25 is_111 rfl) Ln_h24
  have Lst_h25 : Lst h25 := Lst_ne fh25 (by decide) Lst_h24
  refine w_aload_n gz_9_25 rfl ?_
  refine w_iconst gz_9_26 (by decide) ?_
  refine v_putI (j := 5) gz_9_27 rfl is_111 rd_7 rfl (by omega) (by omega) rfl (fun h26 fh26 => ?_)
  have gh26 : my_fr [(2, 11), (2, 12), (2, 13), (2, 14), (7, 0), (7, 1), (7, 2), (7, 3), (7, 4), (7, 5), (8, 0), (8, 1), (30, -1), (31, -1), (41, -1), (42, -1), (43, -1), (44, -1)] h h26 := my_fr.up gh25 is_111 fh26 rfl
  have Ln_h26 : Ln h26 := Ln_ag (my_ag.up fh26 is_111 rfl) Ln_h25
  have Lst_h26 : Lst h26 := Lst_ne fh26 (by decide) Lst_h25
  refine w_vret gz_9_30 gm_9 ?_
  show wp l rho (d + 5) 92 37 [(2, 94), (2, x1), (0, x2), (0, x3), (0, x4), (9, 0), (9, 0)] [] h26 Q
  refine w_aload_n gz_92_37 rfl ?_
  refine w_aload_n gz_92_38 rfl ?_
  refine w_getX (v := 98) gz_92_39 is_94 rd_2 rfl (by decide) rfl ?_
  refine w_aload_n gz_92_42 rfl ?_
  refine w_getX (v := 102) gz_92_43 is_94 rd_2 rfl (by decide) rfl ?_
  refine w_inv (k := 1) (as := [(2, 102)]) (r := [(2, 94)]) (x := 98) (ls0 := [(2, 98), (2, 102), (9, 0)]) gz_92_46 gm_93 rfl is_98 rd_8 rfl rfl rfl rfl rfl (c_View_same (d := (d + 3)) (x0 := 98) (x1 := 102) is_98 is_102 ?_ ?_)
  ·
    show wp l rho (d + 5) 92 49 [(2, 94), (2, x1), (0, x2), (0, x3), (0, x4), (9, 0), (9, 0)] [(0, 0), (2, 94)] h26 Q
    refine v_putB (j := 14) gz_92_49 rfl is_94 rd_2 rfl (by omega) (by omega) rfl (fun h29 fh29 => ?_)
    have gh29 : my_fr [(2, 11), (2, 12), (2, 13), (2, 14), (7, 0), (7, 1), (7, 2), (7, 3), (7, 4), (7, 5), (8, 0), (8, 1), (30, -1), (31, -1), (41, -1), (42, -1), (43, -1), (44, -1)] h h29 := my_fr.up gh26 is_94 fh29 rfl
    have Ln_h29 : Ln h29 := Ln_ag (my_ag.up fh29 is_94 rfl) Ln_h26
    have Lst_h29 : Lst h29 := Lst_ag (my_ag.up fh29 is_94 rfl) Lst_h26
    refine w_aload_n gz_92_52 rfl ?_
    refine v_getI (j := 14) gz_92_53 rfl is_94 rd_2 rfl (fun v30 ev30 pv30 qv30 => ?_)
    have zv30 := ev30.trans (my_up_self fh29)
    refine w_ifeq (t := 65) gz_92_56 rfl (fun u31 => ?_) (fun u31 => by exfalso; omega)
    refine w_aload_n gz_92_65 rfl ?_
    refine w_getX (v := 95) gz_92_66 is_94 rd_2 rfl (by decide) rfl ?_
    refine w_aload_n gz_92_69 rfl ?_
    refine w_inv (k := 0) (as := [(2, x1)]) (r := []) (x := 95) (ls0 := [(2, 95), (2, x1)]) gz_92_70 gm_25 rfl is_95 rd_6 rfl rfl rfl rfl rfl ?_
    refine w_aload_n gz_25_0 rfl ?_
    refine w_getX (v := (x1 + 1)) gz_25_1 t1 rd_6 rfl (by decide) rfl ?_
    refine w_iconst gz_25_4 (by decide) ?_
    refine w_aload_n gz_25_5 rfl ?_
    refine w_getX (v := 96) gz_25_6 is_95 rd_6 rfl (by decide) rfl ?_
    refine w_iconst gz_25_9 (by decide) ?_
    refine w_aload_n gz_25_10 rfl ?_
    refine w_getX (v := 96) gz_25_11 is_95 rd_6 rfl (by decide) rfl ?_
    refine v_alen (j := 240) gz_25_14 rfl is_96 rd_30 (by decide) ?_
    refine w_cpU gz_25_15 (ix_6_1 t1) rd_30 is_96 rd_30 (by omega) (by omega) (by omega) (by omega) (by omega) rfl (by decide) (by decide) (fun h36 fh36 => ?_)
    have gh36 : my_fr [(2, 11), (2, 12), (2, 13), (2, 14), (7, 0), (7, 1), (7, 2), (7, 3), (7, 4), (7, 5), (8, 0), (8, 1), (30, -1), (31, -1), (41, -1), (42, -1), (43, -1), (44, -1)] h h36 := my_fr.cp gh29 is_96 fh36 rfl
    have Ln_h36 : Ln h36 := Ln_ag (my_ag.cp fh36 is_96 rfl) Ln_h29
    have Lst_h36 : Lst h36 := Lst_ag (my_ag.cp fh36 is_96 rfl) Lst_h29
    refine w_aload_n gz_25_18 rfl ?_
    refine w_getX (v := (x1 + 2)) gz_25_19 t1 rd_6 rfl (by decide) rfl ?_
    refine w_iconst gz_25_22 (by decide) ?_
    refine w_aload_n gz_25_23 rfl ?_
    refine w_getX (v := 97) gz_25_24 is_95 rd_6 rfl (by decide) rfl ?_
    refine w_iconst gz_25_27 (by decide) ?_
    refine w_aload_n gz_25_28 rfl ?_
    refine w_getX (v := 97) gz_25_29 is_95 rd_6 rfl (by decide) rfl ?_
    refine v_alen (j := 3) gz_25_32 rfl is_97 rd_31 (by decide) ?_
    refine w_cpU gz_25_33 (ix_6_2 t1) rd_31 is_97 rd_31 (by omega) (by omega) (by omega) (by omega) (by omega) rfl (by decide) (by decide) (fun h40 fh40 => ?_)
    have gh40 : my_fr [(2, 11), (2, 12), (2, 13), (2, 14), (7, 0), (7, 1), (7, 2), (7, 3), (7, 4), (7, 5), (8, 0), (8, 1), (30, -1), (31, -1), (41, -1), (42, -1), (43, -1), (44, -1)] h h40 := my_fr.cp gh36 is_97 fh40 rfl
    have Ln_h40 : Ln h40 := Ln_ag (my_ag.cp fh40 is_97 rfl) Ln_h36
    have Lst_h40 : Lst h40 := Lst_ag (my_ag.cp fh40 is_97 rfl) Lst_h36
    refine w_vret gz_25_36 gm_25 ?_
    show wp l rho (d + 5) 92 73 [(2, 94), (2, x1), (0, x2), (0, x3), (0, x4), (9, 0), (9, 0)] [] h40 Q
    refine w_aload_n gz_92_73 rfl ?_
    refine w_aload_n gz_92_74 rfl ?_
    refine w_getX (v := 27) gz_92_75 is_94 rd_2 rfl (by decide) rfl ?_
    refine w_iload_n gz_92_78 rfl ?_
    refine w_aald gz_92_79 is_27 rd_22 rfl (by omega) (by omega) (fun v42 ev42 tv42 => ?_)
    refine w_inv (k := 4) (as := [(2, v42)]) (r := []) (x := 94) (ls0 := [(2, 94), (2, v42), (9, 0), (9, 0), (9, 0), (9, 0)]) gz_92_80 gm_96 rfl is_94 rd_2 rfl rfl rfl rfl rfl (c_Desk_tellingRows (d := (d + 2)) (x1 := v42) tv42 (by first | assumption | omega) (fun v43 => ?_))
    show wp l rho (d + 5) 92 83 [(2, 94), (2, x1), (0, x2), (0, x3), (0, x4), (9, 0), (9, 0)] [(1, v43)] h40 Q
    refine w_lstore (ls' := [(2, 94), (2, x1), (0, x2), (0, x3), (0, x4), (1, v43), (9, 0)]) gz_92_83 gm_92 rfl rfl rfl ?_
    refine w_aload_n gz_92_85 rfl ?_
    refine w_iload_n gz_92_86 rfl ?_
    refine w_lload gz_92_87 rfl ?_
    refine w_inv (k := 6) (as := [(1, v43), (0, x2)]) (r := []) (x := 94) (ls0 := [(2, 94), (0, x2), (1, v43), (9, 0), (9, 0), (9, 0), (9, 0), (9, 0), (9, 0), (9, 0)]) gz_92_89 gm_98 rfl is_94 rd_2 rfl rfl rfl rfl rfl (c_Desk_tryOtherValues (d := d) (x1 := x2) (x2 := v43) (by omega) (by omega) Lst_h40 Ln_h40 (by first | assumption | omega) (fun h44 frh44 Lst_h44t45 => ?_))
    have gh44 : my_fr [(2, 11), (2, 12), (2, 13), (2, 14), (7, 0), (7, 1), (7, 2), (7, 3), (7, 4), (7, 5), (8, 0), (8, 1), (30, -1), (31, -1), (41, -1), (42, -1), (43, -1), (44, -1)] h h44 := my_fr.tr gh40 (frh44.mo rfl)
    have Ln_h44 : Ln h44 := Ln_ag (my_ag.fr frh44 rfl) Ln_h40
    show wp l rho (d + 5) 92 92 [(2, 94), (2, x1), (0, x2), (0, x3), (0, x4), (1, v43), (9, 0)] [] h44 Q
    refine w_aload_n gz_92_92 rfl ?_
    refine w_aload_n gz_92_93 rfl ?_
    refine w_iload_n gz_92_94 rfl ?_
    refine w_lload gz_92_95 rfl ?_
    refine w_inv (k := 4) (as := [(1, v43), (0, x2), (2, x1)]) (r := []) (x := 94) (ls0 := [(2, 94), (2, x1), (0, x2), (1, v43), (9, 0), (9, 0), (9, 0), (9, 0), (9, 0)]) gz_92_97 gm_104 rfl is_94 rd_2 rfl rfl rfl rfl rfl (c_Desk_tryRowsThatGo (d := d) (x1 := x1) (x2 := x2) (x3 := v43) t1 (by omega) (by omega) Lst_h44t45 Ln_h44 (by first | assumption | omega) (fun h46 frh46 Lst_h46t47 => ?_))
    have gh46 : my_fr [(2, 11), (2, 12), (2, 13), (2, 14), (7, 0), (7, 1), (7, 2), (7, 3), (7, 4), (7, 5), (8, 0), (8, 1), (30, -1), (31, -1), (41, -1), (42, -1), (43, -1), (44, -1)] h h46 := my_fr.tr gh44 (frh46.mo rfl)
    have Ln_h46 : Ln h46 := Ln_ag (my_ag.fr frh46 rfl) Ln_h44
    show wp l rho (d + 5) 92 100 [(2, 94), (2, x1), (0, x2), (0, x3), (0, x4), (1, v43), (9, 0)] [] h46 Q
    refine w_aload_n gz_92_100 rfl ?_
    refine w_iload_n gz_92_101 rfl ?_
    refine w_inv (k := 0) (as := [(0, x2)]) (r := []) (x := 94) (ls0 := [(2, 94), (0, x2)]) gz_92_102 gm_105 rfl is_94 rd_2 rfl rfl rfl rfl rfl (c_Desk_tryRowThatComes (d := d) (x1 := x2) (by omega) (by omega) Lst_h46t47 Ln_h46 (by first | assumption | omega) (fun h48 frh48 w49 w50 Lst_h48t51 => ?_))
    have gh48 : my_fr [(2, 11), (2, 12), (2, 13), (2, 14), (7, 0), (7, 1), (7, 2), (7, 3), (7, 4), (7, 5), (8, 0), (8, 1), (30, -1), (31, -1), (41, -1), (42, -1), (43, -1), (44, -1)] h h48 := my_fr.tr gh46 (frh48.mo rfl)
    have Ln_h48 : Ln h48 := Ln_ag (my_ag.fr frh48 rfl) Ln_h46
    show wp l rho (d + 5) 92 105 [(2, 94), (2, x1), (0, x2), (0, x3), (0, x4), (1, v43), (9, 0)] [] h48 Q
    have c52 := ((my_fr.at frh48 is_94 rfl).trans ((my_fr.at frh46 is_94 rfl).trans ((my_fr.at frh44 is_94 rfl).trans ((my_cp_role fh40 is_94 is_97 rfl).trans ((my_cp_role fh36 is_94 is_96 rfl).trans ((my_up_fld fh29 (by decide)).trans ((my_up_role fh26 is_94 is_111 rfl).trans ((my_up_role fh25 is_94 is_111 rfl).trans ((my_up_role fh24 is_94 is_111 rfl).trans ((my_up_role fh23 is_94 is_111 rfl).trans ((my_up_role fh22 is_94 is_111 rfl).trans ((my_up_role fh21 is_94 is_111 rfl).trans ((my_up_role fh19 is_94 is_113 rfl).trans ((my_up_role fh18 is_94 is_113 rfl).trans ((my_up_role fh17 is_94 is_113 rfl).trans ((my_up_role fh16 is_94 is_113 rfl).trans ((my_up_role fh15 is_94 is_113 rfl).trans ((my_up_role fh14 is_94 is_113 rfl).trans ((my_up_role fh10 is_94 is_112 rfl).trans ((my_up_role fh9 is_94 is_112 rfl).trans ((my_up_role fh8 is_94 is_112 rfl).trans ((my_up_role fh7 is_94 is_112 rfl).trans ((my_up_role fh6 is_94 is_112 rfl).trans ((my_up_role fh5 is_94 is_112 rfl).trans (my_up_self fh3)))))))))))))))))))))))))
    have c53 := ((my_fr.at frh48 is_94 rfl).trans ((my_fr.at frh46 is_94 rfl).trans ((my_fr.at frh44 is_94 rfl).trans ((my_cp_role fh40 is_94 is_97 rfl).trans ((my_cp_role fh36 is_94 is_96 rfl).trans ev30.symm)))))
    exact w_vret gz_92_105 gm_92 (k0 h48 (gh48) (by omega) (by omega) (by omega) (by omega) Lst_h48t51)
  ·
    show wp l rho (d + 5) 92 49 [(2, 94), (2, x1), (0, x2), (0, x3), (0, x4), (9, 0), (9, 0)] [(0, 1), (2, 94)] h26 Q
    refine v_putB (j := 14) gz_92_49 rfl is_94 rd_2 rfl (by omega) (by omega) rfl (fun h54 fh54 => ?_)
    have gh54 : my_fr [(2, 11), (2, 12), (2, 13), (2, 14), (7, 0), (7, 1), (7, 2), (7, 3), (7, 4), (7, 5), (8, 0), (8, 1), (30, -1), (31, -1), (41, -1), (42, -1), (43, -1), (44, -1)] h h54 := my_fr.up gh26 is_94 fh54 rfl
    have Ln_h54 : Ln h54 := Ln_ag (my_ag.up fh54 is_94 rfl) Ln_h26
    have Lst_h54 : Lst h54 := Lst_ag (my_ag.up fh54 is_94 rfl) Lst_h26
    refine w_aload_n gz_92_52 rfl ?_
    refine v_getI (j := 14) gz_92_53 rfl is_94 rd_2 rfl (fun v55 ev55 pv55 qv55 => ?_)
    have zv55 := ev55.trans (my_up_self fh54)
    refine w_ifeq (t := 65) gz_92_56 rfl (fun u56 => by exfalso; omega) (fun u56 => ?_)
    refine w_aload_n gz_92_59 rfl ?_
    refine w_iconst gz_92_60 (by decide) ?_
    refine w_iconst gz_92_61 (by decide) ?_
    refine w_inv (k := 0) (as := [(0, 0), (0, 0)]) (r := []) (x := 94) (ls0 := [(2, 94), (0, 0), (0, 0)]) gz_92_62 gm_94 rfl is_94 rd_2 rfl rfl rfl rfl rfl (c_Desk_keep (d := (d + 3)) (x1 := 0) (x2 := 0) (by omega) (by omega) (by omega) (by omega) Lst_h54 (by first | assumption | omega) (by first | assumption | omega) (by first | assumption | omega) (fun h57 frh57 xp58 xp59 xp60 Lst_h57t61 => ?_))
    have gh57 : my_fr [(2, 11), (2, 12), (2, 13), (2, 14), (7, 0), (7, 1), (7, 2), (7, 3), (7, 4), (7, 5), (8, 0), (8, 1), (30, -1), (31, -1), (41, -1), (42, -1), (43, -1), (44, -1)] h h57 := my_fr.tr gh54 (frh57.mo rfl)
    have Ln_h57 : Ln h57 := Ln_ag (my_ag.fr frh57 rfl) Ln_h54
    show wp l rho (d + 5) 92 65 [(2, 94), (2, x1), (0, x2), (0, x3), (0, x4), (9, 0), (9, 0)] [] h57 Q
    refine w_aload_n gz_92_65 rfl ?_
    refine w_getX (v := 95) gz_92_66 is_94 rd_2 rfl (by decide) rfl ?_
    refine w_aload_n gz_92_69 rfl ?_
    refine w_inv (k := 0) (as := [(2, x1)]) (r := []) (x := 95) (ls0 := [(2, 95), (2, x1)]) gz_92_70 gm_25 rfl is_95 rd_6 rfl rfl rfl rfl rfl ?_
    refine w_aload_n gz_25_0 rfl ?_
    refine w_getX (v := (x1 + 1)) gz_25_1 t1 rd_6 rfl (by decide) rfl ?_
    refine w_iconst gz_25_4 (by decide) ?_
    refine w_aload_n gz_25_5 rfl ?_
    refine w_getX (v := 96) gz_25_6 is_95 rd_6 rfl (by decide) rfl ?_
    refine w_iconst gz_25_9 (by decide) ?_
    refine w_aload_n gz_25_10 rfl ?_
    refine w_getX (v := 96) gz_25_11 is_95 rd_6 rfl (by decide) rfl ?_
    refine v_alen (j := 240) gz_25_14 rfl is_96 rd_30 (by decide) ?_
    refine w_cpU gz_25_15 (ix_6_1 t1) rd_30 is_96 rd_30 (by omega) (by omega) (by omega) (by omega) (by omega) rfl (by decide) (by decide) (fun h66 fh66 => ?_)
    have gh66 : my_fr [(2, 11), (2, 12), (2, 13), (2, 14), (7, 0), (7, 1), (7, 2), (7, 3), (7, 4), (7, 5), (8, 0), (8, 1), (30, -1), (31, -1), (41, -1), (42, -1), (43, -1), (44, -1)] h h66 := my_fr.cp gh57 is_96 fh66 rfl
    have Ln_h66 : Ln h66 := Ln_ag (my_ag.cp fh66 is_96 rfl) Ln_h57
    have Lst_h66 : Lst h66 := Lst_ag (my_ag.cp fh66 is_96 rfl) Lst_h57t61
    refine w_aload_n gz_25_18 rfl ?_
    refine w_getX (v := (x1 + 2)) gz_25_19 t1 rd_6 rfl (by decide) rfl ?_
    refine w_iconst gz_25_22 (by decide) ?_
    refine w_aload_n gz_25_23 rfl ?_
    refine w_getX (v := 97) gz_25_24 is_95 rd_6 rfl (by decide) rfl ?_
    refine w_iconst gz_25_27 (by decide) ?_
    refine w_aload_n gz_25_28 rfl ?_
    refine w_getX (v := 97) gz_25_29 is_95 rd_6 rfl (by decide) rfl ?_
    refine v_alen (j := 3) gz_25_32 rfl is_97 rd_31 (by decide) ?_
    refine w_cpU gz_25_33 (ix_6_2 t1) rd_31 is_97 rd_31 (by omega) (by omega) (by omega) (by omega) (by omega) rfl (by decide) (by decide) (fun h70 fh70 => ?_)
    have gh70 : my_fr [(2, 11), (2, 12), (2, 13), (2, 14), (7, 0), (7, 1), (7, 2), (7, 3), (7, 4), (7, 5), (8, 0), (8, 1), (30, -1), (31, -1), (41, -1), (42, -1), (43, -1), (44, -1)] h h70 := my_fr.cp gh66 is_97 fh70 rfl
    have Ln_h70 : Ln h70 := Ln_ag (my_ag.cp fh70 is_97 rfl) Ln_h66
    have Lst_h70 : Lst h70 := Lst_ag (my_ag.cp fh70 is_97 rfl) Lst_h66
    refine w_vret gz_25_36 gm_25 ?_
    show wp l rho (d + 5) 92 73 [(2, 94), (2, x1), (0, x2), (0, x3), (0, x4), (9, 0), (9, 0)] [] h70 Q
    refine w_aload_n gz_92_73 rfl ?_
    refine w_aload_n gz_92_74 rfl ?_
    refine w_getX (v := 27) gz_92_75 is_94 rd_2 rfl (by decide) rfl ?_
    refine w_iload_n gz_92_78 rfl ?_
    refine w_aald gz_92_79 is_27 rd_22 rfl (by omega) (by omega) (fun v72 ev72 tv72 => ?_)
    refine w_inv (k := 4) (as := [(2, v72)]) (r := []) (x := 94) (ls0 := [(2, 94), (2, v72), (9, 0), (9, 0), (9, 0), (9, 0)]) gz_92_80 gm_96 rfl is_94 rd_2 rfl rfl rfl rfl rfl (c_Desk_tellingRows (d := (d + 2)) (x1 := v72) tv72 (by first | assumption | omega) (fun v73 => ?_))
    show wp l rho (d + 5) 92 83 [(2, 94), (2, x1), (0, x2), (0, x3), (0, x4), (9, 0), (9, 0)] [(1, v73)] h70 Q
    refine w_lstore (ls' := [(2, 94), (2, x1), (0, x2), (0, x3), (0, x4), (1, v73), (9, 0)]) gz_92_83 gm_92 rfl rfl rfl ?_
    refine w_aload_n gz_92_85 rfl ?_
    refine w_iload_n gz_92_86 rfl ?_
    refine w_lload gz_92_87 rfl ?_
    refine w_inv (k := 6) (as := [(1, v73), (0, x2)]) (r := []) (x := 94) (ls0 := [(2, 94), (0, x2), (1, v73), (9, 0), (9, 0), (9, 0), (9, 0), (9, 0), (9, 0), (9, 0)]) gz_92_89 gm_98 rfl is_94 rd_2 rfl rfl rfl rfl rfl (c_Desk_tryOtherValues (d := d) (x1 := x2) (x2 := v73) (by omega) (by omega) Lst_h70 Ln_h70 (by first | assumption | omega) (fun h74 frh74 Lst_h74t75 => ?_))
    have gh74 : my_fr [(2, 11), (2, 12), (2, 13), (2, 14), (7, 0), (7, 1), (7, 2), (7, 3), (7, 4), (7, 5), (8, 0), (8, 1), (30, -1), (31, -1), (41, -1), (42, -1), (43, -1), (44, -1)] h h74 := my_fr.tr gh70 (frh74.mo rfl)
    have Ln_h74 : Ln h74 := Ln_ag (my_ag.fr frh74 rfl) Ln_h70
    show wp l rho (d + 5) 92 92 [(2, 94), (2, x1), (0, x2), (0, x3), (0, x4), (1, v73), (9, 0)] [] h74 Q
    refine w_aload_n gz_92_92 rfl ?_
    refine w_aload_n gz_92_93 rfl ?_
    refine w_iload_n gz_92_94 rfl ?_
    refine w_lload gz_92_95 rfl ?_
    refine w_inv (k := 4) (as := [(1, v73), (0, x2), (2, x1)]) (r := []) (x := 94) (ls0 := [(2, 94), (2, x1), (0, x2), (1, v73), (9, 0), (9, 0), (9, 0), (9, 0), (9, 0)]) gz_92_97 gm_104 rfl is_94 rd_2 rfl rfl rfl rfl rfl (c_Desk_tryRowsThatGo (d := d) (x1 := x1) (x2 := x2) (x3 := v73) t1 (by omega) (by omega) Lst_h74t75 Ln_h74 (by first | assumption | omega) (fun h76 frh76 Lst_h76t77 => ?_))
    have gh76 : my_fr [(2, 11), (2, 12), (2, 13), (2, 14), (7, 0), (7, 1), (7, 2), (7, 3), (7, 4), (7, 5), (8, 0), (8, 1), (30, -1), (31, -1), (41, -1), (42, -1), (43, -1), (44, -1)] h h76 := my_fr.tr gh74 (frh76.mo rfl)
    have Ln_h76 : Ln h76 := Ln_ag (my_ag.fr frh76 rfl) Ln_h74
    show wp l rho (d + 5) 92 100 [(2, 94), (2, x1), (0, x2), (0, x3), (0, x4), (1, v73), (9, 0)] [] h76 Q
    refine w_aload_n gz_92_100 rfl ?_
    refine w_iload_n gz_92_101 rfl ?_
    refine w_inv (k := 0) (as := [(0, x2)]) (r := []) (x := 94) (ls0 := [(2, 94), (0, x2)]) gz_92_102 gm_105 rfl is_94 rd_2 rfl rfl rfl rfl rfl (c_Desk_tryRowThatComes (d := d) (x1 := x2) (by omega) (by omega) Lst_h76t77 Ln_h76 (by first | assumption | omega) (fun h78 frh78 w79 w80 Lst_h78t81 => ?_))
    have gh78 : my_fr [(2, 11), (2, 12), (2, 13), (2, 14), (7, 0), (7, 1), (7, 2), (7, 3), (7, 4), (7, 5), (8, 0), (8, 1), (30, -1), (31, -1), (41, -1), (42, -1), (43, -1), (44, -1)] h h78 := my_fr.tr gh76 (frh78.mo rfl)
    have Ln_h78 : Ln h78 := Ln_ag (my_ag.fr frh78 rfl) Ln_h76
    show wp l rho (d + 5) 92 105 [(2, 94), (2, x1), (0, x2), (0, x3), (0, x4), (1, v73), (9, 0)] [] h78 Q
    have c82 := ((my_fr.at frh78 is_94 rfl).trans ((my_fr.at frh76 is_94 rfl).trans ((my_fr.at frh74 is_94 rfl).trans ((my_cp_role fh70 is_94 is_97 rfl).trans ((my_cp_role fh66 is_94 is_96 rfl).trans ((my_fr.at frh57 is_94 rfl).trans ((my_up_fld fh54 (by decide)).trans ((my_up_role fh26 is_94 is_111 rfl).trans ((my_up_role fh25 is_94 is_111 rfl).trans ((my_up_role fh24 is_94 is_111 rfl).trans ((my_up_role fh23 is_94 is_111 rfl).trans ((my_up_role fh22 is_94 is_111 rfl).trans ((my_up_role fh21 is_94 is_111 rfl).trans ((my_up_role fh19 is_94 is_113 rfl).trans ((my_up_role fh18 is_94 is_113 rfl).trans ((my_up_role fh17 is_94 is_113 rfl).trans ((my_up_role fh16 is_94 is_113 rfl).trans ((my_up_role fh15 is_94 is_113 rfl).trans ((my_up_role fh14 is_94 is_113 rfl).trans ((my_up_role fh10 is_94 is_112 rfl).trans ((my_up_role fh9 is_94 is_112 rfl).trans ((my_up_role fh8 is_94 is_112 rfl).trans ((my_up_role fh7 is_94 is_112 rfl).trans ((my_up_role fh6 is_94 is_112 rfl).trans ((my_up_role fh5 is_94 is_112 rfl).trans (my_up_self fh3))))))))))))))))))))))))))
    have c83 := ((my_fr.at frh78 is_94 rfl).trans ((my_fr.at frh76 is_94 rfl).trans ((my_fr.at frh74 is_94 rfl).trans ((my_cp_role fh70 is_94 is_97 rfl).trans ((my_cp_role fh66 is_94 is_96 rfl).trans ((my_fr.at frh57 is_94 rfl).trans ev55.symm))))))
    exact w_vret gz_92_105 gm_92 (k0 h78 (gh78) (by omega) (by omega) (by omega) (by omega) Lst_h78t81)
theorem c_ThroughWindow_way {l : Launch} {rho : Nat → Int32} {d : Nat} {h : my_H} {Q : my_H → my_V → Prop} {x1 x2 x3 x4 x5 x6 x7 : Int} (n_Ln : Ln h) (k0 : ∀ (h' : my_H), my_fr [(2, 11), (2, 12), (2, 13), (2, 14), (2, 15), (2, 16), (7, 0), (7, 1), (7, 2), (7, 3), (7, 4), (7, 5), (8, 0), (8, 1), (30, -1), (31, -1), (41, -1), (42, -1), (43, -1), (44, -1)] h h' → Ln h' → Q h' (0, (-1))) (k1 : ∀ (h' : my_H) (y : Int), my_fr [(2, 11), (2, 12), (2, 13), (2, 14), (2, 15), (2, 16), (7, 0), (7, 1), (7, 2), (7, 3), (7, 4), (7, 5), (8, 0), (8, 1), (30, -1), (31, -1), (41, -1), (42, -1), (43, -1), (44, -1)] h h' → 0 ≤ x1 → x1 ≤ 5 → 0 ≤ x2 → x2 ≤ 2 → (-1) ≤ x6 → 0 ≤ x7 → x7 ≤ 5 → Ln h' → Q h' (0, y)) : wp l rho (d + 6) 108 0 [(2, 0), (0, x1), (0, x2), (0, x3), (0, x4), (0, x5), (0, x6), (0, x7), (9, 0)] [] h Q := by
  have J77_0 : ∀ (p77_0 r77_1 p77_2 p77_3 p77_4 : Int) (h77_0 : my_H), my_fr [(2, 11), (2, 12), (2, 13), (2, 14), (2, 15), (2, 16), (7, 0), (7, 1), (7, 2), (7, 3), (7, 4), (7, 5), (8, 0), (8, 1), (30, -1), (31, -1), (41, -1), (42, -1), (43, -1), (44, -1)] h h77_0 → my_is 7 r77_1 → 0 ≤ x1 → x1 ≤ 5 → 0 ≤ x2 → x2 ≤ 2 → (-1) ≤ p77_0 → 0 ≤ p77_4 → p77_4 ≤ 2 → (-1) ≤ p77_2 → 0 ≤ p77_3 → p77_3 ≤ 1 → (-1) ≤ x6 → p77_0 ≤ x6 → x6 ≤ p77_0 → h77_0 94 12 = p77_2 → h77_0 94 14 = p77_3 → h77_0 94 15 = p77_4 → Ln h77_0 → wp l rho (d + 6) 108 77 [(2, 0), (0, x1), (0, x2), (0, x3), (0, x4), (0, x5), (0, p77_0), (0, x7), (9, 0)] [(2, r77_1)] h77_0 Q := by
    intro p77_0 r77_1 p77_2 p77_3 p77_4 h77_0 gh_77_0 tr77_1_77_0 q0_77_0 q1_77_0 q2_77_0 q3_77_0 q4_77_0 q5_77_0 q6_77_0 q7_77_0 q8_77_0 q9_77_0 q10_77_0 q11_77_0 q12_77_0 c94_12_77_0 c94_14_77_0 c94_15_77_0 n_Ln_77_0
    refine w_astore (ls' := [(2, 0), (0, x1), (0, x2), (0, x3), (0, x4), (0, x5), (0, p77_0), (0, x7), (2, r77_1)]) gz_108_77 gm_108 rfl rfl rfl ?_
    refine w_iload gz_108_79 rfl ?_
    by_cases u1 : x7 = 0
    ·
      refine w_tswE (t := 120) gz_108_81 u1 (by decide) (by decide) rfl rfl ?_
      refine w_aload gz_108_120 rfl ?_
      refine v_getI (j := 0) gz_108_122 rfl tr77_1_77_0 rd_7 rfl (fun v2 ev2 pv2 qv2 => ?_)
      exact w_iret gz_108_125 gm_108 (k1 h77_0 (v2) (gh_77_0) (by omega) (by omega) (by omega) (by omega) (by omega) (by omega) (by omega) n_Ln_77_0)
    ·
      by_cases u3 : x7 = 1
      ·
        refine w_tswE (t := 126) gz_108_81 u3 (by decide) (by decide) rfl rfl ?_
        refine w_aload gz_108_126 rfl ?_
        refine v_getI (j := 1) gz_108_128 rfl tr77_1_77_0 rd_7 rfl (fun v4 ev4 pv4 qv4 => ?_)
        exact w_iret gz_108_131 gm_108 (k1 h77_0 (v4) (gh_77_0) (by omega) (by omega) (by omega) (by omega) (by omega) (by omega) (by omega) n_Ln_77_0)
      ·
        by_cases u5 : x7 = 2
        ·
          refine w_tswE (t := 132) gz_108_81 u5 (by decide) (by decide) rfl rfl ?_
          refine w_aload gz_108_132 rfl ?_
          refine v_getI (j := 2) gz_108_134 rfl tr77_1_77_0 rd_7 rfl (fun v6 ev6 pv6 qv6 => ?_)
          exact w_iret gz_108_137 gm_108 (k1 h77_0 (v6) (gh_77_0) (by omega) (by omega) (by omega) (by omega) (by omega) (by omega) (by omega) n_Ln_77_0)
        ·
          by_cases u7 : x7 = 3
          ·
            refine w_tswE (t := 138) gz_108_81 u7 (by decide) (by decide) rfl rfl ?_
            refine w_aload gz_108_138 rfl ?_
            refine v_getI (j := 3) gz_108_140 rfl tr77_1_77_0 rd_7 rfl (fun v8 ev8 pv8 qv8 => ?_)
            exact w_iret gz_108_143 gm_108 (k1 h77_0 (v8) (gh_77_0) (by omega) (by omega) (by omega) (by omega) (by omega) (by omega) (by omega) n_Ln_77_0)
          ·
            by_cases u9 : x7 = 4
            ·
              refine w_tswE (t := 144) gz_108_81 u9 (by decide) (by decide) rfl rfl ?_
              refine w_aload gz_108_144 rfl ?_
              refine v_getI (j := 4) gz_108_146 rfl tr77_1_77_0 rd_7 rfl (fun v10 ev10 pv10 qv10 => ?_)
              exact w_iret gz_108_149 gm_108 (k1 h77_0 (v10) (gh_77_0) (by omega) (by omega) (by omega) (by omega) (by omega) (by omega) (by omega) n_Ln_77_0)
            ·
              by_cases u11 : x7 = 5
              ·
                refine w_tswE (t := 150) gz_108_81 u11 (by decide) (by decide) rfl rfl ?_
                refine w_aload gz_108_150 rfl ?_
                refine v_getI (j := 5) gz_108_152 rfl tr77_1_77_0 rd_7 rfl (fun v12 ev12 pv12 qv12 => ?_)
                exact w_iret gz_108_155 gm_108 (k1 h77_0 (v12) (gh_77_0) (by omega) (by omega) (by omega) (by omega) (by omega) (by omega) (by omega) n_Ln_77_0)
              ·
                refine w_tswD (t := 156) gz_108_81 (by omega) rfl ?_
                refine w_iconst gz_108_156 (by decide) ?_
                exact w_iret gz_108_157 gm_108 (k0 h77_0 (gh_77_0) n_Ln_77_0)
  refine w_iload gz_108_0 rfl ?_
  refine w_iconst gz_108_2 (by decide) ?_
  refine w_iclt (t := 27) gz_108_3 rfl (fun u13 => ?_) (fun u13 => ?_)
  ·
    refine w_iconst gz_108_27 (by decide) ?_
    exact w_iret gz_108_28 gm_108 (k0 h (my_fr.rf) n_Ln)
  ·
    refine w_aload_n gz_108_6 rfl ?_
    refine w_getX (v := 94) gz_108_7 is_0 rd_9 rfl (by decide) rfl ?_
    refine w_aload_n gz_108_10 rfl ?_
    refine w_getX (v := 7) gz_108_11 is_0 rd_9 rfl (by decide) rfl ?_
    refine w_iload_n gz_108_14 rfl ?_
    refine w_iload_n gz_108_15 rfl ?_
    refine w_iload_n gz_108_16 rfl ?_
    refine w_iload gz_108_17 rfl ?_
    refine w_iload gz_108_19 rfl ?_
    refine w_inv (k := 0) (as := [(0, x5), (0, x4), (0, x3), (0, x2), (0, x1), (2, 7)]) (r := []) (x := 94) (ls0 := [(2, 94), (2, 7), (0, x1), (0, x2), (0, x3), (0, x4), (0, x5)]) gz_108_21 gm_87 rfl is_94 rd_2 rfl rfl rfl rfl rfl (c_Desk_opens (d := d) (x1 := 7) (x2 := x1) (x3 := x2) (x4 := x3) (x5 := x4) (x6 := x5) is_7 n_Ln (fun h16 frh16 => ?_) (fun h17 frh17 w18 w19 w20 w21 w22 w23 xp24 xp25 xp26 xp27 xp28 => ?_))
    ·
      have gh16 : my_fr [(2, 11), (2, 12), (2, 13), (2, 14), (2, 15), (2, 16), (7, 0), (7, 1), (7, 2), (7, 3), (7, 4), (7, 5), (8, 0), (8, 1), (30, -1), (31, -1), (41, -1), (42, -1), (43, -1), (44, -1)] h h16 := my_fr.tr my_fr.rf (frh16.mo rfl)
      have Ln_h16 : Ln h16 := Ln_ag (my_ag.fr frh16 rfl) n_Ln
      show wp l rho (d + 6) 108 24 [(2, 0), (0, x1), (0, x2), (0, x3), (0, x4), (0, x5), (0, x6), (0, x7), (9, 0)] [(0, 0)] h16 Q
      refine w_ifne (t := 29) gz_108_24 rfl (fun u29 => by exfalso; omega) (fun u29 => ?_)
      refine w_iconst gz_108_27 (by decide) ?_
      exact w_iret gz_108_28 gm_108 (k0 h16 (gh16) Ln_h16)
    ·
      have gh17 : my_fr [(2, 11), (2, 12), (2, 13), (2, 14), (2, 15), (2, 16), (7, 0), (7, 1), (7, 2), (7, 3), (7, 4), (7, 5), (8, 0), (8, 1), (30, -1), (31, -1), (41, -1), (42, -1), (43, -1), (44, -1)] h h17 := my_fr.tr my_fr.rf (frh17.mo rfl)
      have Ln_h17 : Ln h17 := Ln_ag (my_ag.fr frh17 rfl) n_Ln
      show wp l rho (d + 6) 108 24 [(2, 0), (0, x1), (0, x2), (0, x3), (0, x4), (0, x5), (0, x6), (0, x7), (9, 0)] [(0, 1)] h17 Q
      refine w_ifne (t := 29) gz_108_24 rfl (fun u30 => ?_) (fun u30 => by exfalso; omega)
      refine w_aload_n gz_108_29 rfl ?_
      refine w_getX (v := 94) gz_108_30 is_0 rd_9 rfl (by decide) rfl ?_
      refine w_aload_n gz_108_33 rfl ?_
      refine w_getX (v := 7) gz_108_34 is_0 rd_9 rfl (by decide) rfl ?_
      refine w_iload_n gz_108_37 rfl ?_
      refine w_iload gz_108_38 rfl ?_
      refine w_iload gz_108_40 rfl ?_
      refine w_iconst gz_108_42 (by decide) ?_
      refine w_icne (t := 50) gz_108_43 rfl (fun u33 => ?_) (fun u33 => ?_)
      ·
        refine w_iconst gz_108_50 (by decide) ?_
        refine w_inv (k := 2) (as := [(0, 0), (0, x6), (0, x1), (2, 7)]) (r := []) (x := 94) (ls0 := [(2, 94), (2, 7), (0, x1), (0, x6), (0, 0), (9, 0), (9, 0)]) gz_108_51 gm_92 rfl is_94 rd_2 rfl rfl rfl rfl rfl (c_Desk_search (d := d) (x1 := 7) (x2 := x1) (x3 := x6) (x4 := 0) is_7 (by omega) (by omega) (by omega) (by omega) (by omega) Ln_h17 (by first | assumption | omega) (by first | assumption | omega) (fun h34 frh34 w35 w36 w37 w38 Lst_h34t39 => ?_))
        have gh34 : my_fr [(2, 11), (2, 12), (2, 13), (2, 14), (2, 15), (2, 16), (7, 0), (7, 1), (7, 2), (7, 3), (7, 4), (7, 5), (8, 0), (8, 1), (30, -1), (31, -1), (41, -1), (42, -1), (43, -1), (44, -1)] h h34 := my_fr.tr gh17 (frh34.mo rfl)
        have Ln_h34 : Ln h34 := Ln_ag (my_ag.fr frh34 rfl) Ln_h17
        show wp l rho (d + 6) 108 54 [(2, 0), (0, x1), (0, x2), (0, x3), (0, x4), (0, x5), (0, x6), (0, x7), (9, 0)] [] h34 Q
        refine w_iload gz_108_54 rfl ?_
        refine w_iconst gz_108_56 (by decide) ?_
        refine w_icne (t := 70) gz_108_57 rfl (fun u40 => ?_) (fun u40 => by exfalso; omega)
        refine w_aload_n gz_108_70 rfl ?_
        refine w_getX (v := 94) gz_108_71 is_0 rd_9 rfl (by decide) rfl ?_
        refine w_getX (v := 113) gz_108_74 is_94 rd_2 rfl (by decide) rfl ?_
        exact J77_0 (x6) (113) ((h34 94 12)) ((h34 94 14)) ((h17 94 15)) h34 (gh34) is_113 (by omega) (by omega) (by omega) (by omega) (by omega) (by omega) (by omega) (by omega) (by omega) (by omega) (by omega) (by omega) (by omega) ((rfl : h34 94 12 = h34 94 12).trans (by omega)) ((rfl : h34 94 14 = h34 94 14).trans (by omega)) (((my_fr.at frh34 is_94 rfl).trans (rfl : h17 94 15 = h17 94 15)).trans (by omega)) Ln_h34
      ·
        refine w_iconst gz_108_46 (by decide) ?_
        refine w_goto (t := 51) gz_108_47 rfl ?_
        refine w_inv (k := 2) (as := [(0, 1), (0, x6), (0, x1), (2, 7)]) (r := []) (x := 94) (ls0 := [(2, 94), (2, 7), (0, x1), (0, x6), (0, 1), (9, 0), (9, 0)]) gz_108_51 gm_92 rfl is_94 rd_2 rfl rfl rfl rfl rfl (c_Desk_search (d := d) (x1 := 7) (x2 := x1) (x3 := x6) (x4 := 1) is_7 (by omega) (by omega) (by omega) (by omega) (by omega) Ln_h17 (by first | assumption | omega) (by first | assumption | omega) (fun h43 frh43 w44 w45 w46 w47 Lst_h43t48 => ?_))
        have gh43 : my_fr [(2, 11), (2, 12), (2, 13), (2, 14), (2, 15), (2, 16), (7, 0), (7, 1), (7, 2), (7, 3), (7, 4), (7, 5), (8, 0), (8, 1), (30, -1), (31, -1), (41, -1), (42, -1), (43, -1), (44, -1)] h h43 := my_fr.tr gh17 (frh43.mo rfl)
        have Ln_h43 : Ln h43 := Ln_ag (my_ag.fr frh43 rfl) Ln_h17
        show wp l rho (d + 6) 108 54 [(2, 0), (0, x1), (0, x2), (0, x3), (0, x4), (0, x5), (0, x6), (0, x7), (9, 0)] [] h43 Q
        refine w_iload gz_108_54 rfl ?_
        refine w_iconst gz_108_56 (by decide) ?_
        refine w_icne (t := 70) gz_108_57 rfl (fun u49 => by exfalso; omega) (fun u49 => ?_)
        refine w_aload_n gz_108_60 rfl ?_
        refine w_getX (v := 94) gz_108_61 is_0 rd_9 rfl (by decide) rfl ?_
        refine w_getX (v := 112) gz_108_64 is_94 rd_2 rfl (by decide) rfl ?_
        refine w_goto (t := 77) gz_108_67 rfl ?_
        exact J77_0 (x6) (112) ((h43 94 12)) ((h43 94 14)) ((h17 94 15)) h43 (gh43) is_112 (by omega) (by omega) (by omega) (by omega) (by omega) (by omega) (by omega) (by omega) (by omega) (by omega) (by omega) (by omega) (by omega) ((rfl : h43 94 12 = h43 94 12).trans (by omega)) ((rfl : h43 94 14 = h43 94 14).trans (by omega)) (((my_fr.at frh43 is_94 rfl).trans (rfl : h17 94 15 = h17 94 15)).trans (by omega)) Ln_h43
theorem c_ThroughWindow_why {l : Launch} {rho : Nat → Int32} {d : Nat} {h : my_H} {Q : my_H → my_V → Prop} {x1 x2 x3 x4 x5 : Int} (n_Ln : Ln h) (k0 : ∀ (h' : my_H), my_fr [(2, 15), (2, 16), (8, 0), (8, 1), (30, -1), (31, -1), (41, -1), (42, -1), (43, -1), (44, -1)] h h' → Ln h' → Q h' (0, (-1))) (k1 : ∀ (h' : my_H), my_fr [(2, 15), (2, 16), (8, 0), (8, 1), (30, -1), (31, -1), (41, -1), (42, -1), (43, -1), (44, -1)] h h' → 0 ≤ x1 → x1 ≤ 5 → 0 ≤ x2 → x2 ≤ 2 → Ln h' → Q h' (0, 0)) (k2 : ∀ (h' : my_H), my_fr [(2, 15), (2, 16), (8, 0), (8, 1), (30, -1), (31, -1), (41, -1), (42, -1), (43, -1), (44, -1)] h h' → 0 ≤ x1 → x1 ≤ 5 → 0 ≤ x2 → x2 ≤ 2 → Ln h' → Q h' (0, 1)) (k3 : ∀ (h' : my_H) (y : Int), my_fr [(2, 15), (2, 16), (8, 0), (8, 1), (30, -1), (31, -1), (41, -1), (42, -1), (43, -1), (44, -1)] h h' → 0 ≤ x1 → x1 ≤ 5 → 0 ≤ x2 → x2 ≤ 2 → Ln h' → Q h' (0, y)) : wp l rho (d + 6) 109 0 [(2, 0), (0, x1), (0, x2), (0, x3), (0, x4), (0, x5)] [] h Q := by
  refine w_aload_n gz_109_0 rfl ?_
  refine w_getX (v := 94) gz_109_1 is_0 rd_9 rfl (by decide) rfl ?_
  refine w_aload_n gz_109_4 rfl ?_
  refine w_getX (v := 7) gz_109_5 is_0 rd_9 rfl (by decide) rfl ?_
  refine w_iload_n gz_109_8 rfl ?_
  refine w_iload_n gz_109_9 rfl ?_
  refine w_iload_n gz_109_10 rfl ?_
  refine w_iload gz_109_11 rfl ?_
  refine w_iload gz_109_13 rfl ?_
  refine w_inv (k := 0) (as := [(0, x5), (0, x4), (0, x3), (0, x2), (0, x1), (2, 7)]) (r := []) (x := 94) (ls0 := [(2, 94), (2, 7), (0, x1), (0, x2), (0, x3), (0, x4), (0, x5)]) gz_109_15 gm_87 rfl is_94 rd_2 rfl rfl rfl rfl rfl (c_Desk_opens (d := d) (x1 := 7) (x2 := x1) (x3 := x2) (x4 := x3) (x5 := x4) (x6 := x5) is_7 n_Ln (fun h3 frh3 => ?_) (fun h4 frh4 w5 w6 w7 w8 w9 w10 xp11 xp12 xp13 xp14 xp15 => ?_))
  ·
    have gh3 : my_fr [(2, 15), (2, 16), (8, 0), (8, 1), (30, -1), (31, -1), (41, -1), (42, -1), (43, -1), (44, -1)] h h3 := my_fr.tr my_fr.rf (frh3.mo rfl)
    have Ln_h3 : Ln h3 := Ln_ag (my_ag.fr frh3 rfl) n_Ln
    show wp l rho (d + 6) 109 18 [(2, 0), (0, x1), (0, x2), (0, x3), (0, x4), (0, x5)] [(0, 0)] h3 Q
    refine w_ifne (t := 23) gz_109_18 rfl (fun u16 => by exfalso; omega) (fun u16 => ?_)
    refine w_iconst gz_109_21 (by decide) ?_
    exact w_iret gz_109_22 gm_109 (k0 h3 (gh3) Ln_h3)
  ·
    have gh4 : my_fr [(2, 15), (2, 16), (8, 0), (8, 1), (30, -1), (31, -1), (41, -1), (42, -1), (43, -1), (44, -1)] h h4 := my_fr.tr my_fr.rf (frh4.mo rfl)
    have Ln_h4 : Ln h4 := Ln_ag (my_ag.fr frh4 rfl) n_Ln
    show wp l rho (d + 6) 109 18 [(2, 0), (0, x1), (0, x2), (0, x3), (0, x4), (0, x5)] [(0, 1)] h4 Q
    refine w_ifne (t := 23) gz_109_18 rfl (fun u17 => ?_) (fun u17 => by exfalso; omega)
    refine w_aload_n gz_109_23 rfl ?_
    refine w_getX (v := 94) gz_109_24 is_0 rd_9 rfl (by decide) rfl ?_
    refine w_aload_n gz_109_27 rfl ?_
    refine w_getX (v := 7) gz_109_28 is_0 rd_9 rfl (by decide) rfl ?_
    refine w_iload_n gz_109_31 rfl ?_
    refine w_iload_n gz_109_32 rfl ?_
    refine w_iload_n gz_109_33 rfl ?_
    refine w_iload gz_109_34 rfl ?_
    refine w_iload gz_109_36 rfl ?_
    refine w_inv (k := 2) (as := [(0, x5), (0, x4), (0, x3), (0, x2), (0, x1), (2, 7)]) (r := []) (x := 94) (ls0 := [(2, 94), (2, 7), (0, x1), (0, x2), (0, x3), (0, x4), (0, x5), (9, 0), (9, 0)]) gz_109_38 gm_110 rfl is_94 rd_2 rfl rfl rfl rfl rfl (c_Desk_goesStraight (d := (d + 2)) (x1 := 7) (x2 := x1) (x3 := x2) (x4 := x3) (x5 := x4) (x6 := x5) is_7 (by omega) (by omega) (by omega) (by omega) (by first | assumption | omega) (by first | assumption | omega) (fun h20 frh20 => ?_) (fun h21 frh21 => ?_))
    ·
      have gh20 : my_fr [(2, 15), (2, 16), (8, 0), (8, 1), (30, -1), (31, -1), (41, -1), (42, -1), (43, -1), (44, -1)] h h20 := my_fr.tr gh4 (frh20.mo rfl)
      have Ln_h20 : Ln h20 := Ln_ag (my_ag.fr frh20 rfl) Ln_h4
      show wp l rho (d + 6) 109 41 [(2, 0), (0, x1), (0, x2), (0, x3), (0, x4), (0, x5)] [(0, 0)] h20 Q
      refine w_ifeq (t := 55) gz_109_41 rfl (fun u22 => ?_) (fun u22 => by exfalso; omega)
      refine w_iconst gz_109_55 (by decide) ?_
      exact w_iret gz_109_56 gm_109 (k2 h20 (gh20) (by omega) (by omega) (by omega) (by omega) Ln_h20)
    ·
      have gh21 : my_fr [(2, 15), (2, 16), (8, 0), (8, 1), (30, -1), (31, -1), (41, -1), (42, -1), (43, -1), (44, -1)] h h21 := my_fr.tr gh4 (frh21.mo rfl)
      have Ln_h21 : Ln h21 := Ln_ag (my_ag.fr frh21 rfl) Ln_h4
      show wp l rho (d + 6) 109 41 [(2, 0), (0, x1), (0, x2), (0, x3), (0, x4), (0, x5)] [(0, 1)] h21 Q
      refine w_ifeq (t := 55) gz_109_41 rfl (fun u23 => by exfalso; omega) (fun u23 => ?_)
      refine w_aload_n gz_109_44 rfl ?_
      refine w_getX (v := 94) gz_109_45 is_0 rd_9 rfl (by decide) rfl ?_
      refine w_iload_n gz_109_48 rfl ?_
      refine w_inv (k := 1) (as := [(0, x1)]) (r := []) (x := 94) (ls0 := [(2, 94), (0, x1), (9, 0)]) gz_109_49 gm_111 rfl is_94 rd_2 rfl rfl rfl rfl rfl (c_Desk_faultsOfTrial (d := (d + 1)) (x1 := x1) (by omega) (by omega) Ln_h21 (by first | assumption | omega) (fun h25 frh25 => ?_) (fun h26 frh26 => ?_) (fun h27 v28 frh27 => ?_))
      ·
        have gh25 : my_fr [(2, 15), (2, 16), (8, 0), (8, 1), (30, -1), (31, -1), (41, -1), (42, -1), (43, -1), (44, -1)] h h25 := my_fr.tr gh21 (frh25.mo rfl)
        have Ln_h25 : Ln h25 := Ln_ag (my_ag.fr frh25 rfl) Ln_h21
        show wp l rho (d + 6) 109 52 [(2, 0), (0, x1), (0, x2), (0, x3), (0, x4), (0, x5)] [(0, 0)] h25 Q
        refine w_goto (t := 56) gz_109_52 rfl ?_
        exact w_iret gz_109_56 gm_109 (k1 h25 (gh25) (by omega) (by omega) (by omega) (by omega) Ln_h25)
      ·
        have gh26 : my_fr [(2, 15), (2, 16), (8, 0), (8, 1), (30, -1), (31, -1), (41, -1), (42, -1), (43, -1), (44, -1)] h h26 := my_fr.tr gh21 (frh26.mo rfl)
        have Ln_h26 : Ln h26 := Ln_ag (my_ag.fr frh26 rfl) Ln_h21
        show wp l rho (d + 6) 109 52 [(2, 0), (0, x1), (0, x2), (0, x3), (0, x4), (0, x5)] [(0, 1)] h26 Q
        refine w_goto (t := 56) gz_109_52 rfl ?_
        exact w_iret gz_109_56 gm_109 (k2 h26 (gh26) (by omega) (by omega) (by omega) (by omega) Ln_h26)
      ·
        have gh27 : my_fr [(2, 15), (2, 16), (8, 0), (8, 1), (30, -1), (31, -1), (41, -1), (42, -1), (43, -1), (44, -1)] h h27 := my_fr.tr gh21 (frh27.mo rfl)
        have Ln_h27 : Ln h27 := Ln_ag (my_ag.fr frh27 rfl) Ln_h21
        show wp l rho (d + 6) 109 52 [(2, 0), (0, x1), (0, x2), (0, x3), (0, x4), (0, x5)] [(0, v28)] h27 Q
        refine w_goto (t := 56) gz_109_52 rfl ?_
        exact w_iret gz_109_56 gm_109 (k3 h27 (v28) (gh27) (by omega) (by omega) (by omega) (by omega) Ln_h27)
theorem c_ThroughWindow_barred {l : Launch} {rho : Nat → Int32} {d : Nat} {h : my_H} {Q : my_H → my_V → Prop} {x1 x2 x3 x4 x5 x6 : Int} (n_Ln : Ln h) (k0 : ∀ (h' : my_H), my_fr [(2, 15), (2, 16), (8, 0), (8, 1), (30, -1), (31, -1), (41, -1), (42, -1), (43, -1), (44, -1)] h h' → Ln h' → Q h' (0, (-1))) (k1 : ∀ (h' : my_H) (y : Int), my_fr [(2, 15), (2, 16), (8, 0), (8, 1), (30, -1), (31, -1), (41, -1), (42, -1), (43, -1), (44, -1)] h h' → 0 ≤ y → y ≤ 3 → 0 ≤ x1 → x1 ≤ 5 → 0 ≤ x2 → x2 ≤ 2 → 0 ≤ x6 → x6 ≤ 2 → Ln h' → Q h' (0, y)) : wp l rho (d + 6) 112 0 [(2, 0), (0, x1), (0, x2), (0, x3), (0, x4), (0, x5), (0, x6), (9, 0)] [] h Q := by
  refine w_aload_n gz_112_0 rfl ?_
  refine w_getX (v := 94) gz_112_1 is_0 rd_9 rfl (by decide) rfl ?_
  refine w_aload_n gz_112_4 rfl ?_
  refine w_getX (v := 7) gz_112_5 is_0 rd_9 rfl (by decide) rfl ?_
  refine w_iload_n gz_112_8 rfl ?_
  refine w_iload_n gz_112_9 rfl ?_
  refine w_iload_n gz_112_10 rfl ?_
  refine w_iload gz_112_11 rfl ?_
  refine w_iload gz_112_13 rfl ?_
  refine w_inv (k := 0) (as := [(0, x5), (0, x4), (0, x3), (0, x2), (0, x1), (2, 7)]) (r := []) (x := 94) (ls0 := [(2, 94), (2, 7), (0, x1), (0, x2), (0, x3), (0, x4), (0, x5)]) gz_112_15 gm_87 rfl is_94 rd_2 rfl rfl rfl rfl rfl (c_Desk_opens (d := d) (x1 := 7) (x2 := x1) (x3 := x2) (x4 := x3) (x5 := x4) (x6 := x5) is_7 n_Ln (fun h3 frh3 => ?_) (fun h4 frh4 w5 w6 w7 w8 w9 w10 xp11 xp12 xp13 xp14 xp15 => ?_))
  ·
    have gh3 : my_fr [(2, 15), (2, 16), (8, 0), (8, 1), (30, -1), (31, -1), (41, -1), (42, -1), (43, -1), (44, -1)] h h3 := my_fr.tr my_fr.rf (frh3.mo rfl)
    have Ln_h3 : Ln h3 := Ln_ag (my_ag.fr frh3 rfl) n_Ln
    show wp l rho (d + 6) 112 18 [(2, 0), (0, x1), (0, x2), (0, x3), (0, x4), (0, x5), (0, x6), (9, 0)] [(0, 0)] h3 Q
    refine w_ifeq (t := 42) gz_112_18 rfl (fun u16 => ?_) (fun u16 => by exfalso; omega)
    refine w_iconst gz_112_42 (by decide) ?_
    exact w_iret gz_112_43 gm_112 (k0 h3 (gh3) Ln_h3)
  ·
    have gh4 : my_fr [(2, 15), (2, 16), (8, 0), (8, 1), (30, -1), (31, -1), (41, -1), (42, -1), (43, -1), (44, -1)] h h4 := my_fr.tr my_fr.rf (frh4.mo rfl)
    have Ln_h4 : Ln h4 := Ln_ag (my_ag.fr frh4 rfl) n_Ln
    show wp l rho (d + 6) 112 18 [(2, 0), (0, x1), (0, x2), (0, x3), (0, x4), (0, x5), (0, x6), (9, 0)] [(0, 1)] h4 Q
    refine w_ifeq (t := 42) gz_112_18 rfl (fun u17 => by exfalso; omega) (fun u17 => ?_)
    refine w_aload_n gz_112_21 rfl ?_
    refine w_getX (v := 94) gz_112_22 is_0 rd_9 rfl (by decide) rfl ?_
    refine w_aload_n gz_112_25 rfl ?_
    refine w_getX (v := 7) gz_112_26 is_0 rd_9 rfl (by decide) rfl ?_
    refine w_iload_n gz_112_29 rfl ?_
    refine w_iload_n gz_112_30 rfl ?_
    refine w_iload_n gz_112_31 rfl ?_
    refine w_iload gz_112_32 rfl ?_
    refine w_iload gz_112_34 rfl ?_
    refine w_inv (k := 2) (as := [(0, x5), (0, x4), (0, x3), (0, x2), (0, x1), (2, 7)]) (r := []) (x := 94) (ls0 := [(2, 94), (2, 7), (0, x1), (0, x2), (0, x3), (0, x4), (0, x5), (9, 0), (9, 0)]) gz_112_36 gm_110 rfl is_94 rd_2 rfl rfl rfl rfl rfl (c_Desk_goesStraight (d := (d + 2)) (x1 := 7) (x2 := x1) (x3 := x2) (x4 := x3) (x5 := x4) (x6 := x5) is_7 (by omega) (by omega) (by omega) (by omega) (by first | assumption | omega) (by first | assumption | omega) (fun h20 frh20 => ?_) (fun h21 frh21 => ?_))
    ·
      have gh20 : my_fr [(2, 15), (2, 16), (8, 0), (8, 1), (30, -1), (31, -1), (41, -1), (42, -1), (43, -1), (44, -1)] h h20 := my_fr.tr gh4 (frh20.mo rfl)
      have Ln_h20 : Ln h20 := Ln_ag (my_ag.fr frh20 rfl) Ln_h4
      show wp l rho (d + 6) 112 39 [(2, 0), (0, x1), (0, x2), (0, x3), (0, x4), (0, x5), (0, x6), (9, 0)] [(0, 0)] h20 Q
      refine w_ifne (t := 44) gz_112_39 rfl (fun u22 => by exfalso; omega) (fun u22 => ?_)
      refine w_iconst gz_112_42 (by decide) ?_
      exact w_iret gz_112_43 gm_112 (k0 h20 (gh20) Ln_h20)
    ·
      have gh21 : my_fr [(2, 15), (2, 16), (8, 0), (8, 1), (30, -1), (31, -1), (41, -1), (42, -1), (43, -1), (44, -1)] h h21 := my_fr.tr gh4 (frh21.mo rfl)
      have Ln_h21 : Ln h21 := Ln_ag (my_ag.fr frh21 rfl) Ln_h4
      show wp l rho (d + 6) 112 39 [(2, 0), (0, x1), (0, x2), (0, x3), (0, x4), (0, x5), (0, x6), (9, 0)] [(0, 1)] h21 Q
      refine w_ifne (t := 44) gz_112_39 rfl (fun u23 => ?_) (fun u23 => by exfalso; omega)
      refine w_aload_n gz_112_44 rfl ?_
      refine w_getX (v := 1) gz_112_45 is_0 rd_9 rfl (by decide) rfl ?_
      refine w_aload_n gz_112_48 rfl ?_
      refine w_getX (v := 94) gz_112_49 is_0 rd_9 rfl (by decide) rfl ?_
      refine w_getX (v := 95) gz_112_52 is_94 rd_2 rfl (by decide) rfl ?_
      refine w_inv (k := 4) (as := [(2, 95)]) (r := []) (x := 1) (ls0 := [(2, 1), (2, 95), (9, 0), (9, 0), (9, 0), (9, 0)]) gz_112_55 gm_19 rfl is_1 rd_3 rfl rfl rfl rfl rfl (c_Laws_firstBroken (d := (d + 3)) (x1 := 95) is_95 ?_ (fun v27 w28 w29 => ?_))
      ·
        show wp l rho (d + 6) 112 58 [(2, 0), (0, x1), (0, x2), (0, x3), (0, x4), (0, x5), (0, x6), (9, 0)] [(0, (-1))] h21 Q
        refine w_istore (ls' := [(2, 0), (0, x1), (0, x2), (0, x3), (0, x4), (0, x5), (0, x6), (0, (-1))]) gz_112_58 gm_112 rfl rfl rfl ?_
        refine w_iload gz_112_60 rfl ?_
        refine w_iconst gz_112_62 (by decide) ?_
        refine w_icne (t := 68) gz_112_63 rfl (fun u30 => by exfalso; omega) (fun u30 => ?_)
        refine w_iconst gz_112_66 (by decide) ?_
        exact w_iret gz_112_67 gm_112 (k0 h21 (gh21) Ln_h21)
      ·
        show wp l rho (d + 6) 112 58 [(2, 0), (0, x1), (0, x2), (0, x3), (0, x4), (0, x5), (0, x6), (9, 0)] [(0, v27)] h21 Q
        refine w_istore (ls' := [(2, 0), (0, x1), (0, x2), (0, x3), (0, x4), (0, x5), (0, x6), (0, v27)]) gz_112_58 gm_112 rfl rfl rfl ?_
        refine w_iload gz_112_60 rfl ?_
        refine w_iconst gz_112_62 (by decide) ?_
        refine w_icne (t := 68) gz_112_63 rfl (fun u31 => ?_) (fun u31 => by exfalso; omega)
        refine w_iload gz_112_68 rfl ?_
        by_cases u32 : x6 = 0
        ·
          refine w_tswE (t := 96) gz_112_70 u32 (by decide) (by decide) rfl rfl ?_
          refine w_iload gz_112_96 rfl ?_
          refine w_iconst gz_112_98 (by decide) ?_
          refine w_idiv gz_112_99 (by omega) (by decide) ?_
          refine w_iconst gz_112_100 (by decide) ?_
          refine w_idiv gz_112_101 (by omega) (by decide) ?_
          exact w_iret gz_112_102 gm_112 (k1 h21 (((v27 / 4) / 4)) (gh21) (by omega) (by omega) (by omega) (by omega) (by omega) (by omega) (by omega) (by omega) Ln_h21)
        ·
          by_cases u33 : x6 = 1
          ·
            refine w_tswE (t := 103) gz_112_70 u33 (by decide) (by decide) rfl rfl ?_
            refine w_iload gz_112_103 rfl ?_
            refine w_iconst gz_112_105 (by decide) ?_
            refine w_idiv gz_112_106 (by omega) (by decide) ?_
            refine w_iconst gz_112_107 (by decide) ?_
            refine w_irem gz_112_108 (by omega) (by decide) ?_
            exact w_iret gz_112_109 gm_112 (k1 h21 (((v27 / 4) % 4)) (gh21) (by omega) (by omega) (by omega) (by omega) (by omega) (by omega) (by omega) (by omega) Ln_h21)
          ·
            by_cases u34 : x6 = 2
            ·
              refine w_tswE (t := 110) gz_112_70 u34 (by decide) (by decide) rfl rfl ?_
              refine w_iload gz_112_110 rfl ?_
              refine w_iconst gz_112_112 (by decide) ?_
              refine w_irem gz_112_113 (by omega) (by decide) ?_
              exact w_iret gz_112_114 gm_112 (k1 h21 ((v27 % 4)) (gh21) (by omega) (by omega) (by omega) (by omega) (by omega) (by omega) (by omega) (by omega) Ln_h21)
            ·
              refine w_tswD (t := 115) gz_112_70 (by omega) rfl ?_
              refine w_iconst gz_112_115 (by decide) ?_
              exact w_iret gz_112_116 gm_112 (k0 h21 (gh21) Ln_h21)
theorem c_Desk_putOn {l : Launch} {rho : Nat → Int32} {d : Nat} {h : my_H} {Q : my_H → my_V → Prop} {x1 x2 x3 x4 x5 x6 : Int} (t1 : my_is 6 x1) (n_Ln : Ln h) (k0 : ∀ (h' : my_H), my_fr [(2, 11), (2, 12), (2, 13), (2, 14), (2, 15), (2, 16), (7, 0), (7, 1), (7, 2), (7, 3), (7, 4), (7, 5), (8, 0), (8, 1), (30, -1), (31, -1), (41, -1), (42, -1), (43, -1), (44, -1)] h h' → Q h' (0, (-1))) (k1 : ∀ (h' : my_H) (y : Int), my_fr [(2, 11), (2, 12), (2, 13), (2, 14), (2, 15), (2, 16), (7, 0), (7, 1), (7, 2), (7, 3), (7, 4), (7, 5), (8, 0), (8, 1), (30, -1), (31, -1), (41, -1), (42, -1), (43, -1), (44, -1)] h h' → 0 ≤ x2 → x2 ≤ 5 → 0 ≤ x3 → x3 ≤ 2 → (-1) ≤ h' 94 12 → h' 94 12 ≤ 2147483647 → Q h' (0, y)) : wp l rho (d + 6) 114 0 [(2, 94), (2, x1), (0, x2), (0, x3), (0, x4), (0, x5), (0, x6)] [] h Q := by
  refine w_aload_n gz_114_0 rfl ?_
  refine w_aload_n gz_114_1 rfl ?_
  refine w_iload_n gz_114_2 rfl ?_
  refine w_iload_n gz_114_3 rfl ?_
  refine w_iload gz_114_4 rfl ?_
  refine w_iload gz_114_6 rfl ?_
  refine w_iload gz_114_8 rfl ?_
  refine w_inv (k := 0) (as := [(0, x6), (0, x5), (0, x4), (0, x3), (0, x2), (2, x1)]) (r := []) (x := 94) (ls0 := [(2, 94), (2, x1), (0, x2), (0, x3), (0, x4), (0, x5), (0, x6)]) gz_114_10 gm_87 rfl is_94 rd_2 rfl rfl rfl rfl rfl (c_Desk_opens (d := d) (x1 := x1) (x2 := x2) (x3 := x3) (x4 := x4) (x5 := x5) (x6 := x6) t1 n_Ln (fun h1 frh1 => ?_) (fun h2 frh2 w3 w4 w5 w6 w7 w8 xp9 xp10 xp11 xp12 xp13 => ?_))
  ·
    have gh1 : my_fr [(2, 11), (2, 12), (2, 13), (2, 14), (2, 15), (2, 16), (7, 0), (7, 1), (7, 2), (7, 3), (7, 4), (7, 5), (8, 0), (8, 1), (30, -1), (31, -1), (41, -1), (42, -1), (43, -1), (44, -1)] h h1 := my_fr.tr my_fr.rf (frh1.mo rfl)
    have Ln_h1 : Ln h1 := Ln_ag (my_ag.fr frh1 rfl) n_Ln
    show wp l rho (d + 6) 114 13 [(2, 94), (2, x1), (0, x2), (0, x3), (0, x4), (0, x5), (0, x6)] [(0, 0)] h1 Q
    refine w_ifne (t := 18) gz_114_13 rfl (fun u14 => by exfalso; omega) (fun u14 => ?_)
    refine w_iconst gz_114_16 (by decide) ?_
    exact w_iret gz_114_17 gm_114 (k0 h1 (gh1))
  ·
    have gh2 : my_fr [(2, 11), (2, 12), (2, 13), (2, 14), (2, 15), (2, 16), (7, 0), (7, 1), (7, 2), (7, 3), (7, 4), (7, 5), (8, 0), (8, 1), (30, -1), (31, -1), (41, -1), (42, -1), (43, -1), (44, -1)] h h2 := my_fr.tr my_fr.rf (frh2.mo rfl)
    have Ln_h2 : Ln h2 := Ln_ag (my_ag.fr frh2 rfl) n_Ln
    show wp l rho (d + 6) 114 13 [(2, 94), (2, x1), (0, x2), (0, x3), (0, x4), (0, x5), (0, x6)] [(0, 1)] h2 Q
    refine w_ifne (t := 18) gz_114_13 rfl (fun u15 => ?_) (fun u15 => by exfalso; omega)
    refine w_aload_n gz_114_18 rfl ?_
    refine w_aload_n gz_114_19 rfl ?_
    refine w_iload_n gz_114_20 rfl ?_
    refine w_iconst gz_114_21 (by decide) ?_
    refine w_iconst gz_114_22 (by decide) ?_
    refine w_inv (k := 2) (as := [(0, 1), (0, (-1)), (0, x2), (2, x1)]) (r := []) (x := 94) (ls0 := [(2, 94), (2, x1), (0, x2), (0, (-1)), (0, 1), (9, 0), (9, 0)]) gz_114_23 gm_92 rfl is_94 rd_2 rfl rfl rfl rfl rfl (c_Desk_search (d := d) (x1 := x1) (x2 := x2) (x3 := (-1)) (x4 := 1) t1 (by omega) (by omega) (by omega) (by omega) (by omega) Ln_h2 (by first | assumption | omega) (by first | assumption | omega) (fun h16 frh16 w17 w18 w19 w20 Lst_h16t21 => ?_))
    have gh16 : my_fr [(2, 11), (2, 12), (2, 13), (2, 14), (2, 15), (2, 16), (7, 0), (7, 1), (7, 2), (7, 3), (7, 4), (7, 5), (8, 0), (8, 1), (30, -1), (31, -1), (41, -1), (42, -1), (43, -1), (44, -1)] h h16 := my_fr.tr gh2 (frh16.mo rfl)
    have Ln_h16 : Ln h16 := Ln_ag (my_ag.fr frh16 rfl) Ln_h2
    show wp l rho (d + 6) 114 26 [(2, 94), (2, x1), (0, x2), (0, x3), (0, x4), (0, x5), (0, x6)] [] h16 Q
    refine w_aload_n gz_114_26 rfl ?_
    refine w_getX (v := 112) gz_114_27 is_94 rd_2 rfl (by decide) rfl ?_
    refine v_getI (j := 1) gz_114_30 rfl is_112 rd_7 rfl (fun v23 ev23 pv23 qv23 => ?_)
    refine w_iconst gz_114_33 (by decide) ?_
    refine w_icne (t := 77) gz_114_34 rfl (fun u24 => ?_) (fun u24 => ?_)
    ·
      refine w_aload_n gz_114_77 rfl ?_
      refine w_getX (v := 112) gz_114_78 is_94 rd_2 rfl (by decide) rfl ?_
      refine v_getI (j := 1) gz_114_81 rfl is_112 rd_7 rfl (fun v26 ev26 pv26 qv26 => ?_)
      have zv26 := ev26.trans ev23.symm
      refine w_iconst gz_114_84 (by decide) ?_
      refine w_icne (t := 109) gz_114_85 rfl (fun u27 => ?_) (fun u27 => ?_)
      ·
        refine w_aload_n gz_114_109 rfl ?_
        refine w_getX (v := 112) gz_114_110 is_94 rd_2 rfl (by decide) rfl ?_
        refine v_getI (j := 1) gz_114_113 rfl is_112 rd_7 rfl (fun v29 ev29 pv29 qv29 => ?_)
        have zv29 := ev29.trans ev26.symm
        refine w_iconst gz_114_116 (by decide) ?_
        refine w_icne (t := 135) gz_114_117 rfl (fun u30 => ?_) (fun u30 => ?_)
        ·
          refine w_aload_n gz_114_135 rfl ?_
          refine w_getX (v := 112) gz_114_136 is_94 rd_2 rfl (by decide) rfl ?_
          refine v_getI (j := 0) gz_114_139 rfl is_112 rd_7 rfl (fun v32 ev32 pv32 qv32 => ?_)
          have c33 := (rfl : h16 94 12 = h16 94 12)
          exact w_iret gz_114_142 gm_114 (k1 h16 (v32) (gh16) (by omega) (by omega) (by omega) (by omega) (by omega) (by omega))
        ·
          have qL := Lst_h16t21; unfold Lst at qL
          refine w_aload_n gz_114_120 rfl ?_
          refine w_aload_n gz_114_121 rfl ?_
          refine w_getX (v := 112) gz_114_122 is_94 rd_2 rfl (by decide) rfl ?_
          refine v_getI (j := 2) gz_114_125 rfl is_112 rd_7 rfl (fun v35 ev35 pv35 qv35 => ?_)
          refine w_aload_n gz_114_128 rfl ?_
          refine w_getX (v := 110) gz_114_129 is_94 rd_2 rfl (by decide) rfl ?_
          have hi37 : 0 ≤ v35 := by omega
          have hi38 : v35 ≤ 2 := by omega
          refine w_inv (k := 0) (as := [(2, 110), (0, v35)]) (r := []) (x := x1) (ls0 := [(2, x1), (0, v35), (2, 110)]) gz_114_132 gm_16 rfl t1 rd_6 rfl rfl rfl rfl rfl ?_
          refine w_aload_n gz_16_0 rfl ?_
          refine w_iconst gz_16_1 (by decide) ?_
          refine w_aload_n gz_16_2 rfl ?_
          refine w_getX (v := (x1 + 1)) gz_16_3 t1 rd_6 rfl (by decide) rfl ?_
          refine w_iload_n gz_16_6 rfl ?_
          refine w_aload_n gz_16_7 rfl ?_
          refine w_iconst gz_16_8 (by decide) ?_
          refine w_iald gz_16_9 is_110 rd_41 (by omega) (by omega) (fun v40 ev40 pv40 qv40 => ?_)
          refine w_inS (k := 0) (as := [(0, v40), (0, v35)]) (r := [(2, (x1 + 1)), (0, 0), (2, 110)]) (ls0 := [(0, v35), (0, v40)]) gz_16_10 gm_17 rfl rfl rfl rfl rfl rfl ?_
          refine w_iload_n gz_17_0 rfl ?_
          refine w_bipush gz_17_1 (by decide) ?_
          refine w_imul gz_17_3 ⟨by omega, by omega⟩ ?_
          refine w_iload_n gz_17_4 rfl ?_
          refine w_iadd gz_17_5 ⟨by omega, by omega⟩ ?_
          refine w_iconst gz_17_6 (by decide) ?_
          refine w_imul gz_17_7 ⟨by omega, by omega⟩ ?_
          refine w_iret gz_17_8 gm_17 ?_
          show wp l rho (d + 5) 16 13 [(2, x1), (0, v35), (2, 110)] [(0, (((v35 * 20) + v40) * 4)), (2, (x1 + 1)), (0, 0), (2, 110)] h16 _
          refine w_iconst gz_16_13 (by decide) ?_
          refine w_cpU gz_16_14 is_110 rd_41 (ix_6_1 t1) rd_30 (by omega) (by omega) (by omega) (by omega) (by omega) rfl (by decide) (by decide) (fun h41 fh41 => ?_)
          have gh41 : my_fr [(2, 11), (2, 12), (2, 13), (2, 14), (2, 15), (2, 16), (7, 0), (7, 1), (7, 2), (7, 3), (7, 4), (7, 5), (8, 0), (8, 1), (30, -1), (31, -1), (41, -1), (42, -1), (43, -1), (44, -1)] h h41 := my_fr.cp gh16 (ix_6_1 t1) fh41 rfl
          have Ln_h41 : Ln h41 := Ln_ag (my_ag.cp fh41 (ix_6_1 t1) rfl) Ln_h16
          have Lst_h41 : Lst h41 := Lst_ag (my_ag.cp fh41 (ix_6_1 t1) rfl) Lst_h16t21
          refine w_aload_n gz_16_17 rfl ?_
          refine w_getX (v := (x1 + 2)) gz_16_18 t1 rd_6 rfl (by decide) rfl ?_
          refine w_iload_n gz_16_21 rfl ?_
          refine w_dup2 gz_16_22 rfl rfl ?_
          refine w_iald gz_16_23 (ix_6_2 t1) rd_31 (by omega) (by omega) (fun v43 ev43 pv43 qv43 => ?_)
          refine w_iconst gz_16_24 (by decide) ?_
          refine w_ianyA gz_16_25 (fun v44 pv44 qv44 => ?_)
          refine w_iastA gz_16_26 (ix_6_2 t1) rd_31 (by omega) (by omega) (fun h45 fh45 => ?_)
          have gh45 : my_fr [(2, 11), (2, 12), (2, 13), (2, 14), (2, 15), (2, 16), (7, 0), (7, 1), (7, 2), (7, 3), (7, 4), (7, 5), (8, 0), (8, 1), (30, -1), (31, -1), (41, -1), (42, -1), (43, -1), (44, -1)] h h45 := my_fr.up gh41 (ix_6_2 t1) fh45 rfl
          have Ln_h45 : Ln h45 := Ln_ag (my_ag.up fh45 (ix_6_2 t1) rfl) Ln_h41
          have Lst_h45 : Lst h45 := Lst_ag (my_ag.up fh45 (ix_6_2 t1) rfl) Lst_h41
          refine w_vret gz_16_27 gm_16 ?_
          show wp l rho (d + 6) 114 135 [(2, 94), (2, x1), (0, x2), (0, x3), (0, x4), (0, x5), (0, x6)] [] h45 Q
          refine w_aload_n gz_114_135 rfl ?_
          refine w_getX (v := 112) gz_114_136 is_94 rd_2 rfl (by decide) rfl ?_
          refine v_getI (j := 0) gz_114_139 rfl is_112 rd_7 rfl (fun v47 ev47 pv47 qv47 => ?_)
          have c48 := ((my_up_role fh45 is_94 (ix_6_2 t1) rfl).trans ((my_cp_role fh41 is_94 (ix_6_1 t1) rfl).trans (rfl : h16 94 12 = h16 94 12)))
          exact w_iret gz_114_142 gm_114 (k1 h45 (v47) (gh45) (by omega) (by omega) (by omega) (by omega) (by omega) (by omega))
      ·
        have qL := Lst_h16t21; unfold Lst at qL
        refine w_aload_n gz_114_88 rfl ?_
        refine w_aload_n gz_114_89 rfl ?_
        refine w_getX (v := 112) gz_114_90 is_94 rd_2 rfl (by decide) rfl ?_
        refine v_getI (j := 2) gz_114_93 rfl is_112 rd_7 rfl (fun v50 ev50 pv50 qv50 => ?_)
        refine w_aload_n gz_114_96 rfl ?_
        refine w_getX (v := 112) gz_114_97 is_94 rd_2 rfl (by decide) rfl ?_
        refine v_getI (j := 3) gz_114_100 rfl is_112 rd_7 rfl (fun v52 ev52 pv52 qv52 => ?_)
        have hi53 : 0 ≤ v50 := by omega
        have hi54 : v50 ≤ 2 := by omega
        have hi55 : 0 ≤ v52 := by omega
        have hi56 : v52 ≤ 19 := by omega
        refine w_inv (k := 2) (as := [(0, v52), (0, v50)]) (r := []) (x := x1) (ls0 := [(2, x1), (0, v50), (0, v52), (9, 0), (9, 0)]) gz_114_103 gm_23 rfl t1 rd_6 rfl rfl rfl rfl rfl (c_Rows_drop (d := (d + 4)) (x0 := x1) (x1 := v50) (x2 := v52) t1 (by omega) (by omega) (by omega) (by omega) (fun h57 frh57 fxh57 => ?_))
        have gh57 : my_fr [(2, 11), (2, 12), (2, 13), (2, 14), (2, 15), (2, 16), (7, 0), (7, 1), (7, 2), (7, 3), (7, 4), (7, 5), (8, 0), (8, 1), (30, -1), (31, -1), (41, -1), (42, -1), (43, -1), (44, -1)] h h57 := my_fr.tr gh16 (frh57.mo rfl)
        have Ln_h57 : Ln h57 := Ln_ag (my_ag.fr frh57 rfl) Ln_h16
        have Lst_h57 : Lst h57 := Lst_ag (my_ag.fr frh57 rfl) Lst_h16t21
        show wp l rho (d + 6) 114 106 [(2, 94), (2, x1), (0, x2), (0, x3), (0, x4), (0, x5), (0, x6)] [] h57 Q
        refine w_goto (t := 135) gz_114_106 rfl ?_
        refine w_aload_n gz_114_135 rfl ?_
        refine w_getX (v := 112) gz_114_136 is_94 rd_2 rfl (by decide) rfl ?_
        refine v_getI (j := 0) gz_114_139 rfl is_112 rd_7 rfl (fun v59 ev59 pv59 qv59 => ?_)
        have c60 := ((my_fr.at frh57 is_94 rfl).trans (rfl : h16 94 12 = h16 94 12))
        exact w_iret gz_114_142 gm_114 (k1 h57 (v59) (gh57) (by omega) (by omega) (by omega) (by omega) (by omega) (by omega))
    ·
      have qL := Lst_h16t21; unfold Lst at qL
      refine w_aload_n gz_114_37 rfl ?_
      refine w_getX (v := (x1 + 1)) gz_114_38 t1 rd_6 rfl (by decide) rfl ?_
      refine w_aload_n gz_114_41 rfl ?_
      refine w_getX (v := 112) gz_114_42 is_94 rd_2 rfl (by decide) rfl ?_
      refine v_getI (j := 2) gz_114_45 rfl is_112 rd_7 rfl (fun v63 ev63 pv63 qv63 => ?_)
      refine w_aload_n gz_114_48 rfl ?_
      refine w_getX (v := 112) gz_114_49 is_94 rd_2 rfl (by decide) rfl ?_
      refine v_getI (j := 3) gz_114_52 rfl is_112 rd_7 rfl (fun v65 ev65 pv65 qv65 => ?_)
      have hi66 : 0 ≤ v63 := by omega
      have hi67 : v63 ≤ 2 := by omega
      have hi68 : 0 ≤ v65 := by omega
      have hi69 : v65 ≤ 19 := by omega
      refine w_inS (k := 0) (as := [(0, v65), (0, v63)]) (r := [(2, (x1 + 1))]) (ls0 := [(0, v63), (0, v65)]) gz_114_55 gm_17 rfl rfl rfl rfl rfl rfl ?_
      refine w_iload_n gz_17_0 rfl ?_
      refine w_bipush gz_17_1 (by decide) ?_
      refine w_imul gz_17_3 ⟨by omega, by omega⟩ ?_
      refine w_iload_n gz_17_4 rfl ?_
      refine w_iadd gz_17_5 ⟨by omega, by omega⟩ ?_
      refine w_iconst gz_17_6 (by decide) ?_
      refine w_imul gz_17_7 ⟨by omega, by omega⟩ ?_
      refine w_iret gz_17_8 gm_17 ?_
      show wp l rho (d + 6) 114 58 [(2, 94), (2, x1), (0, x2), (0, x3), (0, x4), (0, x5), (0, x6)] [(0, (((v63 * 20) + v65) * 4)), (2, (x1 + 1))] h16 Q
      refine w_aload_n gz_114_58 rfl ?_
      refine w_getX (v := 112) gz_114_59 is_94 rd_2 rfl (by decide) rfl ?_
      refine v_getI (j := 4) gz_114_62 rfl is_112 rd_7 rfl (fun v71 ev71 pv71 qv71 => ?_)
      have hi72 : 0 ≤ v71 := by omega
      have hi73 : v71 ≤ 3 := by omega
      refine w_iadd gz_114_65 ⟨by omega, by omega⟩ ?_
      refine w_aload_n gz_114_66 rfl ?_
      refine w_getX (v := 112) gz_114_67 is_94 rd_2 rfl (by decide) rfl ?_
      refine v_getI (j := 5) gz_114_70 rfl is_112 rd_7 rfl (fun v75 ev75 pv75 qv75 => ?_)
      have hi76 : 0 ≤ v75 := by omega
      have hi77 : v75 ≤ 19 := by omega
      refine w_iast gz_114_73 (ix_6_1 t1) rd_30 (by omega) (by omega) (by omega) (by omega) (fun h78 fh78 => ?_)
      have gh78 : my_fr [(2, 11), (2, 12), (2, 13), (2, 14), (2, 15), (2, 16), (7, 0), (7, 1), (7, 2), (7, 3), (7, 4), (7, 5), (8, 0), (8, 1), (30, -1), (31, -1), (41, -1), (42, -1), (43, -1), (44, -1)] h h78 := my_fr.up gh16 (ix_6_1 t1) fh78 rfl
      have Ln_h78 : Ln h78 := Ln_ag (my_ag.up fh78 (ix_6_1 t1) rfl) Ln_h16
      have Lst_h78 : Lst h78 := Lst_ag (my_ag.up fh78 (ix_6_1 t1) rfl) Lst_h16t21
      refine w_goto (t := 135) gz_114_74 rfl ?_
      refine w_aload_n gz_114_135 rfl ?_
      refine w_getX (v := 112) gz_114_136 is_94 rd_2 rfl (by decide) rfl ?_
      refine v_getI (j := 0) gz_114_139 rfl is_112 rd_7 rfl (fun v80 ev80 pv80 qv80 => ?_)
      have c81 := ((my_up_role fh78 is_94 (ix_6_1 t1) rfl).trans (rfl : h16 94 12 = h16 94 12))
      exact w_iret gz_114_142 gm_114 (k1 h78 (v80) (gh78) (by omega) (by omega) (by omega) (by omega) (by omega) (by omega))
theorem c_ThroughWindow_twice {l : Launch} {rho : Nat → Int32} {d : Nat} {h : my_H} {Q : my_H → my_V → Prop} {x1 x2 x3 x4 x5 : Int} (n_Ln : Ln h) (k0 : ∀ (h' : my_H), my_fr [(2, 11), (2, 12), (2, 13), (2, 14), (2, 15), (2, 16), (7, 0), (7, 1), (7, 2), (7, 3), (7, 4), (7, 5), (8, 0), (8, 1), (30, -1), (31, -1), (41, -1), (42, -1), (43, -1), (44, -1)] h h' → Ln h' → Q h' (0, (-1))) (k1 : ∀ (h' : my_H), my_fr [(2, 11), (2, 12), (2, 13), (2, 14), (2, 15), (2, 16), (7, 0), (7, 1), (7, 2), (7, 3), (7, 4), (7, 5), (8, 0), (8, 1), (30, -1), (31, -1), (41, -1), (42, -1), (43, -1), (44, -1)] h h' → 0 ≤ x1 → x1 ≤ 5 → Ln h' → Q h' (0, 0)) (k2 : ∀ (h' : my_H), my_fr [(2, 11), (2, 12), (2, 13), (2, 14), (2, 15), (2, 16), (7, 0), (7, 1), (7, 2), (7, 3), (7, 4), (7, 5), (8, 0), (8, 1), (30, -1), (31, -1), (41, -1), (42, -1), (43, -1), (44, -1)] h h' → 0 ≤ x1 → x1 ≤ 5 → Ln h' → Q h' (0, 1)) : wp l rho (d + 7) 115 0 [(2, 0), (0, x1), (0, x2), (0, x3), (0, x4), (0, x5), (9, 0)] [] h Q := by
  have J131_0 : ∀ (h131_0 : my_H), my_fr [(2, 11), (2, 12), (2, 13), (2, 14), (2, 15), (2, 16), (7, 0), (7, 1), (7, 2), (7, 3), (7, 4), (7, 5), (8, 0), (8, 1), (30, -1), (31, -1), (41, -1), (42, -1), (43, -1), (44, -1)] h h131_0 → 0 ≤ x1 → x1 ≤ 5 → Ln h131_0 → wp l rho (d + 7) 115 131 [(2, 0), (0, x1), (0, x2), (0, x3), (0, x4), (0, x5), (9, 0)] [] h131_0 Q := by
    intro h131_0 gh_131_0 q0_131_0 q1_131_0 n_Ln_131_0
    refine w_iconst gz_115_131 (by decide) ?_
    refine w_istore (ls' := [(2, 0), (0, x1), (0, x2), (0, x3), (0, x4), (0, x5), (0, 0)]) gz_115_132 gm_115 rfl rfl rfl ?_
    refine w_iload gz_115_134 rfl ?_
    refine w_ifeq (t := 157) gz_115_136 rfl (fun u1 => ?_) (fun u1 => by exfalso; omega)
    refine w_iconst gz_115_157 (by decide) ?_
    exact w_iret gz_115_158 gm_115 (k1 h131_0 (gh_131_0) (by omega) (by omega) n_Ln_131_0)
  refine w_aload_n gz_115_0 rfl ?_
  refine w_getX (v := 94) gz_115_1 is_0 rd_9 rfl (by decide) rfl ?_
  refine w_aload_n gz_115_4 rfl ?_
  refine w_getX (v := 7) gz_115_5 is_0 rd_9 rfl (by decide) rfl ?_
  refine w_iload_n gz_115_8 rfl ?_
  refine w_iconst gz_115_9 (by decide) ?_
  refine w_iload_n gz_115_10 rfl ?_
  refine w_iload_n gz_115_11 rfl ?_
  refine w_iload gz_115_12 rfl ?_
  refine w_inv (k := 0) (as := [(0, x4), (0, x3), (0, x2), (0, 0), (0, x1), (2, 7)]) (r := []) (x := 94) (ls0 := [(2, 94), (2, 7), (0, x1), (0, 0), (0, x2), (0, x3), (0, x4)]) gz_115_14 gm_87 rfl is_94 rd_2 rfl rfl rfl rfl rfl (c_Desk_opens (d := (d + 1)) (x1 := 7) (x2 := x1) (x3 := 0) (x4 := x2) (x5 := x3) (x6 := x4) is_7 n_Ln (fun h4 frh4 => ?_) (fun h5 frh5 w6 w7 w8 w9 w10 w11 xp12 xp13 xp14 xp15 xp16 => ?_))
  ·
    have gh4 : my_fr [(2, 11), (2, 12), (2, 13), (2, 14), (2, 15), (2, 16), (7, 0), (7, 1), (7, 2), (7, 3), (7, 4), (7, 5), (8, 0), (8, 1), (30, -1), (31, -1), (41, -1), (42, -1), (43, -1), (44, -1)] h h4 := my_fr.tr my_fr.rf (frh4.mo rfl)
    have Ln_h4 : Ln h4 := Ln_ag (my_ag.fr frh4 rfl) n_Ln
    show wp l rho (d + 7) 115 17 [(2, 0), (0, x1), (0, x2), (0, x3), (0, x4), (0, x5), (9, 0)] [(0, 0)] h4 Q
    refine w_ifeq (t := 40) gz_115_17 rfl (fun u17 => ?_) (fun u17 => by exfalso; omega)
    refine w_iconst gz_115_40 (by decide) ?_
    exact w_iret gz_115_41 gm_115 (k0 h4 (gh4) Ln_h4)
  ·
    have gh5 : my_fr [(2, 11), (2, 12), (2, 13), (2, 14), (2, 15), (2, 16), (7, 0), (7, 1), (7, 2), (7, 3), (7, 4), (7, 5), (8, 0), (8, 1), (30, -1), (31, -1), (41, -1), (42, -1), (43, -1), (44, -1)] h h5 := my_fr.tr my_fr.rf (frh5.mo rfl)
    have Ln_h5 : Ln h5 := Ln_ag (my_ag.fr frh5 rfl) n_Ln
    show wp l rho (d + 7) 115 17 [(2, 0), (0, x1), (0, x2), (0, x3), (0, x4), (0, x5), (9, 0)] [(0, 1)] h5 Q
    refine w_ifeq (t := 40) gz_115_17 rfl (fun u18 => by exfalso; omega) (fun u18 => ?_)
    refine w_aload_n gz_115_20 rfl ?_
    refine w_getX (v := 94) gz_115_21 is_0 rd_9 rfl (by decide) rfl ?_
    refine w_aload_n gz_115_24 rfl ?_
    refine w_getX (v := 7) gz_115_25 is_0 rd_9 rfl (by decide) rfl ?_
    refine w_iload_n gz_115_28 rfl ?_
    refine w_iconst gz_115_29 (by decide) ?_
    refine w_iload_n gz_115_30 rfl ?_
    refine w_iload_n gz_115_31 rfl ?_
    refine w_iload gz_115_32 rfl ?_
    refine w_inv (k := 0) (as := [(0, x5), (0, x3), (0, x2), (0, 0), (0, x1), (2, 7)]) (r := []) (x := 94) (ls0 := [(2, 94), (2, 7), (0, x1), (0, 0), (0, x2), (0, x3), (0, x5)]) gz_115_34 gm_87 rfl is_94 rd_2 rfl rfl rfl rfl rfl (c_Desk_opens (d := (d + 1)) (x1 := 7) (x2 := x1) (x3 := 0) (x4 := x2) (x5 := x3) (x6 := x5) is_7 Ln_h5 (fun h21 frh21 => ?_) (fun h22 frh22 w23 w24 w25 w26 w27 w28 xp29 xp30 xp31 xp32 xp33 => ?_))
    ·
      have gh21 : my_fr [(2, 11), (2, 12), (2, 13), (2, 14), (2, 15), (2, 16), (7, 0), (7, 1), (7, 2), (7, 3), (7, 4), (7, 5), (8, 0), (8, 1), (30, -1), (31, -1), (41, -1), (42, -1), (43, -1), (44, -1)] h h21 := my_fr.tr gh5 (frh21.mo rfl)
      have Ln_h21 : Ln h21 := Ln_ag (my_ag.fr frh21 rfl) Ln_h5
      show wp l rho (d + 7) 115 37 [(2, 0), (0, x1), (0, x2), (0, x3), (0, x4), (0, x5), (9, 0)] [(0, 0)] h21 Q
      refine w_ifne (t := 42) gz_115_37 rfl (fun u34 => by exfalso; omega) (fun u34 => ?_)
      refine w_iconst gz_115_40 (by decide) ?_
      exact w_iret gz_115_41 gm_115 (k0 h21 (gh21) Ln_h21)
    ·
      have gh22 : my_fr [(2, 11), (2, 12), (2, 13), (2, 14), (2, 15), (2, 16), (7, 0), (7, 1), (7, 2), (7, 3), (7, 4), (7, 5), (8, 0), (8, 1), (30, -1), (31, -1), (41, -1), (42, -1), (43, -1), (44, -1)] h h22 := my_fr.tr gh5 (frh22.mo rfl)
      have Ln_h22 : Ln h22 := Ln_ag (my_ag.fr frh22 rfl) Ln_h5
      show wp l rho (d + 7) 115 37 [(2, 0), (0, x1), (0, x2), (0, x3), (0, x4), (0, x5), (9, 0)] [(0, 1)] h22 Q
      refine w_ifne (t := 42) gz_115_37 rfl (fun u35 => ?_) (fun u35 => by exfalso; omega)
      refine w_aload_n gz_115_42 rfl ?_
      refine w_getX (v := 145) gz_115_43 is_0 rd_9 rfl (by decide) rfl ?_
      refine w_aload_n gz_115_46 rfl ?_
      refine w_getX (v := 7) gz_115_47 is_0 rd_9 rfl (by decide) rfl ?_
      refine w_inv (k := 0) (as := [(2, 7)]) (r := []) (x := 145) (ls0 := [(2, 145), (2, 7)]) gz_115_50 gm_25 rfl is_145 rd_6 rfl rfl rfl rfl rfl ?_
      refine w_aload_n gz_25_0 rfl ?_
      refine w_getX (v := 8) gz_25_1 is_7 rd_6 rfl (by decide) rfl ?_
      refine w_iconst gz_25_4 (by decide) ?_
      refine w_aload_n gz_25_5 rfl ?_
      refine w_getX (v := 146) gz_25_6 is_145 rd_6 rfl (by decide) rfl ?_
      refine w_iconst gz_25_9 (by decide) ?_
      refine w_aload_n gz_25_10 rfl ?_
      refine w_getX (v := 146) gz_25_11 is_145 rd_6 rfl (by decide) rfl ?_
      refine v_alen (j := 240) gz_25_14 rfl is_146 rd_30 (by decide) ?_
      refine w_cpU gz_25_15 is_8 rd_30 is_146 rd_30 (by omega) (by omega) (by omega) (by omega) (by omega) rfl (by decide) (by decide) (fun h41 fh41 => ?_)
      have gh41 : my_fr [(2, 11), (2, 12), (2, 13), (2, 14), (2, 15), (2, 16), (7, 0), (7, 1), (7, 2), (7, 3), (7, 4), (7, 5), (8, 0), (8, 1), (30, -1), (31, -1), (41, -1), (42, -1), (43, -1), (44, -1)] h h41 := my_fr.cp gh22 is_146 fh41 rfl
      have Ln_h41 : Ln h41 := Ln_ag (my_ag.cp fh41 is_146 rfl) Ln_h22
      refine w_aload_n gz_25_18 rfl ?_
      refine w_getX (v := 9) gz_25_19 is_7 rd_6 rfl (by decide) rfl ?_
      refine w_iconst gz_25_22 (by decide) ?_
      refine w_aload_n gz_25_23 rfl ?_
      refine w_getX (v := 147) gz_25_24 is_145 rd_6 rfl (by decide) rfl ?_
      refine w_iconst gz_25_27 (by decide) ?_
      refine w_aload_n gz_25_28 rfl ?_
      refine w_getX (v := 147) gz_25_29 is_145 rd_6 rfl (by decide) rfl ?_
      refine v_alen (j := 3) gz_25_32 rfl is_147 rd_31 (by decide) ?_
      refine w_cpU gz_25_33 is_9 rd_31 is_147 rd_31 (by omega) (by omega) (by omega) (by omega) (by omega) rfl (by decide) (by decide) (fun h45 fh45 => ?_)
      have gh45 : my_fr [(2, 11), (2, 12), (2, 13), (2, 14), (2, 15), (2, 16), (7, 0), (7, 1), (7, 2), (7, 3), (7, 4), (7, 5), (8, 0), (8, 1), (30, -1), (31, -1), (41, -1), (42, -1), (43, -1), (44, -1)] h h45 := my_fr.cp gh41 is_147 fh45 rfl
      have Ln_h45 : Ln h45 := Ln_ag (my_ag.cp fh45 is_147 rfl) Ln_h41
      refine w_vret gz_25_36 gm_25 ?_
      show wp l rho (d + 7) 115 53 [(2, 0), (0, x1), (0, x2), (0, x3), (0, x4), (0, x5), (9, 0)] [] h45 Q
      refine w_aload_n gz_115_53 rfl ?_
      refine w_getX (v := 148) gz_115_54 is_0 rd_9 rfl (by decide) rfl ?_
      refine w_aload_n gz_115_57 rfl ?_
      refine w_getX (v := 7) gz_115_58 is_0 rd_9 rfl (by decide) rfl ?_
      refine w_inv (k := 0) (as := [(2, 7)]) (r := []) (x := 148) (ls0 := [(2, 148), (2, 7)]) gz_115_61 gm_25 rfl is_148 rd_6 rfl rfl rfl rfl rfl ?_
      refine w_aload_n gz_25_0 rfl ?_
      refine w_getX (v := 8) gz_25_1 is_7 rd_6 rfl (by decide) rfl ?_
      refine w_iconst gz_25_4 (by decide) ?_
      refine w_aload_n gz_25_5 rfl ?_
      refine w_getX (v := 149) gz_25_6 is_148 rd_6 rfl (by decide) rfl ?_
      refine w_iconst gz_25_9 (by decide) ?_
      refine w_aload_n gz_25_10 rfl ?_
      refine w_getX (v := 149) gz_25_11 is_148 rd_6 rfl (by decide) rfl ?_
      refine v_alen (j := 240) gz_25_14 rfl is_149 rd_30 (by decide) ?_
      refine w_cpU gz_25_15 is_8 rd_30 is_149 rd_30 (by omega) (by omega) (by omega) (by omega) (by omega) rfl (by decide) (by decide) (fun h51 fh51 => ?_)
      have gh51 : my_fr [(2, 11), (2, 12), (2, 13), (2, 14), (2, 15), (2, 16), (7, 0), (7, 1), (7, 2), (7, 3), (7, 4), (7, 5), (8, 0), (8, 1), (30, -1), (31, -1), (41, -1), (42, -1), (43, -1), (44, -1)] h h51 := my_fr.cp gh45 is_149 fh51 rfl
      have Ln_h51 : Ln h51 := Ln_ag (my_ag.cp fh51 is_149 rfl) Ln_h45
      refine w_aload_n gz_25_18 rfl ?_
      refine w_getX (v := 9) gz_25_19 is_7 rd_6 rfl (by decide) rfl ?_
      refine w_iconst gz_25_22 (by decide) ?_
      refine w_aload_n gz_25_23 rfl ?_
      refine w_getX (v := 150) gz_25_24 is_148 rd_6 rfl (by decide) rfl ?_
      refine w_iconst gz_25_27 (by decide) ?_
      refine w_aload_n gz_25_28 rfl ?_
      refine w_getX (v := 150) gz_25_29 is_148 rd_6 rfl (by decide) rfl ?_
      refine v_alen (j := 3) gz_25_32 rfl is_150 rd_31 (by decide) ?_
      refine w_cpU gz_25_33 is_9 rd_31 is_150 rd_31 (by omega) (by omega) (by omega) (by omega) (by omega) rfl (by decide) (by decide) (fun h55 fh55 => ?_)
      have gh55 : my_fr [(2, 11), (2, 12), (2, 13), (2, 14), (2, 15), (2, 16), (7, 0), (7, 1), (7, 2), (7, 3), (7, 4), (7, 5), (8, 0), (8, 1), (30, -1), (31, -1), (41, -1), (42, -1), (43, -1), (44, -1)] h h55 := my_fr.cp gh51 is_150 fh55 rfl
      have Ln_h55 : Ln h55 := Ln_ag (my_ag.cp fh55 is_150 rfl) Ln_h51
      refine w_vret gz_25_36 gm_25 ?_
      show wp l rho (d + 7) 115 64 [(2, 0), (0, x1), (0, x2), (0, x3), (0, x4), (0, x5), (9, 0)] [] h55 Q
      refine w_aload_n gz_115_64 rfl ?_
      refine w_getX (v := 94) gz_115_65 is_0 rd_9 rfl (by decide) rfl ?_
      refine w_aload_n gz_115_68 rfl ?_
      refine w_getX (v := 145) gz_115_69 is_0 rd_9 rfl (by decide) rfl ?_
      refine w_iload_n gz_115_72 rfl ?_
      refine w_iconst gz_115_73 (by decide) ?_
      refine w_iload_n gz_115_74 rfl ?_
      refine w_iload_n gz_115_75 rfl ?_
      refine w_iload gz_115_76 rfl ?_
      refine w_inv (k := 0) (as := [(0, x4), (0, x3), (0, x2), (0, 0), (0, x1), (2, 145)]) (r := []) (x := 94) (ls0 := [(2, 94), (2, 145), (0, x1), (0, 0), (0, x2), (0, x3), (0, x4)]) gz_115_78 gm_114 rfl is_94 rd_2 rfl rfl rfl rfl rfl (c_Desk_putOn (d := d) (x1 := 145) (x2 := x1) (x3 := 0) (x4 := x2) (x5 := x3) (x6 := x4) is_145 Ln_h55 (fun h58 frh58 => ?_) (fun h59 v60 frh59 w61 w62 w63 w64 w65 w66 => ?_))
      ·
        have gh58 : my_fr [(2, 11), (2, 12), (2, 13), (2, 14), (2, 15), (2, 16), (7, 0), (7, 1), (7, 2), (7, 3), (7, 4), (7, 5), (8, 0), (8, 1), (30, -1), (31, -1), (41, -1), (42, -1), (43, -1), (44, -1)] h h58 := my_fr.tr gh55 (frh58.mo rfl)
        have Ln_h58 : Ln h58 := Ln_ag (my_ag.fr frh58 rfl) Ln_h55
        show wp l rho (d + 7) 115 81 [(2, 0), (0, x1), (0, x2), (0, x3), (0, x4), (0, x5), (9, 0)] [(0, (-1))] h58 Q
        refine w_iconst gz_115_81 (by decide) ?_
        refine w_iceq (t := 131) gz_115_82 rfl (fun u67 => ?_) (fun u67 => by exfalso; omega)
        exact J131_0 h58 (gh58) (by omega) (by omega) Ln_h58
      ·
        have gh59 : my_fr [(2, 11), (2, 12), (2, 13), (2, 14), (2, 15), (2, 16), (7, 0), (7, 1), (7, 2), (7, 3), (7, 4), (7, 5), (8, 0), (8, 1), (30, -1), (31, -1), (41, -1), (42, -1), (43, -1), (44, -1)] h h59 := my_fr.tr gh55 (frh59.mo rfl)
        have Ln_h59 : Ln h59 := Ln_ag (my_ag.fr frh59 rfl) Ln_h55
        show wp l rho (d + 7) 115 81 [(2, 0), (0, x1), (0, x2), (0, x3), (0, x4), (0, x5), (9, 0)] [(0, v60)] h59 Q
        refine w_iconst gz_115_81 (by decide) ?_
        refine w_iceq (t := 131) gz_115_82 rfl (fun u68 => ?_) (fun u68 => ?_)
        ·
          exact J131_0 h59 (gh59) (by omega) (by omega) Ln_h59
        ·
          refine w_aload_n gz_115_85 rfl ?_
          refine w_getX (v := 94) gz_115_86 is_0 rd_9 rfl (by decide) rfl ?_
          refine w_aload_n gz_115_89 rfl ?_
          refine w_getX (v := 145) gz_115_90 is_0 rd_9 rfl (by decide) rfl ?_
          refine w_iload_n gz_115_93 rfl ?_
          refine w_iconst gz_115_94 (by decide) ?_
          refine w_iload_n gz_115_95 rfl ?_
          refine w_iload_n gz_115_96 rfl ?_
          refine w_iload gz_115_97 rfl ?_
          refine w_inv (k := 0) (as := [(0, x5), (0, x3), (0, x2), (0, 0), (0, x1), (2, 145)]) (r := []) (x := 94) (ls0 := [(2, 94), (2, 145), (0, x1), (0, 0), (0, x2), (0, x3), (0, x5)]) gz_115_99 gm_114 rfl is_94 rd_2 rfl rfl rfl rfl rfl (c_Desk_putOn (d := d) (x1 := 145) (x2 := x1) (x3 := 0) (x4 := x2) (x5 := x3) (x6 := x5) is_145 Ln_h59 (fun h71 frh71 => ?_) (fun h72 v73 frh72 w74 w75 w76 w77 w78 w79 => ?_))
          ·
            have gh71 : my_fr [(2, 11), (2, 12), (2, 13), (2, 14), (2, 15), (2, 16), (7, 0), (7, 1), (7, 2), (7, 3), (7, 4), (7, 5), (8, 0), (8, 1), (30, -1), (31, -1), (41, -1), (42, -1), (43, -1), (44, -1)] h h71 := my_fr.tr gh59 (frh71.mo rfl)
            have Ln_h71 : Ln h71 := Ln_ag (my_ag.fr frh71 rfl) Ln_h59
            show wp l rho (d + 7) 115 102 [(2, 0), (0, x1), (0, x2), (0, x3), (0, x4), (0, x5), (9, 0)] [(0, (-1))] h71 Q
            refine w_iconst gz_115_102 (by decide) ?_
            refine w_iceq (t := 131) gz_115_103 rfl (fun u80 => ?_) (fun u80 => by exfalso; omega)
            exact J131_0 h71 (gh71) (by omega) (by omega) Ln_h71
          ·
            have gh72 : my_fr [(2, 11), (2, 12), (2, 13), (2, 14), (2, 15), (2, 16), (7, 0), (7, 1), (7, 2), (7, 3), (7, 4), (7, 5), (8, 0), (8, 1), (30, -1), (31, -1), (41, -1), (42, -1), (43, -1), (44, -1)] h h72 := my_fr.tr gh59 (frh72.mo rfl)
            have Ln_h72 : Ln h72 := Ln_ag (my_ag.fr frh72 rfl) Ln_h59
            show wp l rho (d + 7) 115 102 [(2, 0), (0, x1), (0, x2), (0, x3), (0, x4), (0, x5), (9, 0)] [(0, v73)] h72 Q
            refine w_iconst gz_115_102 (by decide) ?_
            refine w_iceq (t := 131) gz_115_103 rfl (fun u81 => ?_) (fun u81 => ?_)
            ·
              exact J131_0 h72 (gh72) (by omega) (by omega) Ln_h72
            ·
              refine w_aload_n gz_115_106 rfl ?_
              refine w_getX (v := 94) gz_115_107 is_0 rd_9 rfl (by decide) rfl ?_
              refine w_aload_n gz_115_110 rfl ?_
              refine w_getX (v := 148) gz_115_111 is_0 rd_9 rfl (by decide) rfl ?_
              refine w_iload_n gz_115_114 rfl ?_
              refine w_iconst gz_115_115 (by decide) ?_
              refine w_iload_n gz_115_116 rfl ?_
              refine w_iload_n gz_115_117 rfl ?_
              refine w_iload gz_115_118 rfl ?_
              refine w_inv (k := 0) (as := [(0, x5), (0, x3), (0, x2), (0, 0), (0, x1), (2, 148)]) (r := []) (x := 94) (ls0 := [(2, 94), (2, 148), (0, x1), (0, 0), (0, x2), (0, x3), (0, x5)]) gz_115_120 gm_114 rfl is_94 rd_2 rfl rfl rfl rfl rfl (c_Desk_putOn (d := d) (x1 := 148) (x2 := x1) (x3 := 0) (x4 := x2) (x5 := x3) (x6 := x5) is_148 Ln_h72 (fun h84 frh84 => ?_) (fun h85 v86 frh85 w87 w88 w89 w90 w91 w92 => ?_))
              ·
                have gh84 : my_fr [(2, 11), (2, 12), (2, 13), (2, 14), (2, 15), (2, 16), (7, 0), (7, 1), (7, 2), (7, 3), (7, 4), (7, 5), (8, 0), (8, 1), (30, -1), (31, -1), (41, -1), (42, -1), (43, -1), (44, -1)] h h84 := my_fr.tr gh72 (frh84.mo rfl)
                have Ln_h84 : Ln h84 := Ln_ag (my_ag.fr frh84 rfl) Ln_h72
                show wp l rho (d + 7) 115 123 [(2, 0), (0, x1), (0, x2), (0, x3), (0, x4), (0, x5), (9, 0)] [(0, (-1))] h84 Q
                refine w_iconst gz_115_123 (by decide) ?_
                refine w_iceq (t := 131) gz_115_124 rfl (fun u93 => ?_) (fun u93 => by exfalso; omega)
                exact J131_0 h84 (gh84) (by omega) (by omega) Ln_h84
              ·
                have gh85 : my_fr [(2, 11), (2, 12), (2, 13), (2, 14), (2, 15), (2, 16), (7, 0), (7, 1), (7, 2), (7, 3), (7, 4), (7, 5), (8, 0), (8, 1), (30, -1), (31, -1), (41, -1), (42, -1), (43, -1), (44, -1)] h h85 := my_fr.tr gh72 (frh85.mo rfl)
                have Ln_h85 : Ln h85 := Ln_ag (my_ag.fr frh85 rfl) Ln_h72
                show wp l rho (d + 7) 115 123 [(2, 0), (0, x1), (0, x2), (0, x3), (0, x4), (0, x5), (9, 0)] [(0, v86)] h85 Q
                refine w_iconst gz_115_123 (by decide) ?_
                refine w_iceq (t := 131) gz_115_124 rfl (fun u94 => ?_) (fun u94 => ?_)
                ·
                  exact J131_0 h85 (gh85) (by omega) (by omega) Ln_h85
                ·
                  refine w_iconst gz_115_127 (by decide) ?_
                  refine w_goto (t := 132) gz_115_128 rfl ?_
                  refine w_istore (ls' := [(2, 0), (0, x1), (0, x2), (0, x3), (0, x4), (0, x5), (0, 1)]) gz_115_132 gm_115 rfl rfl rfl ?_
                  refine w_iload gz_115_134 rfl ?_
                  refine w_ifeq (t := 157) gz_115_136 rfl (fun u95 => by exfalso; omega) (fun u95 => ?_)
                  refine w_aload_n gz_115_139 rfl ?_
                  refine w_getX (v := 145) gz_115_140 is_0 rd_9 rfl (by decide) rfl ?_
                  refine w_aload_n gz_115_143 rfl ?_
                  refine w_getX (v := 148) gz_115_144 is_0 rd_9 rfl (by decide) rfl ?_
                  refine w_inv (k := 1) (as := [(2, 148)]) (r := []) (x := 145) (ls0 := [(2, 145), (2, 148), (9, 0)]) gz_115_147 gm_116 rfl is_145 rd_6 rfl rfl rfl rfl rfl (c_Rows_same (d := (d + 6)) (x0 := 145) (x1 := 148) is_145 is_148 ?_ ?_)
                  ·
                    show wp l rho (d + 7) 115 150 [(2, 0), (0, x1), (0, x2), (0, x3), (0, x4), (0, x5), (0, 1)] [(0, 0)] h85 Q
                    refine w_ifeq (t := 157) gz_115_150 rfl (fun u98 => ?_) (fun u98 => by exfalso; omega)
                    refine w_iconst gz_115_157 (by decide) ?_
                    exact w_iret gz_115_158 gm_115 (k1 h85 (gh85) (by omega) (by omega) Ln_h85)
                  ·
                    show wp l rho (d + 7) 115 150 [(2, 0), (0, x1), (0, x2), (0, x3), (0, x4), (0, x5), (0, 1)] [(0, 1)] h85 Q
                    refine w_ifeq (t := 157) gz_115_150 rfl (fun u99 => by exfalso; omega) (fun u99 => ?_)
                    refine w_iconst gz_115_153 (by decide) ?_
                    refine w_goto (t := 158) gz_115_154 rfl ?_
                    exact w_iret gz_115_158 gm_115 (k2 h85 (gh85) (by omega) (by omega) Ln_h85)
theorem c_ThroughWindow_back {l : Launch} {rho : Nat → Int32} {d : Nat} {h : my_H} {Q : my_H → my_V → Prop} {x1 x2 x3 x4 : Int} (n_Ln : Ln h) (k0 : ∀ (h' : my_H), my_fr [(2, 11), (2, 12), (2, 13), (2, 14), (2, 15), (2, 16), (7, 0), (7, 1), (7, 2), (7, 3), (7, 4), (7, 5), (8, 0), (8, 1), (30, -1), (31, -1), (41, -1), (42, -1), (43, -1), (44, -1)] h h' → Ln h' → Q h' (0, (-1))) (k1 : ∀ (h' : my_H), my_fr [(2, 11), (2, 12), (2, 13), (2, 14), (2, 15), (2, 16), (7, 0), (7, 1), (7, 2), (7, 3), (7, 4), (7, 5), (8, 0), (8, 1), (30, -1), (31, -1), (41, -1), (42, -1), (43, -1), (44, -1)] h h' → 0 ≤ x1 → x1 ≤ 5 → 0 ≤ x2 → x2 ≤ 9 → 0 ≤ x3 → x3 ≤ 7 → Ln h' → Q h' (0, 0)) (k2 : ∀ (h' : my_H), my_fr [(2, 11), (2, 12), (2, 13), (2, 14), (2, 15), (2, 16), (7, 0), (7, 1), (7, 2), (7, 3), (7, 4), (7, 5), (8, 0), (8, 1), (30, -1), (31, -1), (41, -1), (42, -1), (43, -1), (44, -1)] h h' → 0 ≤ x1 → x1 ≤ 5 → 0 ≤ x2 → x2 ≤ 9 → 0 ≤ x3 → x3 ≤ 7 → Ln h' → Q h' (0, 1)) : wp l rho (d + 7) 117 0 [(2, 0), (0, x1), (0, x2), (0, x3), (0, x4), (9, 0), (9, 0)] [] h Q := by
  have J93_0 : ∀ (p93_0 : Int) (h93_0 : my_H), my_fr [(2, 11), (2, 12), (2, 13), (2, 14), (2, 15), (2, 16), (7, 0), (7, 1), (7, 2), (7, 3), (7, 4), (7, 5), (8, 0), (8, 1), (30, -1), (31, -1), (41, -1), (42, -1), (43, -1), (44, -1)] h h93_0 → 0 ≤ x1 → x1 ≤ 5 → 0 ≤ x2 → x2 ≤ 9 → 0 ≤ x3 → x3 ≤ 7 → Ln h93_0 → wp l rho (d + 7) 117 93 [(2, 0), (0, x1), (0, x2), (0, x3), (0, x4), (0, p93_0), (9, 0)] [] h93_0 Q := by
    intro p93_0 h93_0 gh_93_0 q0_93_0 q1_93_0 q2_93_0 q3_93_0 q4_93_0 q5_93_0 n_Ln_93_0
    refine w_iconst gz_117_93 (by decide) ?_
    refine w_istore (ls' := [(2, 0), (0, x1), (0, x2), (0, x3), (0, x4), (0, p93_0), (0, 0)]) gz_117_94 gm_117 rfl rfl rfl ?_
    refine w_iload gz_117_96 rfl ?_
    refine w_ifeq (t := 119) gz_117_98 rfl (fun u1 => ?_) (fun u1 => by exfalso; omega)
    refine w_iconst gz_117_119 (by decide) ?_
    exact w_iret gz_117_120 gm_117 (k1 h93_0 (gh_93_0) (by omega) (by omega) (by omega) (by omega) (by omega) (by omega) n_Ln_93_0)
  refine w_aload_n gz_117_0 rfl ?_
  refine w_getX (v := 94) gz_117_1 is_0 rd_9 rfl (by decide) rfl ?_
  refine w_aload_n gz_117_4 rfl ?_
  refine w_getX (v := 7) gz_117_5 is_0 rd_9 rfl (by decide) rfl ?_
  refine w_iload_n gz_117_8 rfl ?_
  refine w_iconst gz_117_9 (by decide) ?_
  refine w_iload_n gz_117_10 rfl ?_
  refine w_iload_n gz_117_11 rfl ?_
  refine w_iload gz_117_12 rfl ?_
  refine w_inv (k := 0) (as := [(0, x4), (0, x3), (0, x2), (0, 0), (0, x1), (2, 7)]) (r := []) (x := 94) (ls0 := [(2, 94), (2, 7), (0, x1), (0, 0), (0, x2), (0, x3), (0, x4)]) gz_117_14 gm_87 rfl is_94 rd_2 rfl rfl rfl rfl rfl (c_Desk_opens (d := (d + 1)) (x1 := 7) (x2 := x1) (x3 := 0) (x4 := x2) (x5 := x3) (x6 := x4) is_7 n_Ln (fun h4 frh4 => ?_) (fun h5 frh5 w6 w7 w8 w9 w10 w11 xp12 xp13 xp14 xp15 xp16 => ?_))
  ·
    have gh4 : my_fr [(2, 11), (2, 12), (2, 13), (2, 14), (2, 15), (2, 16), (7, 0), (7, 1), (7, 2), (7, 3), (7, 4), (7, 5), (8, 0), (8, 1), (30, -1), (31, -1), (41, -1), (42, -1), (43, -1), (44, -1)] h h4 := my_fr.tr my_fr.rf (frh4.mo rfl)
    have Ln_h4 : Ln h4 := Ln_ag (my_ag.fr frh4 rfl) n_Ln
    show wp l rho (d + 7) 117 17 [(2, 0), (0, x1), (0, x2), (0, x3), (0, x4), (9, 0), (9, 0)] [(0, 0)] h4 Q
    refine w_ifne (t := 22) gz_117_17 rfl (fun u17 => by exfalso; omega) (fun u17 => ?_)
    refine w_iconst gz_117_20 (by decide) ?_
    exact w_iret gz_117_21 gm_117 (k0 h4 (gh4) Ln_h4)
  ·
    have gh5 : my_fr [(2, 11), (2, 12), (2, 13), (2, 14), (2, 15), (2, 16), (7, 0), (7, 1), (7, 2), (7, 3), (7, 4), (7, 5), (8, 0), (8, 1), (30, -1), (31, -1), (41, -1), (42, -1), (43, -1), (44, -1)] h h5 := my_fr.tr my_fr.rf (frh5.mo rfl)
    have Ln_h5 : Ln h5 := Ln_ag (my_ag.fr frh5 rfl) n_Ln
    show wp l rho (d + 7) 117 17 [(2, 0), (0, x1), (0, x2), (0, x3), (0, x4), (9, 0), (9, 0)] [(0, 1)] h5 Q
    refine w_ifne (t := 22) gz_117_17 rfl (fun u18 => ?_) (fun u18 => by exfalso; omega)
    have hi19 : 0 ≤ x2 := by omega
    have hi20 : x2 ≤ 9 := by omega
    have hi21 : 0 ≤ x3 := by omega
    have hi22 : x3 ≤ 7 := by omega
    refine w_aload_n gz_117_22 rfl ?_
    refine w_getX (v := 94) gz_117_23 is_0 rd_9 rfl (by decide) rfl ?_
    refine w_getX (v := 98) gz_117_26 is_94 rd_2 rfl (by decide) rfl ?_
    refine w_iload_n gz_117_29 rfl ?_
    refine w_iload_n gz_117_30 rfl ?_
    refine w_inv (k := 0) (as := [(0, x3), (0, x2)]) (r := []) (x := 98) (ls0 := [(2, 98), (0, x2), (0, x3)]) gz_117_31 gm_74 rfl is_98 rd_8 rfl rfl rfl rfl rfl ?_
    refine w_aload_n gz_74_0 rfl ?_
    refine w_getX (v := 99) gz_74_1 is_98 rd_8 rfl (by decide) rfl ?_
    refine w_iload_n gz_74_4 rfl ?_
    refine w_bipush gz_74_5 (by decide) ?_
    refine w_imul gz_74_7 ⟨by omega, by omega⟩ ?_
    refine w_iload_n gz_74_8 rfl ?_
    refine w_iadd gz_74_9 ⟨by omega, by omega⟩ ?_
    refine w_gldA gz_74_10 is_99 rd_42 (by omega) (by omega) (fun v26 ev26 pv26 qv26 => ?_)
    refine w_iret gz_74_11 gm_74 ?_
    show wp l rho (d + 7) 117 34 [(2, 0), (0, x1), (0, x2), (0, x3), (0, x4), (9, 0), (9, 0)] [(0, v26)] h5 Q
    refine w_istore (ls' := [(2, 0), (0, x1), (0, x2), (0, x3), (0, x4), (0, v26), (9, 0)]) gz_117_34 gm_117 rfl rfl rfl ?_
    refine w_aload_n gz_117_36 rfl ?_
    refine w_getX (v := 145) gz_117_37 is_0 rd_9 rfl (by decide) rfl ?_
    refine w_aload_n gz_117_40 rfl ?_
    refine w_getX (v := 7) gz_117_41 is_0 rd_9 rfl (by decide) rfl ?_
    refine w_inv (k := 0) (as := [(2, 7)]) (r := []) (x := 145) (ls0 := [(2, 145), (2, 7)]) gz_117_44 gm_25 rfl is_145 rd_6 rfl rfl rfl rfl rfl ?_
    refine w_aload_n gz_25_0 rfl ?_
    refine w_getX (v := 8) gz_25_1 is_7 rd_6 rfl (by decide) rfl ?_
    refine w_iconst gz_25_4 (by decide) ?_
    refine w_aload_n gz_25_5 rfl ?_
    refine w_getX (v := 146) gz_25_6 is_145 rd_6 rfl (by decide) rfl ?_
    refine w_iconst gz_25_9 (by decide) ?_
    refine w_aload_n gz_25_10 rfl ?_
    refine w_getX (v := 146) gz_25_11 is_145 rd_6 rfl (by decide) rfl ?_
    refine v_alen (j := 240) gz_25_14 rfl is_146 rd_30 (by decide) ?_
    refine w_cpU gz_25_15 is_8 rd_30 is_146 rd_30 (by omega) (by omega) (by omega) (by omega) (by omega) rfl (by decide) (by decide) (fun h32 fh32 => ?_)
    have gh32 : my_fr [(2, 11), (2, 12), (2, 13), (2, 14), (2, 15), (2, 16), (7, 0), (7, 1), (7, 2), (7, 3), (7, 4), (7, 5), (8, 0), (8, 1), (30, -1), (31, -1), (41, -1), (42, -1), (43, -1), (44, -1)] h h32 := my_fr.cp gh5 is_146 fh32 rfl
    have Ln_h32 : Ln h32 := Ln_ag (my_ag.cp fh32 is_146 rfl) Ln_h5
    refine w_aload_n gz_25_18 rfl ?_
    refine w_getX (v := 9) gz_25_19 is_7 rd_6 rfl (by decide) rfl ?_
    refine w_iconst gz_25_22 (by decide) ?_
    refine w_aload_n gz_25_23 rfl ?_
    refine w_getX (v := 147) gz_25_24 is_145 rd_6 rfl (by decide) rfl ?_
    refine w_iconst gz_25_27 (by decide) ?_
    refine w_aload_n gz_25_28 rfl ?_
    refine w_getX (v := 147) gz_25_29 is_145 rd_6 rfl (by decide) rfl ?_
    refine v_alen (j := 3) gz_25_32 rfl is_147 rd_31 (by decide) ?_
    refine w_cpU gz_25_33 is_9 rd_31 is_147 rd_31 (by omega) (by omega) (by omega) (by omega) (by omega) rfl (by decide) (by decide) (fun h36 fh36 => ?_)
    have gh36 : my_fr [(2, 11), (2, 12), (2, 13), (2, 14), (2, 15), (2, 16), (7, 0), (7, 1), (7, 2), (7, 3), (7, 4), (7, 5), (8, 0), (8, 1), (30, -1), (31, -1), (41, -1), (42, -1), (43, -1), (44, -1)] h h36 := my_fr.cp gh32 is_147 fh36 rfl
    have Ln_h36 : Ln h36 := Ln_ag (my_ag.cp fh36 is_147 rfl) Ln_h32
    refine w_vret gz_25_36 gm_25 ?_
    show wp l rho (d + 7) 117 47 [(2, 0), (0, x1), (0, x2), (0, x3), (0, x4), (0, v26), (9, 0)] [] h36 Q
    refine w_aload_n gz_117_47 rfl ?_
    refine w_getX (v := 94) gz_117_48 is_0 rd_9 rfl (by decide) rfl ?_
    refine w_aload_n gz_117_51 rfl ?_
    refine w_getX (v := 145) gz_117_52 is_0 rd_9 rfl (by decide) rfl ?_
    refine w_iload_n gz_117_55 rfl ?_
    refine w_iconst gz_117_56 (by decide) ?_
    refine w_iload_n gz_117_57 rfl ?_
    refine w_iload_n gz_117_58 rfl ?_
    refine w_iload gz_117_59 rfl ?_
    refine w_inv (k := 0) (as := [(0, x4), (0, x3), (0, x2), (0, 0), (0, x1), (2, 145)]) (r := []) (x := 94) (ls0 := [(2, 94), (2, 145), (0, x1), (0, 0), (0, x2), (0, x3), (0, x4)]) gz_117_61 gm_114 rfl is_94 rd_2 rfl rfl rfl rfl rfl (c_Desk_putOn (d := d) (x1 := 145) (x2 := x1) (x3 := 0) (x4 := x2) (x5 := x3) (x6 := x4) is_145 Ln_h36 (fun h39 frh39 => ?_) (fun h40 v41 frh40 w42 w43 w44 w45 w46 w47 => ?_))
    ·
      have gh39 : my_fr [(2, 11), (2, 12), (2, 13), (2, 14), (2, 15), (2, 16), (7, 0), (7, 1), (7, 2), (7, 3), (7, 4), (7, 5), (8, 0), (8, 1), (30, -1), (31, -1), (41, -1), (42, -1), (43, -1), (44, -1)] h h39 := my_fr.tr gh36 (frh39.mo rfl)
      have Ln_h39 : Ln h39 := Ln_ag (my_ag.fr frh39 rfl) Ln_h36
      show wp l rho (d + 7) 117 64 [(2, 0), (0, x1), (0, x2), (0, x3), (0, x4), (0, v26), (9, 0)] [(0, (-1))] h39 Q
      refine w_iconst gz_117_64 (by decide) ?_
      refine w_iceq (t := 93) gz_117_65 rfl (fun u48 => ?_) (fun u48 => by exfalso; omega)
      exact J93_0 (v26) h39 (gh39) (by omega) (by omega) (by omega) (by omega) (by omega) (by omega) Ln_h39
    ·
      have gh40 : my_fr [(2, 11), (2, 12), (2, 13), (2, 14), (2, 15), (2, 16), (7, 0), (7, 1), (7, 2), (7, 3), (7, 4), (7, 5), (8, 0), (8, 1), (30, -1), (31, -1), (41, -1), (42, -1), (43, -1), (44, -1)] h h40 := my_fr.tr gh36 (frh40.mo rfl)
      have Ln_h40 : Ln h40 := Ln_ag (my_ag.fr frh40 rfl) Ln_h36
      show wp l rho (d + 7) 117 64 [(2, 0), (0, x1), (0, x2), (0, x3), (0, x4), (0, v26), (9, 0)] [(0, v41)] h40 Q
      refine w_iconst gz_117_64 (by decide) ?_
      refine w_iceq (t := 93) gz_117_65 rfl (fun u49 => ?_) (fun u49 => ?_)
      ·
        exact J93_0 (v26) h40 (gh40) (by omega) (by omega) (by omega) (by omega) (by omega) (by omega) Ln_h40
      ·
        refine w_aload_n gz_117_68 rfl ?_
        refine w_getX (v := 94) gz_117_69 is_0 rd_9 rfl (by decide) rfl ?_
        refine w_aload_n gz_117_72 rfl ?_
        refine w_getX (v := 145) gz_117_73 is_0 rd_9 rfl (by decide) rfl ?_
        refine w_iload_n gz_117_76 rfl ?_
        refine w_iconst gz_117_77 (by decide) ?_
        refine w_iload_n gz_117_78 rfl ?_
        refine w_iload_n gz_117_79 rfl ?_
        refine w_iload gz_117_80 rfl ?_
        refine w_inv (k := 0) (as := [(0, v26), (0, x3), (0, x2), (0, 0), (0, x1), (2, 145)]) (r := []) (x := 94) (ls0 := [(2, 94), (2, 145), (0, x1), (0, 0), (0, x2), (0, x3), (0, v26)]) gz_117_82 gm_114 rfl is_94 rd_2 rfl rfl rfl rfl rfl (c_Desk_putOn (d := d) (x1 := 145) (x2 := x1) (x3 := 0) (x4 := x2) (x5 := x3) (x6 := v26) is_145 Ln_h40 (fun h52 frh52 => ?_) (fun h53 v54 frh53 w55 w56 w57 w58 w59 w60 => ?_))
        ·
          have gh52 : my_fr [(2, 11), (2, 12), (2, 13), (2, 14), (2, 15), (2, 16), (7, 0), (7, 1), (7, 2), (7, 3), (7, 4), (7, 5), (8, 0), (8, 1), (30, -1), (31, -1), (41, -1), (42, -1), (43, -1), (44, -1)] h h52 := my_fr.tr gh40 (frh52.mo rfl)
          have Ln_h52 : Ln h52 := Ln_ag (my_ag.fr frh52 rfl) Ln_h40
          show wp l rho (d + 7) 117 85 [(2, 0), (0, x1), (0, x2), (0, x3), (0, x4), (0, v26), (9, 0)] [(0, (-1))] h52 Q
          refine w_iconst gz_117_85 (by decide) ?_
          refine w_iceq (t := 93) gz_117_86 rfl (fun u61 => ?_) (fun u61 => by exfalso; omega)
          exact J93_0 (v26) h52 (gh52) (by omega) (by omega) (by omega) (by omega) (by omega) (by omega) Ln_h52
        ·
          have gh53 : my_fr [(2, 11), (2, 12), (2, 13), (2, 14), (2, 15), (2, 16), (7, 0), (7, 1), (7, 2), (7, 3), (7, 4), (7, 5), (8, 0), (8, 1), (30, -1), (31, -1), (41, -1), (42, -1), (43, -1), (44, -1)] h h53 := my_fr.tr gh40 (frh53.mo rfl)
          have Ln_h53 : Ln h53 := Ln_ag (my_ag.fr frh53 rfl) Ln_h40
          show wp l rho (d + 7) 117 85 [(2, 0), (0, x1), (0, x2), (0, x3), (0, x4), (0, v26), (9, 0)] [(0, v54)] h53 Q
          refine w_iconst gz_117_85 (by decide) ?_
          refine w_iceq (t := 93) gz_117_86 rfl (fun u62 => ?_) (fun u62 => ?_)
          ·
            exact J93_0 (v26) h53 (gh53) (by omega) (by omega) (by omega) (by omega) (by omega) (by omega) Ln_h53
          ·
            refine w_iconst gz_117_89 (by decide) ?_
            refine w_goto (t := 94) gz_117_90 rfl ?_
            refine w_istore (ls' := [(2, 0), (0, x1), (0, x2), (0, x3), (0, x4), (0, v26), (0, 1)]) gz_117_94 gm_117 rfl rfl rfl ?_
            refine w_iload gz_117_96 rfl ?_
            refine w_ifeq (t := 119) gz_117_98 rfl (fun u63 => by exfalso; omega) (fun u63 => ?_)
            refine w_aload_n gz_117_101 rfl ?_
            refine w_getX (v := 145) gz_117_102 is_0 rd_9 rfl (by decide) rfl ?_
            refine w_aload_n gz_117_105 rfl ?_
            refine w_getX (v := 7) gz_117_106 is_0 rd_9 rfl (by decide) rfl ?_
            refine w_inv (k := 1) (as := [(2, 7)]) (r := []) (x := 145) (ls0 := [(2, 145), (2, 7), (9, 0)]) gz_117_109 gm_116 rfl is_145 rd_6 rfl rfl rfl rfl rfl (c_Rows_same (d := (d + 6)) (x0 := 145) (x1 := 7) is_145 is_7 ?_ ?_)
            ·
              show wp l rho (d + 7) 117 112 [(2, 0), (0, x1), (0, x2), (0, x3), (0, x4), (0, v26), (0, 1)] [(0, 0)] h53 Q
              refine w_ifeq (t := 119) gz_117_112 rfl (fun u66 => ?_) (fun u66 => by exfalso; omega)
              refine w_iconst gz_117_119 (by decide) ?_
              exact w_iret gz_117_120 gm_117 (k1 h53 (gh53) (by omega) (by omega) (by omega) (by omega) (by omega) (by omega) Ln_h53)
            ·
              show wp l rho (d + 7) 117 112 [(2, 0), (0, x1), (0, x2), (0, x3), (0, x4), (0, v26), (0, 1)] [(0, 1)] h53 Q
              refine w_ifeq (t := 119) gz_117_112 rfl (fun u67 => by exfalso; omega) (fun u67 => ?_)
              refine w_iconst gz_117_115 (by decide) ?_
              refine w_goto (t := 120) gz_117_116 rfl ?_
              exact w_iret gz_117_120 gm_117 (k2 h53 (gh53) (by omega) (by omega) (by omega) (by omega) (by omega) (by omega) Ln_h53)
theorem c_ThroughWindow_clash {l : Launch} {rho : Nat → Int32} {d : Nat} {h : my_H} {Q : my_H → my_V → Prop} {x1 x2 x3 x4 x5 x6 : Int} (n_Ln : Ln h) (k0 : ∀ (h' : my_H), my_fr [(2, 11), (2, 12), (2, 13), (2, 14), (2, 15), (2, 16), (7, 0), (7, 1), (7, 2), (7, 3), (7, 4), (7, 5), (8, 0), (8, 1), (30, -1), (31, -1), (41, -1), (42, -1), (43, -1), (44, -1)] h h' → Ln h' → Q h' (0, (-1))) (k1 : ∀ (h' : my_H), my_fr [(2, 11), (2, 12), (2, 13), (2, 14), (2, 15), (2, 16), (7, 0), (7, 1), (7, 2), (7, 3), (7, 4), (7, 5), (8, 0), (8, 1), (30, -1), (31, -1), (41, -1), (42, -1), (43, -1), (44, -1)] h h' → 0 ≤ x1 → x1 ≤ 5 → 0 ≤ x2 → 0 ≤ x4 → x4 ≤ 5 → 0 ≤ x5 → Ln h' → Q h' (0, 0)) (k2 : ∀ (h' : my_H), my_fr [(2, 11), (2, 12), (2, 13), (2, 14), (2, 15), (2, 16), (7, 0), (7, 1), (7, 2), (7, 3), (7, 4), (7, 5), (8, 0), (8, 1), (30, -1), (31, -1), (41, -1), (42, -1), (43, -1), (44, -1)] h h' → 0 ≤ x1 → x1 ≤ 5 → 0 ≤ x2 → 0 ≤ x4 → x4 ≤ 5 → 0 ≤ x5 → Ln h' → Q h' (0, 1)) (k3 : ∀ (h' : my_H) (y : Int), my_fr [(2, 11), (2, 12), (2, 13), (2, 14), (2, 15), (2, 16), (7, 0), (7, 1), (7, 2), (7, 3), (7, 4), (7, 5), (8, 0), (8, 1), (30, -1), (31, -1), (41, -1), (42, -1), (43, -1), (44, -1)] h h' → 2 ≤ y → y ≤ 4 → 0 ≤ x1 → x1 ≤ 5 → 0 ≤ x2 → 0 ≤ x4 → x4 ≤ 5 → 0 ≤ x5 → Ln h' → Q h' (0, y)) : wp l rho (d + 7) 118 0 [(2, 0), (0, x1), (0, x2), (0, x3), (0, x4), (0, x5), (0, x6), (9, 0), (9, 0), (9, 0), (9, 0), (9, 0), (9, 0)] [] h Q := by
  have J206_1 : ∀ (p206_0 p206_1 p206_2 p206_3 : Int) (h206_1 : my_H), my_fr [(2, 11), (2, 12), (2, 13), (2, 14), (2, 15), (2, 16), (7, 0), (7, 1), (7, 2), (7, 3), (7, 4), (7, 5), (8, 0), (8, 1), (30, -1), (31, -1), (41, -1), (42, -1), (43, -1), (44, -1)] h h206_1 → 0 ≤ x1 → x1 ≤ 5 → 0 ≤ x2 → 0 ≤ x4 → x4 ≤ 5 → 0 ≤ x5 → Ln h206_1 → wp l rho (d + 7) 118 206 [(2, 0), (0, x1), (0, x2), (0, x3), (0, x4), (0, x5), (0, x6), (0, p206_0), (0, p206_1), (0, p206_2), (0, p206_3), (0, 1), (9, 0)] [] h206_1 Q := by
    intro p206_0 p206_1 p206_2 p206_3 h206_1 gh_206_1 q0_206_1 q1_206_1 q2_206_1 q3_206_1 q4_206_1 q5_206_1 n_Ln_206_1
    refine w_iconst gz_118_206 (by decide) ?_
    refine w_istore (ls' := [(2, 0), (0, x1), (0, x2), (0, x3), (0, x4), (0, x5), (0, x6), (0, p206_0), (0, p206_1), (0, p206_2), (0, p206_3), (0, 1), (0, 0)]) gz_118_207 gm_118 rfl rfl rfl ?_
    refine w_iload gz_118_209 rfl ?_
    refine w_ifeq (t := 239) gz_118_211 rfl (fun u1 => by exfalso; omega) (fun u1 => ?_)
    refine w_iload gz_118_214 rfl ?_
    refine w_ifeq (t := 239) gz_118_216 rfl (fun u2 => ?_) (fun u2 => by exfalso; omega)
    refine w_iload gz_118_239 rfl ?_
    refine w_ifeq (t := 248) gz_118_241 rfl (fun u3 => by exfalso; omega) (fun u3 => ?_)
    refine w_iconst gz_118_244 (by decide) ?_
    refine w_goto (t := 258) gz_118_245 rfl ?_
    exact w_iret gz_118_258 gm_118 (k3 h206_1 (2) (gh_206_1) (by omega) (by omega) (by omega) (by omega) (by omega) (by omega) (by omega) (by omega) n_Ln_206_1)
  have J206_0 : ∀ (p206_0 p206_1 p206_2 p206_3 : Int) (h206_0 : my_H), my_fr [(2, 11), (2, 12), (2, 13), (2, 14), (2, 15), (2, 16), (7, 0), (7, 1), (7, 2), (7, 3), (7, 4), (7, 5), (8, 0), (8, 1), (30, -1), (31, -1), (41, -1), (42, -1), (43, -1), (44, -1)] h h206_0 → 0 ≤ x1 → x1 ≤ 5 → 0 ≤ x2 → 0 ≤ x4 → x4 ≤ 5 → 0 ≤ x5 → Ln h206_0 → wp l rho (d + 7) 118 206 [(2, 0), (0, x1), (0, x2), (0, x3), (0, x4), (0, x5), (0, x6), (0, p206_0), (0, p206_1), (0, p206_2), (0, p206_3), (0, 0), (9, 0)] [] h206_0 Q := by
    intro p206_0 p206_1 p206_2 p206_3 h206_0 gh_206_0 q0_206_0 q1_206_0 q2_206_0 q3_206_0 q4_206_0 q5_206_0 n_Ln_206_0
    refine w_iconst gz_118_206 (by decide) ?_
    refine w_istore (ls' := [(2, 0), (0, x1), (0, x2), (0, x3), (0, x4), (0, x5), (0, x6), (0, p206_0), (0, p206_1), (0, p206_2), (0, p206_3), (0, 0), (0, 0)]) gz_118_207 gm_118 rfl rfl rfl ?_
    refine w_iload gz_118_209 rfl ?_
    refine w_ifeq (t := 239) gz_118_211 rfl (fun u4 => ?_) (fun u4 => by exfalso; omega)
    refine w_iload gz_118_239 rfl ?_
    refine w_ifeq (t := 248) gz_118_241 rfl (fun u5 => ?_) (fun u5 => by exfalso; omega)
    refine w_iload gz_118_248 rfl ?_
    refine w_ifeq (t := 257) gz_118_250 rfl (fun u6 => ?_) (fun u6 => by exfalso; omega)
    refine w_iconst gz_118_257 (by decide) ?_
    exact w_iret gz_118_258 gm_118 (k3 h206_0 (4) (gh_206_0) (by omega) (by omega) (by omega) (by omega) (by omega) (by omega) (by omega) (by omega) n_Ln_206_0)
  have J153_0 : ∀ (p153_0 p153_1 p153_2 p153_3 : Int) (h153_0 : my_H), my_fr [(2, 11), (2, 12), (2, 13), (2, 14), (2, 15), (2, 16), (7, 0), (7, 1), (7, 2), (7, 3), (7, 4), (7, 5), (8, 0), (8, 1), (30, -1), (31, -1), (41, -1), (42, -1), (43, -1), (44, -1)] h h153_0 → 0 ≤ x1 → x1 ≤ 5 → 0 ≤ x2 → 0 ≤ x4 → x4 ≤ 5 → 0 ≤ x5 → Ln h153_0 → wp l rho (d + 7) 118 153 [(2, 0), (0, x1), (0, x2), (0, x3), (0, x4), (0, x5), (0, x6), (0, p153_0), (0, p153_1), (0, p153_2), (0, p153_3), (9, 0), (9, 0)] [] h153_0 Q := by
    intro p153_0 p153_1 p153_2 p153_3 h153_0 gh_153_0 q0_153_0 q1_153_0 q2_153_0 q3_153_0 q4_153_0 q5_153_0 n_Ln_153_0
    refine w_iconst gz_118_153 (by decide) ?_
    refine w_istore (ls' := [(2, 0), (0, x1), (0, x2), (0, x3), (0, x4), (0, x5), (0, x6), (0, p153_0), (0, p153_1), (0, p153_2), (0, p153_3), (0, 0), (9, 0)]) gz_118_154 gm_118 rfl rfl rfl ?_
    refine w_aload_n gz_118_156 rfl ?_
    refine w_getX (v := 94) gz_118_157 is_0 rd_9 rfl (by decide) rfl ?_
    refine w_aload_n gz_118_160 rfl ?_
    refine w_getX (v := 148) gz_118_161 is_0 rd_9 rfl (by decide) rfl ?_
    refine w_iload gz_118_164 rfl ?_
    refine w_iconst gz_118_166 (by decide) ?_
    refine w_iload gz_118_167 rfl ?_
    refine w_iload gz_118_169 rfl ?_
    refine w_iload gz_118_171 rfl ?_
    refine w_inv (k := 0) (as := [(0, x6), (0, p153_3), (0, p153_2), (0, 0), (0, x4), (2, 148)]) (r := []) (x := 94) (ls0 := [(2, 94), (2, 148), (0, x4), (0, 0), (0, p153_2), (0, p153_3), (0, x6)]) gz_118_173 gm_114 rfl is_94 rd_2 rfl rfl rfl rfl rfl (c_Desk_putOn (d := d) (x1 := 148) (x2 := x4) (x3 := 0) (x4 := p153_2) (x5 := p153_3) (x6 := x6) is_148 n_Ln_153_0 (fun h9 frh9 => ?_) (fun h10 v11 frh10 w12 w13 w14 w15 w16 w17 => ?_))
    ·
      have gh9 : my_fr [(2, 11), (2, 12), (2, 13), (2, 14), (2, 15), (2, 16), (7, 0), (7, 1), (7, 2), (7, 3), (7, 4), (7, 5), (8, 0), (8, 1), (30, -1), (31, -1), (41, -1), (42, -1), (43, -1), (44, -1)] h h9 := my_fr.tr gh_153_0 (frh9.mo rfl)
      have Ln_h9 : Ln h9 := Ln_ag (my_ag.fr frh9 rfl) n_Ln_153_0
      show wp l rho (d + 7) 118 176 [(2, 0), (0, x1), (0, x2), (0, x3), (0, x4), (0, x5), (0, x6), (0, p153_0), (0, p153_1), (0, p153_2), (0, p153_3), (0, 0), (9, 0)] [(0, (-1))] h9 Q
      refine w_iconst gz_118_176 (by decide) ?_
      refine w_iceq (t := 206) gz_118_177 rfl (fun u18 => ?_) (fun u18 => by exfalso; omega)
      exact J206_0 (p153_0) (p153_1) (p153_2) (p153_3) h9 (gh9) (by omega) (by omega) (by omega) (by omega) (by omega) (by omega) Ln_h9
    ·
      have gh10 : my_fr [(2, 11), (2, 12), (2, 13), (2, 14), (2, 15), (2, 16), (7, 0), (7, 1), (7, 2), (7, 3), (7, 4), (7, 5), (8, 0), (8, 1), (30, -1), (31, -1), (41, -1), (42, -1), (43, -1), (44, -1)] h h10 := my_fr.tr gh_153_0 (frh10.mo rfl)
      have Ln_h10 : Ln h10 := Ln_ag (my_ag.fr frh10 rfl) n_Ln_153_0
      show wp l rho (d + 7) 118 176 [(2, 0), (0, x1), (0, x2), (0, x3), (0, x4), (0, x5), (0, x6), (0, p153_0), (0, p153_1), (0, p153_2), (0, p153_3), (0, 0), (9, 0)] [(0, v11)] h10 Q
      refine w_iconst gz_118_176 (by decide) ?_
      refine w_iceq (t := 206) gz_118_177 rfl (fun u19 => ?_) (fun u19 => ?_)
      ·
        exact J206_0 (p153_0) (p153_1) (p153_2) (p153_3) h10 (gh10) (by omega) (by omega) (by omega) (by omega) (by omega) (by omega) Ln_h10
      ·
        refine w_aload_n gz_118_180 rfl ?_
        refine w_getX (v := 94) gz_118_181 is_0 rd_9 rfl (by decide) rfl ?_
        refine w_aload_n gz_118_184 rfl ?_
        refine w_getX (v := 148) gz_118_185 is_0 rd_9 rfl (by decide) rfl ?_
        refine w_iload_n gz_118_188 rfl ?_
        refine w_iconst gz_118_189 (by decide) ?_
        refine w_iload gz_118_190 rfl ?_
        refine w_iload gz_118_192 rfl ?_
        refine w_iload_n gz_118_194 rfl ?_
        refine w_inv (k := 0) (as := [(0, x3), (0, p153_1), (0, p153_0), (0, 0), (0, x1), (2, 148)]) (r := []) (x := 94) (ls0 := [(2, 94), (2, 148), (0, x1), (0, 0), (0, p153_0), (0, p153_1), (0, x3)]) gz_118_195 gm_114 rfl is_94 rd_2 rfl rfl rfl rfl rfl (c_Desk_putOn (d := d) (x1 := 148) (x2 := x1) (x3 := 0) (x4 := p153_0) (x5 := p153_1) (x6 := x3) is_148 Ln_h10 (fun h22 frh22 => ?_) (fun h23 v24 frh23 w25 w26 w27 w28 w29 w30 => ?_))
        ·
          have gh22 : my_fr [(2, 11), (2, 12), (2, 13), (2, 14), (2, 15), (2, 16), (7, 0), (7, 1), (7, 2), (7, 3), (7, 4), (7, 5), (8, 0), (8, 1), (30, -1), (31, -1), (41, -1), (42, -1), (43, -1), (44, -1)] h h22 := my_fr.tr gh10 (frh22.mo rfl)
          have Ln_h22 : Ln h22 := Ln_ag (my_ag.fr frh22 rfl) Ln_h10
          show wp l rho (d + 7) 118 198 [(2, 0), (0, x1), (0, x2), (0, x3), (0, x4), (0, x5), (0, x6), (0, p153_0), (0, p153_1), (0, p153_2), (0, p153_3), (0, 0), (9, 0)] [(0, (-1))] h22 Q
          refine w_iconst gz_118_198 (by decide) ?_
          refine w_iceq (t := 206) gz_118_199 rfl (fun u31 => ?_) (fun u31 => by exfalso; omega)
          exact J206_0 (p153_0) (p153_1) (p153_2) (p153_3) h22 (gh22) (by omega) (by omega) (by omega) (by omega) (by omega) (by omega) Ln_h22
        ·
          have gh23 : my_fr [(2, 11), (2, 12), (2, 13), (2, 14), (2, 15), (2, 16), (7, 0), (7, 1), (7, 2), (7, 3), (7, 4), (7, 5), (8, 0), (8, 1), (30, -1), (31, -1), (41, -1), (42, -1), (43, -1), (44, -1)] h h23 := my_fr.tr gh10 (frh23.mo rfl)
          have Ln_h23 : Ln h23 := Ln_ag (my_ag.fr frh23 rfl) Ln_h10
          show wp l rho (d + 7) 118 198 [(2, 0), (0, x1), (0, x2), (0, x3), (0, x4), (0, x5), (0, x6), (0, p153_0), (0, p153_1), (0, p153_2), (0, p153_3), (0, 0), (9, 0)] [(0, v24)] h23 Q
          refine w_iconst gz_118_198 (by decide) ?_
          refine w_iceq (t := 206) gz_118_199 rfl (fun u32 => ?_) (fun u32 => ?_)
          ·
            exact J206_0 (p153_0) (p153_1) (p153_2) (p153_3) h23 (gh23) (by omega) (by omega) (by omega) (by omega) (by omega) (by omega) Ln_h23
          ·
            refine w_iconst gz_118_202 (by decide) ?_
            refine w_goto (t := 207) gz_118_203 rfl ?_
            refine w_istore (ls' := [(2, 0), (0, x1), (0, x2), (0, x3), (0, x4), (0, x5), (0, x6), (0, p153_0), (0, p153_1), (0, p153_2), (0, p153_3), (0, 0), (0, 1)]) gz_118_207 gm_118 rfl rfl rfl ?_
            refine w_iload gz_118_209 rfl ?_
            refine w_ifeq (t := 239) gz_118_211 rfl (fun u33 => ?_) (fun u33 => by exfalso; omega)
            refine w_iload gz_118_239 rfl ?_
            refine w_ifeq (t := 248) gz_118_241 rfl (fun u34 => ?_) (fun u34 => by exfalso; omega)
            refine w_iload gz_118_248 rfl ?_
            refine w_ifeq (t := 257) gz_118_250 rfl (fun u35 => by exfalso; omega) (fun u35 => ?_)
            refine w_iconst gz_118_253 (by decide) ?_
            refine w_goto (t := 258) gz_118_254 rfl ?_
            exact w_iret gz_118_258 gm_118 (k3 h23 (3) (gh23) (by omega) (by omega) (by omega) (by omega) (by omega) (by omega) (by omega) (by omega) Ln_h23)
  refine w_iload_n gz_118_0 rfl ?_
  refine w_bipush gz_118_1 (by decide) ?_
  refine w_ianyD gz_118_3 (by decide) (fun v36 pv36 qv36 => ?_)
  refine w_istore (ls' := [(2, 0), (0, x1), (0, x2), (0, x3), (0, x4), (0, x5), (0, x6), (0, v36), (9, 0), (9, 0), (9, 0), (9, 0), (9, 0)]) gz_118_4 gm_118 rfl rfl rfl ?_
  refine w_iload_n gz_118_6 rfl ?_
  refine w_bipush gz_118_7 (by decide) ?_
  refine w_ianyQ gz_118_9 (by decide) (fun v37 pv37 qv37 => ?_)
  refine w_istore (ls' := [(2, 0), (0, x1), (0, x2), (0, x3), (0, x4), (0, x5), (0, x6), (0, v36), (0, v37), (9, 0), (9, 0), (9, 0), (9, 0)]) gz_118_10 gm_118 rfl rfl rfl ?_
  refine w_iload gz_118_12 rfl ?_
  refine w_bipush gz_118_14 (by decide) ?_
  refine w_ianyD gz_118_16 (by decide) (fun v38 pv38 qv38 => ?_)
  refine w_istore (ls' := [(2, 0), (0, x1), (0, x2), (0, x3), (0, x4), (0, x5), (0, x6), (0, v36), (0, v37), (0, v38), (9, 0), (9, 0), (9, 0)]) gz_118_17 gm_118 rfl rfl rfl ?_
  refine w_iload gz_118_19 rfl ?_
  refine w_bipush gz_118_21 (by decide) ?_
  refine w_ianyQ gz_118_23 (by decide) (fun v39 pv39 qv39 => ?_)
  refine w_istore (ls' := [(2, 0), (0, x1), (0, x2), (0, x3), (0, x4), (0, x5), (0, x6), (0, v36), (0, v37), (0, v38), (0, v39), (9, 0), (9, 0)]) gz_118_24 gm_118 rfl rfl rfl ?_
  refine w_iload_n gz_118_26 rfl ?_
  refine w_iflt (t := 79) gz_118_27 rfl (fun u40 => ?_) (fun u40 => ?_)
  ·
    refine w_iconst gz_118_79 (by decide) ?_
    exact w_iret gz_118_80 gm_118 (k0 h (my_fr.rf) n_Ln)
  ·
    refine w_iload gz_118_30 rfl ?_
    refine w_iflt (t := 79) gz_118_32 rfl (fun u41 => ?_) (fun u41 => ?_)
    ·
      refine w_iconst gz_118_79 (by decide) ?_
      exact w_iret gz_118_80 gm_118 (k0 h (my_fr.rf) n_Ln)
    ·
      refine w_aload_n gz_118_35 rfl ?_
      refine w_getX (v := 94) gz_118_36 is_0 rd_9 rfl (by decide) rfl ?_
      refine w_aload_n gz_118_39 rfl ?_
      refine w_getX (v := 7) gz_118_40 is_0 rd_9 rfl (by decide) rfl ?_
      refine w_iload_n gz_118_43 rfl ?_
      refine w_iconst gz_118_44 (by decide) ?_
      refine w_iload gz_118_45 rfl ?_
      refine w_iload gz_118_47 rfl ?_
      refine w_iload_n gz_118_49 rfl ?_
      refine w_inv (k := 0) (as := [(0, x3), (0, v37), (0, v36), (0, 0), (0, x1), (2, 7)]) (r := []) (x := 94) (ls0 := [(2, 94), (2, 7), (0, x1), (0, 0), (0, v36), (0, v37), (0, x3)]) gz_118_50 gm_87 rfl is_94 rd_2 rfl rfl rfl rfl rfl (c_Desk_opens (d := (d + 1)) (x1 := 7) (x2 := x1) (x3 := 0) (x4 := v36) (x5 := v37) (x6 := x3) is_7 n_Ln (fun h44 frh44 => ?_) (fun h45 frh45 w46 w47 w48 w49 w50 w51 xp52 xp53 xp54 xp55 xp56 => ?_))
      ·
        have gh44 : my_fr [(2, 11), (2, 12), (2, 13), (2, 14), (2, 15), (2, 16), (7, 0), (7, 1), (7, 2), (7, 3), (7, 4), (7, 5), (8, 0), (8, 1), (30, -1), (31, -1), (41, -1), (42, -1), (43, -1), (44, -1)] h h44 := my_fr.tr my_fr.rf (frh44.mo rfl)
        have Ln_h44 : Ln h44 := Ln_ag (my_ag.fr frh44 rfl) n_Ln
        show wp l rho (d + 7) 118 53 [(2, 0), (0, x1), (0, x2), (0, x3), (0, x4), (0, x5), (0, x6), (0, v36), (0, v37), (0, v38), (0, v39), (9, 0), (9, 0)] [(0, 0)] h44 Q
        refine w_ifeq (t := 79) gz_118_53 rfl (fun u57 => ?_) (fun u57 => by exfalso; omega)
        refine w_iconst gz_118_79 (by decide) ?_
        exact w_iret gz_118_80 gm_118 (k0 h44 (gh44) Ln_h44)
      ·
        have gh45 : my_fr [(2, 11), (2, 12), (2, 13), (2, 14), (2, 15), (2, 16), (7, 0), (7, 1), (7, 2), (7, 3), (7, 4), (7, 5), (8, 0), (8, 1), (30, -1), (31, -1), (41, -1), (42, -1), (43, -1), (44, -1)] h h45 := my_fr.tr my_fr.rf (frh45.mo rfl)
        have Ln_h45 : Ln h45 := Ln_ag (my_ag.fr frh45 rfl) n_Ln
        show wp l rho (d + 7) 118 53 [(2, 0), (0, x1), (0, x2), (0, x3), (0, x4), (0, x5), (0, x6), (0, v36), (0, v37), (0, v38), (0, v39), (9, 0), (9, 0)] [(0, 1)] h45 Q
        refine w_ifeq (t := 79) gz_118_53 rfl (fun u58 => by exfalso; omega) (fun u58 => ?_)
        refine w_aload_n gz_118_56 rfl ?_
        refine w_getX (v := 94) gz_118_57 is_0 rd_9 rfl (by decide) rfl ?_
        refine w_aload_n gz_118_60 rfl ?_
        refine w_getX (v := 7) gz_118_61 is_0 rd_9 rfl (by decide) rfl ?_
        refine w_iload gz_118_64 rfl ?_
        refine w_iconst gz_118_66 (by decide) ?_
        refine w_iload gz_118_67 rfl ?_
        refine w_iload gz_118_69 rfl ?_
        refine w_iload gz_118_71 rfl ?_
        refine w_inv (k := 0) (as := [(0, x6), (0, v39), (0, v38), (0, 0), (0, x4), (2, 7)]) (r := []) (x := 94) (ls0 := [(2, 94), (2, 7), (0, x4), (0, 0), (0, v38), (0, v39), (0, x6)]) gz_118_73 gm_87 rfl is_94 rd_2 rfl rfl rfl rfl rfl (c_Desk_opens (d := (d + 1)) (x1 := 7) (x2 := x4) (x3 := 0) (x4 := v38) (x5 := v39) (x6 := x6) is_7 Ln_h45 (fun h61 frh61 => ?_) (fun h62 frh62 w63 w64 w65 w66 w67 w68 xp69 xp70 xp71 xp72 xp73 => ?_))
        ·
          have gh61 : my_fr [(2, 11), (2, 12), (2, 13), (2, 14), (2, 15), (2, 16), (7, 0), (7, 1), (7, 2), (7, 3), (7, 4), (7, 5), (8, 0), (8, 1), (30, -1), (31, -1), (41, -1), (42, -1), (43, -1), (44, -1)] h h61 := my_fr.tr gh45 (frh61.mo rfl)
          have Ln_h61 : Ln h61 := Ln_ag (my_ag.fr frh61 rfl) Ln_h45
          show wp l rho (d + 7) 118 76 [(2, 0), (0, x1), (0, x2), (0, x3), (0, x4), (0, x5), (0, x6), (0, v36), (0, v37), (0, v38), (0, v39), (9, 0), (9, 0)] [(0, 0)] h61 Q
          refine w_ifne (t := 81) gz_118_76 rfl (fun u74 => by exfalso; omega) (fun u74 => ?_)
          refine w_iconst gz_118_79 (by decide) ?_
          exact w_iret gz_118_80 gm_118 (k0 h61 (gh61) Ln_h61)
        ·
          have gh62 : my_fr [(2, 11), (2, 12), (2, 13), (2, 14), (2, 15), (2, 16), (7, 0), (7, 1), (7, 2), (7, 3), (7, 4), (7, 5), (8, 0), (8, 1), (30, -1), (31, -1), (41, -1), (42, -1), (43, -1), (44, -1)] h h62 := my_fr.tr gh45 (frh62.mo rfl)
          have Ln_h62 : Ln h62 := Ln_ag (my_ag.fr frh62 rfl) Ln_h45
          show wp l rho (d + 7) 118 76 [(2, 0), (0, x1), (0, x2), (0, x3), (0, x4), (0, x5), (0, x6), (0, v36), (0, v37), (0, v38), (0, v39), (9, 0), (9, 0)] [(0, 1)] h62 Q
          refine w_ifne (t := 81) gz_118_76 rfl (fun u75 => ?_) (fun u75 => by exfalso; omega)
          refine w_aload_n gz_118_81 rfl ?_
          refine w_getX (v := 145) gz_118_82 is_0 rd_9 rfl (by decide) rfl ?_
          refine w_aload_n gz_118_85 rfl ?_
          refine w_getX (v := 7) gz_118_86 is_0 rd_9 rfl (by decide) rfl ?_
          refine w_inv (k := 0) (as := [(2, 7)]) (r := []) (x := 145) (ls0 := [(2, 145), (2, 7)]) gz_118_89 gm_25 rfl is_145 rd_6 rfl rfl rfl rfl rfl ?_
          refine w_aload_n gz_25_0 rfl ?_
          refine w_getX (v := 8) gz_25_1 is_7 rd_6 rfl (by decide) rfl ?_
          refine w_iconst gz_25_4 (by decide) ?_
          refine w_aload_n gz_25_5 rfl ?_
          refine w_getX (v := 146) gz_25_6 is_145 rd_6 rfl (by decide) rfl ?_
          refine w_iconst gz_25_9 (by decide) ?_
          refine w_aload_n gz_25_10 rfl ?_
          refine w_getX (v := 146) gz_25_11 is_145 rd_6 rfl (by decide) rfl ?_
          refine v_alen (j := 240) gz_25_14 rfl is_146 rd_30 (by decide) ?_
          refine w_cpU gz_25_15 is_8 rd_30 is_146 rd_30 (by omega) (by omega) (by omega) (by omega) (by omega) rfl (by decide) (by decide) (fun h81 fh81 => ?_)
          have gh81 : my_fr [(2, 11), (2, 12), (2, 13), (2, 14), (2, 15), (2, 16), (7, 0), (7, 1), (7, 2), (7, 3), (7, 4), (7, 5), (8, 0), (8, 1), (30, -1), (31, -1), (41, -1), (42, -1), (43, -1), (44, -1)] h h81 := my_fr.cp gh62 is_146 fh81 rfl
          have Ln_h81 : Ln h81 := Ln_ag (my_ag.cp fh81 is_146 rfl) Ln_h62
          refine w_aload_n gz_25_18 rfl ?_
          refine w_getX (v := 9) gz_25_19 is_7 rd_6 rfl (by decide) rfl ?_
          refine w_iconst gz_25_22 (by decide) ?_
          refine w_aload_n gz_25_23 rfl ?_
          refine w_getX (v := 147) gz_25_24 is_145 rd_6 rfl (by decide) rfl ?_
          refine w_iconst gz_25_27 (by decide) ?_
          refine w_aload_n gz_25_28 rfl ?_
          refine w_getX (v := 147) gz_25_29 is_145 rd_6 rfl (by decide) rfl ?_
          refine v_alen (j := 3) gz_25_32 rfl is_147 rd_31 (by decide) ?_
          refine w_cpU gz_25_33 is_9 rd_31 is_147 rd_31 (by omega) (by omega) (by omega) (by omega) (by omega) rfl (by decide) (by decide) (fun h85 fh85 => ?_)
          have gh85 : my_fr [(2, 11), (2, 12), (2, 13), (2, 14), (2, 15), (2, 16), (7, 0), (7, 1), (7, 2), (7, 3), (7, 4), (7, 5), (8, 0), (8, 1), (30, -1), (31, -1), (41, -1), (42, -1), (43, -1), (44, -1)] h h85 := my_fr.cp gh81 is_147 fh85 rfl
          have Ln_h85 : Ln h85 := Ln_ag (my_ag.cp fh85 is_147 rfl) Ln_h81
          refine w_vret gz_25_36 gm_25 ?_
          show wp l rho (d + 7) 118 92 [(2, 0), (0, x1), (0, x2), (0, x3), (0, x4), (0, x5), (0, x6), (0, v36), (0, v37), (0, v38), (0, v39), (9, 0), (9, 0)] [] h85 Q
          refine w_aload_n gz_118_92 rfl ?_
          refine w_getX (v := 148) gz_118_93 is_0 rd_9 rfl (by decide) rfl ?_
          refine w_aload_n gz_118_96 rfl ?_
          refine w_getX (v := 7) gz_118_97 is_0 rd_9 rfl (by decide) rfl ?_
          refine w_inv (k := 0) (as := [(2, 7)]) (r := []) (x := 148) (ls0 := [(2, 148), (2, 7)]) gz_118_100 gm_25 rfl is_148 rd_6 rfl rfl rfl rfl rfl ?_
          refine w_aload_n gz_25_0 rfl ?_
          refine w_getX (v := 8) gz_25_1 is_7 rd_6 rfl (by decide) rfl ?_
          refine w_iconst gz_25_4 (by decide) ?_
          refine w_aload_n gz_25_5 rfl ?_
          refine w_getX (v := 149) gz_25_6 is_148 rd_6 rfl (by decide) rfl ?_
          refine w_iconst gz_25_9 (by decide) ?_
          refine w_aload_n gz_25_10 rfl ?_
          refine w_getX (v := 149) gz_25_11 is_148 rd_6 rfl (by decide) rfl ?_
          refine v_alen (j := 240) gz_25_14 rfl is_149 rd_30 (by decide) ?_
          refine w_cpU gz_25_15 is_8 rd_30 is_149 rd_30 (by omega) (by omega) (by omega) (by omega) (by omega) rfl (by decide) (by decide) (fun h91 fh91 => ?_)
          have gh91 : my_fr [(2, 11), (2, 12), (2, 13), (2, 14), (2, 15), (2, 16), (7, 0), (7, 1), (7, 2), (7, 3), (7, 4), (7, 5), (8, 0), (8, 1), (30, -1), (31, -1), (41, -1), (42, -1), (43, -1), (44, -1)] h h91 := my_fr.cp gh85 is_149 fh91 rfl
          have Ln_h91 : Ln h91 := Ln_ag (my_ag.cp fh91 is_149 rfl) Ln_h85
          refine w_aload_n gz_25_18 rfl ?_
          refine w_getX (v := 9) gz_25_19 is_7 rd_6 rfl (by decide) rfl ?_
          refine w_iconst gz_25_22 (by decide) ?_
          refine w_aload_n gz_25_23 rfl ?_
          refine w_getX (v := 150) gz_25_24 is_148 rd_6 rfl (by decide) rfl ?_
          refine w_iconst gz_25_27 (by decide) ?_
          refine w_aload_n gz_25_28 rfl ?_
          refine w_getX (v := 150) gz_25_29 is_148 rd_6 rfl (by decide) rfl ?_
          refine v_alen (j := 3) gz_25_32 rfl is_150 rd_31 (by decide) ?_
          refine w_cpU gz_25_33 is_9 rd_31 is_150 rd_31 (by omega) (by omega) (by omega) (by omega) (by omega) rfl (by decide) (by decide) (fun h95 fh95 => ?_)
          have gh95 : my_fr [(2, 11), (2, 12), (2, 13), (2, 14), (2, 15), (2, 16), (7, 0), (7, 1), (7, 2), (7, 3), (7, 4), (7, 5), (8, 0), (8, 1), (30, -1), (31, -1), (41, -1), (42, -1), (43, -1), (44, -1)] h h95 := my_fr.cp gh91 is_150 fh95 rfl
          have Ln_h95 : Ln h95 := Ln_ag (my_ag.cp fh95 is_150 rfl) Ln_h91
          refine w_vret gz_25_36 gm_25 ?_
          show wp l rho (d + 7) 118 103 [(2, 0), (0, x1), (0, x2), (0, x3), (0, x4), (0, x5), (0, x6), (0, v36), (0, v37), (0, v38), (0, v39), (9, 0), (9, 0)] [] h95 Q
          refine w_aload_n gz_118_103 rfl ?_
          refine w_getX (v := 94) gz_118_104 is_0 rd_9 rfl (by decide) rfl ?_
          refine w_aload_n gz_118_107 rfl ?_
          refine w_getX (v := 145) gz_118_108 is_0 rd_9 rfl (by decide) rfl ?_
          refine w_iload_n gz_118_111 rfl ?_
          refine w_iconst gz_118_112 (by decide) ?_
          refine w_iload gz_118_113 rfl ?_
          refine w_iload gz_118_115 rfl ?_
          refine w_iload_n gz_118_117 rfl ?_
          refine w_inv (k := 0) (as := [(0, x3), (0, v37), (0, v36), (0, 0), (0, x1), (2, 145)]) (r := []) (x := 94) (ls0 := [(2, 94), (2, 145), (0, x1), (0, 0), (0, v36), (0, v37), (0, x3)]) gz_118_118 gm_114 rfl is_94 rd_2 rfl rfl rfl rfl rfl (c_Desk_putOn (d := d) (x1 := 145) (x2 := x1) (x3 := 0) (x4 := v36) (x5 := v37) (x6 := x3) is_145 Ln_h95 (fun h98 frh98 => ?_) (fun h99 v100 frh99 w101 w102 w103 w104 w105 w106 => ?_))
          ·
            have gh98 : my_fr [(2, 11), (2, 12), (2, 13), (2, 14), (2, 15), (2, 16), (7, 0), (7, 1), (7, 2), (7, 3), (7, 4), (7, 5), (8, 0), (8, 1), (30, -1), (31, -1), (41, -1), (42, -1), (43, -1), (44, -1)] h h98 := my_fr.tr gh95 (frh98.mo rfl)
            have Ln_h98 : Ln h98 := Ln_ag (my_ag.fr frh98 rfl) Ln_h95
            show wp l rho (d + 7) 118 121 [(2, 0), (0, x1), (0, x2), (0, x3), (0, x4), (0, x5), (0, x6), (0, v36), (0, v37), (0, v38), (0, v39), (9, 0), (9, 0)] [(0, (-1))] h98 Q
            refine w_iconst gz_118_121 (by decide) ?_
            refine w_iceq (t := 153) gz_118_122 rfl (fun u107 => ?_) (fun u107 => by exfalso; omega)
            exact J153_0 (v36) (v37) (v38) (v39) h98 (gh98) (by omega) (by omega) (by omega) (by omega) (by omega) (by omega) Ln_h98
          ·
            have gh99 : my_fr [(2, 11), (2, 12), (2, 13), (2, 14), (2, 15), (2, 16), (7, 0), (7, 1), (7, 2), (7, 3), (7, 4), (7, 5), (8, 0), (8, 1), (30, -1), (31, -1), (41, -1), (42, -1), (43, -1), (44, -1)] h h99 := my_fr.tr gh95 (frh99.mo rfl)
            have Ln_h99 : Ln h99 := Ln_ag (my_ag.fr frh99 rfl) Ln_h95
            show wp l rho (d + 7) 118 121 [(2, 0), (0, x1), (0, x2), (0, x3), (0, x4), (0, x5), (0, x6), (0, v36), (0, v37), (0, v38), (0, v39), (9, 0), (9, 0)] [(0, v100)] h99 Q
            refine w_iconst gz_118_121 (by decide) ?_
            refine w_iceq (t := 153) gz_118_122 rfl (fun u108 => ?_) (fun u108 => ?_)
            ·
              exact J153_0 (v36) (v37) (v38) (v39) h99 (gh99) (by omega) (by omega) (by omega) (by omega) (by omega) (by omega) Ln_h99
            ·
              refine w_aload_n gz_118_125 rfl ?_
              refine w_getX (v := 94) gz_118_126 is_0 rd_9 rfl (by decide) rfl ?_
              refine w_aload_n gz_118_129 rfl ?_
              refine w_getX (v := 145) gz_118_130 is_0 rd_9 rfl (by decide) rfl ?_
              refine w_iload gz_118_133 rfl ?_
              refine w_iconst gz_118_135 (by decide) ?_
              refine w_iload gz_118_136 rfl ?_
              refine w_iload gz_118_138 rfl ?_
              refine w_iload gz_118_140 rfl ?_
              refine w_inv (k := 0) (as := [(0, x6), (0, v39), (0, v38), (0, 0), (0, x4), (2, 145)]) (r := []) (x := 94) (ls0 := [(2, 94), (2, 145), (0, x4), (0, 0), (0, v38), (0, v39), (0, x6)]) gz_118_142 gm_114 rfl is_94 rd_2 rfl rfl rfl rfl rfl (c_Desk_putOn (d := d) (x1 := 145) (x2 := x4) (x3 := 0) (x4 := v38) (x5 := v39) (x6 := x6) is_145 Ln_h99 (fun h111 frh111 => ?_) (fun h112 v113 frh112 w114 w115 w116 w117 w118 w119 => ?_))
              ·
                have gh111 : my_fr [(2, 11), (2, 12), (2, 13), (2, 14), (2, 15), (2, 16), (7, 0), (7, 1), (7, 2), (7, 3), (7, 4), (7, 5), (8, 0), (8, 1), (30, -1), (31, -1), (41, -1), (42, -1), (43, -1), (44, -1)] h h111 := my_fr.tr gh99 (frh111.mo rfl)
                have Ln_h111 : Ln h111 := Ln_ag (my_ag.fr frh111 rfl) Ln_h99
                show wp l rho (d + 7) 118 145 [(2, 0), (0, x1), (0, x2), (0, x3), (0, x4), (0, x5), (0, x6), (0, v36), (0, v37), (0, v38), (0, v39), (9, 0), (9, 0)] [(0, (-1))] h111 Q
                refine w_iconst gz_118_145 (by decide) ?_
                refine w_iceq (t := 153) gz_118_146 rfl (fun u120 => ?_) (fun u120 => by exfalso; omega)
                exact J153_0 (v36) (v37) (v38) (v39) h111 (gh111) (by omega) (by omega) (by omega) (by omega) (by omega) (by omega) Ln_h111
              ·
                have gh112 : my_fr [(2, 11), (2, 12), (2, 13), (2, 14), (2, 15), (2, 16), (7, 0), (7, 1), (7, 2), (7, 3), (7, 4), (7, 5), (8, 0), (8, 1), (30, -1), (31, -1), (41, -1), (42, -1), (43, -1), (44, -1)] h h112 := my_fr.tr gh99 (frh112.mo rfl)
                have Ln_h112 : Ln h112 := Ln_ag (my_ag.fr frh112 rfl) Ln_h99
                show wp l rho (d + 7) 118 145 [(2, 0), (0, x1), (0, x2), (0, x3), (0, x4), (0, x5), (0, x6), (0, v36), (0, v37), (0, v38), (0, v39), (9, 0), (9, 0)] [(0, v113)] h112 Q
                refine w_iconst gz_118_145 (by decide) ?_
                refine w_iceq (t := 153) gz_118_146 rfl (fun u121 => ?_) (fun u121 => ?_)
                ·
                  exact J153_0 (v36) (v37) (v38) (v39) h112 (gh112) (by omega) (by omega) (by omega) (by omega) (by omega) (by omega) Ln_h112
                ·
                  refine w_iconst gz_118_149 (by decide) ?_
                  refine w_goto (t := 154) gz_118_150 rfl ?_
                  refine w_istore (ls' := [(2, 0), (0, x1), (0, x2), (0, x3), (0, x4), (0, x5), (0, x6), (0, v36), (0, v37), (0, v38), (0, v39), (0, 1), (9, 0)]) gz_118_154 gm_118 rfl rfl rfl ?_
                  refine w_aload_n gz_118_156 rfl ?_
                  refine w_getX (v := 94) gz_118_157 is_0 rd_9 rfl (by decide) rfl ?_
                  refine w_aload_n gz_118_160 rfl ?_
                  refine w_getX (v := 148) gz_118_161 is_0 rd_9 rfl (by decide) rfl ?_
                  refine w_iload gz_118_164 rfl ?_
                  refine w_iconst gz_118_166 (by decide) ?_
                  refine w_iload gz_118_167 rfl ?_
                  refine w_iload gz_118_169 rfl ?_
                  refine w_iload gz_118_171 rfl ?_
                  refine w_inv (k := 0) (as := [(0, x6), (0, v39), (0, v38), (0, 0), (0, x4), (2, 148)]) (r := []) (x := 94) (ls0 := [(2, 94), (2, 148), (0, x4), (0, 0), (0, v38), (0, v39), (0, x6)]) gz_118_173 gm_114 rfl is_94 rd_2 rfl rfl rfl rfl rfl (c_Desk_putOn (d := d) (x1 := 148) (x2 := x4) (x3 := 0) (x4 := v38) (x5 := v39) (x6 := x6) is_148 Ln_h112 (fun h124 frh124 => ?_) (fun h125 v126 frh125 w127 w128 w129 w130 w131 w132 => ?_))
                  ·
                    have gh124 : my_fr [(2, 11), (2, 12), (2, 13), (2, 14), (2, 15), (2, 16), (7, 0), (7, 1), (7, 2), (7, 3), (7, 4), (7, 5), (8, 0), (8, 1), (30, -1), (31, -1), (41, -1), (42, -1), (43, -1), (44, -1)] h h124 := my_fr.tr gh112 (frh124.mo rfl)
                    have Ln_h124 : Ln h124 := Ln_ag (my_ag.fr frh124 rfl) Ln_h112
                    show wp l rho (d + 7) 118 176 [(2, 0), (0, x1), (0, x2), (0, x3), (0, x4), (0, x5), (0, x6), (0, v36), (0, v37), (0, v38), (0, v39), (0, 1), (9, 0)] [(0, (-1))] h124 Q
                    refine w_iconst gz_118_176 (by decide) ?_
                    refine w_iceq (t := 206) gz_118_177 rfl (fun u133 => ?_) (fun u133 => by exfalso; omega)
                    exact J206_1 (v36) (v37) (v38) (v39) h124 (gh124) (by omega) (by omega) (by omega) (by omega) (by omega) (by omega) Ln_h124
                  ·
                    have gh125 : my_fr [(2, 11), (2, 12), (2, 13), (2, 14), (2, 15), (2, 16), (7, 0), (7, 1), (7, 2), (7, 3), (7, 4), (7, 5), (8, 0), (8, 1), (30, -1), (31, -1), (41, -1), (42, -1), (43, -1), (44, -1)] h h125 := my_fr.tr gh112 (frh125.mo rfl)
                    have Ln_h125 : Ln h125 := Ln_ag (my_ag.fr frh125 rfl) Ln_h112
                    show wp l rho (d + 7) 118 176 [(2, 0), (0, x1), (0, x2), (0, x3), (0, x4), (0, x5), (0, x6), (0, v36), (0, v37), (0, v38), (0, v39), (0, 1), (9, 0)] [(0, v126)] h125 Q
                    refine w_iconst gz_118_176 (by decide) ?_
                    refine w_iceq (t := 206) gz_118_177 rfl (fun u134 => ?_) (fun u134 => ?_)
                    ·
                      exact J206_1 (v36) (v37) (v38) (v39) h125 (gh125) (by omega) (by omega) (by omega) (by omega) (by omega) (by omega) Ln_h125
                    ·
                      refine w_aload_n gz_118_180 rfl ?_
                      refine w_getX (v := 94) gz_118_181 is_0 rd_9 rfl (by decide) rfl ?_
                      refine w_aload_n gz_118_184 rfl ?_
                      refine w_getX (v := 148) gz_118_185 is_0 rd_9 rfl (by decide) rfl ?_
                      refine w_iload_n gz_118_188 rfl ?_
                      refine w_iconst gz_118_189 (by decide) ?_
                      refine w_iload gz_118_190 rfl ?_
                      refine w_iload gz_118_192 rfl ?_
                      refine w_iload_n gz_118_194 rfl ?_
                      refine w_inv (k := 0) (as := [(0, x3), (0, v37), (0, v36), (0, 0), (0, x1), (2, 148)]) (r := []) (x := 94) (ls0 := [(2, 94), (2, 148), (0, x1), (0, 0), (0, v36), (0, v37), (0, x3)]) gz_118_195 gm_114 rfl is_94 rd_2 rfl rfl rfl rfl rfl (c_Desk_putOn (d := d) (x1 := 148) (x2 := x1) (x3 := 0) (x4 := v36) (x5 := v37) (x6 := x3) is_148 Ln_h125 (fun h137 frh137 => ?_) (fun h138 v139 frh138 w140 w141 w142 w143 w144 w145 => ?_))
                      ·
                        have gh137 : my_fr [(2, 11), (2, 12), (2, 13), (2, 14), (2, 15), (2, 16), (7, 0), (7, 1), (7, 2), (7, 3), (7, 4), (7, 5), (8, 0), (8, 1), (30, -1), (31, -1), (41, -1), (42, -1), (43, -1), (44, -1)] h h137 := my_fr.tr gh125 (frh137.mo rfl)
                        have Ln_h137 : Ln h137 := Ln_ag (my_ag.fr frh137 rfl) Ln_h125
                        show wp l rho (d + 7) 118 198 [(2, 0), (0, x1), (0, x2), (0, x3), (0, x4), (0, x5), (0, x6), (0, v36), (0, v37), (0, v38), (0, v39), (0, 1), (9, 0)] [(0, (-1))] h137 Q
                        refine w_iconst gz_118_198 (by decide) ?_
                        refine w_iceq (t := 206) gz_118_199 rfl (fun u146 => ?_) (fun u146 => by exfalso; omega)
                        exact J206_1 (v36) (v37) (v38) (v39) h137 (gh137) (by omega) (by omega) (by omega) (by omega) (by omega) (by omega) Ln_h137
                      ·
                        have gh138 : my_fr [(2, 11), (2, 12), (2, 13), (2, 14), (2, 15), (2, 16), (7, 0), (7, 1), (7, 2), (7, 3), (7, 4), (7, 5), (8, 0), (8, 1), (30, -1), (31, -1), (41, -1), (42, -1), (43, -1), (44, -1)] h h138 := my_fr.tr gh125 (frh138.mo rfl)
                        have Ln_h138 : Ln h138 := Ln_ag (my_ag.fr frh138 rfl) Ln_h125
                        show wp l rho (d + 7) 118 198 [(2, 0), (0, x1), (0, x2), (0, x3), (0, x4), (0, x5), (0, x6), (0, v36), (0, v37), (0, v38), (0, v39), (0, 1), (9, 0)] [(0, v139)] h138 Q
                        refine w_iconst gz_118_198 (by decide) ?_
                        refine w_iceq (t := 206) gz_118_199 rfl (fun u147 => ?_) (fun u147 => ?_)
                        ·
                          exact J206_1 (v36) (v37) (v38) (v39) h138 (gh138) (by omega) (by omega) (by omega) (by omega) (by omega) (by omega) Ln_h138
                        ·
                          refine w_iconst gz_118_202 (by decide) ?_
                          refine w_goto (t := 207) gz_118_203 rfl ?_
                          refine w_istore (ls' := [(2, 0), (0, x1), (0, x2), (0, x3), (0, x4), (0, x5), (0, x6), (0, v36), (0, v37), (0, v38), (0, v39), (0, 1), (0, 1)]) gz_118_207 gm_118 rfl rfl rfl ?_
                          refine w_iload gz_118_209 rfl ?_
                          refine w_ifeq (t := 239) gz_118_211 rfl (fun u148 => by exfalso; omega) (fun u148 => ?_)
                          refine w_iload gz_118_214 rfl ?_
                          refine w_ifeq (t := 239) gz_118_216 rfl (fun u149 => by exfalso; omega) (fun u149 => ?_)
                          refine w_aload_n gz_118_219 rfl ?_
                          refine w_getX (v := 145) gz_118_220 is_0 rd_9 rfl (by decide) rfl ?_
                          refine w_aload_n gz_118_223 rfl ?_
                          refine w_getX (v := 148) gz_118_224 is_0 rd_9 rfl (by decide) rfl ?_
                          refine w_inv (k := 1) (as := [(2, 148)]) (r := []) (x := 145) (ls0 := [(2, 145), (2, 148), (9, 0)]) gz_118_227 gm_116 rfl is_145 rd_6 rfl rfl rfl rfl rfl (c_Rows_same (d := (d + 6)) (x0 := 145) (x1 := 148) is_145 is_148 ?_ ?_)
                          ·
                            show wp l rho (d + 7) 118 230 [(2, 0), (0, x1), (0, x2), (0, x3), (0, x4), (0, x5), (0, x6), (0, v36), (0, v37), (0, v38), (0, v39), (0, 1), (0, 1)] [(0, 0)] h138 Q
                            refine w_ifeq (t := 237) gz_118_230 rfl (fun u152 => ?_) (fun u152 => by exfalso; omega)
                            refine w_iconst gz_118_237 (by decide) ?_
                            exact w_iret gz_118_238 gm_118 (k2 h138 (gh138) (by omega) (by omega) (by omega) (by omega) (by omega) (by omega) Ln_h138)
                          ·
                            show wp l rho (d + 7) 118 230 [(2, 0), (0, x1), (0, x2), (0, x3), (0, x4), (0, x5), (0, x6), (0, v36), (0, v37), (0, v38), (0, v39), (0, 1), (0, 1)] [(0, 1)] h138 Q
                            refine w_ifeq (t := 237) gz_118_230 rfl (fun u153 => by exfalso; omega) (fun u153 => ?_)
                            refine w_iconst gz_118_233 (by decide) ?_
                            refine w_goto (t := 238) gz_118_234 rfl ?_
                            exact w_iret gz_118_238 gm_118 (k1 h138 (gh138) (by omega) (by omega) (by omega) (by omega) (by omega) (by omega) Ln_h138)
theorem c_ThroughWindow_fits {l : Launch} {rho : Nat → Int32} {d : Nat} {h : my_H} {Q : my_H → my_V → Prop} {x1 x2 : Int} (n_Ln : Ln h) (k0 : ∀ (h' : my_H), my_fr [(8, 0), (8, 1), (42, -1), (43, -1), (44, -1), (45, -1)] h h' → Ln h' → Q h' (0, (-1))) (k1 : ∀ (h' : my_H), my_fr [(8, 0), (8, 1), (42, -1), (43, -1), (44, -1), (45, -1)] h h' → 0 ≤ x1 → x1 ≤ 5 → 0 ≤ x2 → x2 ≤ 2 → Ln h' → Q h' (0, 0)) (k2 : ∀ (h' : my_H) (y : Int), my_fr [(8, 0), (8, 1), (42, -1), (43, -1), (44, -1), (45, -1)] h h' → 0 ≤ x1 → x1 ≤ 5 → 0 ≤ x2 → x2 ≤ 2 → Ln h' → Q h' (0, y)) : wp l rho (d + 5) 119 0 [(2, 0), (0, x1), (0, x2)] [] h Q := by
  refine w_aload_n gz_119_0 rfl ?_
  refine w_getX (v := 1) gz_119_1 is_0 rd_9 rfl (by decide) rfl ?_
  refine w_iload_n gz_119_4 rfl ?_
  refine w_inv (k := 0) (as := [(0, x2)]) (r := []) (x := 1) (ls0 := [(2, 1), (0, x2)]) gz_119_5 gm_13 rfl is_1 rd_3 rfl rfl rfl rfl rfl ?_
  refine w_iload_n gz_13_0 rfl ?_
  refine w_iflt (t := 22) gz_13_1 rfl (fun u2 => ?_) (fun u2 => ?_)
  ·
    refine w_iconst gz_13_22 (by decide) ?_
    refine w_bret gz_13_23 gm_13 (by omega) (by omega) ?_
    show wp l rho (d + 5) 119 8 [(2, 0), (0, x1), (0, x2)] [(0, 0)] h Q
    refine w_ifeq (t := 26) gz_119_8 rfl (fun u3 => ?_) (fun u3 => by exfalso; omega)
    refine w_iconst gz_119_26 (by decide) ?_
    exact w_iret gz_119_27 gm_119 (k0 h (my_fr.rf) n_Ln)
  ·
    refine w_iload_n gz_13_4 rfl ?_
    refine w_iconst gz_13_5 (by decide) ?_
    refine w_icge (t := 22) gz_13_6 rfl (fun u4 => ?_) (fun u4 => ?_)
    ·
      refine w_iconst gz_13_22 (by decide) ?_
      refine w_bret gz_13_23 gm_13 (by omega) (by omega) ?_
      show wp l rho (d + 5) 119 8 [(2, 0), (0, x1), (0, x2)] [(0, 0)] h Q
      refine w_ifeq (t := 26) gz_119_8 rfl (fun u5 => ?_) (fun u5 => by exfalso; omega)
      refine w_iconst gz_119_26 (by decide) ?_
      exact w_iret gz_119_27 gm_119 (k0 h (my_fr.rf) n_Ln)
    ·
      refine w_aload_n gz_13_9 rfl ?_
      refine w_getX (v := 2) gz_13_10 is_1 rd_3 rfl (by decide) rfl ?_
      refine w_iload_n gz_13_13 rfl ?_
      refine w_iald gz_13_14 is_2 rd_25 (by omega) (by omega) (fun v7 ev7 pv7 qv7 => ?_)
      refine w_ifle (t := 22) gz_13_15 rfl (fun u8 => ?_) (fun u8 => ?_)
      ·
        refine w_iconst gz_13_22 (by decide) ?_
        refine w_bret gz_13_23 gm_13 (by omega) (by omega) ?_
        show wp l rho (d + 5) 119 8 [(2, 0), (0, x1), (0, x2)] [(0, 0)] h Q
        refine w_ifeq (t := 26) gz_119_8 rfl (fun u9 => ?_) (fun u9 => by exfalso; omega)
        refine w_iconst gz_119_26 (by decide) ?_
        exact w_iret gz_119_27 gm_119 (k0 h (my_fr.rf) n_Ln)
      ·
        refine w_iconst gz_13_18 (by decide) ?_
        refine w_goto (t := 23) gz_13_19 rfl ?_
        refine w_bret gz_13_23 gm_13 (by omega) (by omega) ?_
        show wp l rho (d + 5) 119 8 [(2, 0), (0, x1), (0, x2)] [(0, 1)] h Q
        refine w_ifeq (t := 26) gz_119_8 rfl (fun u10 => by exfalso; omega) (fun u10 => ?_)
        refine w_aload_n gz_119_11 rfl ?_
        refine w_getX (v := 94) gz_119_12 is_0 rd_9 rfl (by decide) rfl ?_
        refine w_aload_n gz_119_15 rfl ?_
        refine w_getX (v := 7) gz_119_16 is_0 rd_9 rfl (by decide) rfl ?_
        refine w_iload_n gz_119_19 rfl ?_
        refine w_inv (k := 0) (as := [(0, x1), (2, 7)]) (r := []) (x := 94) (ls0 := [(2, 94), (2, 7), (0, x1)]) gz_119_20 gm_65 rfl is_94 rd_2 rfl rfl rfl rfl rfl (c_Desk_looks (d := d) (x1 := 7) (x2 := x1) is_7 n_Ln (fun h13 frh13 => ?_) (fun h14 frh14 w15 w16 xp17 xp18 => ?_))
        ·
          have gh13 : my_fr [(8, 0), (8, 1), (42, -1), (43, -1), (44, -1), (45, -1)] h h13 := my_fr.tr my_fr.rf (frh13.mo rfl)
          have Ln_h13 : Ln h13 := Ln_ag (my_ag.fr frh13 rfl) n_Ln
          show wp l rho (d + 5) 119 23 [(2, 0), (0, x1), (0, x2)] [(0, 0)] h13 Q
          refine w_ifne (t := 28) gz_119_23 rfl (fun u19 => by exfalso; omega) (fun u19 => ?_)
          refine w_iconst gz_119_26 (by decide) ?_
          exact w_iret gz_119_27 gm_119 (k0 h13 (gh13) Ln_h13)
        ·
          have gh14 : my_fr [(8, 0), (8, 1), (42, -1), (43, -1), (44, -1), (45, -1)] h h14 := my_fr.tr my_fr.rf (frh14.mo rfl)
          have Ln_h14 : Ln h14 := Ln_ag (my_ag.fr frh14 rfl) n_Ln
          show wp l rho (d + 5) 119 23 [(2, 0), (0, x1), (0, x2)] [(0, 1)] h14 Q
          refine w_ifne (t := 28) gz_119_23 rfl (fun u20 => ?_) (fun u20 => by exfalso; omega)
          refine w_aload_n gz_119_28 rfl ?_
          refine w_getX (v := 114) gz_119_29 is_0 rd_9 rfl (by decide) rfl ?_
          refine w_aload_n gz_119_32 rfl ?_
          refine w_getX (v := 7) gz_119_33 is_0 rd_9 rfl (by decide) rfl ?_
          refine w_iload_n gz_119_36 rfl ?_
          refine w_aload_n gz_119_37 rfl ?_
          refine w_getX (v := 94) gz_119_38 is_0 rd_9 rfl (by decide) rfl ?_
          refine w_getX (v := 98) gz_119_41 is_94 rd_2 rfl (by decide) rfl ?_
          refine w_inv (k := 7) (as := [(2, 98), (0, x2), (2, 7)]) (r := []) (x := 114) (ls0 := [(2, 114), (2, 7), (0, x2), (2, 98), (9, 0), (9, 0), (9, 0), (9, 0), (9, 0), (9, 0), (9, 0)]) gz_119_44 gm_120 rfl is_114 rd_1 rfl rfl rfl rfl rfl (c_Cutter_countFits (d := d) (x1 := 7) (x2 := x2) is_7 (by omega) (by omega) (fun h25 frh25 => ?_) (fun h26 v27 frh26 => ?_))
          ·
            have gh25 : my_fr [(8, 0), (8, 1), (42, -1), (43, -1), (44, -1), (45, -1)] h h25 := my_fr.tr gh14 (frh25.mo rfl)
            have Ln_h25 : Ln h25 := Ln_ag (my_ag.fr frh25 rfl) Ln_h14
            show wp l rho (d + 5) 119 47 [(2, 0), (0, x1), (0, x2)] [(0, 0)] h25 Q
            exact w_iret gz_119_47 gm_119 (k1 h25 (gh25) (by omega) (by omega) (by omega) (by omega) Ln_h25)
          ·
            have gh26 : my_fr [(8, 0), (8, 1), (42, -1), (43, -1), (44, -1), (45, -1)] h h26 := my_fr.tr gh14 (frh26.mo rfl)
            have Ln_h26 : Ln h26 := Ln_ag (my_ag.fr frh26 rfl) Ln_h14
            show wp l rho (d + 5) 119 47 [(2, 0), (0, x1), (0, x2)] [(0, v27)] h26 Q
            exact w_iret gz_119_47 gm_119 (k2 h26 (v27) (gh26) (by omega) (by omega) (by omega) (by omega) Ln_h26)
theorem c_ThroughWindow_carried {l : Launch} {rho : Nat → Int32} {d : Nat} {h : my_H} {Q : my_H → my_V → Prop} {x1 x2 : Int} (n_Ln : Ln h) (k0 : ∀ (h' : my_H), my_fr [(8, 0), (8, 1), (42, -1), (43, -1), (44, -1)] h h' → Ln h' → Q h' (0, (-1))) (k1 : ∀ (h' : my_H), my_fr [(8, 0), (8, 1), (42, -1), (43, -1), (44, -1)] h h' → 0 ≤ x1 → x1 ≤ 5 → 1 ≤ x2 → x2 ≤ 1 → h' 0 3 = 1 → Ln h' → Q h' (0, 0)) (k2 : ∀ (h' : my_H) (y : Int), my_fr [(8, 0), (8, 1), (42, -1), (43, -1), (44, -1)] h h' → (-11) ≤ y → y ≤ 11 → 0 ≤ x1 → x1 ≤ 5 → 0 ≤ x2 → x2 ≤ 1 → h' 0 3 = 1 → Ln h' → Q h' (0, y)) : wp l rho (d + 5) 133 0 [(2, 0), (0, x1), (0, x2), (9, 0), (9, 0)] [] h Q := by
  refine w_aload_n gz_133_0 rfl ?_
  refine v_getI (j := 3) gz_133_1 rfl is_0 rd_9 rfl (fun v1 ev1 pv1 qv1 => ?_)
  refine w_ifeq (t := 31) gz_133_4 rfl (fun u2 => ?_) (fun u2 => ?_)
  ·
    refine w_iconst gz_133_31 (by decide) ?_
    exact w_iret gz_133_32 gm_133 (k0 h (my_fr.rf) n_Ln)
  ·
    refine w_iload_n gz_133_7 rfl ?_
    refine w_iflt (t := 31) gz_133_8 rfl (fun u3 => ?_) (fun u3 => ?_)
    ·
      refine w_iconst gz_133_31 (by decide) ?_
      exact w_iret gz_133_32 gm_133 (k0 h (my_fr.rf) n_Ln)
    ·
      refine w_iload_n gz_133_11 rfl ?_
      refine w_iconst gz_133_12 (by decide) ?_
      refine w_icgt (t := 31) gz_133_13 rfl (fun u4 => ?_) (fun u4 => ?_)
      ·
        refine w_iconst gz_133_31 (by decide) ?_
        exact w_iret gz_133_32 gm_133 (k0 h (my_fr.rf) n_Ln)
      ·
        refine w_aload_n gz_133_16 rfl ?_
        refine w_getX (v := 94) gz_133_17 is_0 rd_9 rfl (by decide) rfl ?_
        refine w_aload_n gz_133_20 rfl ?_
        refine w_getX (v := 7) gz_133_21 is_0 rd_9 rfl (by decide) rfl ?_
        refine w_iload_n gz_133_24 rfl ?_
        refine w_inv (k := 0) (as := [(0, x1), (2, 7)]) (r := []) (x := 94) (ls0 := [(2, 94), (2, 7), (0, x1)]) gz_133_25 gm_65 rfl is_94 rd_2 rfl rfl rfl rfl rfl (c_Desk_looks (d := d) (x1 := 7) (x2 := x1) is_7 n_Ln (fun h7 frh7 => ?_) (fun h8 frh8 w9 w10 xp11 xp12 => ?_))
        ·
          have gh7 : my_fr [(8, 0), (8, 1), (42, -1), (43, -1), (44, -1)] h h7 := my_fr.tr my_fr.rf (frh7.mo rfl)
          have Ln_h7 : Ln h7 := Ln_ag (my_ag.fr frh7 rfl) n_Ln
          show wp l rho (d + 5) 133 28 [(2, 0), (0, x1), (0, x2), (9, 0), (9, 0)] [(0, 0)] h7 Q
          refine w_ifne (t := 33) gz_133_28 rfl (fun u13 => by exfalso; omega) (fun u13 => ?_)
          refine w_iconst gz_133_31 (by decide) ?_
          exact w_iret gz_133_32 gm_133 (k0 h7 (gh7) Ln_h7)
        ·
          have gh8 : my_fr [(8, 0), (8, 1), (42, -1), (43, -1), (44, -1)] h h8 := my_fr.tr my_fr.rf (frh8.mo rfl)
          have Ln_h8 : Ln h8 := Ln_ag (my_ag.fr frh8 rfl) n_Ln
          show wp l rho (d + 5) 133 28 [(2, 0), (0, x1), (0, x2), (9, 0), (9, 0)] [(0, 1)] h8 Q
          refine w_ifne (t := 33) gz_133_28 rfl (fun u14 => ?_) (fun u14 => by exfalso; omega)
          refine w_aload_n gz_133_33 rfl ?_
          refine w_getX (v := 94) gz_133_34 is_0 rd_9 rfl (by decide) rfl ?_
          refine w_getX (v := 106) gz_133_37 is_94 rd_2 rfl (by decide) rfl ?_
          refine w_aload_n gz_133_40 rfl ?_
          refine w_getX (v := 27) gz_133_41 is_0 rd_9 rfl (by decide) rfl ?_
          refine w_iload_n gz_133_44 rfl ?_
          refine w_aload_n gz_133_45 rfl ?_
          refine w_getX (v := 10) gz_133_46 is_0 rd_9 rfl (by decide) rfl ?_
          refine w_inv (k := 4) (as := [(2, 10), (0, x1), (2, 27)]) (r := []) (x := 106) (ls0 := [(2, 106), (2, 27), (0, x1), (2, 10), (9, 0), (9, 0), (9, 0), (9, 0)]) gz_133_49 gm_67 rfl is_106 rd_8 rfl rfl rfl rfl rfl (c_View_show (d := (d + 1)) (x0 := 106) (x2 := x1) (x3 := 10) is_106 (by omega) (by omega) (by omega) (by omega) is_10 Ln_h8 (by first | assumption | omega) (fun h19 v20 frh19 fxh19 w21 xp22 => ?_))
          have gh19 : my_fr [(8, 0), (8, 1), (42, -1), (43, -1), (44, -1)] h h19 := my_fr.tr gh8 (frh19.mo rfl)
          have Ln_h19 : Ln h19 := Ln_ag (my_ag.fr frh19 rfl) Ln_h8
          show wp l rho (d + 5) 133 52 [(2, 0), (0, x1), (0, x2), (9, 0), (9, 0)] [(2, v20)] h19 Q
          refine w_astore_n (ls' := [(2, 0), (0, x1), (0, x2), (2, v20), (9, 0)]) gz_133_52 gm_133 rfl rfl rfl ?_
          refine w_aload_n gz_133_53 rfl ?_
          refine w_getX (v := 94) gz_133_54 is_0 rd_9 rfl (by decide) rfl ?_
          refine w_getX (v := 98) gz_133_57 is_94 rd_2 rfl (by decide) rfl ?_
          refine w_aload_n gz_133_60 rfl ?_
          refine w_inv (k := 3) (as := [(2, v20)]) (r := []) (x := 98) (ls0 := [(2, 98), (2, v20), (9, 0), (9, 0), (9, 0)]) gz_133_61 gm_134 rfl is_98 rd_8 rfl rfl rfl rfl rfl (c_View_countShared (d := (d + 3)) (x0 := 98) (x1 := v20) is_98 w21 ?_ (fun v25 w26 w27 => ?_))
          ·
            show wp l rho (d + 5) 133 64 [(2, 0), (0, x1), (0, x2), (2, v20), (9, 0)] [(0, 0)] h19 Q
            refine w_istore (ls' := [(2, 0), (0, x1), (0, x2), (2, v20), (0, 0)]) gz_133_64 gm_133 rfl rfl rfl ?_
            refine w_iload_n gz_133_66 rfl ?_
            refine w_ifne (t := 86) gz_133_67 rfl (fun u28 => ?_) (fun u28 => ?_)
            ·
              refine w_aload_n gz_133_86 rfl ?_
              refine v_getI (j := 0) gz_133_87 rfl w21 rd_8 rfl (fun v29 ev29 pv29 qv29 => ?_)
              refine w_iload gz_133_90 rfl ?_
              refine w_isub gz_133_92 ⟨by omega, by omega⟩ ?_
              have c30 := ((my_fr.at frh19 is_0 rfl).trans ((my_fr.at frh8 is_0 rfl).trans ev1.symm))
              exact w_iret gz_133_93 gm_133 (k2 h19 ((v29 - 0)) (gh19) (by omega) (by omega) (by omega) (by omega) (by omega) (by omega) (by omega) Ln_h19)
            ·
              refine w_aload_n gz_133_70 rfl ?_
              refine w_getX (v := 94) gz_133_71 is_0 rd_9 rfl (by decide) rfl ?_
              refine w_getX (v := 98) gz_133_74 is_94 rd_2 rfl (by decide) rfl ?_
              refine v_getI (j := 0) gz_133_77 rfl is_98 rd_8 rfl (fun v33 ev33 pv33 qv33 => ?_)
              refine w_iload gz_133_80 rfl ?_
              refine w_isub gz_133_82 ⟨by omega, by omega⟩ ?_
              refine w_goto (t := 93) gz_133_83 rfl ?_
              have c34 := ((my_fr.at frh19 is_0 rfl).trans ((my_fr.at frh8 is_0 rfl).trans ev1.symm))
              exact w_iret gz_133_93 gm_133 (k2 h19 ((v33 - 0)) (gh19) (by omega) (by omega) (by omega) (by omega) (by omega) (by omega) (by omega) Ln_h19)
          ·
            show wp l rho (d + 5) 133 64 [(2, 0), (0, x1), (0, x2), (2, v20), (9, 0)] [(0, v25)] h19 Q
            refine w_istore (ls' := [(2, 0), (0, x1), (0, x2), (2, v20), (0, v25)]) gz_133_64 gm_133 rfl rfl rfl ?_
            refine w_iload_n gz_133_66 rfl ?_
            refine w_ifne (t := 86) gz_133_67 rfl (fun u35 => ?_) (fun u35 => ?_)
            ·
              refine w_aload_n gz_133_86 rfl ?_
              refine v_getI (j := 0) gz_133_87 rfl w21 rd_8 rfl (fun v36 ev36 pv36 qv36 => ?_)
              refine w_iload gz_133_90 rfl ?_
              refine w_isub gz_133_92 ⟨by omega, by omega⟩ ?_
              have c37 := ((my_fr.at frh19 is_0 rfl).trans ((my_fr.at frh8 is_0 rfl).trans ev1.symm))
              exact w_iret gz_133_93 gm_133 (k2 h19 ((v36 - v25)) (gh19) (by omega) (by omega) (by omega) (by omega) (by omega) (by omega) (by omega) Ln_h19)
            ·
              refine w_aload_n gz_133_70 rfl ?_
              refine w_getX (v := 94) gz_133_71 is_0 rd_9 rfl (by decide) rfl ?_
              refine w_getX (v := 98) gz_133_74 is_94 rd_2 rfl (by decide) rfl ?_
              refine v_getI (j := 0) gz_133_77 rfl is_98 rd_8 rfl (fun v40 ev40 pv40 qv40 => ?_)
              refine w_iload gz_133_80 rfl ?_
              refine w_isub gz_133_82 ⟨by omega, by omega⟩ ?_
              refine w_goto (t := 93) gz_133_83 rfl ?_
              have c41 := ((my_fr.at frh19 is_0 rfl).trans ((my_fr.at frh8 is_0 rfl).trans ev1.symm))
              exact w_iret gz_133_93 gm_133 (k2 h19 ((v40 - v25)) (gh19) (by omega) (by omega) (by omega) (by omega) (by omega) (by omega) (by omega) Ln_h19)
theorem c_ThroughWindow_seen {l : Launch} {rho : Nat → Int32} {d : Nat} {h : my_H} {Q : my_H → my_V → Prop} {x1 x2 x3 : Int} (n_Ln : Ln h) (k0 : ∀ (h' : my_H), my_fr [(8, 0), (8, 1), (42, -1), (43, -1), (44, -1)] h h' → Ln h' → Q h' (0, (-1))) (k1 : ∀ (h' : my_H) (y : Int), my_fr [(8, 0), (8, 1), (42, -1), (43, -1), (44, -1)] h h' → 0 ≤ x1 → x1 ≤ 5 → 0 ≤ x2 → x2 ≤ 10 → 0 ≤ x3 → x3 ≤ 7 → Ln h' → Q h' (0, y)) : wp l rho (d + 5) 64 0 [(2, 0), (0, x1), (0, x2), (0, x3), (9, 0)] [] h Q := by
  refine w_aload_n gz_64_0 rfl ?_
  refine w_getX (v := 94) gz_64_1 is_0 rd_9 rfl (by decide) rfl ?_
  refine w_getX (v := 98) gz_64_4 is_94 rd_2 rfl (by decide) rfl ?_
  refine w_astore (ls' := [(2, 0), (0, x1), (0, x2), (0, x3), (2, 98)]) gz_64_7 gm_64 rfl rfl rfl ?_
  refine w_aload_n gz_64_9 rfl ?_
  refine w_getX (v := 94) gz_64_10 is_0 rd_9 rfl (by decide) rfl ?_
  refine w_aload_n gz_64_13 rfl ?_
  refine w_getX (v := 7) gz_64_14 is_0 rd_9 rfl (by decide) rfl ?_
  refine w_iload_n gz_64_17 rfl ?_
  refine w_inv (k := 0) (as := [(0, x1), (2, 7)]) (r := []) (x := 94) (ls0 := [(2, 94), (2, 7), (0, x1)]) gz_64_18 gm_65 rfl is_94 rd_2 rfl rfl rfl rfl rfl (c_Desk_looks (d := d) (x1 := 7) (x2 := x1) is_7 n_Ln (fun h5 frh5 => ?_) (fun h6 frh6 w7 w8 xp9 xp10 => ?_))
  ·
    have gh5 : my_fr [(8, 0), (8, 1), (42, -1), (43, -1), (44, -1)] h h5 := my_fr.tr my_fr.rf (frh5.mo rfl)
    have Ln_h5 : Ln h5 := Ln_ag (my_ag.fr frh5 rfl) n_Ln
    show wp l rho (d + 5) 64 21 [(2, 0), (0, x1), (0, x2), (0, x3), (2, 98)] [(0, 0)] h5 Q
    refine w_ifeq (t := 34) gz_64_21 rfl (fun u11 => ?_) (fun u11 => by exfalso; omega)
    refine w_iconst gz_64_34 (by decide) ?_
    exact w_iret gz_64_35 gm_64 (k0 h5 (gh5) Ln_h5)
  ·
    have gh6 : my_fr [(8, 0), (8, 1), (42, -1), (43, -1), (44, -1)] h h6 := my_fr.tr my_fr.rf (frh6.mo rfl)
    have Ln_h6 : Ln h6 := Ln_ag (my_ag.fr frh6 rfl) n_Ln
    show wp l rho (d + 5) 64 21 [(2, 0), (0, x1), (0, x2), (0, x3), (2, 98)] [(0, 1)] h6 Q
    refine w_ifeq (t := 34) gz_64_21 rfl (fun u12 => by exfalso; omega) (fun u12 => ?_)
    refine w_aload gz_64_24 rfl ?_
    refine w_iload_n gz_64_26 rfl ?_
    refine w_iload_n gz_64_27 rfl ?_
    refine w_inv (k := 0) (as := [(0, x3), (0, x2)]) (r := []) (x := 98) (ls0 := [(2, 98), (0, x2), (0, x3)]) gz_64_28 gm_81 rfl is_98 rd_8 rfl rfl rfl rfl rfl ?_
    refine w_iload_n gz_81_0 rfl ?_
    refine w_iflt (t := 28) gz_81_1 rfl (fun u13 => ?_) (fun u13 => ?_)
    ·
      refine w_iconst gz_81_28 (by decide) ?_
      refine w_bret gz_81_29 gm_81 (by omega) (by omega) ?_
      show wp l rho (d + 5) 64 31 [(2, 0), (0, x1), (0, x2), (0, x3), (2, 98)] [(0, 0)] h6 Q
      refine w_ifne (t := 36) gz_64_31 rfl (fun u14 => by exfalso; omega) (fun u14 => ?_)
      refine w_iconst gz_64_34 (by decide) ?_
      exact w_iret gz_64_35 gm_64 (k0 h6 (gh6) Ln_h6)
    ·
      refine w_iload_n gz_81_4 rfl ?_
      refine w_aload_n gz_81_5 rfl ?_
      refine v_getI (j := 0) gz_81_6 rfl is_98 rd_8 rfl (fun v15 ev15 pv15 qv15 => ?_)
      refine w_icge (t := 28) gz_81_9 rfl (fun u16 => ?_) (fun u16 => ?_)
      ·
        refine w_iconst gz_81_28 (by decide) ?_
        refine w_bret gz_81_29 gm_81 (by omega) (by omega) ?_
        show wp l rho (d + 5) 64 31 [(2, 0), (0, x1), (0, x2), (0, x3), (2, 98)] [(0, 0)] h6 Q
        refine w_ifne (t := 36) gz_64_31 rfl (fun u17 => by exfalso; omega) (fun u17 => ?_)
        refine w_iconst gz_64_34 (by decide) ?_
        exact w_iret gz_64_35 gm_64 (k0 h6 (gh6) Ln_h6)
      ·
        refine w_iload_n gz_81_12 rfl ?_
        refine w_iflt (t := 28) gz_81_13 rfl (fun u18 => ?_) (fun u18 => ?_)
        ·
          refine w_iconst gz_81_28 (by decide) ?_
          refine w_bret gz_81_29 gm_81 (by omega) (by omega) ?_
          show wp l rho (d + 5) 64 31 [(2, 0), (0, x1), (0, x2), (0, x3), (2, 98)] [(0, 0)] h6 Q
          refine w_ifne (t := 36) gz_64_31 rfl (fun u19 => by exfalso; omega) (fun u19 => ?_)
          refine w_iconst gz_64_34 (by decide) ?_
          exact w_iret gz_64_35 gm_64 (k0 h6 (gh6) Ln_h6)
        ·
          refine w_iload_n gz_81_16 rfl ?_
          refine w_aload_n gz_81_17 rfl ?_
          refine v_getI (j := 1) gz_81_18 rfl is_98 rd_8 rfl (fun v20 ev20 pv20 qv20 => ?_)
          refine w_icge (t := 28) gz_81_21 rfl (fun u21 => ?_) (fun u21 => ?_)
          ·
            refine w_iconst gz_81_28 (by decide) ?_
            refine w_bret gz_81_29 gm_81 (by omega) (by omega) ?_
            show wp l rho (d + 5) 64 31 [(2, 0), (0, x1), (0, x2), (0, x3), (2, 98)] [(0, 0)] h6 Q
            refine w_ifne (t := 36) gz_64_31 rfl (fun u22 => by exfalso; omega) (fun u22 => ?_)
            refine w_iconst gz_64_34 (by decide) ?_
            exact w_iret gz_64_35 gm_64 (k0 h6 (gh6) Ln_h6)
          ·
            refine w_iconst gz_81_24 (by decide) ?_
            refine w_goto (t := 29) gz_81_25 rfl ?_
            refine w_bret gz_81_29 gm_81 (by omega) (by omega) ?_
            show wp l rho (d + 5) 64 31 [(2, 0), (0, x1), (0, x2), (0, x3), (2, 98)] [(0, 1)] h6 Q
            refine w_ifne (t := 36) gz_64_31 rfl (fun u23 => ?_) (fun u23 => by exfalso; omega)
            refine w_aload gz_64_36 rfl ?_
            refine w_iload_n gz_64_38 rfl ?_
            refine w_iload_n gz_64_39 rfl ?_
            refine w_inv (k := 0) (as := [(0, x3), (0, x2)]) (r := []) (x := 98) (ls0 := [(2, 98), (0, x2), (0, x3)]) gz_64_40 gm_74 rfl is_98 rd_8 rfl rfl rfl rfl rfl ?_
            refine w_aload_n gz_74_0 rfl ?_
            refine w_getX (v := 99) gz_74_1 is_98 rd_8 rfl (by decide) rfl ?_
            refine w_iload_n gz_74_4 rfl ?_
            refine w_bipush gz_74_5 (by decide) ?_
            refine w_imul gz_74_7 ⟨by omega, by omega⟩ ?_
            refine w_iload_n gz_74_8 rfl ?_
            refine w_iadd gz_74_9 ⟨by omega, by omega⟩ ?_
            refine w_gldA gz_74_10 is_99 rd_42 (by omega) (by omega) (fun v25 ev25 pv25 qv25 => ?_)
            refine w_iret gz_74_11 gm_74 ?_
            show wp l rho (d + 5) 64 43 [(2, 0), (0, x1), (0, x2), (0, x3), (2, 98)] [(0, v25)] h6 Q
            exact w_iret gz_64_43 gm_64 (k1 h6 (v25) (gh6) (by omega) (by omega) (by omega) (by omega) (by omega) (by omega) Ln_h6)
theorem c_ThroughWindow_ways {l : Launch} {rho : Nat → Int32} {d : Nat} {h : my_H} {Q : my_H → my_V → Prop} {x1 x2 x3 x4 x5 : Int} (n_Ln : Ln h) (k0 : ∀ (h' : my_H), my_fr [(2, 11), (2, 12), (2, 13), (2, 14), (2, 15), (2, 16), (7, 0), (7, 1), (7, 2), (7, 3), (7, 4), (7, 5), (8, 0), (8, 1), (30, -1), (31, -1), (41, -1), (42, -1), (43, -1), (44, -1)] h h' → Ln h' → Q h' (0, (-1))) (k1 : ∀ (h' : my_H) (y : Int), my_fr [(2, 11), (2, 12), (2, 13), (2, 14), (2, 15), (2, 16), (7, 0), (7, 1), (7, 2), (7, 3), (7, 4), (7, 5), (8, 0), (8, 1), (30, -1), (31, -1), (41, -1), (42, -1), (43, -1), (44, -1)] h h' → 0 ≤ x1 → x1 ≤ 5 → 0 ≤ x2 → x2 ≤ 2 → Ln h' → Q h' (0, y)) : wp l rho (d + 6) 86 0 [(2, 0), (0, x1), (0, x2), (0, x3), (0, x4), (0, x5)] [] h Q := by
  refine w_aload_n gz_86_0 rfl ?_
  refine w_getX (v := 94) gz_86_1 is_0 rd_9 rfl (by decide) rfl ?_
  refine w_aload_n gz_86_4 rfl ?_
  refine w_getX (v := 7) gz_86_5 is_0 rd_9 rfl (by decide) rfl ?_
  refine w_iload_n gz_86_8 rfl ?_
  refine w_iload_n gz_86_9 rfl ?_
  refine w_iload_n gz_86_10 rfl ?_
  refine w_iload gz_86_11 rfl ?_
  refine w_iload gz_86_13 rfl ?_
  refine w_inv (k := 0) (as := [(0, x5), (0, x4), (0, x3), (0, x2), (0, x1), (2, 7)]) (r := []) (x := 94) (ls0 := [(2, 94), (2, 7), (0, x1), (0, x2), (0, x3), (0, x4), (0, x5)]) gz_86_15 gm_87 rfl is_94 rd_2 rfl rfl rfl rfl rfl (c_Desk_opens (d := d) (x1 := 7) (x2 := x1) (x3 := x2) (x4 := x3) (x5 := x4) (x6 := x5) is_7 n_Ln (fun h3 frh3 => ?_) (fun h4 frh4 w5 w6 w7 w8 w9 w10 xp11 xp12 xp13 xp14 xp15 => ?_))
  ·
    have gh3 : my_fr [(2, 11), (2, 12), (2, 13), (2, 14), (2, 15), (2, 16), (7, 0), (7, 1), (7, 2), (7, 3), (7, 4), (7, 5), (8, 0), (8, 1), (30, -1), (31, -1), (41, -1), (42, -1), (43, -1), (44, -1)] h h3 := my_fr.tr my_fr.rf (frh3.mo rfl)
    have Ln_h3 : Ln h3 := Ln_ag (my_ag.fr frh3 rfl) n_Ln
    show wp l rho (d + 6) 86 18 [(2, 0), (0, x1), (0, x2), (0, x3), (0, x4), (0, x5)] [(0, 0)] h3 Q
    refine w_ifne (t := 23) gz_86_18 rfl (fun u16 => by exfalso; omega) (fun u16 => ?_)
    refine w_iconst gz_86_21 (by decide) ?_
    exact w_iret gz_86_22 gm_86 (k0 h3 (gh3) Ln_h3)
  ·
    have gh4 : my_fr [(2, 11), (2, 12), (2, 13), (2, 14), (2, 15), (2, 16), (7, 0), (7, 1), (7, 2), (7, 3), (7, 4), (7, 5), (8, 0), (8, 1), (30, -1), (31, -1), (41, -1), (42, -1), (43, -1), (44, -1)] h h4 := my_fr.tr my_fr.rf (frh4.mo rfl)
    have Ln_h4 : Ln h4 := Ln_ag (my_ag.fr frh4 rfl) n_Ln
    show wp l rho (d + 6) 86 18 [(2, 0), (0, x1), (0, x2), (0, x3), (0, x4), (0, x5)] [(0, 1)] h4 Q
    refine w_ifne (t := 23) gz_86_18 rfl (fun u17 => ?_) (fun u17 => by exfalso; omega)
    refine w_aload_n gz_86_23 rfl ?_
    refine w_getX (v := 94) gz_86_24 is_0 rd_9 rfl (by decide) rfl ?_
    refine w_aload_n gz_86_27 rfl ?_
    refine w_getX (v := 7) gz_86_28 is_0 rd_9 rfl (by decide) rfl ?_
    refine w_iload_n gz_86_31 rfl ?_
    refine w_iconst gz_86_32 (by decide) ?_
    refine w_iconst gz_86_33 (by decide) ?_
    refine w_inv (k := 2) (as := [(0, 0), (0, (-1)), (0, x1), (2, 7)]) (r := []) (x := 94) (ls0 := [(2, 94), (2, 7), (0, x1), (0, (-1)), (0, 0), (9, 0), (9, 0)]) gz_86_34 gm_92 rfl is_94 rd_2 rfl rfl rfl rfl rfl (c_Desk_search (d := d) (x1 := 7) (x2 := x1) (x3 := (-1)) (x4 := 0) is_7 (by omega) (by omega) (by omega) (by omega) (by omega) Ln_h4 (by first | assumption | omega) (by first | assumption | omega) (fun h20 frh20 w21 w22 w23 w24 Lst_h20t25 => ?_))
    have gh20 : my_fr [(2, 11), (2, 12), (2, 13), (2, 14), (2, 15), (2, 16), (7, 0), (7, 1), (7, 2), (7, 3), (7, 4), (7, 5), (8, 0), (8, 1), (30, -1), (31, -1), (41, -1), (42, -1), (43, -1), (44, -1)] h h20 := my_fr.tr gh4 (frh20.mo rfl)
    have Ln_h20 : Ln h20 := Ln_ag (my_ag.fr frh20 rfl) Ln_h4
    show wp l rho (d + 6) 86 37 [(2, 0), (0, x1), (0, x2), (0, x3), (0, x4), (0, x5)] [] h20 Q
    refine w_aload_n gz_86_37 rfl ?_
    refine w_getX (v := 94) gz_86_38 is_0 rd_9 rfl (by decide) rfl ?_
    refine v_getI (j := 11) gz_86_41 rfl is_94 rd_2 rfl (fun v27 ev27 pv27 qv27 => ?_)
    exact w_iret gz_86_44 gm_86 (k1 h20 (v27) (gh20) (by omega) (by omega) (by omega) (by omega) Ln_h20)
theorem c_ThroughWindow_put {l : Launch} {rho : Nat → Int32} {d : Nat} {h : my_H} {Q : my_H → my_V → Prop} {x1 x2 x3 x4 x5 : Int} (n_Ln : Ln h) (k0 : ∀ (h' : my_H), my_fr [(2, 11), (2, 12), (2, 13), (2, 14), (2, 15), (2, 16), (7, 0), (7, 1), (7, 2), (7, 3), (7, 4), (7, 5), (8, 0), (8, 1), (9, 3), (30, -1), (31, -1), (41, -1), (42, -1), (43, -1), (44, -1)] h h' → Ln h' → Q h' (0, (-1))) (k1 : ∀ (h' : my_H) (y : Int), my_fr [(2, 11), (2, 12), (2, 13), (2, 14), (2, 15), (2, 16), (7, 0), (7, 1), (7, 2), (7, 3), (7, 4), (7, 5), (8, 0), (8, 1), (9, 3), (30, -1), (31, -1), (41, -1), (42, -1), (43, -1), (44, -1)] h h' → Ln h' → Q h' (0, y)) : wp l rho (d + 7) 113 0 [(2, 0), (0, x1), (0, x2), (0, x3), (0, x4), (0, x5), (9, 0)] [] h Q := by
  refine w_aload_n gz_113_0 rfl ?_
  refine w_getX (v := 145) gz_113_1 is_0 rd_9 rfl (by decide) rfl ?_
  refine w_aload_n gz_113_4 rfl ?_
  refine w_getX (v := 7) gz_113_5 is_0 rd_9 rfl (by decide) rfl ?_
  refine w_inv (k := 0) (as := [(2, 7)]) (r := []) (x := 145) (ls0 := [(2, 145), (2, 7)]) gz_113_8 gm_25 rfl is_145 rd_6 rfl rfl rfl rfl rfl ?_
  refine w_aload_n gz_25_0 rfl ?_
  refine w_getX (v := 8) gz_25_1 is_7 rd_6 rfl (by decide) rfl ?_
  refine w_iconst gz_25_4 (by decide) ?_
  refine w_aload_n gz_25_5 rfl ?_
  refine w_getX (v := 146) gz_25_6 is_145 rd_6 rfl (by decide) rfl ?_
  refine w_iconst gz_25_9 (by decide) ?_
  refine w_aload_n gz_25_10 rfl ?_
  refine w_getX (v := 146) gz_25_11 is_145 rd_6 rfl (by decide) rfl ?_
  refine v_alen (j := 240) gz_25_14 rfl is_146 rd_30 (by decide) ?_
  refine w_cpU gz_25_15 is_8 rd_30 is_146 rd_30 (by omega) (by omega) (by omega) (by omega) (by omega) rfl (by decide) (by decide) (fun h6 fh6 => ?_)
  have gh6 : my_fr [(2, 11), (2, 12), (2, 13), (2, 14), (2, 15), (2, 16), (7, 0), (7, 1), (7, 2), (7, 3), (7, 4), (7, 5), (8, 0), (8, 1), (9, 3), (30, -1), (31, -1), (41, -1), (42, -1), (43, -1), (44, -1)] h h6 := my_fr.cp my_fr.rf is_146 fh6 rfl
  have Ln_h6 : Ln h6 := Ln_ag (my_ag.cp fh6 is_146 rfl) n_Ln
  refine w_aload_n gz_25_18 rfl ?_
  refine w_getX (v := 9) gz_25_19 is_7 rd_6 rfl (by decide) rfl ?_
  refine w_iconst gz_25_22 (by decide) ?_
  refine w_aload_n gz_25_23 rfl ?_
  refine w_getX (v := 147) gz_25_24 is_145 rd_6 rfl (by decide) rfl ?_
  refine w_iconst gz_25_27 (by decide) ?_
  refine w_aload_n gz_25_28 rfl ?_
  refine w_getX (v := 147) gz_25_29 is_145 rd_6 rfl (by decide) rfl ?_
  refine v_alen (j := 3) gz_25_32 rfl is_147 rd_31 (by decide) ?_
  refine w_cpU gz_25_33 is_9 rd_31 is_147 rd_31 (by omega) (by omega) (by omega) (by omega) (by omega) rfl (by decide) (by decide) (fun h10 fh10 => ?_)
  have gh10 : my_fr [(2, 11), (2, 12), (2, 13), (2, 14), (2, 15), (2, 16), (7, 0), (7, 1), (7, 2), (7, 3), (7, 4), (7, 5), (8, 0), (8, 1), (9, 3), (30, -1), (31, -1), (41, -1), (42, -1), (43, -1), (44, -1)] h h10 := my_fr.cp gh6 is_147 fh10 rfl
  have Ln_h10 : Ln h10 := Ln_ag (my_ag.cp fh10 is_147 rfl) Ln_h6
  refine w_vret gz_25_36 gm_25 ?_
  show wp l rho (d + 7) 113 11 [(2, 0), (0, x1), (0, x2), (0, x3), (0, x4), (0, x5), (9, 0)] [] h10 Q
  refine w_aload_n gz_113_11 rfl ?_
  refine w_getX (v := 94) gz_113_12 is_0 rd_9 rfl (by decide) rfl ?_
  refine w_aload_n gz_113_15 rfl ?_
  refine w_getX (v := 7) gz_113_16 is_0 rd_9 rfl (by decide) rfl ?_
  refine w_iload_n gz_113_19 rfl ?_
  refine w_iload_n gz_113_20 rfl ?_
  refine w_iload_n gz_113_21 rfl ?_
  refine w_iload gz_113_22 rfl ?_
  refine w_iload gz_113_24 rfl ?_
  refine w_inv (k := 0) (as := [(0, x5), (0, x4), (0, x3), (0, x2), (0, x1), (2, 7)]) (r := []) (x := 94) (ls0 := [(2, 94), (2, 7), (0, x1), (0, x2), (0, x3), (0, x4), (0, x5)]) gz_113_26 gm_114 rfl is_94 rd_2 rfl rfl rfl rfl rfl (c_Desk_putOn (d := d) (x1 := 7) (x2 := x1) (x3 := x2) (x4 := x3) (x5 := x4) (x6 := x5) is_7 Ln_h10 (fun h13 frh13 => ?_) (fun h14 v15 frh14 w16 w17 w18 w19 w20 w21 => ?_))
  ·
    have gh13 : my_fr [(2, 11), (2, 12), (2, 13), (2, 14), (2, 15), (2, 16), (7, 0), (7, 1), (7, 2), (7, 3), (7, 4), (7, 5), (8, 0), (8, 1), (9, 3), (30, -1), (31, -1), (41, -1), (42, -1), (43, -1), (44, -1)] h h13 := my_fr.tr gh10 (frh13.mo rfl)
    have Ln_h13 : Ln h13 := Ln_ag (my_ag.fr frh13 rfl) Ln_h10
    show wp l rho (d + 7) 113 29 [(2, 0), (0, x1), (0, x2), (0, x3), (0, x4), (0, x5), (9, 0)] [(0, (-1))] h13 Q
    refine w_istore (ls' := [(2, 0), (0, x1), (0, x2), (0, x3), (0, x4), (0, x5), (0, (-1))]) gz_113_29 gm_113 rfl rfl rfl ?_
    refine w_iload gz_113_31 rfl ?_
    refine w_iconst gz_113_33 (by decide) ?_
    refine w_iceq (t := 53) gz_113_34 rfl (fun u22 => ?_) (fun u22 => by exfalso; omega)
    refine w_iload gz_113_53 rfl ?_
    exact w_iret gz_113_55 gm_113 (k0 h13 (gh13) Ln_h13)
  ·
    have gh14 : my_fr [(2, 11), (2, 12), (2, 13), (2, 14), (2, 15), (2, 16), (7, 0), (7, 1), (7, 2), (7, 3), (7, 4), (7, 5), (8, 0), (8, 1), (9, 3), (30, -1), (31, -1), (41, -1), (42, -1), (43, -1), (44, -1)] h h14 := my_fr.tr gh10 (frh14.mo rfl)
    have Ln_h14 : Ln h14 := Ln_ag (my_ag.fr frh14 rfl) Ln_h10
    show wp l rho (d + 7) 113 29 [(2, 0), (0, x1), (0, x2), (0, x3), (0, x4), (0, x5), (9, 0)] [(0, v15)] h14 Q
    refine w_istore (ls' := [(2, 0), (0, x1), (0, x2), (0, x3), (0, x4), (0, x5), (0, v15)]) gz_113_29 gm_113 rfl rfl rfl ?_
    refine w_iload gz_113_31 rfl ?_
    refine w_iconst gz_113_33 (by decide) ?_
    refine w_iceq (t := 53) gz_113_34 rfl (fun u23 => ?_) (fun u23 => ?_)
    ·
      refine w_iload gz_113_53 rfl ?_
      exact w_iret gz_113_55 gm_113 (k1 h14 (v15) (gh14) Ln_h14)
    ·
      refine w_aload_n gz_113_37 rfl ?_
      refine w_getX (v := 10) gz_113_38 is_0 rd_9 rfl (by decide) rfl ?_
      refine w_aload_n gz_113_41 rfl ?_
      refine w_getX (v := 145) gz_113_42 is_0 rd_9 rfl (by decide) rfl ?_
      refine w_inv (k := 0) (as := [(2, 145)]) (r := []) (x := 10) (ls0 := [(2, 10), (2, 145)]) gz_113_45 gm_25 rfl is_10 rd_6 rfl rfl rfl rfl rfl ?_
      refine w_aload_n gz_25_0 rfl ?_
      refine w_getX (v := 146) gz_25_1 is_145 rd_6 rfl (by decide) rfl ?_
      refine w_iconst gz_25_4 (by decide) ?_
      refine w_aload_n gz_25_5 rfl ?_
      refine w_getX (v := 11) gz_25_6 is_10 rd_6 rfl (by decide) rfl ?_
      refine w_iconst gz_25_9 (by decide) ?_
      refine w_aload_n gz_25_10 rfl ?_
      refine w_getX (v := 11) gz_25_11 is_10 rd_6 rfl (by decide) rfl ?_
      refine v_alen (j := 240) gz_25_14 rfl is_11 rd_30 (by decide) ?_
      refine w_cpU gz_25_15 is_146 rd_30 is_11 rd_30 (by omega) (by omega) (by omega) (by omega) (by omega) rfl (by decide) (by decide) (fun h29 fh29 => ?_)
      have gh29 : my_fr [(2, 11), (2, 12), (2, 13), (2, 14), (2, 15), (2, 16), (7, 0), (7, 1), (7, 2), (7, 3), (7, 4), (7, 5), (8, 0), (8, 1), (9, 3), (30, -1), (31, -1), (41, -1), (42, -1), (43, -1), (44, -1)] h h29 := my_fr.cp gh14 is_11 fh29 rfl
      have Ln_h29 : Ln h29 := Ln_ag (my_ag.cp fh29 is_11 rfl) Ln_h14
      refine w_aload_n gz_25_18 rfl ?_
      refine w_getX (v := 147) gz_25_19 is_145 rd_6 rfl (by decide) rfl ?_
      refine w_iconst gz_25_22 (by decide) ?_
      refine w_aload_n gz_25_23 rfl ?_
      refine w_getX (v := 12) gz_25_24 is_10 rd_6 rfl (by decide) rfl ?_
      refine w_iconst gz_25_27 (by decide) ?_
      refine w_aload_n gz_25_28 rfl ?_
      refine w_getX (v := 12) gz_25_29 is_10 rd_6 rfl (by decide) rfl ?_
      refine v_alen (j := 3) gz_25_32 rfl is_12 rd_31 (by decide) ?_
      refine w_cpU gz_25_33 is_147 rd_31 is_12 rd_31 (by omega) (by omega) (by omega) (by omega) (by omega) rfl (by decide) (by decide) (fun h33 fh33 => ?_)
      have gh33 : my_fr [(2, 11), (2, 12), (2, 13), (2, 14), (2, 15), (2, 16), (7, 0), (7, 1), (7, 2), (7, 3), (7, 4), (7, 5), (8, 0), (8, 1), (9, 3), (30, -1), (31, -1), (41, -1), (42, -1), (43, -1), (44, -1)] h h33 := my_fr.cp gh29 is_12 fh33 rfl
      have Ln_h33 : Ln h33 := Ln_ag (my_ag.cp fh33 is_12 rfl) Ln_h29
      refine w_vret gz_25_36 gm_25 ?_
      show wp l rho (d + 7) 113 48 [(2, 0), (0, x1), (0, x2), (0, x3), (0, x4), (0, x5), (0, v15)] [] h33 Q
      refine w_aload_n gz_113_48 rfl ?_
      refine w_iconst gz_113_49 (by decide) ?_
      refine v_putB (j := 3) gz_113_50 rfl is_0 rd_9 rfl (by omega) (by omega) rfl (fun h34 fh34 => ?_)
      have gh34 : my_fr [(2, 11), (2, 12), (2, 13), (2, 14), (2, 15), (2, 16), (7, 0), (7, 1), (7, 2), (7, 3), (7, 4), (7, 5), (8, 0), (8, 1), (9, 3), (30, -1), (31, -1), (41, -1), (42, -1), (43, -1), (44, -1)] h h34 := my_fr.up gh33 is_0 fh34 rfl
      have Ln_h34 : Ln h34 := Ln_ag (my_ag.up fh34 is_0 rfl) Ln_h33
      refine w_iload gz_113_53 rfl ?_
      exact w_iret gz_113_55 gm_113 (k1 h34 (v15) (gh34) Ln_h34)
end MYGN
