/-! contracts, printed by wip/gen/gy.py -/
section MYNCutter_countArranged
theorem c_Cutter_countArranged {l : Launch} {rho : Nat → Int32} {d : Nat} {h : my_H} {Q : my_H → my_V → Prop} {x1 x2 x3 : Int} (t1 : my_is 6 x1) (a2 : 0 ≤ x2) (b2 : x2 ≤ 2) (k0 : ∀ (h' : my_H), my_fr [(8, 0), (8, 1), (42, -1), (44, -1), (45, -1)] h h' → Q h' (0, 0)) (k1 : ∀ (h' : my_H) (y : Int), my_fr [(8, 0), (8, 1), (42, -1), (44, -1), (45, -1)] h h' → 0 ≤ y → Q h' (0, y)) : wp l rho (d + 3) 122 0 [(2, 114), (2, x1), (0, x2), (0, x3), (2, 98), (9, 0), (9, 0), (9, 0)] [] h Q := by
  refine v_know (x := 98) (j := 1) (b := 1) rfl is_98 rd_8 rfl (fun k98_1 ek98_1 pk98_1 qk98_1 => ?_)
  have J41_0 : ∀ (n : Nat) (p41_0 p41_1 p41_2 p41_3 : Int) (h41_0 : my_H), my_fr [(8, 0), (8, 1), (42, -1), (44, -1), (45, -1)] h h41_0 → 0 ≤ p41_0 → p41_0 ≤ 4 → 0 ≤ p41_1 → 0 ≤ p41_2 → k98_1 ≤ 4 → 0 ≤ p41_3 → p41_3 ≤ 11 → p41_1 ≤ p41_2 → k98_1 ≤ p41_0 → h41_0 98 0 = p41_3 → h41_0 98 1 = k98_1 → p41_2 ≤ 2147483647 → 2147483648 - p41_2 ≤ (n : Int) → wp l rho (d + 3) 122 41 [(2, 114), (2, x1), (0, x2), (0, x3), (2, 98), (0, p41_0), (0, p41_1), (0, p41_2)] [] h41_0 Q := by
    intro n
    induction n with
    | zero => intro p41_0 p41_1 p41_2 p41_3 h41_0 gh_41_0 q0_41_0 q1_41_0 q2_41_0 q3_41_0 q4_41_0 q5_41_0 q6_41_0 q7_41_0 q8_41_0 c98_0_41_0 c98_1_41_0 cm_41_0 hm_41_0; exfalso; omega
    | succ n ih_41_0 =>
      intro p41_0 p41_1 p41_2 p41_3 h41_0 gh_41_0 q0_41_0 q1_41_0 q2_41_0 q3_41_0 q4_41_0 q5_41_0 q6_41_0 q7_41_0 q8_41_0 c98_0_41_0 c98_1_41_0 cm_41_0 hm_41_0
      have J122_0 : ∀ (p122_0 : Int) (h122_0 : my_H), my_fr [(8, 0), (8, 1), (42, -1), (44, -1), (45, -1)] h h122_0 → 0 ≤ p122_0 → p41_2 ≤ 2147483646 → p41_1 ≤ 2147483646 → p122_0 ≤ (p41_2 + 1) → p122_0 ≤ (p41_1 + 1) → k98_1 ≤ p41_0 → p41_1 ≤ p122_0 → p41_1 ≤ p41_2 → h122_0 98 0 = p41_3 → h122_0 98 1 = k98_1 → wp l rho (d + 3) 122 122 [(2, 114), (2, x1), (0, x2), (0, x3), (2, 98), (0, p41_0), (0, p122_0), (0, p41_2)] [] h122_0 Q := by
        intro p122_0 h122_0 gh_122_0 q0_122_0 q1_122_0 q2_122_0 q3_122_0 q4_122_0 q5_122_0 q6_122_0 q7_122_0 c98_0_122_0 c98_1_122_0
        refine w_iincB (ls' := [(2, 114), (2, x1), (0, x2), (0, x3), (2, 98), (0, p41_0), (0, p122_0), (0, (p41_2 + 1))]) gz_122_122 rfl gm_122 rfl rfl rfl (fun _ _ => ⟨by omega, by omega⟩) ?_
        refine w_goto (t := 41) gz_122_125 rfl ?_
        exact ih_41_0 (p41_0) (p122_0) ((p41_2 + 1)) (p41_3) h122_0 (gh_122_0) (by omega) (by omega) (by omega) (by omega) (by omega) (by omega) (by omega) (by omega) (by omega) (c98_0_122_0.trans (by omega)) (c98_1_122_0.trans (by omega)) (by first | assumption | omega | (subst_vars; omega)) (by omega)
      refine w_iload gz_122_41 rfl ?_
      refine w_iconst gz_122_43 (by decide) ?_
      refine w_iconst gz_122_44 (by decide) ?_
      refine w_aload gz_122_45 rfl ?_
      refine v_getI (j := 1) gz_122_47 rfl is_98 rd_8 rfl (fun v1 ev1 pv1 qv1 => ?_)
      have zv1 := ev1.trans c98_1_41_0
      refine w_imul gz_122_50 ⟨by omega, by omega⟩ ?_
      refine w_ianyL gz_122_51 (fun v2 pv2 qv2 => ?_)
      refine w_icge (t := 128) gz_122_52 rfl (fun u3 => ?_) (fun u3 => ?_)
      ·
        refine w_iload gz_122_128 rfl ?_
        exact w_iret gz_122_130 gm_122 (k1 h41_0 (p41_1) (gh_41_0) (by omega))
      ·
        refine w_aload_n gz_122_55 rfl ?_
        refine w_iload gz_122_56 rfl ?_
        refine w_aload gz_122_58 rfl ?_
        refine v_getI (j := 1) gz_122_60 rfl is_98 rd_8 rfl (fun v4 ev4 pv4 qv4 => ?_)
        have zv4 := ev4.trans ev1.symm
        refine w_iload gz_122_63 rfl ?_
        refine w_inv (k := 3) (as := [(0, p41_0), (0, v4), (0, p41_2)]) (r := []) (x := 114) (ls0 := [(2, 114), (0, p41_2), (0, v4), (0, p41_0), (9, 0), (9, 0), (9, 0)]) gz_122_65 gm_124 rfl is_114 rd_1 rfl rfl rfl rfl rfl (c_Cutter_picksColumns (d := (d + 2)) (x1 := p41_2) (x2 := v4) (x3 := p41_0) (by omega) (by omega) (by omega) (by omega) (by omega) (fun h5 frh5 w6 => ?_) (fun h7 frh7 => ?_))
        ·
          have gh5 : my_fr [(8, 0), (8, 1), (42, -1), (44, -1), (45, -1)] h h5 := my_fr.tr gh_41_0 (frh5.mo rfl)
          show wp l rho (d + 3) 122 68 [(2, 114), (2, x1), (0, x2), (0, x3), (2, 98), (0, p41_0), (0, p41_1), (0, p41_2)] [(0, 0)] h5 Q
          refine w_ifeq (t := 122) gz_122_68 rfl (fun u8 => ?_) (fun u8 => by exfalso; omega)
          exact J122_0 (p41_1) h5 (gh5) (by omega) (by omega) (by omega) (by omega) (by omega) (by omega) (by omega) (by omega) (((my_fr.at frh5 is_98 rfl).trans c98_0_41_0).trans (by omega)) (((my_fr.at frh5 is_98 rfl).trans ev4.symm).trans (by omega))
        ·
          have gh7 : my_fr [(8, 0), (8, 1), (42, -1), (44, -1), (45, -1)] h h7 := my_fr.tr gh_41_0 (frh7.mo rfl)
          show wp l rho (d + 3) 122 68 [(2, 114), (2, x1), (0, x2), (0, x3), (2, 98), (0, p41_0), (0, p41_1), (0, p41_2)] [(0, 1)] h7 Q
          refine w_ifeq (t := 122) gz_122_68 rfl (fun u9 => by exfalso; omega) (fun u9 => ?_)
          refine w_aload_n gz_122_71 rfl ?_
          refine w_getX (v := 115) gz_122_72 is_114 rd_1 rfl (by decide) rfl ?_
          refine w_aload_n gz_122_75 rfl ?_
          refine w_iload_n gz_122_76 rfl ?_
          refine w_iload gz_122_77 rfl ?_
          refine w_iload_n gz_122_79 rfl ?_
          refine w_inv (k := 2) (as := [(0, x3), (0, p41_0), (0, x2), (2, x1)]) (r := []) (x := 115) (ls0 := [(2, 115), (2, x1), (0, x2), (0, p41_0), (0, x3), (9, 0), (9, 0)]) gz_122_80 gm_68 rfl is_115 rd_8 rfl rfl rfl rfl rfl (c_View_load (d := (d + 1)) (x0 := 115) (x1 := x1) (x2 := x2) (x3 := p41_0) (x4 := x3) is_115 t1 (by omega) (by omega) (by omega) (by omega) (by omega) (by omega) (by omega) (by omega) (fun h11 frh11 fxh11 w12 w13 w14 w15 xp16 xp17 => ?_))
          have gh11 : my_fr [(8, 0), (8, 1), (42, -1), (44, -1), (45, -1)] h h11 := my_fr.tr gh7 (frh11.mo rfl)
          show wp l rho (d + 3) 122 83 [(2, 114), (2, x1), (0, x2), (0, x3), (2, 98), (0, p41_0), (0, p41_1), (0, p41_2)] [] h11 Q
          refine w_aload_n gz_122_83 rfl ?_
          refine w_getX (v := 115) gz_122_84 is_114 rd_1 rfl (by decide) rfl ?_
          refine w_aload_n gz_122_87 rfl ?_
          refine w_getX (v := 119) gz_122_88 is_114 rd_1 rfl (by decide) rfl ?_
          refine w_iconst gz_122_91 (by decide) ?_
          refine w_aload gz_122_92 rfl ?_
          refine v_getI (j := 1) gz_122_94 rfl is_98 rd_8 rfl (fun v20 ev20 pv20 qv20 => ?_)
          have zv20 := ev20.trans ((my_fx.at fxh11 (by omega)).trans ((my_fr.at frh7 is_98 rfl).trans ev4.symm))
          refine w_inv (k := 3) (as := [(0, v20), (0, 0), (2, 119)]) (r := []) (x := 115) (ls0 := [(2, 115), (2, 119), (0, 0), (0, v20), (9, 0), (9, 0), (9, 0)]) gz_122_97 gm_71 rfl is_115 rd_8 rfl rfl rfl rfl rfl (c_View_few_v8_45 (d := d) (x0 := 115) (x3 := v20) is_115 (by omega) (by omega) (by omega) (by omega) (fun h21 frh21 fxh21 w22 w23 xp24 xp25 => ?_))
          have gh21 : my_fr [(8, 0), (8, 1), (42, -1), (44, -1), (45, -1)] h h21 := my_fr.tr gh11 (frh21.mo rfl)
          show wp l rho (d + 3) 122 100 [(2, 114), (2, x1), (0, x2), (0, x3), (2, 98), (0, p41_0), (0, p41_1), (0, p41_2)] [] h21 Q
          refine w_aload_n gz_122_100 rfl ?_
          refine w_getX (v := 115) gz_122_101 is_114 rd_1 rfl (by decide) rfl ?_
          refine w_inv (k := 3) (as := []) (r := []) (x := 115) (ls0 := [(2, 115), (9, 0), (9, 0), (9, 0)]) gz_122_104 gm_79 rfl is_115 rd_8 rfl rfl rfl rfl rfl (c_View_sort (d := d) (x0 := 115) is_115 (fun h27 frh27 fxh27 xp28 xp29 => ?_))
          have gh27 : my_fr [(8, 0), (8, 1), (42, -1), (44, -1), (45, -1)] h h27 := my_fr.tr gh21 (frh27.mo rfl)
          show wp l rho (d + 3) 122 107 [(2, 114), (2, x1), (0, x2), (0, x3), (2, 98), (0, p41_0), (0, p41_1), (0, p41_2)] [] h27 Q
          refine w_aload_n gz_122_107 rfl ?_
          refine w_getX (v := 115) gz_122_108 is_114 rd_1 rfl (by decide) rfl ?_
          refine w_aload gz_122_111 rfl ?_
          refine w_inv (k := 1) (as := [(2, 98)]) (r := []) (x := 115) (ls0 := [(2, 115), (2, 98), (9, 0)]) gz_122_113 gm_93 rfl is_115 rd_8 rfl rfl rfl rfl rfl (c_View_same (d := (d + 1)) (x0 := 115) (x1 := 98) is_115 is_98 ?_ ?_)
          ·
            show wp l rho (d + 3) 122 116 [(2, 114), (2, x1), (0, x2), (0, x3), (2, 98), (0, p41_0), (0, p41_1), (0, p41_2)] [(0, 0)] h27 Q
            refine w_ifeq (t := 122) gz_122_116 rfl (fun u31 => ?_) (fun u31 => by exfalso; omega)
            exact J122_0 (p41_1) h27 (gh27) (by omega) (by omega) (by omega) (by omega) (by omega) (by omega) (by omega) (by omega) (((my_fr.at frh27 is_98 rfl).trans ((my_fr.at frh21 is_98 rfl).trans ((my_fx.at fxh11 (by omega)).trans ((my_fr.at frh7 is_98 rfl).trans c98_0_41_0)))).trans (by omega)) (((my_fr.at frh27 is_98 rfl).trans ((my_fx.at fxh21 (by omega)).trans ev20.symm)).trans (by omega))
          ·
            show wp l rho (d + 3) 122 116 [(2, 114), (2, x1), (0, x2), (0, x3), (2, 98), (0, p41_0), (0, p41_1), (0, p41_2)] [(0, 1)] h27 Q
            refine w_ifeq (t := 122) gz_122_116 rfl (fun u32 => by exfalso; omega) (fun u32 => ?_)
            refine w_iincB (ls' := [(2, 114), (2, x1), (0, x2), (0, x3), (2, 98), (0, p41_0), (0, (p41_1 + 1)), (0, p41_2)]) gz_122_119 rfl gm_122 rfl rfl rfl (fun _ _ => ⟨by omega, by omega⟩) ?_
            exact J122_0 ((p41_1 + 1)) h27 (gh27) (by omega) (by omega) (by omega) (by omega) (by omega) (by omega) (by omega) (by omega) (((my_fr.at frh27 is_98 rfl).trans ((my_fr.at frh21 is_98 rfl).trans ((my_fx.at fxh11 (by omega)).trans ((my_fr.at frh7 is_98 rfl).trans c98_0_41_0)))).trans (by omega)) (((my_fr.at frh27 is_98 rfl).trans ((my_fx.at fxh21 (by omega)).trans ev20.symm)).trans (by omega))
  refine w_aload_n gz_122_0 rfl ?_
  refine w_getX (v := 1) gz_122_1 is_114 rd_1 rfl (by decide) rfl ?_
  refine w_getX (v := 2) gz_122_4 is_1 rd_3 rfl (by decide) rfl ?_
  refine w_iload_n gz_122_7 rfl ?_
  refine w_iald gz_122_8 is_2 rd_25 (by omega) (by omega) (fun v35 ev35 pv35 qv35 => ?_)
  refine w_istore (ls' := [(2, 114), (2, x1), (0, x2), (0, x3), (2, 98), (0, v35), (9, 0), (9, 0)]) gz_122_9 gm_122 rfl rfl rfl ?_
  refine w_aload gz_122_11 rfl ?_
  refine v_getI (j := 1) gz_122_13 rfl is_98 rd_8 rfl (fun v36 ev36 pv36 qv36 => ?_)
  have zv36 := ev36.trans ek98_1.symm
  refine w_iload gz_122_16 rfl ?_
  refine w_icgt (t := 33) gz_122_18 rfl (fun u37 => ?_) (fun u37 => ?_)
  ·
    refine w_iconst gz_122_33 (by decide) ?_
    exact w_iret gz_122_34 gm_122 (k0 h (my_fr.rf))
  ·
    refine w_iload_n gz_122_21 rfl ?_
    refine w_inS (k := 0) (as := [(0, x3)]) (r := []) (ls0 := [(0, x3)]) gz_122_22 gm_123 rfl rfl rfl rfl rfl rfl ?_
    refine w_iload_n gz_123_0 rfl ?_
    refine w_iload_n gz_123_1 rfl ?_
    refine w_iconst gz_123_2 (by decide) ?_
    refine w_ianyU gz_123_3 (fun v38 pv38 qv38 => ?_)
    refine w_ldcw (v := 1431655765) dcw_123_4 cw_265 (by decide) ?_
    refine w_iandM gz_123_7 (by decide) (fun v39 pv39 qv39 => ?_)
    refine w_ianyS gz_123_8 (fun v40 pv40 qv40 => ?_)
    refine w_istore_n (ls' := [(0, v40)]) gz_123_9 gm_123 rfl rfl rfl ?_
    refine w_iload_n gz_123_10 rfl ?_
    refine w_ldcw (v := 858993459) dcw_123_11 cw_266 (by decide) ?_
    refine w_iandM gz_123_14 (by decide) (fun v41 pv41 qv41 => ?_)
    refine w_iload_n gz_123_15 rfl ?_
    refine w_iconst gz_123_16 (by decide) ?_
    refine w_ianyU gz_123_17 (fun v42 pv42 qv42 => ?_)
    refine w_ldcw (v := 858993459) dcw_123_18 cw_266 (by decide) ?_
    refine w_iandM gz_123_21 (by decide) (fun v43 pv43 qv43 => ?_)
    refine w_iadd gz_123_22 ⟨by omega, by omega⟩ ?_
    refine w_istore_n (ls' := [(0, (v41 + v43))]) gz_123_23 gm_123 rfl rfl rfl ?_
    refine w_iload_n gz_123_24 rfl ?_
    refine w_iload_n gz_123_25 rfl ?_
    refine w_iconst gz_123_26 (by decide) ?_
    refine w_ianyU gz_123_27 (fun v44 pv44 qv44 => ?_)
    refine w_ianyA gz_123_28 (fun v45 pv45 qv45 => ?_)
    refine w_ldcw (v := 252645135) dcw_123_29 cw_267 (by decide) ?_
    refine w_iandM gz_123_32 (by decide) (fun v46 pv46 qv46 => ?_)
    refine w_istore_n (ls' := [(0, v46)]) gz_123_33 gm_123 rfl rfl rfl ?_
    refine w_iload_n gz_123_34 rfl ?_
    refine w_iload_n gz_123_35 rfl ?_
    refine w_bipush gz_123_36 (by decide) ?_
    refine w_ianyU gz_123_38 (fun v47 pv47 qv47 => ?_)
    refine w_ianyA gz_123_39 (fun v48 pv48 qv48 => ?_)
    refine w_istore_n (ls' := [(0, v48)]) gz_123_40 gm_123 rfl rfl rfl ?_
    refine w_iload_n gz_123_41 rfl ?_
    refine w_iload_n gz_123_42 rfl ?_
    refine w_bipush gz_123_43 (by decide) ?_
    refine w_ianyU gz_123_45 (fun v49 pv49 qv49 => ?_)
    refine w_ianyA gz_123_46 (fun v50 pv50 qv50 => ?_)
    refine w_istore_n (ls' := [(0, v50)]) gz_123_47 gm_123 rfl rfl rfl ?_
    refine w_iload_n gz_123_48 rfl ?_
    refine w_bipush gz_123_49 (by decide) ?_
    refine w_iandM gz_123_51 (by decide) (fun v51 pv51 qv51 => ?_)
    refine w_iret gz_123_52 gm_123 ?_
    show wp l rho (d + 3) 122 25 [(2, 114), (2, x1), (0, x2), (0, x3), (2, 98), (0, v35), (9, 0), (9, 0)] [(0, v51)] h Q
    refine w_aload gz_122_25 rfl ?_
    refine v_getI (j := 0) gz_122_27 rfl is_98 rd_8 rfl (fun v52 ev52 pv52 qv52 => ?_)
    refine w_iceq (t := 35) gz_122_30 rfl (fun u53 => ?_) (fun u53 => ?_)
    ·
      refine w_iconst gz_122_35 (by decide) ?_
      refine w_istore (ls' := [(2, 114), (2, x1), (0, x2), (0, x3), (2, 98), (0, v35), (0, 0), (9, 0)]) gz_122_36 gm_122 rfl rfl rfl ?_
      refine w_iconst gz_122_38 (by decide) ?_
      refine w_istore (ls' := [(2, 114), (2, x1), (0, x2), (0, x3), (2, 98), (0, v35), (0, 0), (0, 0)]) gz_122_39 gm_122 rfl rfl rfl ?_
      exact J41_0 (2147483648) (v35) (0) (0) (v52) h (my_fr.rf) (by omega) (by omega) (by omega) (by omega) (by omega) (by omega) (by omega) (by omega) (by omega) (ev52.symm.trans (by omega)) (ev36.symm.trans (by omega)) (by first | assumption | omega | (subst_vars; omega)) (by omega)
    ·
      refine w_iconst gz_122_33 (by decide) ?_
      exact w_iret gz_122_34 gm_122 (k0 h (my_fr.rf))
theorem c_Model_takes2 {l : Launch} {rho : Nat → Int32} {d : Nat} {h : my_H} {Q : my_H → my_V → Prop} (n_Rws : Rws h) (k0 : ∀ (h' : my_H), my_fr [(61, -1), (62, -1)] h h' → Rws h' → Q h' (0, 0)) (k1 : ∀ (h' : my_H), my_fr [(61, -1), (62, -1)] h h' → Rws h' → Q h' (0, 1)) : wp l rho (d + 4) 154 0 [(2, 151)] [] h Q := by
  refine w_aload_n gz_154_0 rfl ?_
  refine w_iconst gz_154_1 (by decide) ?_
  refine w_inv (k := 2) (as := [(0, 5)]) (r := []) (x := 151) (ls0 := [(2, 151), (0, 5), (9, 0), (9, 0)]) gz_154_2 gm_155 rfl is_151 rd_10 rfl rfl rfl rfl rfl (c_Model_isLawful (d := d) (x1 := 5) (by omega) (by omega) ?_ ?_)
  ·
    show wp l rho (d + 4) 154 5 [(2, 151)] [(0, 0)] h Q
    refine w_ifne (t := 10) gz_154_5 rfl (fun u1 => by exfalso; omega) (fun u1 => ?_)
    refine w_iconst gz_154_8 (by decide) ?_
    exact w_bret gz_154_9 gm_154 (by omega) (by omega) (k0 h (my_fr.rf) n_Rws)
  ·
    show wp l rho (d + 4) 154 5 [(2, 151)] [(0, 1)] h Q
    refine w_ifne (t := 10) gz_154_5 rfl (fun u2 => ?_) (fun u2 => by exfalso; omega)
    refine w_aload_n gz_154_10 rfl ?_
    refine w_iconst gz_154_11 (by decide) ?_
    refine w_iconst gz_154_12 (by decide) ?_
    refine w_inv (k := 1) (as := [(0, 0), (0, 5)]) (r := []) (x := 151) (ls0 := [(2, 151), (0, 5), (0, 0), (9, 0)]) gz_154_13 gm_152 rfl is_151 rd_10 rfl rfl rfl rfl rfl (c_Model_copies2 (d := (d + 3)) (x1 := 5) (x2 := 0) (by omega) (by omega) (by omega) (by omega) n_Rws (fun h3 frh3 xp4 Rws_h3t5 => ?_))
    have gh3 : my_fr [(61, -1), (62, -1)] h h3 := my_fr.tr my_fr.rf (frh3.mo rfl)
    show wp l rho (d + 4) 154 16 [(2, 151)] [] h3 Q
    refine w_iconst gz_154_16 (by decide) ?_
    exact w_bret gz_154_17 gm_154 (by omega) (by omega) (k1 h3 (gh3) Rws_h3t5)
theorem c_Model_out2 {l : Launch} {rho : Nat → Int32} {d : Nat} {h : my_H} {Q : my_H → my_V → Prop} {x1 x2 : Int} (n_Rws : Rws h) (k0 : ∀ (h' : my_H), my_fr [(10, 0), (61, -1), (62, -1)] h h' → h' 151 0 = 0 → Rws h' → Q h' (0, 0)) (k1 : ∀ (h' : my_H), my_fr [(10, 0), (61, -1), (62, -1)] h h' → 0 ≤ x1 → x1 ≤ 2 → 0 ≤ x2 → x2 ≤ 19 → h' 151 0 = 0 → Rws h' → Q h' (0, 1)) : wp l rho (d + 5) 158 0 [(2, 151), (0, x1), (0, x2)] [] h Q := by
  refine w_aload_n gz_158_0 rfl ?_
  refine w_iconst gz_158_1 (by decide) ?_
  refine v_putI (j := 0) gz_158_2 rfl is_151 rd_10 rfl (by omega) (by omega) rfl (fun h1 fh1 => ?_)
  have gh1 : my_fr [(10, 0), (61, -1), (62, -1)] h h1 := my_fr.up my_fr.rf is_151 fh1 rfl
  have Rws_h1 : Rws h1 := Rws_ag (my_ag.up fh1 is_151 rfl) n_Rws
  refine w_aload_n gz_158_5 rfl ?_
  refine w_iload_n gz_158_6 rfl ?_
  refine w_iload_n gz_158_7 rfl ?_
  refine w_inv (k := 0) (as := [(0, x2), (0, x1)]) (r := []) (x := 151) (ls0 := [(2, 151), (0, x1), (0, x2)]) gz_158_8 gm_159 rfl is_151 rd_10 rfl rfl rfl rfl rfl (c_Model_isRow (d := (d + 3)) (x1 := x1) (x2 := x2)  ?_ (fun w2 w3 w4 w5 => ?_))
  ·
    show wp l rho (d + 5) 158 11 [(2, 151), (0, x1), (0, x2)] [(0, 0)] h1 Q
    refine w_ifne (t := 16) gz_158_11 rfl (fun u6 => by exfalso; omega) (fun u6 => ?_)
    refine w_iconst gz_158_14 (by decide) ?_
    have c7 := (my_up_self fh1)
    exact w_bret gz_158_15 gm_158 (by omega) (by omega) (k0 h1 (gh1) (by omega) Rws_h1)
  ·
    show wp l rho (d + 5) 158 11 [(2, 151), (0, x1), (0, x2)] [(0, 1)] h1 Q
    refine w_ifne (t := 16) gz_158_11 rfl (fun u8 => ?_) (fun u8 => by exfalso; omega)
    refine w_aload_n gz_158_16 rfl ?_
    refine w_iconst gz_158_17 (by decide) ?_
    refine w_iconst gz_158_18 (by decide) ?_
    refine w_inv (k := 1) (as := [(0, 5), (0, 0)]) (r := []) (x := 151) (ls0 := [(2, 151), (0, 0), (0, 5), (9, 0)]) gz_158_19 gm_152 rfl is_151 rd_10 rfl rfl rfl rfl rfl (c_Model_copies2 (d := (d + 4)) (x1 := 0) (x2 := 5) (by omega) (by omega) (by omega) (by omega) Rws_h1 (fun h9 frh9 xp10 Rws_h9t11 => ?_))
    have gh9 : my_fr [(10, 0), (61, -1), (62, -1)] h h9 := my_fr.tr gh1 (frh9.mo rfl)
    show wp l rho (d + 5) 158 22 [(2, 151), (0, x1), (0, x2)] [] h9 Q
    refine w_aload_n gz_158_22 rfl ?_
    refine w_getX (v := 162) gz_158_23 is_151 rd_10 rfl (by decide) rfl ?_
    refine w_iconst gz_158_26 (by decide) ?_
    refine w_iload_n gz_158_27 rfl ?_
    refine w_iload_n gz_158_28 rfl ?_
    refine w_inS (k := 0) (as := [(0, x2), (0, x1), (0, 5)]) (r := [(2, 162)]) (ls0 := [(0, 5), (0, x1), (0, x2)]) gz_158_29 gm_150 rfl rfl rfl rfl rfl rfl ?_
    refine w_bipush gz_150_0 (by decide) ?_
    refine w_iload_n gz_150_2 rfl ?_
    refine w_imul gz_150_3 ⟨by omega, by omega⟩ ?_
    refine w_bipush gz_150_4 (by decide) ?_
    refine w_iload_n gz_150_6 rfl ?_
    refine w_imul gz_150_7 ⟨by omega, by omega⟩ ?_
    refine w_iadd gz_150_8 ⟨by omega, by omega⟩ ?_
    refine w_iload_n gz_150_9 rfl ?_
    refine w_iadd gz_150_10 ⟨by omega, by omega⟩ ?_
    refine w_iret gz_150_11 gm_150 ?_
    show wp l rho (d + 5) 158 32 [(2, 151), (0, x1), (0, x2)] [(0, (((60 * 5) + (20 * x1)) + x2)), (2, 162)] h9 Q
    refine v_knowA (x := 162) is_162 rd_61 (fun kT => ?_)
    refine w_iconst gz_158_32 (by decide) ?_
    refine w_bast gz_158_33 is_162 rd_61 (by omega) (by omega) (by omega) (by omega) (fun h13 fh13 => ?_)
    have gh13 : my_fr [(10, 0), (61, -1), (62, -1)] h h13 := my_fr.up gh9 is_162 fh13 rfl
    have Rws_h13t14 : Rws h13 := Rws_off fh13 (by have q := (kT (60 * 5 + 20 * x1 + x2) (by omega) (by omega)).1; omega) Rws_h9t11
    refine w_aload_n gz_158_34 rfl ?_
    refine w_inv (k := 0) (as := []) (r := []) (x := 151) (ls0 := [(2, 151)]) gz_158_35 gm_154 rfl is_151 rd_10 rfl rfl rfl rfl rfl (c_Model_takes2 (d := d)  Rws_h13t14 (fun h15 frh15 Rws_h15t16 => ?_) (fun h17 frh17 Rws_h17t18 => ?_))
    ·
      have gh15 : my_fr [(10, 0), (61, -1), (62, -1)] h h15 := my_fr.tr gh13 (frh15.mo rfl)
      show wp l rho (d + 5) 158 38 [(2, 151), (0, x1), (0, x2)] [(0, 0)] h15 Q
      have c19 := ((my_fr.at frh15 is_151 rfl).trans ((my_up_role fh13 is_151 is_162 rfl).trans ((my_fr.at frh9 is_151 rfl).trans (my_up_self fh1))))
      exact w_bret gz_158_38 gm_158 (by omega) (by omega) (k0 h15 (gh15) (by omega) Rws_h15t16)
    ·
      have gh17 : my_fr [(10, 0), (61, -1), (62, -1)] h h17 := my_fr.tr gh13 (frh17.mo rfl)
      show wp l rho (d + 5) 158 38 [(2, 151), (0, x1), (0, x2)] [(0, 1)] h17 Q
      have c20 := ((my_fr.at frh17 is_151 rfl).trans ((my_up_role fh13 is_151 is_162 rfl).trans ((my_fr.at frh9 is_151 rfl).trans (my_up_self fh1))))
      exact w_bret gz_158_38 gm_158 (by omega) (by omega) (k1 h17 (gh17) (by omega) (by omega) (by omega) (by omega) (by omega) Rws_h17t18)
theorem c_Model_comes {l : Launch} {rho : Nat → Int32} {d : Nat} {h : my_H} {Q : my_H → my_V → Prop} {x1 x2 : Int} (a1 : 0 ≤ x1) (b1 : x1 ≤ 15) (a2 : 0 ≤ x2) (b2 : x2 ≤ 5) (n_Mw : Mw h) (n_Rws : Rws h) (hfp : Fp h x2) (k0 : ∀ (h' : my_H), my_fr [(10, 27), (10, 32), (10, 33), (61, -1), (62, -1), (73, -1), (74, -1), (75, -1), (76, -1), (77, -1), (78, -1), (79, -1), (94, -1)] h h' → Rws h' → Q h' (0, 0)) (k1 : ∀ (h' : my_H), my_fr [(10, 27), (10, 32), (10, 33), (61, -1), (62, -1), (73, -1), (74, -1), (75, -1), (76, -1), (77, -1), (78, -1), (79, -1), (94, -1)] h h' → Rws h' → Q h' (0, 1)) : wp l rho (d + 3) 216 0 [(2, 151), (0, x1), (0, x2)] [] h Q := by
  refine w_aload_n gz_216_0 rfl ?_
  refine w_iload_n gz_216_1 rfl ?_
  refine w_inv (k := 2) (as := [(0, x2)]) (r := []) (x := 151) (ls0 := [(2, 151), (0, x2), (9, 0), (9, 0)]) gz_216_2 gm_217 rfl is_151 rd_10 rfl rfl rfl rfl rfl (c_Model_findComing (d := d) (x1 := x2) (by omega) (by omega) n_Mw (by first | assumption | omega | (subst_vars; omega)) (fun h1 frh1 => ?_))
  have gh1 : my_fr [(10, 27), (10, 32), (10, 33), (61, -1), (62, -1), (73, -1), (74, -1), (75, -1), (76, -1), (77, -1), (78, -1), (79, -1), (94, -1)] h h1 := my_fr.tr my_fr.rf (frh1.mo rfl)
  have Mw_h1 : Mw h1 := Mw_ag (my_ag.fr frh1 rfl) n_Mw
  have Rws_h1 : Rws h1 := Rws_ag (my_ag.fr frh1 rfl) n_Rws
  show wp l rho (d + 3) 216 5 [(2, 151), (0, x1), (0, x2)] [] h1 Q
  refine w_aload_n gz_216_5 rfl ?_
  refine w_getX (v := 162) gz_216_6 is_151 rd_10 rfl (by decide) rfl ?_
  refine w_iload_n gz_216_9 rfl ?_
  refine w_aload_n gz_216_10 rfl ?_
  refine v_getI (j := 33) gz_216_11 rfl is_151 rd_10 rfl (fun v3 ev3 pv3 qv3 => ?_)
  refine w_aload_n gz_216_14 rfl ?_
  refine w_getX (v := 195) gz_216_15 is_151 rd_10 rfl (by decide) rfl ?_
  refine w_iconst gz_216_18 (by decide) ?_
  refine w_iald gz_216_19 is_195 rd_94 (by omega) (by omega) (fun v5 ev5 pv5 qv5 => ?_)
  refine w_inS (k := 0) (as := [(0, v5), (0, v3), (0, x1)]) (r := [(2, 162)]) (ls0 := [(0, x1), (0, v3), (0, v5)]) gz_216_20 gm_150 rfl rfl rfl rfl rfl rfl ?_
  refine w_bipush gz_150_0 (by decide) ?_
  refine w_iload_n gz_150_2 rfl ?_
  refine w_imul gz_150_3 ⟨by omega, by omega⟩ ?_
  refine w_bipush gz_150_4 (by decide) ?_
  refine w_iload_n gz_150_6 rfl ?_
  refine w_imul gz_150_7 ⟨by omega, by omega⟩ ?_
  refine w_iadd gz_150_8 ⟨by omega, by omega⟩ ?_
  refine w_iload_n gz_150_9 rfl ?_
  refine w_iadd gz_150_10 ⟨by omega, by omega⟩ ?_
  refine w_iret gz_150_11 gm_150 ?_
  show wp l rho (d + 3) 216 23 [(2, 151), (0, x1), (0, x2)] [(0, (((60 * x1) + (20 * v3)) + v5)), (2, 162)] h1 Q
  refine w_bald gz_216_23 is_162 rd_61 (by omega) (by omega) (fun v6 ev6 pv6 qv6 => ?_)
  refine w_ifne (t := 41) gz_216_24 rfl (fun u7 => ?_) (fun u7 => ?_)
  ·
    refine w_iconst gz_216_41 (by decide) ?_
    exact w_bret gz_216_42 gm_216 (by omega) (by omega) (k0 h1 (gh1) Rws_h1)
  ·
    refine w_aload_n gz_216_27 rfl ?_
    refine w_iload_n gz_216_28 rfl ?_
    refine w_aload_n gz_216_29 rfl ?_
    refine v_getI (j := 33) gz_216_30 rfl is_151 rd_10 rfl (fun v8 ev8 pv8 qv8 => ?_)
    have zv8 := ev8.trans ev3.symm
    refine w_inv (k := 2) (as := [(0, v8), (0, x1)]) (r := []) (x := 151) (ls0 := [(2, 151), (0, x1), (0, v8), (9, 0), (9, 0)]) gz_216_33 gm_151 rfl is_151 rd_10 rfl rfl rfl rfl rfl (c_Model_rowsOf2 (d := (d + 1)) (x1 := x1) (x2 := v8) (by omega) (by omega) (by omega) (by omega) (fun v9 w10 w11 xp12 => ?_))
    show wp l rho (d + 3) 216 36 [(2, 151), (0, x1), (0, x2)] [(0, v9)] h1 Q
    have ry := xp12
    have rb := (Rws_h1) x1 v8 (by omega) (by omega) (by omega) (by omega)
    have rq : v9 ≠ 10 → ∀ w : Int, w = v8 → rc h1 (60 * x1 + 20 * w) 20 ≤ 9 := fun y w q => by rw [q]; omega
    refine w_bipush gz_216_36 (by decide) ?_
    refine w_icne (t := 43) gz_216_38 rfl (fun u13 => ?_) (fun u13 => ?_)
    ·
      refine w_aload_n gz_216_43 rfl ?_
      refine w_iload_n gz_216_44 rfl ?_
      refine w_aload_n gz_216_45 rfl ?_
      refine v_getI (j := 33) gz_216_46 rfl is_151 rd_10 rfl (fun v14 ev14 pv14 qv14 => ?_)
      have zv14 := ev14.trans ev8.symm
      refine w_aload_n gz_216_49 rfl ?_
      refine w_getX (v := 195) gz_216_50 is_151 rd_10 rfl (by decide) rfl ?_
      refine w_iconst gz_216_53 (by decide) ?_
      refine w_iald gz_216_54 is_195 rd_94 (by omega) (by omega) (fun v16 ev16 pv16 qv16 => ?_)
      have zv16 := ev16.trans ev5.symm
      refine w_aload_n gz_216_55 rfl ?_
      refine w_getX (v := 195) gz_216_56 is_151 rd_10 rfl (by decide) rfl ?_
      refine w_iconst gz_216_59 (by decide) ?_
      refine w_iald gz_216_60 is_195 rd_94 (by omega) (by omega) (fun v18 ev18 pv18 qv18 => ?_)
      refine w_aload_n gz_216_61 rfl ?_
      refine w_getX (v := 195) gz_216_62 is_151 rd_10 rfl (by decide) rfl ?_
      refine w_iconst gz_216_65 (by decide) ?_
      refine w_iald gz_216_66 is_195 rd_94 (by omega) (by omega) (fun v20 ev20 pv20 qv20 => ?_)
      refine w_aload_n gz_216_67 rfl ?_
      refine w_getX (v := 195) gz_216_68 is_151 rd_10 rfl (by decide) rfl ?_
      refine w_iconst gz_216_71 (by decide) ?_
      refine w_iald gz_216_72 is_195 rd_94 (by omega) (by omega) (fun v22 ev22 pv22 qv22 => ?_)
      refine w_inv (k := 1) (as := [(0, v22), (0, v20), (0, v18), (0, v16), (0, v14), (0, x1)]) (r := []) (x := 151) (ls0 := [(2, 151), (0, x1), (0, v14), (0, v16), (0, v18), (0, v20), (0, v22), (9, 0)]) gz_216_73 gm_153 rfl is_151 rd_10 rfl rfl rfl rfl rfl (c_Model_lays2 (d := (d + 1)) (x1 := x1) (x2 := v14) (x3 := v16) (x4 := v18) (x5 := v20) (x6 := v22) (by omega) (by omega) (by omega) (by omega) (by omega) (by omega) (by omega) (by omega) (by omega) (by omega) (by omega) (by omega) Rws_h1 (rq (by omega) _ (by omega)) (fun h23 frh23 Rws_h23t24 => ?_))
      have gh23 : my_fr [(10, 27), (10, 32), (10, 33), (61, -1), (62, -1), (73, -1), (74, -1), (75, -1), (76, -1), (77, -1), (78, -1), (79, -1), (94, -1)] h h23 := my_fr.tr gh1 (frh23.mo rfl)
      have Mw_h23 : Mw h23 := Mw_ag (my_ag.fr frh23 rfl) Mw_h1
      show wp l rho (d + 3) 216 76 [(2, 151), (0, x1), (0, x2)] [] h23 Q
      refine w_iconst gz_216_76 (by decide) ?_
      exact w_bret gz_216_77 gm_216 (by omega) (by omega) (k1 h23 (gh23) Rws_h23t24)
    ·
      refine w_iconst gz_216_41 (by decide) ?_
      exact w_bret gz_216_42 gm_216 (by omega) (by omega) (k0 h1 (gh1) Rws_h1)
theorem c_Reader_readOver_f0 {l : Launch} {rho : Nat → Int32} {d : Nat} {h : my_H} {Q : my_H → my_V → Prop} {x1 : Int} {wv : Int} (a1 : 0 ≤ x1) (b1 : x1 ≤ 5) (cf : h 82 9 = 0) (hwv : wv ≤ 5) (hwv0 : 0 ≤ wv) (n_Ln : Ln h) (n_Un : Un h wv) (hwx : wv = x1) (k0 : ∀ (h' : my_H), my_fr [(4, 1), (4, 2), (4, 3), (4, 4), (4, 5), (4, 6), (4, 7), (4, 8), (4, 9), (5, 5), (5, 6), (5, 7), (5, 8), (5, 9), (37, -1), (38, -1)] h h' → 1 ≤ h' 82 9 → h' 82 9 ≤ 16004 → Ln h' → Un h' wv → Q h' (9, 0)) (k1 : ∀ (h' : my_H), my_fr [(4, 1), (4, 2), (4, 3), (4, 4), (4, 5), (4, 6), (4, 7), (4, 8), (4, 9), (5, 5), (5, 6), (5, 7), (5, 8), (5, 9), (37, -1), (38, -1)] h h' → h' 82 9 = 0 → Sp h' wv → Ln h' → Un h' wv → Q h' (9, 0)) : wp l rho (d + 8) 39 0 [(2, 82), (0, x1), (9, 0)] [] h Q := by
  refine w_aload_n gz_39_0 rfl ?_
  refine w_ldcS gz_39_1 (by decide) ?_
  refine w_inv (k := 0) (as := [(3, ((1 : Nat) : Int))]) (r := []) (x := 82) (ls0 := [(2, 82), (3, ((1 : Nat) : Int))]) gz_39_3 gm_40 rfl is_82 rd_5 rfl rfl rfl rfl rfl (c_Reader_takeWord_f0 (d := (d + 1)) (x1 := ((1 : Nat) : Int)) (by decide) (cf.trans (by omega)) (fun h1 frh1 w2 w3 => ?_) (fun h4 frh4 w5 => ?_))
  ·
    have gh1 : my_fr [(4, 1), (4, 2), (4, 3), (4, 4), (4, 5), (4, 6), (4, 7), (4, 8), (4, 9), (5, 5), (5, 6), (5, 7), (5, 8), (5, 9), (37, -1), (38, -1)] h h1 := my_fr.tr my_fr.rf (frh1.mo rfl)
    have Ln_h1 : Ln h1 := Ln_ag (my_ag.fr frh1 rfl) n_Ln
    have Un_h1 : Un h1 wv := Un_ag (my_ag.fr frh1 rfl) n_Ln n_Un
    show wp l rho (d + 8) 39 6 [(2, 82), (0, x1), (9, 0)] [(0, 0)] h1 Q
    refine w_ifne (t := 10) gz_39_6 rfl (fun u6 => by exfalso; omega) (fun u6 => ?_)
    have c7 := (rfl : h1 82 9 = h1 82 9)
    exact w_vret gz_39_9 gm_39 (k0 h1 (gh1) (by omega) (by omega) Ln_h1 Un_h1)
  ·
    have gh4 : my_fr [(4, 1), (4, 2), (4, 3), (4, 4), (4, 5), (4, 6), (4, 7), (4, 8), (4, 9), (5, 5), (5, 6), (5, 7), (5, 8), (5, 9), (37, -1), (38, -1)] h h4 := my_fr.tr my_fr.rf (frh4.mo rfl)
    have Ln_h4 : Ln h4 := Ln_ag (my_ag.fr frh4 rfl) n_Ln
    have Un_h4 : Un h4 wv := Un_ag (my_ag.fr frh4 rfl) n_Ln n_Un
    show wp l rho (d + 8) 39 6 [(2, 82), (0, x1), (9, 0)] [(0, 1)] h4 Q
    refine w_ifne (t := 10) gz_39_6 rfl (fun u8 => ?_) (fun u8 => by exfalso; omega)
    refine w_aload_n gz_39_10 rfl ?_
    refine w_ldcS gz_39_11 (by decide) ?_
    refine w_inv (k := 1) (as := [(3, ((2 : Nat) : Int))]) (r := []) (x := 82) (ls0 := [(2, 82), (3, ((2 : Nat) : Int)), (9, 0)]) gz_39_13 gm_41 rfl is_82 rd_5 rfl rfl rfl rfl rfl (c_Reader_isWord_f0 (d := (d + 3)) (x1 := ((2 : Nat) : Int)) (by decide) (w5.trans (by omega)) (fun w9 => ?_) (fun w10 w11 => ?_))
    ·
      show wp l rho (d + 8) 39 16 [(2, 82), (0, x1), (9, 0)] [(0, 0)] h4 Q
      refine w_ifeq (t := 57) gz_39_16 rfl (fun u12 => ?_) (fun u12 => by exfalso; omega)
      refine w_aload_n gz_39_57 rfl ?_
      refine w_ldcS gz_39_58 (by decide) ?_
      refine w_inv (k := 1) (as := [(3, ((3 : Nat) : Int))]) (r := []) (x := 82) (ls0 := [(2, 82), (3, ((3 : Nat) : Int)), (9, 0)]) gz_39_60 gm_41 rfl is_82 rd_5 rfl rfl rfl rfl rfl (c_Reader_isWord_f0 (d := (d + 3)) (x1 := ((3 : Nat) : Int)) (by decide) (w5.trans (by omega)) (fun w13 => ?_) (fun w14 w15 => ?_))
      ·
        show wp l rho (d + 8) 39 63 [(2, 82), (0, x1), (9, 0)] [(0, 0)] h4 Q
        refine w_ifeq (t := 127) gz_39_63 rfl (fun u16 => ?_) (fun u16 => by exfalso; omega)
        refine w_aload_n gz_39_127 rfl ?_
        refine w_iconst gz_39_128 (by decide) ?_
        refine w_inv (k := 0) (as := [(0, 1)]) (r := []) (x := 82) (ls0 := [(2, 82), (0, 1)]) gz_39_129 gm_42 rfl is_82 rd_5 rfl rfl rfl rfl rfl ?_
        refine w_aload_n gz_42_0 rfl ?_
        refine v_getI (j := 9) gz_42_1 rfl is_82 rd_5 rfl (fun v17 ev17 pv17 qv17 => ?_)
        have zv17 := ev17.trans w5
        refine w_ifne (t := 20) gz_42_4 rfl (fun u18 => by exfalso; omega) (fun u18 => ?_)
        refine w_aload_n gz_42_7 rfl ?_
        refine w_iload_n gz_42_8 rfl ?_
        refine w_bipush gz_42_9 (by decide) ?_
        refine w_aload_n gz_42_11 rfl ?_
        refine v_getI (j := 7) gz_42_12 rfl is_82 rd_5 rfl (fun v19 ev19 pv19 qv19 => ?_)
        refine w_imul gz_42_15 ⟨by omega, by omega⟩ ?_
        refine w_iadd gz_42_16 ⟨by omega, by omega⟩ ?_
        refine v_putI (j := 9) gz_42_17 rfl is_82 rd_5 rfl (by omega) (by omega) rfl (fun h20 fh20 => ?_)
        have gh20 : my_fr [(4, 1), (4, 2), (4, 3), (4, 4), (4, 5), (4, 6), (4, 7), (4, 8), (4, 9), (5, 5), (5, 6), (5, 7), (5, 8), (5, 9), (37, -1), (38, -1)] h h20 := my_fr.up gh4 is_82 fh20 rfl
        have Ln_h20 : Ln h20 := Ln_ag (my_ag.up fh20 is_82 rfl) Ln_h4
        have Un_h20 : Un h20 wv := Un_ag (my_ag.up fh20 is_82 rfl) Ln_h4 Un_h4
        refine w_vret gz_42_20 gm_42 ?_
        show wp l rho (d + 8) 39 132 [(2, 82), (0, x1), (9, 0)] [] h20 Q
        have c21 := (my_up_self fh20)
        exact w_vret gz_39_132 gm_39 (k0 h20 (gh20) (by omega) (by omega) Ln_h20 Un_h20)
      ·
        show wp l rho (d + 8) 39 63 [(2, 82), (0, x1), (9, 0)] [(0, 1)] h4 Q
        refine w_ifeq (t := 127) gz_39_63 rfl (fun u22 => by exfalso; omega) (fun u22 => ?_)
        refine w_aload_n gz_39_66 rfl ?_
        refine w_inv (k := 2) (as := []) (r := []) (x := 82) (ls0 := [(2, 82), (9, 0), (9, 0)]) gz_39_67 gm_37 rfl is_82 rd_5 rfl rfl rfl rfl rfl (c_Reader_nextToken_f0 (d := (d + 6))  (w5.trans (by omega)) (fun h23 frh23 w24 w25 w26 => ?_))
        have gh23 : my_fr [(4, 1), (4, 2), (4, 3), (4, 4), (4, 5), (4, 6), (4, 7), (4, 8), (4, 9), (5, 5), (5, 6), (5, 7), (5, 8), (5, 9), (37, -1), (38, -1)] h h23 := my_fr.tr gh4 (frh23.mo rfl)
        have Ln_h23 : Ln h23 := Ln_ag (my_ag.fr frh23 rfl) Ln_h4
        have Un_h23 : Un h23 wv := Un_ag (my_ag.fr frh23 rfl) Ln_h4 Un_h4
        show wp l rho (d + 8) 39 70 [(2, 82), (0, x1), (9, 0)] [] h23 Q
        refine w_aload_n gz_39_70 rfl ?_
        refine w_iload_n gz_39_71 rfl ?_
        refine w_inv (k := 0) (as := [(0, x1)]) (r := []) (x := 82) (ls0 := [(2, 82), (0, x1)]) gz_39_72 gm_44 rfl is_82 rd_5 rfl rfl rfl rfl rfl ?_
        refine w_aload_n gz_44_0 rfl ?_
        refine v_getI (j := 6) gz_44_1 rfl is_82 rd_5 rfl (fun v27 ev27 pv27 qv27 => ?_)
        have zv27 := ev27.trans (rfl : h23 82 6 = h23 82 6)
        refine w_iconst gz_44_4 (by decide) ?_
        refine w_iceq (t := 15) gz_44_5 rfl (fun u28 => ?_) (fun u28 => ?_)
        ·
          refine w_aload_n gz_44_15 rfl ?_
          refine v_getI (j := 8) gz_44_16 rfl is_82 rd_5 rfl (fun v29 ev29 pv29 qv29 => ?_)
          refine w_iload_n gz_44_19 rfl ?_
          refine w_iclt (t := 30) gz_44_20 rfl (fun u30 => ?_) (fun u30 => ?_)
          ·
            refine w_aload_n gz_44_30 rfl ?_
            refine v_getI (j := 9) gz_44_31 rfl is_82 rd_5 rfl (fun v31 ev31 pv31 qv31 => ?_)
            have zv31 := ev31.trans ((my_fr.at frh23 is_82 rfl).trans w5)
            refine w_ifne (t := 44) gz_44_34 rfl (fun u32 => by exfalso; omega) (fun u32 => ?_)
            refine w_aload_n gz_44_37 rfl ?_
            refine v_getI (j := 8) gz_44_38 rfl is_82 rd_5 rfl (fun v33 ev33 pv33 qv33 => ?_)
            have zv33 := ev33.trans ev29.symm
            refine w_goto (t := 45) gz_44_41 rfl ?_
            refine w_iret gz_44_45 gm_44 ?_
            show wp l rho (d + 8) 39 75 [(2, 82), (0, x1), (9, 0)] [(0, v33)] h23 Q
            refine w_istore_n (ls' := [(2, 82), (0, x1), (0, v33)]) gz_39_75 gm_39 rfl rfl rfl ?_
            refine w_iload_n gz_39_76 rfl ?_
            refine w_iconst gz_39_77 (by decide) ?_
            refine w_iceq (t := 101) gz_39_78 rfl (fun u34 => by exfalso; omega) (fun u34 => ?_)
            refine w_aload_n gz_39_81 rfl ?_
            refine w_getX (v := 27) gz_39_82 is_82 rd_5 rfl (by decide) rfl ?_
            refine w_iload_n gz_39_85 rfl ?_
            refine w_aald gz_39_86 is_27 rd_22 rfl (by omega) (by omega) (fun v36 ev36 tv36 => ?_)
            refine v_getI (j := 0) gz_39_87 rfl tv36 rd_4 rfl (fun v37 ev37 pv37 qv37 => ?_)
            refine w_ifne (t := 101) gz_39_90 rfl (fun u38 => ?_) (fun u38 => ?_)
            ·
              refine w_iload_n gz_39_101 rfl ?_
              refine w_iconst gz_39_102 (by decide) ?_
              refine w_iceq (t := 124) gz_39_103 rfl (fun u39 => by exfalso; omega) (fun u39 => ?_)
              refine w_aload_n gz_39_106 rfl ?_
              refine v_getR (j := 2) gz_39_107 rfl is_82 rd_5 rfl (fun v40 ev40 tv40 => ?_)
              refine w_iload_n gz_39_110 rfl ?_
              refine w_aload_n gz_39_111 rfl ?_
              refine w_getX (v := 27) gz_39_112 is_82 rd_5 rfl (by decide) rfl ?_
              refine w_iload_n gz_39_115 rfl ?_
              refine w_aald gz_39_116 is_27 rd_22 rfl (by omega) (by omega) (fun v42 ev42 tv42 => ?_)
              have zv42 : v36 = v42 := (ev42.trans ev36.symm).symm
              subst zv42
              have apw := ln_apart ((Ln_h23).2.2.1 v33 (by omega) (by omega)) (Ln_h23).2.2.2.1 ((Ln_h23).2.1 v33 (by omega) (by omega))
              have q27 : h23 27 v33 = v36 := by first | assumption | omega
              rw [q27] at apw
              have q82 : h23 82 2 = v40 := by first | assumption | omega
              rw [q82] at apw
              refine w_inv (k := 0) (as := [(2, v36), (0, v33)]) (r := []) (x := v40) (ls0 := [(2, v40), (0, v33), (2, v36)]) gz_39_117 gm_48 rfl tv40 rd_4 rfl rfl rfl rfl rfl (c_Lens_startOnWindow (d := (d + 6)) (x0 := v40) (x1 := v33) (x2 := v36) tv40 (by omega) (by omega) tv36 (by first | assumption | omega | (subst_vars; omega)) (fun h43 frh43 fxh43 w44 w45 w46 xp47 xp48 xp49 xp50 => ?_))
              have gh43 : my_fr [(4, 1), (4, 2), (4, 3), (4, 4), (4, 5), (4, 6), (4, 7), (4, 8), (4, 9), (5, 5), (5, 6), (5, 7), (5, 8), (5, 9), (37, -1), (38, -1)] h h43 := my_fr.tr gh23 (frh43.mo rfl)
              have Ln_h43 : Ln h43 := Ln_fx fxh43 (by first | assumption | omega) Ln_h23
              have Un_h43 : Un h43 wv := Un_fx fxh43 (by first | assumption | omega) Ln_h23 Un_h23
              show wp l rho (d + 8) 39 120 [(2, 82), (0, x1), (0, v33)] [] h43 Q
              have Sp_h43t51 : Sp h43 wv := Sp_win fxh43 (by first | assumption | omega) Ln_h23 (by omega) (by omega) hwv (by subst_vars; omega) xp47 (by rw [xp48]; subst_vars; rfl) (by rw [xp49]; subst_vars; rfl) xp50
              refine w_aload_n gz_39_120 rfl ?_
              refine w_inv (k := 0) (as := []) (r := []) (x := 82) (ls0 := [(2, 82)]) gz_39_121 gm_46 rfl is_82 rd_5 rfl rfl rfl rfl rfl (c_Reader_endPart_f0 (d := (d + 4))  (((my_fr.at frh43 is_82 rfl).trans ev31.symm).trans (by omega)) (fun h52 frh52 w53 w54 => ?_) (fun h55 frh55 w56 => ?_))
              ·
                have gh52 : my_fr [(4, 1), (4, 2), (4, 3), (4, 4), (4, 5), (4, 6), (4, 7), (4, 8), (4, 9), (5, 5), (5, 6), (5, 7), (5, 8), (5, 9), (37, -1), (38, -1)] h h52 := my_fr.tr gh43 (frh52.mo rfl)
                have Ln_h52 : Ln h52 := Ln_ag (my_ag.fr frh52 rfl) Ln_h43
                have Un_h52 : Un h52 wv := Un_ag (my_ag.fr frh52 rfl) Ln_h43 Un_h43
                have Sp_h52 : Sp h52 wv := Sp_ag (my_ag.fr frh52 rfl) hwv Ln_h43 Sp_h43t51
                show wp l rho (d + 8) 39 124 [(2, 82), (0, x1), (0, v33)] [] h52 Q
                refine w_goto (t := 132) gz_39_124 rfl ?_
                have c57 := (rfl : h52 82 9 = h52 82 9)
                exact w_vret gz_39_132 gm_39 (k0 h52 (gh52) (by omega) (by omega) Ln_h52 Un_h52)
              ·
                have gh55 : my_fr [(4, 1), (4, 2), (4, 3), (4, 4), (4, 5), (4, 6), (4, 7), (4, 8), (4, 9), (5, 5), (5, 6), (5, 7), (5, 8), (5, 9), (37, -1), (38, -1)] h h55 := my_fr.tr gh43 (frh55.mo rfl)
                have Ln_h55 : Ln h55 := Ln_ag (my_ag.fr frh55 rfl) Ln_h43
                have Un_h55 : Un h55 wv := Un_ag (my_ag.fr frh55 rfl) Ln_h43 Un_h43
                have Sp_h55 : Sp h55 wv := Sp_ag (my_ag.fr frh55 rfl) hwv Ln_h43 Sp_h43t51
                show wp l rho (d + 8) 39 124 [(2, 82), (0, x1), (0, v33)] [] h55 Q
                refine w_goto (t := 132) gz_39_124 rfl ?_
                have c58 := w56
                exact w_vret gz_39_132 gm_39 (k1 h55 (gh55) (by omega) (by first | exact Sp_h55 | assumption | omega | grind) Ln_h55 Un_h55)
            ·
              refine w_aload_n gz_39_93 rfl ?_
              refine w_iconst gz_39_94 (by decide) ?_
              refine w_inv (k := 0) (as := [(0, 2)]) (r := []) (x := 82) (ls0 := [(2, 82), (0, 2)]) gz_39_95 gm_42 rfl is_82 rd_5 rfl rfl rfl rfl rfl ?_
              refine w_aload_n gz_42_0 rfl ?_
              refine v_getI (j := 9) gz_42_1 rfl is_82 rd_5 rfl (fun v59 ev59 pv59 qv59 => ?_)
              have zv59 := ev59.trans ev31.symm
              refine w_ifne (t := 20) gz_42_4 rfl (fun u60 => by exfalso; omega) (fun u60 => ?_)
              refine w_aload_n gz_42_7 rfl ?_
              refine w_iload_n gz_42_8 rfl ?_
              refine w_bipush gz_42_9 (by decide) ?_
              refine w_aload_n gz_42_11 rfl ?_
              refine v_getI (j := 7) gz_42_12 rfl is_82 rd_5 rfl (fun v61 ev61 pv61 qv61 => ?_)
              refine w_imul gz_42_15 ⟨by omega, by omega⟩ ?_
              refine w_iadd gz_42_16 ⟨by omega, by omega⟩ ?_
              refine v_putI (j := 9) gz_42_17 rfl is_82 rd_5 rfl (by omega) (by omega) rfl (fun h62 fh62 => ?_)
              have gh62 : my_fr [(4, 1), (4, 2), (4, 3), (4, 4), (4, 5), (4, 6), (4, 7), (4, 8), (4, 9), (5, 5), (5, 6), (5, 7), (5, 8), (5, 9), (37, -1), (38, -1)] h h62 := my_fr.up gh23 is_82 fh62 rfl
              have Ln_h62 : Ln h62 := Ln_ag (my_ag.up fh62 is_82 rfl) Ln_h23
              have Un_h62 : Un h62 wv := Un_ag (my_ag.up fh62 is_82 rfl) Ln_h23 Un_h23
              refine w_vret gz_42_20 gm_42 ?_
              show wp l rho (d + 8) 39 98 [(2, 82), (0, x1), (0, v33)] [] h62 Q
              refine w_goto (t := 124) gz_39_98 rfl ?_
              refine w_goto (t := 132) gz_39_124 rfl ?_
              have c63 := (my_up_self fh62)
              exact w_vret gz_39_132 gm_39 (k0 h62 (gh62) (by omega) (by omega) Ln_h62 Un_h62)
          ·
            refine w_aload_n gz_44_23 rfl ?_
            refine w_iconst gz_44_24 (by decide) ?_
            refine w_inv (k := 0) (as := [(0, 4)]) (r := []) (x := 82) (ls0 := [(2, 82), (0, 4)]) gz_44_25 gm_42 rfl is_82 rd_5 rfl rfl rfl rfl rfl ?_
            refine w_aload_n gz_42_0 rfl ?_
            refine v_getI (j := 9) gz_42_1 rfl is_82 rd_5 rfl (fun v64 ev64 pv64 qv64 => ?_)
            have zv64 := ev64.trans ((my_fr.at frh23 is_82 rfl).trans w5)
            refine w_ifne (t := 20) gz_42_4 rfl (fun u65 => by exfalso; omega) (fun u65 => ?_)
            refine w_aload_n gz_42_7 rfl ?_
            refine w_iload_n gz_42_8 rfl ?_
            refine w_bipush gz_42_9 (by decide) ?_
            refine w_aload_n gz_42_11 rfl ?_
            refine v_getI (j := 7) gz_42_12 rfl is_82 rd_5 rfl (fun v66 ev66 pv66 qv66 => ?_)
            refine w_imul gz_42_15 ⟨by omega, by omega⟩ ?_
            refine w_iadd gz_42_16 ⟨by omega, by omega⟩ ?_
            refine v_putI (j := 9) gz_42_17 rfl is_82 rd_5 rfl (by omega) (by omega) rfl (fun h67 fh67 => ?_)
            have gh67 : my_fr [(4, 1), (4, 2), (4, 3), (4, 4), (4, 5), (4, 6), (4, 7), (4, 8), (4, 9), (5, 5), (5, 6), (5, 7), (5, 8), (5, 9), (37, -1), (38, -1)] h h67 := my_fr.up gh23 is_82 fh67 rfl
            have Ln_h67 : Ln h67 := Ln_ag (my_ag.up fh67 is_82 rfl) Ln_h23
            have Un_h67 : Un h67 wv := Un_ag (my_ag.up fh67 is_82 rfl) Ln_h23 Un_h23
            refine w_vret gz_42_20 gm_42 ?_
            show wp l rho (d + 7) 44 28 [(2, 82), (0, x1)] [] h67 _
            refine w_iconst gz_44_28 (by decide) ?_
            refine w_iret gz_44_29 gm_44 ?_
            show wp l rho (d + 8) 39 75 [(2, 82), (0, x1), (9, 0)] [(0, (-1))] h67 Q
            refine w_istore_n (ls' := [(2, 82), (0, x1), (0, (-1))]) gz_39_75 gm_39 rfl rfl rfl ?_
            refine w_iload_n gz_39_76 rfl ?_
            refine w_iconst gz_39_77 (by decide) ?_
            refine w_iceq (t := 101) gz_39_78 rfl (fun u68 => ?_) (fun u68 => by exfalso; omega)
            refine w_iload_n gz_39_101 rfl ?_
            refine w_iconst gz_39_102 (by decide) ?_
            refine w_iceq (t := 124) gz_39_103 rfl (fun u69 => ?_) (fun u69 => by exfalso; omega)
            refine w_goto (t := 132) gz_39_124 rfl ?_
            have c70 := (my_up_self fh67)
            exact w_vret gz_39_132 gm_39 (k0 h67 (gh67) (by omega) (by omega) Ln_h67 Un_h67)
        ·
          refine w_aload_n gz_44_8 rfl ?_
          refine w_iconst gz_44_9 (by decide) ?_
          refine w_inv (k := 0) (as := [(0, 1)]) (r := []) (x := 82) (ls0 := [(2, 82), (0, 1)]) gz_44_10 gm_42 rfl is_82 rd_5 rfl rfl rfl rfl rfl ?_
          refine w_aload_n gz_42_0 rfl ?_
          refine v_getI (j := 9) gz_42_1 rfl is_82 rd_5 rfl (fun v71 ev71 pv71 qv71 => ?_)
          have zv71 := ev71.trans ((my_fr.at frh23 is_82 rfl).trans w5)
          refine w_ifne (t := 20) gz_42_4 rfl (fun u72 => by exfalso; omega) (fun u72 => ?_)
          refine w_aload_n gz_42_7 rfl ?_
          refine w_iload_n gz_42_8 rfl ?_
          refine w_bipush gz_42_9 (by decide) ?_
          refine w_aload_n gz_42_11 rfl ?_
          refine v_getI (j := 7) gz_42_12 rfl is_82 rd_5 rfl (fun v73 ev73 pv73 qv73 => ?_)
          refine w_imul gz_42_15 ⟨by omega, by omega⟩ ?_
          refine w_iadd gz_42_16 ⟨by omega, by omega⟩ ?_
          refine v_putI (j := 9) gz_42_17 rfl is_82 rd_5 rfl (by omega) (by omega) rfl (fun h74 fh74 => ?_)
          have gh74 : my_fr [(4, 1), (4, 2), (4, 3), (4, 4), (4, 5), (4, 6), (4, 7), (4, 8), (4, 9), (5, 5), (5, 6), (5, 7), (5, 8), (5, 9), (37, -1), (38, -1)] h h74 := my_fr.up gh23 is_82 fh74 rfl
          have Ln_h74 : Ln h74 := Ln_ag (my_ag.up fh74 is_82 rfl) Ln_h23
          have Un_h74 : Un h74 wv := Un_ag (my_ag.up fh74 is_82 rfl) Ln_h23 Un_h23
          refine w_vret gz_42_20 gm_42 ?_
          show wp l rho (d + 7) 44 13 [(2, 82), (0, x1)] [] h74 _
          refine w_iconst gz_44_13 (by decide) ?_
          refine w_iret gz_44_14 gm_44 ?_
          show wp l rho (d + 8) 39 75 [(2, 82), (0, x1), (9, 0)] [(0, (-1))] h74 Q
          refine w_istore_n (ls' := [(2, 82), (0, x1), (0, (-1))]) gz_39_75 gm_39 rfl rfl rfl ?_
          refine w_iload_n gz_39_76 rfl ?_
          refine w_iconst gz_39_77 (by decide) ?_
          refine w_iceq (t := 101) gz_39_78 rfl (fun u75 => ?_) (fun u75 => by exfalso; omega)
          refine w_iload_n gz_39_101 rfl ?_
          refine w_iconst gz_39_102 (by decide) ?_
          refine w_iceq (t := 124) gz_39_103 rfl (fun u76 => ?_) (fun u76 => by exfalso; omega)
          refine w_goto (t := 132) gz_39_124 rfl ?_
          have c77 := (my_up_self fh74)
          exact w_vret gz_39_132 gm_39 (k0 h74 (gh74) (by omega) (by omega) Ln_h74 Un_h74)
    ·
      show wp l rho (d + 8) 39 16 [(2, 82), (0, x1), (9, 0)] [(0, 1)] h4 Q
      refine w_ifeq (t := 57) gz_39_16 rfl (fun u78 => by exfalso; omega) (fun u78 => ?_)
      refine w_aload_n gz_39_19 rfl ?_
      refine w_inv (k := 2) (as := []) (r := []) (x := 82) (ls0 := [(2, 82), (9, 0), (9, 0)]) gz_39_20 gm_37 rfl is_82 rd_5 rfl rfl rfl rfl rfl (c_Reader_nextToken_f0 (d := (d + 6))  (w5.trans (by omega)) (fun h79 frh79 w80 w81 w82 => ?_))
      have gh79 : my_fr [(4, 1), (4, 2), (4, 3), (4, 4), (4, 5), (4, 6), (4, 7), (4, 8), (4, 9), (5, 5), (5, 6), (5, 7), (5, 8), (5, 9), (37, -1), (38, -1)] h h79 := my_fr.tr gh4 (frh79.mo rfl)
      have Ln_h79 : Ln h79 := Ln_ag (my_ag.fr frh79 rfl) Ln_h4
      have Un_h79 : Un h79 wv := Un_ag (my_ag.fr frh79 rfl) Ln_h4 Un_h4
      show wp l rho (d + 8) 39 23 [(2, 82), (0, x1), (9, 0)] [] h79 Q
      refine w_aload_n gz_39_23 rfl ?_
      refine w_inv (k := 1) (as := []) (r := []) (x := 82) (ls0 := [(2, 82), (9, 0)]) gz_39_24 gm_43 rfl is_82 rd_5 rfl rfl rfl rfl rfl (c_Reader_wallNumber_f0 (d := (d + 5))  (((my_fr.at frh79 is_82 rfl).trans w5).trans (by omega)) (fun h83 frh83 w84 w85 xp86 => ?_) (fun h87 v88 frh87 w89 w90 w91 w92 w93 w94 xp95 => ?_))
      ·
        have gh83 : my_fr [(4, 1), (4, 2), (4, 3), (4, 4), (4, 5), (4, 6), (4, 7), (4, 8), (4, 9), (5, 5), (5, 6), (5, 7), (5, 8), (5, 9), (37, -1), (38, -1)] h h83 := my_fr.tr gh79 (frh83.mo rfl)
        have Ln_h83 : Ln h83 := Ln_ag (my_ag.fr frh83 rfl) Ln_h79
        have Un_h83 : Un h83 wv := Un_ag (my_ag.fr frh83 rfl) Ln_h79 Un_h79
        show wp l rho (d + 8) 39 27 [(2, 82), (0, x1), (9, 0)] [(0, (-1))] h83 Q
        refine w_istore_n (ls' := [(2, 82), (0, x1), (0, (-1))]) gz_39_27 gm_39 rfl rfl rfl ?_
        refine w_iload_n gz_39_28 rfl ?_
        refine w_iconst gz_39_29 (by decide) ?_
        refine w_iceq (t := 54) gz_39_30 rfl (fun u96 => ?_) (fun u96 => by exfalso; omega)
        refine w_goto (t := 132) gz_39_54 rfl ?_
        have c97 := (rfl : h83 82 9 = h83 82 9)
        exact w_vret gz_39_132 gm_39 (k0 h83 (gh83) (by omega) (by omega) Ln_h83 Un_h83)
      ·
        have gh87 : my_fr [(4, 1), (4, 2), (4, 3), (4, 4), (4, 5), (4, 6), (4, 7), (4, 8), (4, 9), (5, 5), (5, 6), (5, 7), (5, 8), (5, 9), (37, -1), (38, -1)] h h87 := my_fr.tr gh79 (frh87.mo rfl)
        have Ln_h87 : Ln h87 := Ln_ag (my_ag.fr frh87 rfl) Ln_h79
        have Un_h87 : Un h87 wv := Un_ag (my_ag.fr frh87 rfl) Ln_h79 Un_h79
        show wp l rho (d + 8) 39 27 [(2, 82), (0, x1), (9, 0)] [(0, v88)] h87 Q
        refine w_istore_n (ls' := [(2, 82), (0, x1), (0, v88)]) gz_39_27 gm_39 rfl rfl rfl ?_
        refine w_iload_n gz_39_28 rfl ?_
        refine w_iconst gz_39_29 (by decide) ?_
        refine w_iceq (t := 54) gz_39_30 rfl (fun u98 => by exfalso; omega) (fun u98 => ?_)
        refine w_aload_n gz_39_33 rfl ?_
        refine v_getR (j := 2) gz_39_34 rfl is_82 rd_5 rfl (fun v99 ev99 tv99 => ?_)
        refine w_iload_n gz_39_37 rfl ?_
        refine w_aload_n gz_39_38 rfl ?_
        refine w_getX (v := 1) gz_39_39 is_82 rd_5 rfl (by decide) rfl ?_
        refine w_getX (v := 2) gz_39_42 is_1 rd_3 rfl (by decide) rfl ?_
        refine w_iload_n gz_39_45 rfl ?_
        refine w_iald gz_39_46 is_2 rd_25 (by omega) (by omega) (fun v102 ev102 pv102 qv102 => ?_)
        refine w_inv (k := 1) (as := [(0, v102), (0, v88)]) (r := []) (x := v99) (ls0 := [(2, v99), (0, v88), (0, v102), (9, 0)]) gz_39_47 gm_45 rfl tv99 rd_4 rfl rfl rfl rfl rfl (c_Lens_startOnWall (d := (d + 6)) (x0 := v99) (x1 := v88) (x2 := v102) tv99 (by omega) (by omega) (by omega) (by omega) (fun h103 frh103 fxh103 w104 w105 w106 w107 w108 w109 w110 xp111 xp112 xp113 xp114 => ?_))
        have gh103 : my_fr [(4, 1), (4, 2), (4, 3), (4, 4), (4, 5), (4, 6), (4, 7), (4, 8), (4, 9), (5, 5), (5, 6), (5, 7), (5, 8), (5, 9), (37, -1), (38, -1)] h h103 := my_fr.tr gh87 (frh103.mo rfl)
        have Ln_h103 : Ln h103 := Ln_fx fxh103 (by first | assumption | omega) Ln_h87
        have Un_h103 : Un h103 wv := Un_fx fxh103 (by first | assumption | omega) Ln_h87 Un_h87
        show wp l rho (d + 8) 39 50 [(2, 82), (0, x1), (0, v88)] [] h103 Q
        have Sp_h103t115 : Sp h103 wv := Sp_wall fxh103 (by first | assumption | omega) Ln_h87 hwv0 xp111 xp112 xp113 xp114
        refine w_aload_n gz_39_50 rfl ?_
        refine w_inv (k := 0) (as := []) (r := []) (x := 82) (ls0 := [(2, 82)]) gz_39_51 gm_46 rfl is_82 rd_5 rfl rfl rfl rfl rfl (c_Reader_endPart_f0 (d := (d + 4))  (((my_fr.at frh103 is_82 rfl).trans w94).trans (by omega)) (fun h116 frh116 w117 w118 => ?_) (fun h119 frh119 w120 => ?_))
        ·
          have gh116 : my_fr [(4, 1), (4, 2), (4, 3), (4, 4), (4, 5), (4, 6), (4, 7), (4, 8), (4, 9), (5, 5), (5, 6), (5, 7), (5, 8), (5, 9), (37, -1), (38, -1)] h h116 := my_fr.tr gh103 (frh116.mo rfl)
          have Ln_h116 : Ln h116 := Ln_ag (my_ag.fr frh116 rfl) Ln_h103
          have Un_h116 : Un h116 wv := Un_ag (my_ag.fr frh116 rfl) Ln_h103 Un_h103
          have Sp_h116 : Sp h116 wv := Sp_ag (my_ag.fr frh116 rfl) hwv Ln_h103 Sp_h103t115
          show wp l rho (d + 8) 39 54 [(2, 82), (0, x1), (0, v88)] [] h116 Q
          refine w_goto (t := 132) gz_39_54 rfl ?_
          have c121 := (rfl : h116 82 9 = h116 82 9)
          exact w_vret gz_39_132 gm_39 (k0 h116 (gh116) (by omega) (by omega) Ln_h116 Un_h116)
        ·
          have gh119 : my_fr [(4, 1), (4, 2), (4, 3), (4, 4), (4, 5), (4, 6), (4, 7), (4, 8), (4, 9), (5, 5), (5, 6), (5, 7), (5, 8), (5, 9), (37, -1), (38, -1)] h h119 := my_fr.tr gh103 (frh119.mo rfl)
          have Ln_h119 : Ln h119 := Ln_ag (my_ag.fr frh119 rfl) Ln_h103
          have Un_h119 : Un h119 wv := Un_ag (my_ag.fr frh119 rfl) Ln_h103 Un_h103
          have Sp_h119 : Sp h119 wv := Sp_ag (my_ag.fr frh119 rfl) hwv Ln_h103 Sp_h103t115
          show wp l rho (d + 8) 39 54 [(2, 82), (0, x1), (0, v88)] [] h119 Q
          refine w_goto (t := 132) gz_39_54 rfl ?_
          have c122 := w120
          exact w_vret gz_39_132 gm_39 (k1 h119 (gh119) (by omega) (by first | exact Sp_h119 | assumption | omega | grind) Ln_h119 Un_h119)
theorem c_Reader_readPane_f0 {l : Launch} {rho : Nat → Int32} {d : Nat} {h : my_H} {Q : my_H → my_V → Prop} {wv : Int} (cf : h 82 9 = 0) (hwv : wv ≤ 5) (hwv0 : 0 ≤ wv) (n_Ln : Ln h) (n_Sp : Sp h wv) (k0 : ∀ (h' : my_H), my_fr [(4, 4), (4, 5), (4, 6), (4, 7), (4, 8), (4, 9), (5, 5), (5, 6), (5, 7), (5, 8), (5, 9), (32, -1), (33, -1), (34, -1), (35, -1), (36, -1), (37, -1), (38, -1), (39, -1)] h h' → 1 ≤ h' 82 9 → h' 82 9 ≤ 16005 → Ln h' → Sp h' wv → Q h' (9, 0)) (k1 : ∀ (h' : my_H), my_fr [(4, 4), (4, 5), (4, 6), (4, 7), (4, 8), (4, 9), (5, 5), (5, 6), (5, 7), (5, 8), (5, 9), (32, -1), (33, -1), (34, -1), (35, -1), (36, -1), (37, -1), (38, -1), (39, -1)] h h' → h' 82 9 = 0 → Ln h' → Sp h' wv → Q h' (9, 0)) : wp l rho (d + 8) 49 0 [(2, 82), (9, 0), (9, 0), (9, 0), (9, 0), (9, 0)] [] h Q := by
  refine w_aload_n gz_49_0 rfl ?_
  refine w_ldcS gz_49_1 (by decide) ?_
  refine w_inv (k := 1) (as := [(3, ((4 : Nat) : Int))]) (r := []) (x := 82) (ls0 := [(2, 82), (3, ((4 : Nat) : Int)), (9, 0)]) gz_49_3 gm_41 rfl is_82 rd_5 rfl rfl rfl rfl rfl (c_Reader_isWord_f0 (d := (d + 3)) (x1 := ((4 : Nat) : Int)) (by decide) (cf.trans (by omega)) (fun w1 => ?_) (fun w2 w3 => ?_))
  ·
    show wp l rho (d + 8) 49 6 [(2, 82), (9, 0), (9, 0), (9, 0), (9, 0), (9, 0)] [(0, 0)] h Q
    refine w_istore_n (ls' := [(2, 82), (0, 0), (9, 0), (9, 0), (9, 0), (9, 0)]) gz_49_6 gm_49 rfl rfl rfl ?_
    refine w_aload_n gz_49_7 rfl ?_
    refine w_ldcS gz_49_8 (by decide) ?_
    refine w_inv (k := 1) (as := [(3, ((5 : Nat) : Int))]) (r := []) (x := 82) (ls0 := [(2, 82), (3, ((5 : Nat) : Int)), (9, 0)]) gz_49_10 gm_41 rfl is_82 rd_5 rfl rfl rfl rfl rfl (c_Reader_isWord_f0 (d := (d + 3)) (x1 := ((5 : Nat) : Int)) (by decide) (cf.trans (by omega)) (fun w4 => ?_) (fun w5 w6 => ?_))
    ·
      show wp l rho (d + 8) 49 13 [(2, 82), (0, 0), (9, 0), (9, 0), (9, 0), (9, 0)] [(0, 0)] h Q
      refine w_istore_n (ls' := [(2, 82), (0, 0), (0, 0), (9, 0), (9, 0), (9, 0)]) gz_49_13 gm_49 rfl rfl rfl ?_
      refine w_aload_n gz_49_14 rfl ?_
      refine w_ldcS gz_49_15 (by decide) ?_
      refine w_inv (k := 1) (as := [(3, ((6 : Nat) : Int))]) (r := []) (x := 82) (ls0 := [(2, 82), (3, ((6 : Nat) : Int)), (9, 0)]) gz_49_17 gm_41 rfl is_82 rd_5 rfl rfl rfl rfl rfl (c_Reader_isWord_f0 (d := (d + 3)) (x1 := ((6 : Nat) : Int)) (by decide) (cf.trans (by omega)) (fun w7 => ?_) (fun w8 w9 => ?_))
      ·
        show wp l rho (d + 8) 49 20 [(2, 82), (0, 0), (0, 0), (9, 0), (9, 0), (9, 0)] [(0, 0)] h Q
        refine w_istore_n (ls' := [(2, 82), (0, 0), (0, 0), (0, 0), (9, 0), (9, 0)]) gz_49_20 gm_49 rfl rfl rfl ?_
        refine w_aload_n gz_49_21 rfl ?_
        refine w_ldcS gz_49_22 (by decide) ?_
        refine w_inv (k := 1) (as := [(3, ((7 : Nat) : Int))]) (r := []) (x := 82) (ls0 := [(2, 82), (3, ((7 : Nat) : Int)), (9, 0)]) gz_49_24 gm_41 rfl is_82 rd_5 rfl rfl rfl rfl rfl (c_Reader_isWord_f0 (d := (d + 3)) (x1 := ((7 : Nat) : Int)) (by decide) (cf.trans (by omega)) (fun w10 => ?_) (fun w11 w12 => ?_))
        ·
          show wp l rho (d + 8) 49 27 [(2, 82), (0, 0), (0, 0), (0, 0), (9, 0), (9, 0)] [(0, 0)] h Q
          refine w_istore (ls' := [(2, 82), (0, 0), (0, 0), (0, 0), (0, 0), (9, 0)]) gz_49_27 gm_49 rfl rfl rfl ?_
          refine w_aload_n gz_49_29 rfl ?_
          refine w_ldcS gz_49_30 (by decide) ?_
          refine w_inv (k := 1) (as := [(3, ((8 : Nat) : Int))]) (r := []) (x := 82) (ls0 := [(2, 82), (3, ((8 : Nat) : Int)), (9, 0)]) gz_49_32 gm_41 rfl is_82 rd_5 rfl rfl rfl rfl rfl (c_Reader_isWord_f0 (d := (d + 3)) (x1 := ((8 : Nat) : Int)) (by decide) (cf.trans (by omega)) (fun w13 => ?_) (fun w14 w15 => ?_))
          ·
            show wp l rho (d + 8) 49 35 [(2, 82), (0, 0), (0, 0), (0, 0), (0, 0), (9, 0)] [(0, 0)] h Q
            refine w_istore (ls' := [(2, 82), (0, 0), (0, 0), (0, 0), (0, 0), (0, 0)]) gz_49_35 gm_49 rfl rfl rfl ?_
            refine w_iload_n gz_49_37 rfl ?_
            refine w_ifne (t := 65) gz_49_38 rfl (fun u16 => by exfalso; omega) (fun u16 => ?_)
            refine w_iload_n gz_49_41 rfl ?_
            refine w_ifne (t := 65) gz_49_42 rfl (fun u17 => by exfalso; omega) (fun u17 => ?_)
            refine w_iload_n gz_49_45 rfl ?_
            refine w_ifne (t := 65) gz_49_46 rfl (fun u18 => by exfalso; omega) (fun u18 => ?_)
            refine w_iload gz_49_49 rfl ?_
            refine w_ifne (t := 65) gz_49_51 rfl (fun u19 => by exfalso; omega) (fun u19 => ?_)
            refine w_iload gz_49_54 rfl ?_
            refine w_ifne (t := 65) gz_49_56 rfl (fun u20 => by exfalso; omega) (fun u20 => ?_)
            refine w_aload_n gz_49_59 rfl ?_
            refine w_iconst gz_49_60 (by decide) ?_
            refine w_inv (k := 0) (as := [(0, 1)]) (r := []) (x := 82) (ls0 := [(2, 82), (0, 1)]) gz_49_61 gm_42 rfl is_82 rd_5 rfl rfl rfl rfl rfl ?_
            refine w_aload_n gz_42_0 rfl ?_
            refine v_getI (j := 9) gz_42_1 rfl is_82 rd_5 rfl (fun v21 ev21 pv21 qv21 => ?_)
            have zv21 := ev21.trans cf
            refine w_ifne (t := 20) gz_42_4 rfl (fun u22 => by exfalso; omega) (fun u22 => ?_)
            refine w_aload_n gz_42_7 rfl ?_
            refine w_iload_n gz_42_8 rfl ?_
            refine w_bipush gz_42_9 (by decide) ?_
            refine w_aload_n gz_42_11 rfl ?_
            refine v_getI (j := 7) gz_42_12 rfl is_82 rd_5 rfl (fun v23 ev23 pv23 qv23 => ?_)
            refine w_imul gz_42_15 ⟨by omega, by omega⟩ ?_
            refine w_iadd gz_42_16 ⟨by omega, by omega⟩ ?_
            refine v_putI (j := 9) gz_42_17 rfl is_82 rd_5 rfl (by omega) (by omega) rfl (fun h24 fh24 => ?_)
            have gh24 : my_fr [(4, 4), (4, 5), (4, 6), (4, 7), (4, 8), (4, 9), (5, 5), (5, 6), (5, 7), (5, 8), (5, 9), (32, -1), (33, -1), (34, -1), (35, -1), (36, -1), (37, -1), (38, -1), (39, -1)] h h24 := my_fr.up my_fr.rf is_82 fh24 rfl
            have Ln_h24 : Ln h24 := Ln_ag (my_ag.up fh24 is_82 rfl) n_Ln
            have Sp_h24 : Sp h24 wv := Sp_ag (my_ag.up fh24 is_82 rfl) hwv n_Ln n_Sp
            refine w_vret gz_42_20 gm_42 ?_
            show wp l rho (d + 8) 49 64 [(2, 82), (0, 0), (0, 0), (0, 0), (0, 0), (0, 0)] [] h24 Q
            have c25 := (my_up_self fh24)
            exact w_vret gz_49_64 gm_49 (k0 h24 (gh24) (by omega) (by omega) Ln_h24 Sp_h24)
          ·
            show wp l rho (d + 8) 49 35 [(2, 82), (0, 0), (0, 0), (0, 0), (0, 0), (9, 0)] [(0, 1)] h Q
            refine w_istore (ls' := [(2, 82), (0, 0), (0, 0), (0, 0), (0, 0), (0, 1)]) gz_49_35 gm_49 rfl rfl rfl ?_
            refine w_iload_n gz_49_37 rfl ?_
            refine w_ifne (t := 65) gz_49_38 rfl (fun u26 => by exfalso; omega) (fun u26 => ?_)
            refine w_iload_n gz_49_41 rfl ?_
            refine w_ifne (t := 65) gz_49_42 rfl (fun u27 => by exfalso; omega) (fun u27 => ?_)
            refine w_iload_n gz_49_45 rfl ?_
            refine w_ifne (t := 65) gz_49_46 rfl (fun u28 => by exfalso; omega) (fun u28 => ?_)
            refine w_iload gz_49_49 rfl ?_
            refine w_ifne (t := 65) gz_49_51 rfl (fun u29 => by exfalso; omega) (fun u29 => ?_)
            refine w_iload gz_49_54 rfl ?_
            refine w_ifne (t := 65) gz_49_56 rfl (fun u30 => ?_) (fun u30 => by exfalso; omega)
            refine w_iload_n gz_49_65 rfl ?_
            refine w_ifne (t := 87) gz_49_66 rfl (fun u31 => by exfalso; omega) (fun u31 => ?_)
            refine w_aload_n gz_49_69 rfl ?_
            refine v_getR (j := 2) gz_49_70 rfl is_82 rd_5 rfl (fun v32 ev32 tv32 => ?_)
            refine v_getI (j := 9) gz_49_73 rfl tv32 rd_4 rfl (fun v33 ev33 pv33 qv33 => ?_)
            refine w_bipush gz_49_76 (by decide) ?_
            refine w_iclt (t := 87) gz_49_78 rfl (fun u34 => ?_) (fun u34 => ?_)
            ·
              have St5_ht35 : St5 h := ⟨by subst_vars; omega, by subst_vars; omega⟩
              refine w_aload_n gz_49_87 rfl ?_
              refine w_inv (k := 2) (as := []) (r := []) (x := 82) (ls0 := [(2, 82), (9, 0), (9, 0)]) gz_49_88 gm_37 rfl is_82 rd_5 rfl rfl rfl rfl rfl (c_Reader_nextToken_f0 (d := (d + 6))  (cf.trans (by omega)) (fun h36 frh36 w37 w38 w39 => ?_))
              have gh36 : my_fr [(4, 4), (4, 5), (4, 6), (4, 7), (4, 8), (4, 9), (5, 5), (5, 6), (5, 7), (5, 8), (5, 9), (32, -1), (33, -1), (34, -1), (35, -1), (36, -1), (37, -1), (38, -1), (39, -1)] h h36 := my_fr.tr my_fr.rf (frh36.mo rfl)
              have Ln_h36 : Ln h36 := Ln_ag (my_ag.fr frh36 rfl) n_Ln
              have Sp_h36 : Sp h36 wv := Sp_ag (my_ag.fr frh36 rfl) hwv n_Ln n_Sp
              have St5_h36 : St5 h36 := St5_ag (my_ag.fr frh36 rfl) n_Ln St5_ht35
              show wp l rho (d + 8) 49 91 [(2, 82), (0, 0), (0, 0), (0, 0), (0, 0), (0, 1)] [] h36 Q
              refine w_iload_n gz_49_91 rfl ?_
              refine w_ifeq (t := 102) gz_49_92 rfl (fun u40 => ?_) (fun u40 => by exfalso; omega)
              refine w_iload_n gz_49_102 rfl ?_
              refine w_ifeq (t := 113) gz_49_103 rfl (fun u41 => ?_) (fun u41 => by exfalso; omega)
              refine w_iload_n gz_49_113 rfl ?_
              refine w_ifeq (t := 124) gz_49_114 rfl (fun u42 => ?_) (fun u42 => by exfalso; omega)
              refine w_iload gz_49_124 rfl ?_
              refine w_ifeq (t := 136) gz_49_126 rfl (fun u43 => ?_) (fun u43 => by exfalso; omega)
              refine w_aload_n gz_49_136 rfl ?_
              refine w_inv (k := 2) (as := []) (r := []) (x := 82) (ls0 := [(2, 82), (9, 0), (9, 0)]) gz_49_137 gm_62 rfl is_82 rd_5 rfl rfl rfl rfl rfl (c_Reader_readSum_f0 (d := d)  (wv := wv) (((my_fr.at frh36 is_82 rfl).trans cf).trans (by omega)) (by first | assumption | omega) (by first | assumption | omega) Ln_h36 Sp_h36 St5_h36 (fun h44 frh44 w45 w46 Ln_h44t47 Sp_h44t48 => ?_) (fun h49 frh49 w50 Ln_h49t51 Sp_h49t52 => ?_))
              ·
                have gh44 : my_fr [(4, 4), (4, 5), (4, 6), (4, 7), (4, 8), (4, 9), (5, 5), (5, 6), (5, 7), (5, 8), (5, 9), (32, -1), (33, -1), (34, -1), (35, -1), (36, -1), (37, -1), (38, -1), (39, -1)] h h44 := my_fr.tr gh36 (frh44.mo rfl)
                show wp l rho (d + 8) 49 140 [(2, 82), (0, 0), (0, 0), (0, 0), (0, 0), (0, 1)] [] h44 Q
                have c53 := (rfl : h44 82 9 = h44 82 9)
                exact w_vret gz_49_140 gm_49 (k0 h44 (gh44) (by omega) (by omega) Ln_h44t47 Sp_h44t48)
              ·
                have gh49 : my_fr [(4, 4), (4, 5), (4, 6), (4, 7), (4, 8), (4, 9), (5, 5), (5, 6), (5, 7), (5, 8), (5, 9), (32, -1), (33, -1), (34, -1), (35, -1), (36, -1), (37, -1), (38, -1), (39, -1)] h h49 := my_fr.tr gh36 (frh49.mo rfl)
                show wp l rho (d + 8) 49 140 [(2, 82), (0, 0), (0, 0), (0, 0), (0, 0), (0, 1)] [] h49 Q
                have c54 := w50
                exact w_vret gz_49_140 gm_49 (k1 h49 (gh49) (by omega) Ln_h49t51 Sp_h49t52)
            ·
              refine w_aload_n gz_49_81 rfl ?_
              refine w_iconst gz_49_82 (by decide) ?_
              refine w_inv (k := 0) (as := [(0, 5)]) (r := []) (x := 82) (ls0 := [(2, 82), (0, 5)]) gz_49_83 gm_42 rfl is_82 rd_5 rfl rfl rfl rfl rfl ?_
              refine w_aload_n gz_42_0 rfl ?_
              refine v_getI (j := 9) gz_42_1 rfl is_82 rd_5 rfl (fun v55 ev55 pv55 qv55 => ?_)
              have zv55 := ev55.trans cf
              refine w_ifne (t := 20) gz_42_4 rfl (fun u56 => by exfalso; omega) (fun u56 => ?_)
              refine w_aload_n gz_42_7 rfl ?_
              refine w_iload_n gz_42_8 rfl ?_
              refine w_bipush gz_42_9 (by decide) ?_
              refine w_aload_n gz_42_11 rfl ?_
              refine v_getI (j := 7) gz_42_12 rfl is_82 rd_5 rfl (fun v57 ev57 pv57 qv57 => ?_)
              refine w_imul gz_42_15 ⟨by omega, by omega⟩ ?_
              refine w_iadd gz_42_16 ⟨by omega, by omega⟩ ?_
              refine v_putI (j := 9) gz_42_17 rfl is_82 rd_5 rfl (by omega) (by omega) rfl (fun h58 fh58 => ?_)
              have gh58 : my_fr [(4, 4), (4, 5), (4, 6), (4, 7), (4, 8), (4, 9), (5, 5), (5, 6), (5, 7), (5, 8), (5, 9), (32, -1), (33, -1), (34, -1), (35, -1), (36, -1), (37, -1), (38, -1), (39, -1)] h h58 := my_fr.up my_fr.rf is_82 fh58 rfl
              have Ln_h58 : Ln h58 := Ln_ag (my_ag.up fh58 is_82 rfl) n_Ln
              have Sp_h58 : Sp h58 wv := Sp_ag (my_ag.up fh58 is_82 rfl) hwv n_Ln n_Sp
              refine w_vret gz_42_20 gm_42 ?_
              show wp l rho (d + 8) 49 86 [(2, 82), (0, 0), (0, 0), (0, 0), (0, 0), (0, 1)] [] h58 Q
              have c59 := (my_up_self fh58)
              exact w_vret gz_49_86 gm_49 (k0 h58 (gh58) (by omega) (by omega) Ln_h58 Sp_h58)
        ·
          show wp l rho (d + 8) 49 27 [(2, 82), (0, 0), (0, 0), (0, 0), (9, 0), (9, 0)] [(0, 1)] h Q
          refine w_istore (ls' := [(2, 82), (0, 0), (0, 0), (0, 0), (0, 1), (9, 0)]) gz_49_27 gm_49 rfl rfl rfl ?_
          refine w_aload_n gz_49_29 rfl ?_
          refine w_ldcS gz_49_30 (by decide) ?_
          refine w_inv (k := 1) (as := [(3, ((8 : Nat) : Int))]) (r := []) (x := 82) (ls0 := [(2, 82), (3, ((8 : Nat) : Int)), (9, 0)]) gz_49_32 gm_41 rfl is_82 rd_5 rfl rfl rfl rfl rfl (c_Reader_isWord_f0 (d := (d + 3)) (x1 := ((8 : Nat) : Int)) (by decide) (cf.trans (by omega)) (fun w60 => ?_) (fun w61 w62 => ?_))
          ·
            show wp l rho (d + 8) 49 35 [(2, 82), (0, 0), (0, 0), (0, 0), (0, 1), (9, 0)] [(0, 0)] h Q
            refine w_istore (ls' := [(2, 82), (0, 0), (0, 0), (0, 0), (0, 1), (0, 0)]) gz_49_35 gm_49 rfl rfl rfl ?_
            refine w_iload_n gz_49_37 rfl ?_
            refine w_ifne (t := 65) gz_49_38 rfl (fun u63 => by exfalso; omega) (fun u63 => ?_)
            refine w_iload_n gz_49_41 rfl ?_
            refine w_ifne (t := 65) gz_49_42 rfl (fun u64 => by exfalso; omega) (fun u64 => ?_)
            refine w_iload_n gz_49_45 rfl ?_
            refine w_ifne (t := 65) gz_49_46 rfl (fun u65 => by exfalso; omega) (fun u65 => ?_)
            refine w_iload gz_49_49 rfl ?_
            refine w_ifne (t := 65) gz_49_51 rfl (fun u66 => ?_) (fun u66 => by exfalso; omega)
            refine w_iload_n gz_49_65 rfl ?_
            refine w_ifne (t := 87) gz_49_66 rfl (fun u67 => by exfalso; omega) (fun u67 => ?_)
            refine w_aload_n gz_49_69 rfl ?_
            refine v_getR (j := 2) gz_49_70 rfl is_82 rd_5 rfl (fun v68 ev68 tv68 => ?_)
            refine v_getI (j := 9) gz_49_73 rfl tv68 rd_4 rfl (fun v69 ev69 pv69 qv69 => ?_)
            refine w_bipush gz_49_76 (by decide) ?_
            refine w_iclt (t := 87) gz_49_78 rfl (fun u70 => ?_) (fun u70 => ?_)
            ·
              have St5_ht71 : St5 h := ⟨by subst_vars; omega, by subst_vars; omega⟩
              refine w_aload_n gz_49_87 rfl ?_
              refine w_inv (k := 2) (as := []) (r := []) (x := 82) (ls0 := [(2, 82), (9, 0), (9, 0)]) gz_49_88 gm_37 rfl is_82 rd_5 rfl rfl rfl rfl rfl (c_Reader_nextToken_f0 (d := (d + 6))  (cf.trans (by omega)) (fun h72 frh72 w73 w74 w75 => ?_))
              have gh72 : my_fr [(4, 4), (4, 5), (4, 6), (4, 7), (4, 8), (4, 9), (5, 5), (5, 6), (5, 7), (5, 8), (5, 9), (32, -1), (33, -1), (34, -1), (35, -1), (36, -1), (37, -1), (38, -1), (39, -1)] h h72 := my_fr.tr my_fr.rf (frh72.mo rfl)
              have Ln_h72 : Ln h72 := Ln_ag (my_ag.fr frh72 rfl) n_Ln
              have Sp_h72 : Sp h72 wv := Sp_ag (my_ag.fr frh72 rfl) hwv n_Ln n_Sp
              have St5_h72 : St5 h72 := St5_ag (my_ag.fr frh72 rfl) n_Ln St5_ht71
              show wp l rho (d + 8) 49 91 [(2, 82), (0, 0), (0, 0), (0, 0), (0, 1), (0, 0)] [] h72 Q
              refine w_iload_n gz_49_91 rfl ?_
              refine w_ifeq (t := 102) gz_49_92 rfl (fun u76 => ?_) (fun u76 => by exfalso; omega)
              refine w_iload_n gz_49_102 rfl ?_
              refine w_ifeq (t := 113) gz_49_103 rfl (fun u77 => ?_) (fun u77 => by exfalso; omega)
              refine w_iload_n gz_49_113 rfl ?_
              refine w_ifeq (t := 124) gz_49_114 rfl (fun u78 => ?_) (fun u78 => by exfalso; omega)
              refine w_iload gz_49_124 rfl ?_
              refine w_ifeq (t := 136) gz_49_126 rfl (fun u79 => by exfalso; omega) (fun u79 => ?_)
              refine w_aload_n gz_49_129 rfl ?_
              refine w_inv (k := 3) (as := []) (r := []) (x := 82) (ls0 := [(2, 82), (9, 0), (9, 0), (9, 0)]) gz_49_130 gm_60 rfl is_82 rd_5 rfl rfl rfl rfl rfl (c_Reader_readJoin_f0 (d := d)  (wv := wv) (((my_fr.at frh72 is_82 rfl).trans cf).trans (by omega)) (by first | assumption | omega) (by first | assumption | omega) Ln_h72 Sp_h72 St5_h72 (fun h80 frh80 w81 w82 Ln_h80t83 Sp_h80t84 => ?_) (fun h85 frh85 w86 Ln_h85t87 Sp_h85t88 => ?_))
              ·
                have gh80 : my_fr [(4, 4), (4, 5), (4, 6), (4, 7), (4, 8), (4, 9), (5, 5), (5, 6), (5, 7), (5, 8), (5, 9), (32, -1), (33, -1), (34, -1), (35, -1), (36, -1), (37, -1), (38, -1), (39, -1)] h h80 := my_fr.tr gh72 (frh80.mo rfl)
                show wp l rho (d + 8) 49 133 [(2, 82), (0, 0), (0, 0), (0, 0), (0, 1), (0, 0)] [] h80 Q
                refine w_goto (t := 140) gz_49_133 rfl ?_
                have c89 := (rfl : h80 82 9 = h80 82 9)
                exact w_vret gz_49_140 gm_49 (k0 h80 (gh80) (by omega) (by omega) Ln_h80t83 Sp_h80t84)
              ·
                have gh85 : my_fr [(4, 4), (4, 5), (4, 6), (4, 7), (4, 8), (4, 9), (5, 5), (5, 6), (5, 7), (5, 8), (5, 9), (32, -1), (33, -1), (34, -1), (35, -1), (36, -1), (37, -1), (38, -1), (39, -1)] h h85 := my_fr.tr gh72 (frh85.mo rfl)
                show wp l rho (d + 8) 49 133 [(2, 82), (0, 0), (0, 0), (0, 0), (0, 1), (0, 0)] [] h85 Q
                refine w_goto (t := 140) gz_49_133 rfl ?_
                have c90 := w86
                exact w_vret gz_49_140 gm_49 (k1 h85 (gh85) (by omega) Ln_h85t87 Sp_h85t88)
            ·
              refine w_aload_n gz_49_81 rfl ?_
              refine w_iconst gz_49_82 (by decide) ?_
              refine w_inv (k := 0) (as := [(0, 5)]) (r := []) (x := 82) (ls0 := [(2, 82), (0, 5)]) gz_49_83 gm_42 rfl is_82 rd_5 rfl rfl rfl rfl rfl ?_
              refine w_aload_n gz_42_0 rfl ?_
              refine v_getI (j := 9) gz_42_1 rfl is_82 rd_5 rfl (fun v91 ev91 pv91 qv91 => ?_)
              have zv91 := ev91.trans cf
              refine w_ifne (t := 20) gz_42_4 rfl (fun u92 => by exfalso; omega) (fun u92 => ?_)
              refine w_aload_n gz_42_7 rfl ?_
              refine w_iload_n gz_42_8 rfl ?_
              refine w_bipush gz_42_9 (by decide) ?_
              refine w_aload_n gz_42_11 rfl ?_
              refine v_getI (j := 7) gz_42_12 rfl is_82 rd_5 rfl (fun v93 ev93 pv93 qv93 => ?_)
              refine w_imul gz_42_15 ⟨by omega, by omega⟩ ?_
              refine w_iadd gz_42_16 ⟨by omega, by omega⟩ ?_
              refine v_putI (j := 9) gz_42_17 rfl is_82 rd_5 rfl (by omega) (by omega) rfl (fun h94 fh94 => ?_)
              have gh94 : my_fr [(4, 4), (4, 5), (4, 6), (4, 7), (4, 8), (4, 9), (5, 5), (5, 6), (5, 7), (5, 8), (5, 9), (32, -1), (33, -1), (34, -1), (35, -1), (36, -1), (37, -1), (38, -1), (39, -1)] h h94 := my_fr.up my_fr.rf is_82 fh94 rfl
              have Ln_h94 : Ln h94 := Ln_ag (my_ag.up fh94 is_82 rfl) n_Ln
              have Sp_h94 : Sp h94 wv := Sp_ag (my_ag.up fh94 is_82 rfl) hwv n_Ln n_Sp
              refine w_vret gz_42_20 gm_42 ?_
              show wp l rho (d + 8) 49 86 [(2, 82), (0, 0), (0, 0), (0, 0), (0, 1), (0, 0)] [] h94 Q
              have c95 := (my_up_self fh94)
              exact w_vret gz_49_86 gm_49 (k0 h94 (gh94) (by omega) (by omega) Ln_h94 Sp_h94)
          ·
            show wp l rho (d + 8) 49 35 [(2, 82), (0, 0), (0, 0), (0, 0), (0, 1), (9, 0)] [(0, 1)] h Q
            refine w_istore (ls' := [(2, 82), (0, 0), (0, 0), (0, 0), (0, 1), (0, 1)]) gz_49_35 gm_49 rfl rfl rfl ?_
            refine w_iload_n gz_49_37 rfl ?_
            refine w_ifne (t := 65) gz_49_38 rfl (fun u96 => by exfalso; omega) (fun u96 => ?_)
            refine w_iload_n gz_49_41 rfl ?_
            refine w_ifne (t := 65) gz_49_42 rfl (fun u97 => by exfalso; omega) (fun u97 => ?_)
            refine w_iload_n gz_49_45 rfl ?_
            refine w_ifne (t := 65) gz_49_46 rfl (fun u98 => by exfalso; omega) (fun u98 => ?_)
            refine w_iload gz_49_49 rfl ?_
            refine w_ifne (t := 65) gz_49_51 rfl (fun u99 => ?_) (fun u99 => by exfalso; omega)
            refine w_iload_n gz_49_65 rfl ?_
            refine w_ifne (t := 87) gz_49_66 rfl (fun u100 => by exfalso; omega) (fun u100 => ?_)
            refine w_aload_n gz_49_69 rfl ?_
            refine v_getR (j := 2) gz_49_70 rfl is_82 rd_5 rfl (fun v101 ev101 tv101 => ?_)
            refine v_getI (j := 9) gz_49_73 rfl tv101 rd_4 rfl (fun v102 ev102 pv102 qv102 => ?_)
            refine w_bipush gz_49_76 (by decide) ?_
            refine w_iclt (t := 87) gz_49_78 rfl (fun u103 => ?_) (fun u103 => ?_)
            ·
              have St5_ht104 : St5 h := ⟨by subst_vars; omega, by subst_vars; omega⟩
              refine w_aload_n gz_49_87 rfl ?_
              refine w_inv (k := 2) (as := []) (r := []) (x := 82) (ls0 := [(2, 82), (9, 0), (9, 0)]) gz_49_88 gm_37 rfl is_82 rd_5 rfl rfl rfl rfl rfl (c_Reader_nextToken_f0 (d := (d + 6))  (cf.trans (by omega)) (fun h105 frh105 w106 w107 w108 => ?_))
              have gh105 : my_fr [(4, 4), (4, 5), (4, 6), (4, 7), (4, 8), (4, 9), (5, 5), (5, 6), (5, 7), (5, 8), (5, 9), (32, -1), (33, -1), (34, -1), (35, -1), (36, -1), (37, -1), (38, -1), (39, -1)] h h105 := my_fr.tr my_fr.rf (frh105.mo rfl)
              have Ln_h105 : Ln h105 := Ln_ag (my_ag.fr frh105 rfl) n_Ln
              have Sp_h105 : Sp h105 wv := Sp_ag (my_ag.fr frh105 rfl) hwv n_Ln n_Sp
              have St5_h105 : St5 h105 := St5_ag (my_ag.fr frh105 rfl) n_Ln St5_ht104
              show wp l rho (d + 8) 49 91 [(2, 82), (0, 0), (0, 0), (0, 0), (0, 1), (0, 1)] [] h105 Q
              refine w_iload_n gz_49_91 rfl ?_
              refine w_ifeq (t := 102) gz_49_92 rfl (fun u109 => ?_) (fun u109 => by exfalso; omega)
              refine w_iload_n gz_49_102 rfl ?_
              refine w_ifeq (t := 113) gz_49_103 rfl (fun u110 => ?_) (fun u110 => by exfalso; omega)
              refine w_iload_n gz_49_113 rfl ?_
              refine w_ifeq (t := 124) gz_49_114 rfl (fun u111 => ?_) (fun u111 => by exfalso; omega)
              refine w_iload gz_49_124 rfl ?_
              refine w_ifeq (t := 136) gz_49_126 rfl (fun u112 => by exfalso; omega) (fun u112 => ?_)
              refine w_aload_n gz_49_129 rfl ?_
              refine w_inv (k := 3) (as := []) (r := []) (x := 82) (ls0 := [(2, 82), (9, 0), (9, 0), (9, 0)]) gz_49_130 gm_60 rfl is_82 rd_5 rfl rfl rfl rfl rfl (c_Reader_readJoin_f0 (d := d)  (wv := wv) (((my_fr.at frh105 is_82 rfl).trans cf).trans (by omega)) (by first | assumption | omega) (by first | assumption | omega) Ln_h105 Sp_h105 St5_h105 (fun h113 frh113 w114 w115 Ln_h113t116 Sp_h113t117 => ?_) (fun h118 frh118 w119 Ln_h118t120 Sp_h118t121 => ?_))
              ·
                have gh113 : my_fr [(4, 4), (4, 5), (4, 6), (4, 7), (4, 8), (4, 9), (5, 5), (5, 6), (5, 7), (5, 8), (5, 9), (32, -1), (33, -1), (34, -1), (35, -1), (36, -1), (37, -1), (38, -1), (39, -1)] h h113 := my_fr.tr gh105 (frh113.mo rfl)
                show wp l rho (d + 8) 49 133 [(2, 82), (0, 0), (0, 0), (0, 0), (0, 1), (0, 1)] [] h113 Q
                refine w_goto (t := 140) gz_49_133 rfl ?_
                have c122 := (rfl : h113 82 9 = h113 82 9)
                exact w_vret gz_49_140 gm_49 (k0 h113 (gh113) (by omega) (by omega) Ln_h113t116 Sp_h113t117)
              ·
                have gh118 : my_fr [(4, 4), (4, 5), (4, 6), (4, 7), (4, 8), (4, 9), (5, 5), (5, 6), (5, 7), (5, 8), (5, 9), (32, -1), (33, -1), (34, -1), (35, -1), (36, -1), (37, -1), (38, -1), (39, -1)] h h118 := my_fr.tr gh105 (frh118.mo rfl)
                show wp l rho (d + 8) 49 133 [(2, 82), (0, 0), (0, 0), (0, 0), (0, 1), (0, 1)] [] h118 Q
                refine w_goto (t := 140) gz_49_133 rfl ?_
                have c123 := w119
                exact w_vret gz_49_140 gm_49 (k1 h118 (gh118) (by omega) Ln_h118t120 Sp_h118t121)
            ·
              refine w_aload_n gz_49_81 rfl ?_
              refine w_iconst gz_49_82 (by decide) ?_
              refine w_inv (k := 0) (as := [(0, 5)]) (r := []) (x := 82) (ls0 := [(2, 82), (0, 5)]) gz_49_83 gm_42 rfl is_82 rd_5 rfl rfl rfl rfl rfl ?_
              refine w_aload_n gz_42_0 rfl ?_
              refine v_getI (j := 9) gz_42_1 rfl is_82 rd_5 rfl (fun v124 ev124 pv124 qv124 => ?_)
              have zv124 := ev124.trans cf
              refine w_ifne (t := 20) gz_42_4 rfl (fun u125 => by exfalso; omega) (fun u125 => ?_)
              refine w_aload_n gz_42_7 rfl ?_
              refine w_iload_n gz_42_8 rfl ?_
              refine w_bipush gz_42_9 (by decide) ?_
              refine w_aload_n gz_42_11 rfl ?_
              refine v_getI (j := 7) gz_42_12 rfl is_82 rd_5 rfl (fun v126 ev126 pv126 qv126 => ?_)
              refine w_imul gz_42_15 ⟨by omega, by omega⟩ ?_
              refine w_iadd gz_42_16 ⟨by omega, by omega⟩ ?_
              refine v_putI (j := 9) gz_42_17 rfl is_82 rd_5 rfl (by omega) (by omega) rfl (fun h127 fh127 => ?_)
              have gh127 : my_fr [(4, 4), (4, 5), (4, 6), (4, 7), (4, 8), (4, 9), (5, 5), (5, 6), (5, 7), (5, 8), (5, 9), (32, -1), (33, -1), (34, -1), (35, -1), (36, -1), (37, -1), (38, -1), (39, -1)] h h127 := my_fr.up my_fr.rf is_82 fh127 rfl
              have Ln_h127 : Ln h127 := Ln_ag (my_ag.up fh127 is_82 rfl) n_Ln
              have Sp_h127 : Sp h127 wv := Sp_ag (my_ag.up fh127 is_82 rfl) hwv n_Ln n_Sp
              refine w_vret gz_42_20 gm_42 ?_
              show wp l rho (d + 8) 49 86 [(2, 82), (0, 0), (0, 0), (0, 0), (0, 1), (0, 1)] [] h127 Q
              have c128 := (my_up_self fh127)
              exact w_vret gz_49_86 gm_49 (k0 h127 (gh127) (by omega) (by omega) Ln_h127 Sp_h127)
      ·
        show wp l rho (d + 8) 49 20 [(2, 82), (0, 0), (0, 0), (9, 0), (9, 0), (9, 0)] [(0, 1)] h Q
        refine w_istore_n (ls' := [(2, 82), (0, 0), (0, 0), (0, 1), (9, 0), (9, 0)]) gz_49_20 gm_49 rfl rfl rfl ?_
        refine w_aload_n gz_49_21 rfl ?_
        refine w_ldcS gz_49_22 (by decide) ?_
        refine w_inv (k := 1) (as := [(3, ((7 : Nat) : Int))]) (r := []) (x := 82) (ls0 := [(2, 82), (3, ((7 : Nat) : Int)), (9, 0)]) gz_49_24 gm_41 rfl is_82 rd_5 rfl rfl rfl rfl rfl (c_Reader_isWord_f0 (d := (d + 3)) (x1 := ((7 : Nat) : Int)) (by decide) (cf.trans (by omega)) (fun w129 => ?_) (fun w130 w131 => ?_))
        ·
          show wp l rho (d + 8) 49 27 [(2, 82), (0, 0), (0, 0), (0, 1), (9, 0), (9, 0)] [(0, 0)] h Q
          refine w_istore (ls' := [(2, 82), (0, 0), (0, 0), (0, 1), (0, 0), (9, 0)]) gz_49_27 gm_49 rfl rfl rfl ?_
          refine w_aload_n gz_49_29 rfl ?_
          refine w_ldcS gz_49_30 (by decide) ?_
          refine w_inv (k := 1) (as := [(3, ((8 : Nat) : Int))]) (r := []) (x := 82) (ls0 := [(2, 82), (3, ((8 : Nat) : Int)), (9, 0)]) gz_49_32 gm_41 rfl is_82 rd_5 rfl rfl rfl rfl rfl (c_Reader_isWord_f0 (d := (d + 3)) (x1 := ((8 : Nat) : Int)) (by decide) (cf.trans (by omega)) (fun w132 => ?_) (fun w133 w134 => ?_))
          ·
            show wp l rho (d + 8) 49 35 [(2, 82), (0, 0), (0, 0), (0, 1), (0, 0), (9, 0)] [(0, 0)] h Q
            refine w_istore (ls' := [(2, 82), (0, 0), (0, 0), (0, 1), (0, 0), (0, 0)]) gz_49_35 gm_49 rfl rfl rfl ?_
            refine w_iload_n gz_49_37 rfl ?_
            refine w_ifne (t := 65) gz_49_38 rfl (fun u135 => by exfalso; omega) (fun u135 => ?_)
            refine w_iload_n gz_49_41 rfl ?_
            refine w_ifne (t := 65) gz_49_42 rfl (fun u136 => by exfalso; omega) (fun u136 => ?_)
            refine w_iload_n gz_49_45 rfl ?_
            refine w_ifne (t := 65) gz_49_46 rfl (fun u137 => ?_) (fun u137 => by exfalso; omega)
            refine w_iload_n gz_49_65 rfl ?_
            refine w_ifne (t := 87) gz_49_66 rfl (fun u138 => by exfalso; omega) (fun u138 => ?_)
            refine w_aload_n gz_49_69 rfl ?_
            refine v_getR (j := 2) gz_49_70 rfl is_82 rd_5 rfl (fun v139 ev139 tv139 => ?_)
            refine v_getI (j := 9) gz_49_73 rfl tv139 rd_4 rfl (fun v140 ev140 pv140 qv140 => ?_)
            refine w_bipush gz_49_76 (by decide) ?_
            refine w_iclt (t := 87) gz_49_78 rfl (fun u141 => ?_) (fun u141 => ?_)
            ·
              have St5_ht142 : St5 h := ⟨by subst_vars; omega, by subst_vars; omega⟩
              refine w_aload_n gz_49_87 rfl ?_
              refine w_inv (k := 2) (as := []) (r := []) (x := 82) (ls0 := [(2, 82), (9, 0), (9, 0)]) gz_49_88 gm_37 rfl is_82 rd_5 rfl rfl rfl rfl rfl (c_Reader_nextToken_f0 (d := (d + 6))  (cf.trans (by omega)) (fun h143 frh143 w144 w145 w146 => ?_))
              have gh143 : my_fr [(4, 4), (4, 5), (4, 6), (4, 7), (4, 8), (4, 9), (5, 5), (5, 6), (5, 7), (5, 8), (5, 9), (32, -1), (33, -1), (34, -1), (35, -1), (36, -1), (37, -1), (38, -1), (39, -1)] h h143 := my_fr.tr my_fr.rf (frh143.mo rfl)
              have Ln_h143 : Ln h143 := Ln_ag (my_ag.fr frh143 rfl) n_Ln
              have Sp_h143 : Sp h143 wv := Sp_ag (my_ag.fr frh143 rfl) hwv n_Ln n_Sp
              have St5_h143 : St5 h143 := St5_ag (my_ag.fr frh143 rfl) n_Ln St5_ht142
              show wp l rho (d + 8) 49 91 [(2, 82), (0, 0), (0, 0), (0, 1), (0, 0), (0, 0)] [] h143 Q
              refine w_iload_n gz_49_91 rfl ?_
              refine w_ifeq (t := 102) gz_49_92 rfl (fun u147 => ?_) (fun u147 => by exfalso; omega)
              refine w_iload_n gz_49_102 rfl ?_
              refine w_ifeq (t := 113) gz_49_103 rfl (fun u148 => ?_) (fun u148 => by exfalso; omega)
              refine w_iload_n gz_49_113 rfl ?_
              refine w_ifeq (t := 124) gz_49_114 rfl (fun u149 => by exfalso; omega) (fun u149 => ?_)
              refine w_aload_n gz_49_117 rfl ?_
              refine w_inv (k := 2) (as := []) (r := []) (x := 82) (ls0 := [(2, 82), (9, 0), (9, 0)]) gz_49_118 gm_56 rfl is_82 rd_5 rfl rfl rfl rfl rfl (c_Reader_readFew_f0 (d := (d + 5))  (wv := wv) (((my_fr.at frh143 is_82 rfl).trans cf).trans (by omega)) (by first | assumption | omega) (by first | assumption | omega) Ln_h143 Sp_h143 St5_h143 (fun h150 frh150 w151 w152 Ln_h150t153 Sp_h150t154 => ?_) (fun h155 frh155 w156 Ln_h155t157 Sp_h155t158 => ?_))
              ·
                have gh150 : my_fr [(4, 4), (4, 5), (4, 6), (4, 7), (4, 8), (4, 9), (5, 5), (5, 6), (5, 7), (5, 8), (5, 9), (32, -1), (33, -1), (34, -1), (35, -1), (36, -1), (37, -1), (38, -1), (39, -1)] h h150 := my_fr.tr gh143 (frh150.mo rfl)
                show wp l rho (d + 8) 49 121 [(2, 82), (0, 0), (0, 0), (0, 1), (0, 0), (0, 0)] [] h150 Q
                refine w_goto (t := 140) gz_49_121 rfl ?_
                have c159 := (rfl : h150 82 9 = h150 82 9)
                exact w_vret gz_49_140 gm_49 (k0 h150 (gh150) (by omega) (by omega) Ln_h150t153 Sp_h150t154)
              ·
                have gh155 : my_fr [(4, 4), (4, 5), (4, 6), (4, 7), (4, 8), (4, 9), (5, 5), (5, 6), (5, 7), (5, 8), (5, 9), (32, -1), (33, -1), (34, -1), (35, -1), (36, -1), (37, -1), (38, -1), (39, -1)] h h155 := my_fr.tr gh143 (frh155.mo rfl)
                show wp l rho (d + 8) 49 121 [(2, 82), (0, 0), (0, 0), (0, 1), (0, 0), (0, 0)] [] h155 Q
                refine w_goto (t := 140) gz_49_121 rfl ?_
                have c160 := w156
                exact w_vret gz_49_140 gm_49 (k1 h155 (gh155) (by omega) Ln_h155t157 Sp_h155t158)
            ·
              refine w_aload_n gz_49_81 rfl ?_
              refine w_iconst gz_49_82 (by decide) ?_
              refine w_inv (k := 0) (as := [(0, 5)]) (r := []) (x := 82) (ls0 := [(2, 82), (0, 5)]) gz_49_83 gm_42 rfl is_82 rd_5 rfl rfl rfl rfl rfl ?_
              refine w_aload_n gz_42_0 rfl ?_
              refine v_getI (j := 9) gz_42_1 rfl is_82 rd_5 rfl (fun v161 ev161 pv161 qv161 => ?_)
              have zv161 := ev161.trans cf
              refine w_ifne (t := 20) gz_42_4 rfl (fun u162 => by exfalso; omega) (fun u162 => ?_)
              refine w_aload_n gz_42_7 rfl ?_
              refine w_iload_n gz_42_8 rfl ?_
              refine w_bipush gz_42_9 (by decide) ?_
              refine w_aload_n gz_42_11 rfl ?_
              refine v_getI (j := 7) gz_42_12 rfl is_82 rd_5 rfl (fun v163 ev163 pv163 qv163 => ?_)
              refine w_imul gz_42_15 ⟨by omega, by omega⟩ ?_
              refine w_iadd gz_42_16 ⟨by omega, by omega⟩ ?_
              refine v_putI (j := 9) gz_42_17 rfl is_82 rd_5 rfl (by omega) (by omega) rfl (fun h164 fh164 => ?_)
              have gh164 : my_fr [(4, 4), (4, 5), (4, 6), (4, 7), (4, 8), (4, 9), (5, 5), (5, 6), (5, 7), (5, 8), (5, 9), (32, -1), (33, -1), (34, -1), (35, -1), (36, -1), (37, -1), (38, -1), (39, -1)] h h164 := my_fr.up my_fr.rf is_82 fh164 rfl
              have Ln_h164 : Ln h164 := Ln_ag (my_ag.up fh164 is_82 rfl) n_Ln
              have Sp_h164 : Sp h164 wv := Sp_ag (my_ag.up fh164 is_82 rfl) hwv n_Ln n_Sp
              refine w_vret gz_42_20 gm_42 ?_
              show wp l rho (d + 8) 49 86 [(2, 82), (0, 0), (0, 0), (0, 1), (0, 0), (0, 0)] [] h164 Q
              have c165 := (my_up_self fh164)
              exact w_vret gz_49_86 gm_49 (k0 h164 (gh164) (by omega) (by omega) Ln_h164 Sp_h164)
          ·
            show wp l rho (d + 8) 49 35 [(2, 82), (0, 0), (0, 0), (0, 1), (0, 0), (9, 0)] [(0, 1)] h Q
            refine w_istore (ls' := [(2, 82), (0, 0), (0, 0), (0, 1), (0, 0), (0, 1)]) gz_49_35 gm_49 rfl rfl rfl ?_
            refine w_iload_n gz_49_37 rfl ?_
            refine w_ifne (t := 65) gz_49_38 rfl (fun u166 => by exfalso; omega) (fun u166 => ?_)
            refine w_iload_n gz_49_41 rfl ?_
            refine w_ifne (t := 65) gz_49_42 rfl (fun u167 => by exfalso; omega) (fun u167 => ?_)
            refine w_iload_n gz_49_45 rfl ?_
            refine w_ifne (t := 65) gz_49_46 rfl (fun u168 => ?_) (fun u168 => by exfalso; omega)
            refine w_iload_n gz_49_65 rfl ?_
            refine w_ifne (t := 87) gz_49_66 rfl (fun u169 => by exfalso; omega) (fun u169 => ?_)
            refine w_aload_n gz_49_69 rfl ?_
            refine v_getR (j := 2) gz_49_70 rfl is_82 rd_5 rfl (fun v170 ev170 tv170 => ?_)
            refine v_getI (j := 9) gz_49_73 rfl tv170 rd_4 rfl (fun v171 ev171 pv171 qv171 => ?_)
            refine w_bipush gz_49_76 (by decide) ?_
            refine w_iclt (t := 87) gz_49_78 rfl (fun u172 => ?_) (fun u172 => ?_)
            ·
              have St5_ht173 : St5 h := ⟨by subst_vars; omega, by subst_vars; omega⟩
              refine w_aload_n gz_49_87 rfl ?_
              refine w_inv (k := 2) (as := []) (r := []) (x := 82) (ls0 := [(2, 82), (9, 0), (9, 0)]) gz_49_88 gm_37 rfl is_82 rd_5 rfl rfl rfl rfl rfl (c_Reader_nextToken_f0 (d := (d + 6))  (cf.trans (by omega)) (fun h174 frh174 w175 w176 w177 => ?_))
              have gh174 : my_fr [(4, 4), (4, 5), (4, 6), (4, 7), (4, 8), (4, 9), (5, 5), (5, 6), (5, 7), (5, 8), (5, 9), (32, -1), (33, -1), (34, -1), (35, -1), (36, -1), (37, -1), (38, -1), (39, -1)] h h174 := my_fr.tr my_fr.rf (frh174.mo rfl)
              have Ln_h174 : Ln h174 := Ln_ag (my_ag.fr frh174 rfl) n_Ln
              have Sp_h174 : Sp h174 wv := Sp_ag (my_ag.fr frh174 rfl) hwv n_Ln n_Sp
              have St5_h174 : St5 h174 := St5_ag (my_ag.fr frh174 rfl) n_Ln St5_ht173
              show wp l rho (d + 8) 49 91 [(2, 82), (0, 0), (0, 0), (0, 1), (0, 0), (0, 1)] [] h174 Q
              refine w_iload_n gz_49_91 rfl ?_
              refine w_ifeq (t := 102) gz_49_92 rfl (fun u178 => ?_) (fun u178 => by exfalso; omega)
              refine w_iload_n gz_49_102 rfl ?_
              refine w_ifeq (t := 113) gz_49_103 rfl (fun u179 => ?_) (fun u179 => by exfalso; omega)
              refine w_iload_n gz_49_113 rfl ?_
              refine w_ifeq (t := 124) gz_49_114 rfl (fun u180 => by exfalso; omega) (fun u180 => ?_)
              refine w_aload_n gz_49_117 rfl ?_
              refine w_inv (k := 2) (as := []) (r := []) (x := 82) (ls0 := [(2, 82), (9, 0), (9, 0)]) gz_49_118 gm_56 rfl is_82 rd_5 rfl rfl rfl rfl rfl (c_Reader_readFew_f0 (d := (d + 5))  (wv := wv) (((my_fr.at frh174 is_82 rfl).trans cf).trans (by omega)) (by first | assumption | omega) (by first | assumption | omega) Ln_h174 Sp_h174 St5_h174 (fun h181 frh181 w182 w183 Ln_h181t184 Sp_h181t185 => ?_) (fun h186 frh186 w187 Ln_h186t188 Sp_h186t189 => ?_))
              ·
                have gh181 : my_fr [(4, 4), (4, 5), (4, 6), (4, 7), (4, 8), (4, 9), (5, 5), (5, 6), (5, 7), (5, 8), (5, 9), (32, -1), (33, -1), (34, -1), (35, -1), (36, -1), (37, -1), (38, -1), (39, -1)] h h181 := my_fr.tr gh174 (frh181.mo rfl)
                show wp l rho (d + 8) 49 121 [(2, 82), (0, 0), (0, 0), (0, 1), (0, 0), (0, 1)] [] h181 Q
                refine w_goto (t := 140) gz_49_121 rfl ?_
                have c190 := (rfl : h181 82 9 = h181 82 9)
                exact w_vret gz_49_140 gm_49 (k0 h181 (gh181) (by omega) (by omega) Ln_h181t184 Sp_h181t185)
              ·
                have gh186 : my_fr [(4, 4), (4, 5), (4, 6), (4, 7), (4, 8), (4, 9), (5, 5), (5, 6), (5, 7), (5, 8), (5, 9), (32, -1), (33, -1), (34, -1), (35, -1), (36, -1), (37, -1), (38, -1), (39, -1)] h h186 := my_fr.tr gh174 (frh186.mo rfl)
                show wp l rho (d + 8) 49 121 [(2, 82), (0, 0), (0, 0), (0, 1), (0, 0), (0, 1)] [] h186 Q
                refine w_goto (t := 140) gz_49_121 rfl ?_
                have c191 := w187
                exact w_vret gz_49_140 gm_49 (k1 h186 (gh186) (by omega) Ln_h186t188 Sp_h186t189)
            ·
              refine w_aload_n gz_49_81 rfl ?_
              refine w_iconst gz_49_82 (by decide) ?_
              refine w_inv (k := 0) (as := [(0, 5)]) (r := []) (x := 82) (ls0 := [(2, 82), (0, 5)]) gz_49_83 gm_42 rfl is_82 rd_5 rfl rfl rfl rfl rfl ?_
              refine w_aload_n gz_42_0 rfl ?_
              refine v_getI (j := 9) gz_42_1 rfl is_82 rd_5 rfl (fun v192 ev192 pv192 qv192 => ?_)
              have zv192 := ev192.trans cf
              refine w_ifne (t := 20) gz_42_4 rfl (fun u193 => by exfalso; omega) (fun u193 => ?_)
              refine w_aload_n gz_42_7 rfl ?_
              refine w_iload_n gz_42_8 rfl ?_
              refine w_bipush gz_42_9 (by decide) ?_
              refine w_aload_n gz_42_11 rfl ?_
              refine v_getI (j := 7) gz_42_12 rfl is_82 rd_5 rfl (fun v194 ev194 pv194 qv194 => ?_)
              refine w_imul gz_42_15 ⟨by omega, by omega⟩ ?_
              refine w_iadd gz_42_16 ⟨by omega, by omega⟩ ?_
              refine v_putI (j := 9) gz_42_17 rfl is_82 rd_5 rfl (by omega) (by omega) rfl (fun h195 fh195 => ?_)
              have gh195 : my_fr [(4, 4), (4, 5), (4, 6), (4, 7), (4, 8), (4, 9), (5, 5), (5, 6), (5, 7), (5, 8), (5, 9), (32, -1), (33, -1), (34, -1), (35, -1), (36, -1), (37, -1), (38, -1), (39, -1)] h h195 := my_fr.up my_fr.rf is_82 fh195 rfl
              have Ln_h195 : Ln h195 := Ln_ag (my_ag.up fh195 is_82 rfl) n_Ln
              have Sp_h195 : Sp h195 wv := Sp_ag (my_ag.up fh195 is_82 rfl) hwv n_Ln n_Sp
              refine w_vret gz_42_20 gm_42 ?_
              show wp l rho (d + 8) 49 86 [(2, 82), (0, 0), (0, 0), (0, 1), (0, 0), (0, 1)] [] h195 Q
              have c196 := (my_up_self fh195)
              exact w_vret gz_49_86 gm_49 (k0 h195 (gh195) (by omega) (by omega) Ln_h195 Sp_h195)
        ·
          show wp l rho (d + 8) 49 27 [(2, 82), (0, 0), (0, 0), (0, 1), (9, 0), (9, 0)] [(0, 1)] h Q
          refine w_istore (ls' := [(2, 82), (0, 0), (0, 0), (0, 1), (0, 1), (9, 0)]) gz_49_27 gm_49 rfl rfl rfl ?_
          refine w_aload_n gz_49_29 rfl ?_
          refine w_ldcS gz_49_30 (by decide) ?_
          refine w_inv (k := 1) (as := [(3, ((8 : Nat) : Int))]) (r := []) (x := 82) (ls0 := [(2, 82), (3, ((8 : Nat) : Int)), (9, 0)]) gz_49_32 gm_41 rfl is_82 rd_5 rfl rfl rfl rfl rfl (c_Reader_isWord_f0 (d := (d + 3)) (x1 := ((8 : Nat) : Int)) (by decide) (cf.trans (by omega)) (fun w197 => ?_) (fun w198 w199 => ?_))
          ·
            show wp l rho (d + 8) 49 35 [(2, 82), (0, 0), (0, 0), (0, 1), (0, 1), (9, 0)] [(0, 0)] h Q
            refine w_istore (ls' := [(2, 82), (0, 0), (0, 0), (0, 1), (0, 1), (0, 0)]) gz_49_35 gm_49 rfl rfl rfl ?_
            refine w_iload_n gz_49_37 rfl ?_
            refine w_ifne (t := 65) gz_49_38 rfl (fun u200 => by exfalso; omega) (fun u200 => ?_)
            refine w_iload_n gz_49_41 rfl ?_
            refine w_ifne (t := 65) gz_49_42 rfl (fun u201 => by exfalso; omega) (fun u201 => ?_)
            refine w_iload_n gz_49_45 rfl ?_
            refine w_ifne (t := 65) gz_49_46 rfl (fun u202 => ?_) (fun u202 => by exfalso; omega)
            refine w_iload_n gz_49_65 rfl ?_
            refine w_ifne (t := 87) gz_49_66 rfl (fun u203 => by exfalso; omega) (fun u203 => ?_)
            refine w_aload_n gz_49_69 rfl ?_
            refine v_getR (j := 2) gz_49_70 rfl is_82 rd_5 rfl (fun v204 ev204 tv204 => ?_)
            refine v_getI (j := 9) gz_49_73 rfl tv204 rd_4 rfl (fun v205 ev205 pv205 qv205 => ?_)
            refine w_bipush gz_49_76 (by decide) ?_
            refine w_iclt (t := 87) gz_49_78 rfl (fun u206 => ?_) (fun u206 => ?_)
            ·
              have St5_ht207 : St5 h := ⟨by subst_vars; omega, by subst_vars; omega⟩
              refine w_aload_n gz_49_87 rfl ?_
              refine w_inv (k := 2) (as := []) (r := []) (x := 82) (ls0 := [(2, 82), (9, 0), (9, 0)]) gz_49_88 gm_37 rfl is_82 rd_5 rfl rfl rfl rfl rfl (c_Reader_nextToken_f0 (d := (d + 6))  (cf.trans (by omega)) (fun h208 frh208 w209 w210 w211 => ?_))
              have gh208 : my_fr [(4, 4), (4, 5), (4, 6), (4, 7), (4, 8), (4, 9), (5, 5), (5, 6), (5, 7), (5, 8), (5, 9), (32, -1), (33, -1), (34, -1), (35, -1), (36, -1), (37, -1), (38, -1), (39, -1)] h h208 := my_fr.tr my_fr.rf (frh208.mo rfl)
              have Ln_h208 : Ln h208 := Ln_ag (my_ag.fr frh208 rfl) n_Ln
              have Sp_h208 : Sp h208 wv := Sp_ag (my_ag.fr frh208 rfl) hwv n_Ln n_Sp
              have St5_h208 : St5 h208 := St5_ag (my_ag.fr frh208 rfl) n_Ln St5_ht207
              show wp l rho (d + 8) 49 91 [(2, 82), (0, 0), (0, 0), (0, 1), (0, 1), (0, 0)] [] h208 Q
              refine w_iload_n gz_49_91 rfl ?_
              refine w_ifeq (t := 102) gz_49_92 rfl (fun u212 => ?_) (fun u212 => by exfalso; omega)
              refine w_iload_n gz_49_102 rfl ?_
              refine w_ifeq (t := 113) gz_49_103 rfl (fun u213 => ?_) (fun u213 => by exfalso; omega)
              refine w_iload_n gz_49_113 rfl ?_
              refine w_ifeq (t := 124) gz_49_114 rfl (fun u214 => by exfalso; omega) (fun u214 => ?_)
              refine w_aload_n gz_49_117 rfl ?_
              refine w_inv (k := 2) (as := []) (r := []) (x := 82) (ls0 := [(2, 82), (9, 0), (9, 0)]) gz_49_118 gm_56 rfl is_82 rd_5 rfl rfl rfl rfl rfl (c_Reader_readFew_f0 (d := (d + 5))  (wv := wv) (((my_fr.at frh208 is_82 rfl).trans cf).trans (by omega)) (by first | assumption | omega) (by first | assumption | omega) Ln_h208 Sp_h208 St5_h208 (fun h215 frh215 w216 w217 Ln_h215t218 Sp_h215t219 => ?_) (fun h220 frh220 w221 Ln_h220t222 Sp_h220t223 => ?_))
              ·
                have gh215 : my_fr [(4, 4), (4, 5), (4, 6), (4, 7), (4, 8), (4, 9), (5, 5), (5, 6), (5, 7), (5, 8), (5, 9), (32, -1), (33, -1), (34, -1), (35, -1), (36, -1), (37, -1), (38, -1), (39, -1)] h h215 := my_fr.tr gh208 (frh215.mo rfl)
                show wp l rho (d + 8) 49 121 [(2, 82), (0, 0), (0, 0), (0, 1), (0, 1), (0, 0)] [] h215 Q
                refine w_goto (t := 140) gz_49_121 rfl ?_
                have c224 := (rfl : h215 82 9 = h215 82 9)
                exact w_vret gz_49_140 gm_49 (k0 h215 (gh215) (by omega) (by omega) Ln_h215t218 Sp_h215t219)
              ·
                have gh220 : my_fr [(4, 4), (4, 5), (4, 6), (4, 7), (4, 8), (4, 9), (5, 5), (5, 6), (5, 7), (5, 8), (5, 9), (32, -1), (33, -1), (34, -1), (35, -1), (36, -1), (37, -1), (38, -1), (39, -1)] h h220 := my_fr.tr gh208 (frh220.mo rfl)
                show wp l rho (d + 8) 49 121 [(2, 82), (0, 0), (0, 0), (0, 1), (0, 1), (0, 0)] [] h220 Q
                refine w_goto (t := 140) gz_49_121 rfl ?_
                have c225 := w221
                exact w_vret gz_49_140 gm_49 (k1 h220 (gh220) (by omega) Ln_h220t222 Sp_h220t223)
            ·
              refine w_aload_n gz_49_81 rfl ?_
              refine w_iconst gz_49_82 (by decide) ?_
              refine w_inv (k := 0) (as := [(0, 5)]) (r := []) (x := 82) (ls0 := [(2, 82), (0, 5)]) gz_49_83 gm_42 rfl is_82 rd_5 rfl rfl rfl rfl rfl ?_
              refine w_aload_n gz_42_0 rfl ?_
              refine v_getI (j := 9) gz_42_1 rfl is_82 rd_5 rfl (fun v226 ev226 pv226 qv226 => ?_)
              have zv226 := ev226.trans cf
              refine w_ifne (t := 20) gz_42_4 rfl (fun u227 => by exfalso; omega) (fun u227 => ?_)
              refine w_aload_n gz_42_7 rfl ?_
              refine w_iload_n gz_42_8 rfl ?_
              refine w_bipush gz_42_9 (by decide) ?_
              refine w_aload_n gz_42_11 rfl ?_
              refine v_getI (j := 7) gz_42_12 rfl is_82 rd_5 rfl (fun v228 ev228 pv228 qv228 => ?_)
              refine w_imul gz_42_15 ⟨by omega, by omega⟩ ?_
              refine w_iadd gz_42_16 ⟨by omega, by omega⟩ ?_
              refine v_putI (j := 9) gz_42_17 rfl is_82 rd_5 rfl (by omega) (by omega) rfl (fun h229 fh229 => ?_)
              have gh229 : my_fr [(4, 4), (4, 5), (4, 6), (4, 7), (4, 8), (4, 9), (5, 5), (5, 6), (5, 7), (5, 8), (5, 9), (32, -1), (33, -1), (34, -1), (35, -1), (36, -1), (37, -1), (38, -1), (39, -1)] h h229 := my_fr.up my_fr.rf is_82 fh229 rfl
              have Ln_h229 : Ln h229 := Ln_ag (my_ag.up fh229 is_82 rfl) n_Ln
              have Sp_h229 : Sp h229 wv := Sp_ag (my_ag.up fh229 is_82 rfl) hwv n_Ln n_Sp
              refine w_vret gz_42_20 gm_42 ?_
              show wp l rho (d + 8) 49 86 [(2, 82), (0, 0), (0, 0), (0, 1), (0, 1), (0, 0)] [] h229 Q
              have c230 := (my_up_self fh229)
              exact w_vret gz_49_86 gm_49 (k0 h229 (gh229) (by omega) (by omega) Ln_h229 Sp_h229)
          ·
            show wp l rho (d + 8) 49 35 [(2, 82), (0, 0), (0, 0), (0, 1), (0, 1), (9, 0)] [(0, 1)] h Q
            refine w_istore (ls' := [(2, 82), (0, 0), (0, 0), (0, 1), (0, 1), (0, 1)]) gz_49_35 gm_49 rfl rfl rfl ?_
            refine w_iload_n gz_49_37 rfl ?_
            refine w_ifne (t := 65) gz_49_38 rfl (fun u231 => by exfalso; omega) (fun u231 => ?_)
            refine w_iload_n gz_49_41 rfl ?_
            refine w_ifne (t := 65) gz_49_42 rfl (fun u232 => by exfalso; omega) (fun u232 => ?_)
            refine w_iload_n gz_49_45 rfl ?_
            refine w_ifne (t := 65) gz_49_46 rfl (fun u233 => ?_) (fun u233 => by exfalso; omega)
            refine w_iload_n gz_49_65 rfl ?_
            refine w_ifne (t := 87) gz_49_66 rfl (fun u234 => by exfalso; omega) (fun u234 => ?_)
            refine w_aload_n gz_49_69 rfl ?_
            refine v_getR (j := 2) gz_49_70 rfl is_82 rd_5 rfl (fun v235 ev235 tv235 => ?_)
            refine v_getI (j := 9) gz_49_73 rfl tv235 rd_4 rfl (fun v236 ev236 pv236 qv236 => ?_)
            refine w_bipush gz_49_76 (by decide) ?_
            refine w_iclt (t := 87) gz_49_78 rfl (fun u237 => ?_) (fun u237 => ?_)
            ·
              have St5_ht238 : St5 h := ⟨by subst_vars; omega, by subst_vars; omega⟩
              refine w_aload_n gz_49_87 rfl ?_
              refine w_inv (k := 2) (as := []) (r := []) (x := 82) (ls0 := [(2, 82), (9, 0), (9, 0)]) gz_49_88 gm_37 rfl is_82 rd_5 rfl rfl rfl rfl rfl (c_Reader_nextToken_f0 (d := (d + 6))  (cf.trans (by omega)) (fun h239 frh239 w240 w241 w242 => ?_))
              have gh239 : my_fr [(4, 4), (4, 5), (4, 6), (4, 7), (4, 8), (4, 9), (5, 5), (5, 6), (5, 7), (5, 8), (5, 9), (32, -1), (33, -1), (34, -1), (35, -1), (36, -1), (37, -1), (38, -1), (39, -1)] h h239 := my_fr.tr my_fr.rf (frh239.mo rfl)
              have Ln_h239 : Ln h239 := Ln_ag (my_ag.fr frh239 rfl) n_Ln
              have Sp_h239 : Sp h239 wv := Sp_ag (my_ag.fr frh239 rfl) hwv n_Ln n_Sp
              have St5_h239 : St5 h239 := St5_ag (my_ag.fr frh239 rfl) n_Ln St5_ht238
              show wp l rho (d + 8) 49 91 [(2, 82), (0, 0), (0, 0), (0, 1), (0, 1), (0, 1)] [] h239 Q
              refine w_iload_n gz_49_91 rfl ?_
              refine w_ifeq (t := 102) gz_49_92 rfl (fun u243 => ?_) (fun u243 => by exfalso; omega)
              refine w_iload_n gz_49_102 rfl ?_
              refine w_ifeq (t := 113) gz_49_103 rfl (fun u244 => ?_) (fun u244 => by exfalso; omega)
              refine w_iload_n gz_49_113 rfl ?_
              refine w_ifeq (t := 124) gz_49_114 rfl (fun u245 => by exfalso; omega) (fun u245 => ?_)
              refine w_aload_n gz_49_117 rfl ?_
              refine w_inv (k := 2) (as := []) (r := []) (x := 82) (ls0 := [(2, 82), (9, 0), (9, 0)]) gz_49_118 gm_56 rfl is_82 rd_5 rfl rfl rfl rfl rfl (c_Reader_readFew_f0 (d := (d + 5))  (wv := wv) (((my_fr.at frh239 is_82 rfl).trans cf).trans (by omega)) (by first | assumption | omega) (by first | assumption | omega) Ln_h239 Sp_h239 St5_h239 (fun h246 frh246 w247 w248 Ln_h246t249 Sp_h246t250 => ?_) (fun h251 frh251 w252 Ln_h251t253 Sp_h251t254 => ?_))
              ·
                have gh246 : my_fr [(4, 4), (4, 5), (4, 6), (4, 7), (4, 8), (4, 9), (5, 5), (5, 6), (5, 7), (5, 8), (5, 9), (32, -1), (33, -1), (34, -1), (35, -1), (36, -1), (37, -1), (38, -1), (39, -1)] h h246 := my_fr.tr gh239 (frh246.mo rfl)
                show wp l rho (d + 8) 49 121 [(2, 82), (0, 0), (0, 0), (0, 1), (0, 1), (0, 1)] [] h246 Q
                refine w_goto (t := 140) gz_49_121 rfl ?_
                have c255 := (rfl : h246 82 9 = h246 82 9)
                exact w_vret gz_49_140 gm_49 (k0 h246 (gh246) (by omega) (by omega) Ln_h246t249 Sp_h246t250)
              ·
                have gh251 : my_fr [(4, 4), (4, 5), (4, 6), (4, 7), (4, 8), (4, 9), (5, 5), (5, 6), (5, 7), (5, 8), (5, 9), (32, -1), (33, -1), (34, -1), (35, -1), (36, -1), (37, -1), (38, -1), (39, -1)] h h251 := my_fr.tr gh239 (frh251.mo rfl)
                show wp l rho (d + 8) 49 121 [(2, 82), (0, 0), (0, 0), (0, 1), (0, 1), (0, 1)] [] h251 Q
                refine w_goto (t := 140) gz_49_121 rfl ?_
                have c256 := w252
                exact w_vret gz_49_140 gm_49 (k1 h251 (gh251) (by omega) Ln_h251t253 Sp_h251t254)
            ·
              refine w_aload_n gz_49_81 rfl ?_
              refine w_iconst gz_49_82 (by decide) ?_
              refine w_inv (k := 0) (as := [(0, 5)]) (r := []) (x := 82) (ls0 := [(2, 82), (0, 5)]) gz_49_83 gm_42 rfl is_82 rd_5 rfl rfl rfl rfl rfl ?_
              refine w_aload_n gz_42_0 rfl ?_
              refine v_getI (j := 9) gz_42_1 rfl is_82 rd_5 rfl (fun v257 ev257 pv257 qv257 => ?_)
              have zv257 := ev257.trans cf
              refine w_ifne (t := 20) gz_42_4 rfl (fun u258 => by exfalso; omega) (fun u258 => ?_)
              refine w_aload_n gz_42_7 rfl ?_
              refine w_iload_n gz_42_8 rfl ?_
              refine w_bipush gz_42_9 (by decide) ?_
              refine w_aload_n gz_42_11 rfl ?_
              refine v_getI (j := 7) gz_42_12 rfl is_82 rd_5 rfl (fun v259 ev259 pv259 qv259 => ?_)
              refine w_imul gz_42_15 ⟨by omega, by omega⟩ ?_
              refine w_iadd gz_42_16 ⟨by omega, by omega⟩ ?_
              refine v_putI (j := 9) gz_42_17 rfl is_82 rd_5 rfl (by omega) (by omega) rfl (fun h260 fh260 => ?_)
              have gh260 : my_fr [(4, 4), (4, 5), (4, 6), (4, 7), (4, 8), (4, 9), (5, 5), (5, 6), (5, 7), (5, 8), (5, 9), (32, -1), (33, -1), (34, -1), (35, -1), (36, -1), (37, -1), (38, -1), (39, -1)] h h260 := my_fr.up my_fr.rf is_82 fh260 rfl
              have Ln_h260 : Ln h260 := Ln_ag (my_ag.up fh260 is_82 rfl) n_Ln
              have Sp_h260 : Sp h260 wv := Sp_ag (my_ag.up fh260 is_82 rfl) hwv n_Ln n_Sp
              refine w_vret gz_42_20 gm_42 ?_
              show wp l rho (d + 8) 49 86 [(2, 82), (0, 0), (0, 0), (0, 1), (0, 1), (0, 1)] [] h260 Q
              have c261 := (my_up_self fh260)
              exact w_vret gz_49_86 gm_49 (k0 h260 (gh260) (by omega) (by omega) Ln_h260 Sp_h260)
    ·
      show wp l rho (d + 8) 49 13 [(2, 82), (0, 0), (9, 0), (9, 0), (9, 0), (9, 0)] [(0, 1)] h Q
      refine w_istore_n (ls' := [(2, 82), (0, 0), (0, 1), (9, 0), (9, 0), (9, 0)]) gz_49_13 gm_49 rfl rfl rfl ?_
      refine w_aload_n gz_49_14 rfl ?_
      refine w_ldcS gz_49_15 (by decide) ?_
      refine w_inv (k := 1) (as := [(3, ((6 : Nat) : Int))]) (r := []) (x := 82) (ls0 := [(2, 82), (3, ((6 : Nat) : Int)), (9, 0)]) gz_49_17 gm_41 rfl is_82 rd_5 rfl rfl rfl rfl rfl (c_Reader_isWord_f0 (d := (d + 3)) (x1 := ((6 : Nat) : Int)) (by decide) (cf.trans (by omega)) (fun w262 => ?_) (fun w263 w264 => ?_))
      ·
        show wp l rho (d + 8) 49 20 [(2, 82), (0, 0), (0, 1), (9, 0), (9, 0), (9, 0)] [(0, 0)] h Q
        refine w_istore_n (ls' := [(2, 82), (0, 0), (0, 1), (0, 0), (9, 0), (9, 0)]) gz_49_20 gm_49 rfl rfl rfl ?_
        refine w_aload_n gz_49_21 rfl ?_
        refine w_ldcS gz_49_22 (by decide) ?_
        refine w_inv (k := 1) (as := [(3, ((7 : Nat) : Int))]) (r := []) (x := 82) (ls0 := [(2, 82), (3, ((7 : Nat) : Int)), (9, 0)]) gz_49_24 gm_41 rfl is_82 rd_5 rfl rfl rfl rfl rfl (c_Reader_isWord_f0 (d := (d + 3)) (x1 := ((7 : Nat) : Int)) (by decide) (cf.trans (by omega)) (fun w265 => ?_) (fun w266 w267 => ?_))
        ·
          show wp l rho (d + 8) 49 27 [(2, 82), (0, 0), (0, 1), (0, 0), (9, 0), (9, 0)] [(0, 0)] h Q
          refine w_istore (ls' := [(2, 82), (0, 0), (0, 1), (0, 0), (0, 0), (9, 0)]) gz_49_27 gm_49 rfl rfl rfl ?_
          refine w_aload_n gz_49_29 rfl ?_
          refine w_ldcS gz_49_30 (by decide) ?_
          refine w_inv (k := 1) (as := [(3, ((8 : Nat) : Int))]) (r := []) (x := 82) (ls0 := [(2, 82), (3, ((8 : Nat) : Int)), (9, 0)]) gz_49_32 gm_41 rfl is_82 rd_5 rfl rfl rfl rfl rfl (c_Reader_isWord_f0 (d := (d + 3)) (x1 := ((8 : Nat) : Int)) (by decide) (cf.trans (by omega)) (fun w268 => ?_) (fun w269 w270 => ?_))
          ·
            show wp l rho (d + 8) 49 35 [(2, 82), (0, 0), (0, 1), (0, 0), (0, 0), (9, 0)] [(0, 0)] h Q
            refine w_istore (ls' := [(2, 82), (0, 0), (0, 1), (0, 0), (0, 0), (0, 0)]) gz_49_35 gm_49 rfl rfl rfl ?_
            refine w_iload_n gz_49_37 rfl ?_
            refine w_ifne (t := 65) gz_49_38 rfl (fun u271 => by exfalso; omega) (fun u271 => ?_)
            refine w_iload_n gz_49_41 rfl ?_
            refine w_ifne (t := 65) gz_49_42 rfl (fun u272 => ?_) (fun u272 => by exfalso; omega)
            refine w_iload_n gz_49_65 rfl ?_
            refine w_ifne (t := 87) gz_49_66 rfl (fun u273 => by exfalso; omega) (fun u273 => ?_)
            refine w_aload_n gz_49_69 rfl ?_
            refine v_getR (j := 2) gz_49_70 rfl is_82 rd_5 rfl (fun v274 ev274 tv274 => ?_)
            refine v_getI (j := 9) gz_49_73 rfl tv274 rd_4 rfl (fun v275 ev275 pv275 qv275 => ?_)
            refine w_bipush gz_49_76 (by decide) ?_
            refine w_iclt (t := 87) gz_49_78 rfl (fun u276 => ?_) (fun u276 => ?_)
            ·
              have St5_ht277 : St5 h := ⟨by subst_vars; omega, by subst_vars; omega⟩
              refine w_aload_n gz_49_87 rfl ?_
              refine w_inv (k := 2) (as := []) (r := []) (x := 82) (ls0 := [(2, 82), (9, 0), (9, 0)]) gz_49_88 gm_37 rfl is_82 rd_5 rfl rfl rfl rfl rfl (c_Reader_nextToken_f0 (d := (d + 6))  (cf.trans (by omega)) (fun h278 frh278 w279 w280 w281 => ?_))
              have gh278 : my_fr [(4, 4), (4, 5), (4, 6), (4, 7), (4, 8), (4, 9), (5, 5), (5, 6), (5, 7), (5, 8), (5, 9), (32, -1), (33, -1), (34, -1), (35, -1), (36, -1), (37, -1), (38, -1), (39, -1)] h h278 := my_fr.tr my_fr.rf (frh278.mo rfl)
              have Ln_h278 : Ln h278 := Ln_ag (my_ag.fr frh278 rfl) n_Ln
              have Sp_h278 : Sp h278 wv := Sp_ag (my_ag.fr frh278 rfl) hwv n_Ln n_Sp
              have St5_h278 : St5 h278 := St5_ag (my_ag.fr frh278 rfl) n_Ln St5_ht277
              show wp l rho (d + 8) 49 91 [(2, 82), (0, 0), (0, 1), (0, 0), (0, 0), (0, 0)] [] h278 Q
              refine w_iload_n gz_49_91 rfl ?_
              refine w_ifeq (t := 102) gz_49_92 rfl (fun u282 => ?_) (fun u282 => by exfalso; omega)
              refine w_iload_n gz_49_102 rfl ?_
              refine w_ifeq (t := 113) gz_49_103 rfl (fun u283 => by exfalso; omega) (fun u283 => ?_)
              refine w_aload_n gz_49_106 rfl ?_
              refine w_inv (k := 3) (as := []) (r := []) (x := 82) (ls0 := [(2, 82), (9, 0), (9, 0), (9, 0)]) gz_49_107 gm_52 rfl is_82 rd_5 rfl rfl rfl rfl rfl (c_Reader_readCut_f0 (d := d)  (wv := wv) (((my_fr.at frh278 is_82 rfl).trans cf).trans (by omega)) (by first | assumption | omega) (by first | assumption | omega) Ln_h278 Sp_h278 St5_h278 (fun h284 frh284 w285 w286 Ln_h284t287 Sp_h284t288 => ?_) (fun h289 frh289 w290 Ln_h289t291 Sp_h289t292 => ?_))
              ·
                have gh284 : my_fr [(4, 4), (4, 5), (4, 6), (4, 7), (4, 8), (4, 9), (5, 5), (5, 6), (5, 7), (5, 8), (5, 9), (32, -1), (33, -1), (34, -1), (35, -1), (36, -1), (37, -1), (38, -1), (39, -1)] h h284 := my_fr.tr gh278 (frh284.mo rfl)
                show wp l rho (d + 8) 49 110 [(2, 82), (0, 0), (0, 1), (0, 0), (0, 0), (0, 0)] [] h284 Q
                refine w_goto (t := 140) gz_49_110 rfl ?_
                have c293 := (rfl : h284 82 9 = h284 82 9)
                exact w_vret gz_49_140 gm_49 (k0 h284 (gh284) (by omega) (by omega) Ln_h284t287 Sp_h284t288)
              ·
                have gh289 : my_fr [(4, 4), (4, 5), (4, 6), (4, 7), (4, 8), (4, 9), (5, 5), (5, 6), (5, 7), (5, 8), (5, 9), (32, -1), (33, -1), (34, -1), (35, -1), (36, -1), (37, -1), (38, -1), (39, -1)] h h289 := my_fr.tr gh278 (frh289.mo rfl)
                show wp l rho (d + 8) 49 110 [(2, 82), (0, 0), (0, 1), (0, 0), (0, 0), (0, 0)] [] h289 Q
                refine w_goto (t := 140) gz_49_110 rfl ?_
                have c294 := w290
                exact w_vret gz_49_140 gm_49 (k1 h289 (gh289) (by omega) Ln_h289t291 Sp_h289t292)
            ·
              refine w_aload_n gz_49_81 rfl ?_
              refine w_iconst gz_49_82 (by decide) ?_
              refine w_inv (k := 0) (as := [(0, 5)]) (r := []) (x := 82) (ls0 := [(2, 82), (0, 5)]) gz_49_83 gm_42 rfl is_82 rd_5 rfl rfl rfl rfl rfl ?_
              refine w_aload_n gz_42_0 rfl ?_
              refine v_getI (j := 9) gz_42_1 rfl is_82 rd_5 rfl (fun v295 ev295 pv295 qv295 => ?_)
              have zv295 := ev295.trans cf
              refine w_ifne (t := 20) gz_42_4 rfl (fun u296 => by exfalso; omega) (fun u296 => ?_)
              refine w_aload_n gz_42_7 rfl ?_
              refine w_iload_n gz_42_8 rfl ?_
              refine w_bipush gz_42_9 (by decide) ?_
              refine w_aload_n gz_42_11 rfl ?_
              refine v_getI (j := 7) gz_42_12 rfl is_82 rd_5 rfl (fun v297 ev297 pv297 qv297 => ?_)
              refine w_imul gz_42_15 ⟨by omega, by omega⟩ ?_
              refine w_iadd gz_42_16 ⟨by omega, by omega⟩ ?_
              refine v_putI (j := 9) gz_42_17 rfl is_82 rd_5 rfl (by omega) (by omega) rfl (fun h298 fh298 => ?_)
              have gh298 : my_fr [(4, 4), (4, 5), (4, 6), (4, 7), (4, 8), (4, 9), (5, 5), (5, 6), (5, 7), (5, 8), (5, 9), (32, -1), (33, -1), (34, -1), (35, -1), (36, -1), (37, -1), (38, -1), (39, -1)] h h298 := my_fr.up my_fr.rf is_82 fh298 rfl
              have Ln_h298 : Ln h298 := Ln_ag (my_ag.up fh298 is_82 rfl) n_Ln
              have Sp_h298 : Sp h298 wv := Sp_ag (my_ag.up fh298 is_82 rfl) hwv n_Ln n_Sp
              refine w_vret gz_42_20 gm_42 ?_
              show wp l rho (d + 8) 49 86 [(2, 82), (0, 0), (0, 1), (0, 0), (0, 0), (0, 0)] [] h298 Q
              have c299 := (my_up_self fh298)
              exact w_vret gz_49_86 gm_49 (k0 h298 (gh298) (by omega) (by omega) Ln_h298 Sp_h298)
          ·
            show wp l rho (d + 8) 49 35 [(2, 82), (0, 0), (0, 1), (0, 0), (0, 0), (9, 0)] [(0, 1)] h Q
            refine w_istore (ls' := [(2, 82), (0, 0), (0, 1), (0, 0), (0, 0), (0, 1)]) gz_49_35 gm_49 rfl rfl rfl ?_
            refine w_iload_n gz_49_37 rfl ?_
            refine w_ifne (t := 65) gz_49_38 rfl (fun u300 => by exfalso; omega) (fun u300 => ?_)
            refine w_iload_n gz_49_41 rfl ?_
            refine w_ifne (t := 65) gz_49_42 rfl (fun u301 => ?_) (fun u301 => by exfalso; omega)
            refine w_iload_n gz_49_65 rfl ?_
            refine w_ifne (t := 87) gz_49_66 rfl (fun u302 => by exfalso; omega) (fun u302 => ?_)
            refine w_aload_n gz_49_69 rfl ?_
            refine v_getR (j := 2) gz_49_70 rfl is_82 rd_5 rfl (fun v303 ev303 tv303 => ?_)
            refine v_getI (j := 9) gz_49_73 rfl tv303 rd_4 rfl (fun v304 ev304 pv304 qv304 => ?_)
            refine w_bipush gz_49_76 (by decide) ?_
            refine w_iclt (t := 87) gz_49_78 rfl (fun u305 => ?_) (fun u305 => ?_)
            ·
              have St5_ht306 : St5 h := ⟨by subst_vars; omega, by subst_vars; omega⟩
              refine w_aload_n gz_49_87 rfl ?_
              refine w_inv (k := 2) (as := []) (r := []) (x := 82) (ls0 := [(2, 82), (9, 0), (9, 0)]) gz_49_88 gm_37 rfl is_82 rd_5 rfl rfl rfl rfl rfl (c_Reader_nextToken_f0 (d := (d + 6))  (cf.trans (by omega)) (fun h307 frh307 w308 w309 w310 => ?_))
              have gh307 : my_fr [(4, 4), (4, 5), (4, 6), (4, 7), (4, 8), (4, 9), (5, 5), (5, 6), (5, 7), (5, 8), (5, 9), (32, -1), (33, -1), (34, -1), (35, -1), (36, -1), (37, -1), (38, -1), (39, -1)] h h307 := my_fr.tr my_fr.rf (frh307.mo rfl)
              have Ln_h307 : Ln h307 := Ln_ag (my_ag.fr frh307 rfl) n_Ln
              have Sp_h307 : Sp h307 wv := Sp_ag (my_ag.fr frh307 rfl) hwv n_Ln n_Sp
              have St5_h307 : St5 h307 := St5_ag (my_ag.fr frh307 rfl) n_Ln St5_ht306
              show wp l rho (d + 8) 49 91 [(2, 82), (0, 0), (0, 1), (0, 0), (0, 0), (0, 1)] [] h307 Q
              refine w_iload_n gz_49_91 rfl ?_
              refine w_ifeq (t := 102) gz_49_92 rfl (fun u311 => ?_) (fun u311 => by exfalso; omega)
              refine w_iload_n gz_49_102 rfl ?_
              refine w_ifeq (t := 113) gz_49_103 rfl (fun u312 => by exfalso; omega) (fun u312 => ?_)
              refine w_aload_n gz_49_106 rfl ?_
              refine w_inv (k := 3) (as := []) (r := []) (x := 82) (ls0 := [(2, 82), (9, 0), (9, 0), (9, 0)]) gz_49_107 gm_52 rfl is_82 rd_5 rfl rfl rfl rfl rfl (c_Reader_readCut_f0 (d := d)  (wv := wv) (((my_fr.at frh307 is_82 rfl).trans cf).trans (by omega)) (by first | assumption | omega) (by first | assumption | omega) Ln_h307 Sp_h307 St5_h307 (fun h313 frh313 w314 w315 Ln_h313t316 Sp_h313t317 => ?_) (fun h318 frh318 w319 Ln_h318t320 Sp_h318t321 => ?_))
              ·
                have gh313 : my_fr [(4, 4), (4, 5), (4, 6), (4, 7), (4, 8), (4, 9), (5, 5), (5, 6), (5, 7), (5, 8), (5, 9), (32, -1), (33, -1), (34, -1), (35, -1), (36, -1), (37, -1), (38, -1), (39, -1)] h h313 := my_fr.tr gh307 (frh313.mo rfl)
                show wp l rho (d + 8) 49 110 [(2, 82), (0, 0), (0, 1), (0, 0), (0, 0), (0, 1)] [] h313 Q
                refine w_goto (t := 140) gz_49_110 rfl ?_
                have c322 := (rfl : h313 82 9 = h313 82 9)
                exact w_vret gz_49_140 gm_49 (k0 h313 (gh313) (by omega) (by omega) Ln_h313t316 Sp_h313t317)
              ·
                have gh318 : my_fr [(4, 4), (4, 5), (4, 6), (4, 7), (4, 8), (4, 9), (5, 5), (5, 6), (5, 7), (5, 8), (5, 9), (32, -1), (33, -1), (34, -1), (35, -1), (36, -1), (37, -1), (38, -1), (39, -1)] h h318 := my_fr.tr gh307 (frh318.mo rfl)
                show wp l rho (d + 8) 49 110 [(2, 82), (0, 0), (0, 1), (0, 0), (0, 0), (0, 1)] [] h318 Q
                refine w_goto (t := 140) gz_49_110 rfl ?_
                have c323 := w319
                exact w_vret gz_49_140 gm_49 (k1 h318 (gh318) (by omega) Ln_h318t320 Sp_h318t321)
            ·
              refine w_aload_n gz_49_81 rfl ?_
              refine w_iconst gz_49_82 (by decide) ?_
              refine w_inv (k := 0) (as := [(0, 5)]) (r := []) (x := 82) (ls0 := [(2, 82), (0, 5)]) gz_49_83 gm_42 rfl is_82 rd_5 rfl rfl rfl rfl rfl ?_
              refine w_aload_n gz_42_0 rfl ?_
              refine v_getI (j := 9) gz_42_1 rfl is_82 rd_5 rfl (fun v324 ev324 pv324 qv324 => ?_)
              have zv324 := ev324.trans cf
              refine w_ifne (t := 20) gz_42_4 rfl (fun u325 => by exfalso; omega) (fun u325 => ?_)
              refine w_aload_n gz_42_7 rfl ?_
              refine w_iload_n gz_42_8 rfl ?_
              refine w_bipush gz_42_9 (by decide) ?_
              refine w_aload_n gz_42_11 rfl ?_
              refine v_getI (j := 7) gz_42_12 rfl is_82 rd_5 rfl (fun v326 ev326 pv326 qv326 => ?_)
              refine w_imul gz_42_15 ⟨by omega, by omega⟩ ?_
              refine w_iadd gz_42_16 ⟨by omega, by omega⟩ ?_
              refine v_putI (j := 9) gz_42_17 rfl is_82 rd_5 rfl (by omega) (by omega) rfl (fun h327 fh327 => ?_)
              have gh327 : my_fr [(4, 4), (4, 5), (4, 6), (4, 7), (4, 8), (4, 9), (5, 5), (5, 6), (5, 7), (5, 8), (5, 9), (32, -1), (33, -1), (34, -1), (35, -1), (36, -1), (37, -1), (38, -1), (39, -1)] h h327 := my_fr.up my_fr.rf is_82 fh327 rfl
              have Ln_h327 : Ln h327 := Ln_ag (my_ag.up fh327 is_82 rfl) n_Ln
              have Sp_h327 : Sp h327 wv := Sp_ag (my_ag.up fh327 is_82 rfl) hwv n_Ln n_Sp
              refine w_vret gz_42_20 gm_42 ?_
              show wp l rho (d + 8) 49 86 [(2, 82), (0, 0), (0, 1), (0, 0), (0, 0), (0, 1)] [] h327 Q
              have c328 := (my_up_self fh327)
              exact w_vret gz_49_86 gm_49 (k0 h327 (gh327) (by omega) (by omega) Ln_h327 Sp_h327)
        ·
          show wp l rho (d + 8) 49 27 [(2, 82), (0, 0), (0, 1), (0, 0), (9, 0), (9, 0)] [(0, 1)] h Q
          refine w_istore (ls' := [(2, 82), (0, 0), (0, 1), (0, 0), (0, 1), (9, 0)]) gz_49_27 gm_49 rfl rfl rfl ?_
          refine w_aload_n gz_49_29 rfl ?_
          refine w_ldcS gz_49_30 (by decide) ?_
          refine w_inv (k := 1) (as := [(3, ((8 : Nat) : Int))]) (r := []) (x := 82) (ls0 := [(2, 82), (3, ((8 : Nat) : Int)), (9, 0)]) gz_49_32 gm_41 rfl is_82 rd_5 rfl rfl rfl rfl rfl (c_Reader_isWord_f0 (d := (d + 3)) (x1 := ((8 : Nat) : Int)) (by decide) (cf.trans (by omega)) (fun w329 => ?_) (fun w330 w331 => ?_))
          ·
            show wp l rho (d + 8) 49 35 [(2, 82), (0, 0), (0, 1), (0, 0), (0, 1), (9, 0)] [(0, 0)] h Q
            refine w_istore (ls' := [(2, 82), (0, 0), (0, 1), (0, 0), (0, 1), (0, 0)]) gz_49_35 gm_49 rfl rfl rfl ?_
            refine w_iload_n gz_49_37 rfl ?_
            refine w_ifne (t := 65) gz_49_38 rfl (fun u332 => by exfalso; omega) (fun u332 => ?_)
            refine w_iload_n gz_49_41 rfl ?_
            refine w_ifne (t := 65) gz_49_42 rfl (fun u333 => ?_) (fun u333 => by exfalso; omega)
            refine w_iload_n gz_49_65 rfl ?_
            refine w_ifne (t := 87) gz_49_66 rfl (fun u334 => by exfalso; omega) (fun u334 => ?_)
            refine w_aload_n gz_49_69 rfl ?_
            refine v_getR (j := 2) gz_49_70 rfl is_82 rd_5 rfl (fun v335 ev335 tv335 => ?_)
            refine v_getI (j := 9) gz_49_73 rfl tv335 rd_4 rfl (fun v336 ev336 pv336 qv336 => ?_)
            refine w_bipush gz_49_76 (by decide) ?_
            refine w_iclt (t := 87) gz_49_78 rfl (fun u337 => ?_) (fun u337 => ?_)
            ·
              have St5_ht338 : St5 h := ⟨by subst_vars; omega, by subst_vars; omega⟩
              refine w_aload_n gz_49_87 rfl ?_
              refine w_inv (k := 2) (as := []) (r := []) (x := 82) (ls0 := [(2, 82), (9, 0), (9, 0)]) gz_49_88 gm_37 rfl is_82 rd_5 rfl rfl rfl rfl rfl (c_Reader_nextToken_f0 (d := (d + 6))  (cf.trans (by omega)) (fun h339 frh339 w340 w341 w342 => ?_))
              have gh339 : my_fr [(4, 4), (4, 5), (4, 6), (4, 7), (4, 8), (4, 9), (5, 5), (5, 6), (5, 7), (5, 8), (5, 9), (32, -1), (33, -1), (34, -1), (35, -1), (36, -1), (37, -1), (38, -1), (39, -1)] h h339 := my_fr.tr my_fr.rf (frh339.mo rfl)
              have Ln_h339 : Ln h339 := Ln_ag (my_ag.fr frh339 rfl) n_Ln
              have Sp_h339 : Sp h339 wv := Sp_ag (my_ag.fr frh339 rfl) hwv n_Ln n_Sp
              have St5_h339 : St5 h339 := St5_ag (my_ag.fr frh339 rfl) n_Ln St5_ht338
              show wp l rho (d + 8) 49 91 [(2, 82), (0, 0), (0, 1), (0, 0), (0, 1), (0, 0)] [] h339 Q
              refine w_iload_n gz_49_91 rfl ?_
              refine w_ifeq (t := 102) gz_49_92 rfl (fun u343 => ?_) (fun u343 => by exfalso; omega)
              refine w_iload_n gz_49_102 rfl ?_
              refine w_ifeq (t := 113) gz_49_103 rfl (fun u344 => by exfalso; omega) (fun u344 => ?_)
              refine w_aload_n gz_49_106 rfl ?_
              refine w_inv (k := 3) (as := []) (r := []) (x := 82) (ls0 := [(2, 82), (9, 0), (9, 0), (9, 0)]) gz_49_107 gm_52 rfl is_82 rd_5 rfl rfl rfl rfl rfl (c_Reader_readCut_f0 (d := d)  (wv := wv) (((my_fr.at frh339 is_82 rfl).trans cf).trans (by omega)) (by first | assumption | omega) (by first | assumption | omega) Ln_h339 Sp_h339 St5_h339 (fun h345 frh345 w346 w347 Ln_h345t348 Sp_h345t349 => ?_) (fun h350 frh350 w351 Ln_h350t352 Sp_h350t353 => ?_))
              ·
                have gh345 : my_fr [(4, 4), (4, 5), (4, 6), (4, 7), (4, 8), (4, 9), (5, 5), (5, 6), (5, 7), (5, 8), (5, 9), (32, -1), (33, -1), (34, -1), (35, -1), (36, -1), (37, -1), (38, -1), (39, -1)] h h345 := my_fr.tr gh339 (frh345.mo rfl)
                show wp l rho (d + 8) 49 110 [(2, 82), (0, 0), (0, 1), (0, 0), (0, 1), (0, 0)] [] h345 Q
                refine w_goto (t := 140) gz_49_110 rfl ?_
                have c354 := (rfl : h345 82 9 = h345 82 9)
                exact w_vret gz_49_140 gm_49 (k0 h345 (gh345) (by omega) (by omega) Ln_h345t348 Sp_h345t349)
              ·
                have gh350 : my_fr [(4, 4), (4, 5), (4, 6), (4, 7), (4, 8), (4, 9), (5, 5), (5, 6), (5, 7), (5, 8), (5, 9), (32, -1), (33, -1), (34, -1), (35, -1), (36, -1), (37, -1), (38, -1), (39, -1)] h h350 := my_fr.tr gh339 (frh350.mo rfl)
                show wp l rho (d + 8) 49 110 [(2, 82), (0, 0), (0, 1), (0, 0), (0, 1), (0, 0)] [] h350 Q
                refine w_goto (t := 140) gz_49_110 rfl ?_
                have c355 := w351
                exact w_vret gz_49_140 gm_49 (k1 h350 (gh350) (by omega) Ln_h350t352 Sp_h350t353)
            ·
              refine w_aload_n gz_49_81 rfl ?_
              refine w_iconst gz_49_82 (by decide) ?_
              refine w_inv (k := 0) (as := [(0, 5)]) (r := []) (x := 82) (ls0 := [(2, 82), (0, 5)]) gz_49_83 gm_42 rfl is_82 rd_5 rfl rfl rfl rfl rfl ?_
              refine w_aload_n gz_42_0 rfl ?_
              refine v_getI (j := 9) gz_42_1 rfl is_82 rd_5 rfl (fun v356 ev356 pv356 qv356 => ?_)
              have zv356 := ev356.trans cf
              refine w_ifne (t := 20) gz_42_4 rfl (fun u357 => by exfalso; omega) (fun u357 => ?_)
              refine w_aload_n gz_42_7 rfl ?_
              refine w_iload_n gz_42_8 rfl ?_
              refine w_bipush gz_42_9 (by decide) ?_
              refine w_aload_n gz_42_11 rfl ?_
              refine v_getI (j := 7) gz_42_12 rfl is_82 rd_5 rfl (fun v358 ev358 pv358 qv358 => ?_)
              refine w_imul gz_42_15 ⟨by omega, by omega⟩ ?_
              refine w_iadd gz_42_16 ⟨by omega, by omega⟩ ?_
              refine v_putI (j := 9) gz_42_17 rfl is_82 rd_5 rfl (by omega) (by omega) rfl (fun h359 fh359 => ?_)
              have gh359 : my_fr [(4, 4), (4, 5), (4, 6), (4, 7), (4, 8), (4, 9), (5, 5), (5, 6), (5, 7), (5, 8), (5, 9), (32, -1), (33, -1), (34, -1), (35, -1), (36, -1), (37, -1), (38, -1), (39, -1)] h h359 := my_fr.up my_fr.rf is_82 fh359 rfl
              have Ln_h359 : Ln h359 := Ln_ag (my_ag.up fh359 is_82 rfl) n_Ln
              have Sp_h359 : Sp h359 wv := Sp_ag (my_ag.up fh359 is_82 rfl) hwv n_Ln n_Sp
              refine w_vret gz_42_20 gm_42 ?_
              show wp l rho (d + 8) 49 86 [(2, 82), (0, 0), (0, 1), (0, 0), (0, 1), (0, 0)] [] h359 Q
              have c360 := (my_up_self fh359)
              exact w_vret gz_49_86 gm_49 (k0 h359 (gh359) (by omega) (by omega) Ln_h359 Sp_h359)
          ·
            show wp l rho (d + 8) 49 35 [(2, 82), (0, 0), (0, 1), (0, 0), (0, 1), (9, 0)] [(0, 1)] h Q
            refine w_istore (ls' := [(2, 82), (0, 0), (0, 1), (0, 0), (0, 1), (0, 1)]) gz_49_35 gm_49 rfl rfl rfl ?_
            refine w_iload_n gz_49_37 rfl ?_
            refine w_ifne (t := 65) gz_49_38 rfl (fun u361 => by exfalso; omega) (fun u361 => ?_)
            refine w_iload_n gz_49_41 rfl ?_
            refine w_ifne (t := 65) gz_49_42 rfl (fun u362 => ?_) (fun u362 => by exfalso; omega)
            refine w_iload_n gz_49_65 rfl ?_
            refine w_ifne (t := 87) gz_49_66 rfl (fun u363 => by exfalso; omega) (fun u363 => ?_)
            refine w_aload_n gz_49_69 rfl ?_
            refine v_getR (j := 2) gz_49_70 rfl is_82 rd_5 rfl (fun v364 ev364 tv364 => ?_)
            refine v_getI (j := 9) gz_49_73 rfl tv364 rd_4 rfl (fun v365 ev365 pv365 qv365 => ?_)
            refine w_bipush gz_49_76 (by decide) ?_
            refine w_iclt (t := 87) gz_49_78 rfl (fun u366 => ?_) (fun u366 => ?_)
            ·
              have St5_ht367 : St5 h := ⟨by subst_vars; omega, by subst_vars; omega⟩
              refine w_aload_n gz_49_87 rfl ?_
              refine w_inv (k := 2) (as := []) (r := []) (x := 82) (ls0 := [(2, 82), (9, 0), (9, 0)]) gz_49_88 gm_37 rfl is_82 rd_5 rfl rfl rfl rfl rfl (c_Reader_nextToken_f0 (d := (d + 6))  (cf.trans (by omega)) (fun h368 frh368 w369 w370 w371 => ?_))
              have gh368 : my_fr [(4, 4), (4, 5), (4, 6), (4, 7), (4, 8), (4, 9), (5, 5), (5, 6), (5, 7), (5, 8), (5, 9), (32, -1), (33, -1), (34, -1), (35, -1), (36, -1), (37, -1), (38, -1), (39, -1)] h h368 := my_fr.tr my_fr.rf (frh368.mo rfl)
              have Ln_h368 : Ln h368 := Ln_ag (my_ag.fr frh368 rfl) n_Ln
              have Sp_h368 : Sp h368 wv := Sp_ag (my_ag.fr frh368 rfl) hwv n_Ln n_Sp
              have St5_h368 : St5 h368 := St5_ag (my_ag.fr frh368 rfl) n_Ln St5_ht367
              show wp l rho (d + 8) 49 91 [(2, 82), (0, 0), (0, 1), (0, 0), (0, 1), (0, 1)] [] h368 Q
              refine w_iload_n gz_49_91 rfl ?_
              refine w_ifeq (t := 102) gz_49_92 rfl (fun u372 => ?_) (fun u372 => by exfalso; omega)
              refine w_iload_n gz_49_102 rfl ?_
              refine w_ifeq (t := 113) gz_49_103 rfl (fun u373 => by exfalso; omega) (fun u373 => ?_)
              refine w_aload_n gz_49_106 rfl ?_
              refine w_inv (k := 3) (as := []) (r := []) (x := 82) (ls0 := [(2, 82), (9, 0), (9, 0), (9, 0)]) gz_49_107 gm_52 rfl is_82 rd_5 rfl rfl rfl rfl rfl (c_Reader_readCut_f0 (d := d)  (wv := wv) (((my_fr.at frh368 is_82 rfl).trans cf).trans (by omega)) (by first | assumption | omega) (by first | assumption | omega) Ln_h368 Sp_h368 St5_h368 (fun h374 frh374 w375 w376 Ln_h374t377 Sp_h374t378 => ?_) (fun h379 frh379 w380 Ln_h379t381 Sp_h379t382 => ?_))
              ·
                have gh374 : my_fr [(4, 4), (4, 5), (4, 6), (4, 7), (4, 8), (4, 9), (5, 5), (5, 6), (5, 7), (5, 8), (5, 9), (32, -1), (33, -1), (34, -1), (35, -1), (36, -1), (37, -1), (38, -1), (39, -1)] h h374 := my_fr.tr gh368 (frh374.mo rfl)
                show wp l rho (d + 8) 49 110 [(2, 82), (0, 0), (0, 1), (0, 0), (0, 1), (0, 1)] [] h374 Q
                refine w_goto (t := 140) gz_49_110 rfl ?_
                have c383 := (rfl : h374 82 9 = h374 82 9)
                exact w_vret gz_49_140 gm_49 (k0 h374 (gh374) (by omega) (by omega) Ln_h374t377 Sp_h374t378)
              ·
                have gh379 : my_fr [(4, 4), (4, 5), (4, 6), (4, 7), (4, 8), (4, 9), (5, 5), (5, 6), (5, 7), (5, 8), (5, 9), (32, -1), (33, -1), (34, -1), (35, -1), (36, -1), (37, -1), (38, -1), (39, -1)] h h379 := my_fr.tr gh368 (frh379.mo rfl)
                show wp l rho (d + 8) 49 110 [(2, 82), (0, 0), (0, 1), (0, 0), (0, 1), (0, 1)] [] h379 Q
                refine w_goto (t := 140) gz_49_110 rfl ?_
                have c384 := w380
                exact w_vret gz_49_140 gm_49 (k1 h379 (gh379) (by omega) Ln_h379t381 Sp_h379t382)
            ·
              refine w_aload_n gz_49_81 rfl ?_
              refine w_iconst gz_49_82 (by decide) ?_
              refine w_inv (k := 0) (as := [(0, 5)]) (r := []) (x := 82) (ls0 := [(2, 82), (0, 5)]) gz_49_83 gm_42 rfl is_82 rd_5 rfl rfl rfl rfl rfl ?_
              refine w_aload_n gz_42_0 rfl ?_
              refine v_getI (j := 9) gz_42_1 rfl is_82 rd_5 rfl (fun v385 ev385 pv385 qv385 => ?_)
              have zv385 := ev385.trans cf
              refine w_ifne (t := 20) gz_42_4 rfl (fun u386 => by exfalso; omega) (fun u386 => ?_)
              refine w_aload_n gz_42_7 rfl ?_
              refine w_iload_n gz_42_8 rfl ?_
              refine w_bipush gz_42_9 (by decide) ?_
              refine w_aload_n gz_42_11 rfl ?_
              refine v_getI (j := 7) gz_42_12 rfl is_82 rd_5 rfl (fun v387 ev387 pv387 qv387 => ?_)
              refine w_imul gz_42_15 ⟨by omega, by omega⟩ ?_
              refine w_iadd gz_42_16 ⟨by omega, by omega⟩ ?_
              refine v_putI (j := 9) gz_42_17 rfl is_82 rd_5 rfl (by omega) (by omega) rfl (fun h388 fh388 => ?_)
              have gh388 : my_fr [(4, 4), (4, 5), (4, 6), (4, 7), (4, 8), (4, 9), (5, 5), (5, 6), (5, 7), (5, 8), (5, 9), (32, -1), (33, -1), (34, -1), (35, -1), (36, -1), (37, -1), (38, -1), (39, -1)] h h388 := my_fr.up my_fr.rf is_82 fh388 rfl
              have Ln_h388 : Ln h388 := Ln_ag (my_ag.up fh388 is_82 rfl) n_Ln
              have Sp_h388 : Sp h388 wv := Sp_ag (my_ag.up fh388 is_82 rfl) hwv n_Ln n_Sp
              refine w_vret gz_42_20 gm_42 ?_
              show wp l rho (d + 8) 49 86 [(2, 82), (0, 0), (0, 1), (0, 0), (0, 1), (0, 1)] [] h388 Q
              have c389 := (my_up_self fh388)
              exact w_vret gz_49_86 gm_49 (k0 h388 (gh388) (by omega) (by omega) Ln_h388 Sp_h388)
      ·
        show wp l rho (d + 8) 49 20 [(2, 82), (0, 0), (0, 1), (9, 0), (9, 0), (9, 0)] [(0, 1)] h Q
        refine w_istore_n (ls' := [(2, 82), (0, 0), (0, 1), (0, 1), (9, 0), (9, 0)]) gz_49_20 gm_49 rfl rfl rfl ?_
        refine w_aload_n gz_49_21 rfl ?_
        refine w_ldcS gz_49_22 (by decide) ?_
        refine w_inv (k := 1) (as := [(3, ((7 : Nat) : Int))]) (r := []) (x := 82) (ls0 := [(2, 82), (3, ((7 : Nat) : Int)), (9, 0)]) gz_49_24 gm_41 rfl is_82 rd_5 rfl rfl rfl rfl rfl (c_Reader_isWord_f0 (d := (d + 3)) (x1 := ((7 : Nat) : Int)) (by decide) (cf.trans (by omega)) (fun w390 => ?_) (fun w391 w392 => ?_))
        ·
          show wp l rho (d + 8) 49 27 [(2, 82), (0, 0), (0, 1), (0, 1), (9, 0), (9, 0)] [(0, 0)] h Q
          refine w_istore (ls' := [(2, 82), (0, 0), (0, 1), (0, 1), (0, 0), (9, 0)]) gz_49_27 gm_49 rfl rfl rfl ?_
          refine w_aload_n gz_49_29 rfl ?_
          refine w_ldcS gz_49_30 (by decide) ?_
          refine w_inv (k := 1) (as := [(3, ((8 : Nat) : Int))]) (r := []) (x := 82) (ls0 := [(2, 82), (3, ((8 : Nat) : Int)), (9, 0)]) gz_49_32 gm_41 rfl is_82 rd_5 rfl rfl rfl rfl rfl (c_Reader_isWord_f0 (d := (d + 3)) (x1 := ((8 : Nat) : Int)) (by decide) (cf.trans (by omega)) (fun w393 => ?_) (fun w394 w395 => ?_))
          ·
            show wp l rho (d + 8) 49 35 [(2, 82), (0, 0), (0, 1), (0, 1), (0, 0), (9, 0)] [(0, 0)] h Q
            refine w_istore (ls' := [(2, 82), (0, 0), (0, 1), (0, 1), (0, 0), (0, 0)]) gz_49_35 gm_49 rfl rfl rfl ?_
            refine w_iload_n gz_49_37 rfl ?_
            refine w_ifne (t := 65) gz_49_38 rfl (fun u396 => by exfalso; omega) (fun u396 => ?_)
            refine w_iload_n gz_49_41 rfl ?_
            refine w_ifne (t := 65) gz_49_42 rfl (fun u397 => ?_) (fun u397 => by exfalso; omega)
            refine w_iload_n gz_49_65 rfl ?_
            refine w_ifne (t := 87) gz_49_66 rfl (fun u398 => by exfalso; omega) (fun u398 => ?_)
            refine w_aload_n gz_49_69 rfl ?_
            refine v_getR (j := 2) gz_49_70 rfl is_82 rd_5 rfl (fun v399 ev399 tv399 => ?_)
            refine v_getI (j := 9) gz_49_73 rfl tv399 rd_4 rfl (fun v400 ev400 pv400 qv400 => ?_)
            refine w_bipush gz_49_76 (by decide) ?_
            refine w_iclt (t := 87) gz_49_78 rfl (fun u401 => ?_) (fun u401 => ?_)
            ·
              have St5_ht402 : St5 h := ⟨by subst_vars; omega, by subst_vars; omega⟩
              refine w_aload_n gz_49_87 rfl ?_
              refine w_inv (k := 2) (as := []) (r := []) (x := 82) (ls0 := [(2, 82), (9, 0), (9, 0)]) gz_49_88 gm_37 rfl is_82 rd_5 rfl rfl rfl rfl rfl (c_Reader_nextToken_f0 (d := (d + 6))  (cf.trans (by omega)) (fun h403 frh403 w404 w405 w406 => ?_))
              have gh403 : my_fr [(4, 4), (4, 5), (4, 6), (4, 7), (4, 8), (4, 9), (5, 5), (5, 6), (5, 7), (5, 8), (5, 9), (32, -1), (33, -1), (34, -1), (35, -1), (36, -1), (37, -1), (38, -1), (39, -1)] h h403 := my_fr.tr my_fr.rf (frh403.mo rfl)
              have Ln_h403 : Ln h403 := Ln_ag (my_ag.fr frh403 rfl) n_Ln
              have Sp_h403 : Sp h403 wv := Sp_ag (my_ag.fr frh403 rfl) hwv n_Ln n_Sp
              have St5_h403 : St5 h403 := St5_ag (my_ag.fr frh403 rfl) n_Ln St5_ht402
              show wp l rho (d + 8) 49 91 [(2, 82), (0, 0), (0, 1), (0, 1), (0, 0), (0, 0)] [] h403 Q
              refine w_iload_n gz_49_91 rfl ?_
              refine w_ifeq (t := 102) gz_49_92 rfl (fun u407 => ?_) (fun u407 => by exfalso; omega)
              refine w_iload_n gz_49_102 rfl ?_
              refine w_ifeq (t := 113) gz_49_103 rfl (fun u408 => by exfalso; omega) (fun u408 => ?_)
              refine w_aload_n gz_49_106 rfl ?_
              refine w_inv (k := 3) (as := []) (r := []) (x := 82) (ls0 := [(2, 82), (9, 0), (9, 0), (9, 0)]) gz_49_107 gm_52 rfl is_82 rd_5 rfl rfl rfl rfl rfl (c_Reader_readCut_f0 (d := d)  (wv := wv) (((my_fr.at frh403 is_82 rfl).trans cf).trans (by omega)) (by first | assumption | omega) (by first | assumption | omega) Ln_h403 Sp_h403 St5_h403 (fun h409 frh409 w410 w411 Ln_h409t412 Sp_h409t413 => ?_) (fun h414 frh414 w415 Ln_h414t416 Sp_h414t417 => ?_))
              ·
                have gh409 : my_fr [(4, 4), (4, 5), (4, 6), (4, 7), (4, 8), (4, 9), (5, 5), (5, 6), (5, 7), (5, 8), (5, 9), (32, -1), (33, -1), (34, -1), (35, -1), (36, -1), (37, -1), (38, -1), (39, -1)] h h409 := my_fr.tr gh403 (frh409.mo rfl)
                show wp l rho (d + 8) 49 110 [(2, 82), (0, 0), (0, 1), (0, 1), (0, 0), (0, 0)] [] h409 Q
                refine w_goto (t := 140) gz_49_110 rfl ?_
                have c418 := (rfl : h409 82 9 = h409 82 9)
                exact w_vret gz_49_140 gm_49 (k0 h409 (gh409) (by omega) (by omega) Ln_h409t412 Sp_h409t413)
              ·
                have gh414 : my_fr [(4, 4), (4, 5), (4, 6), (4, 7), (4, 8), (4, 9), (5, 5), (5, 6), (5, 7), (5, 8), (5, 9), (32, -1), (33, -1), (34, -1), (35, -1), (36, -1), (37, -1), (38, -1), (39, -1)] h h414 := my_fr.tr gh403 (frh414.mo rfl)
                show wp l rho (d + 8) 49 110 [(2, 82), (0, 0), (0, 1), (0, 1), (0, 0), (0, 0)] [] h414 Q
                refine w_goto (t := 140) gz_49_110 rfl ?_
                have c419 := w415
                exact w_vret gz_49_140 gm_49 (k1 h414 (gh414) (by omega) Ln_h414t416 Sp_h414t417)
            ·
              refine w_aload_n gz_49_81 rfl ?_
              refine w_iconst gz_49_82 (by decide) ?_
              refine w_inv (k := 0) (as := [(0, 5)]) (r := []) (x := 82) (ls0 := [(2, 82), (0, 5)]) gz_49_83 gm_42 rfl is_82 rd_5 rfl rfl rfl rfl rfl ?_
              refine w_aload_n gz_42_0 rfl ?_
              refine v_getI (j := 9) gz_42_1 rfl is_82 rd_5 rfl (fun v420 ev420 pv420 qv420 => ?_)
              have zv420 := ev420.trans cf
              refine w_ifne (t := 20) gz_42_4 rfl (fun u421 => by exfalso; omega) (fun u421 => ?_)
              refine w_aload_n gz_42_7 rfl ?_
              refine w_iload_n gz_42_8 rfl ?_
              refine w_bipush gz_42_9 (by decide) ?_
              refine w_aload_n gz_42_11 rfl ?_
              refine v_getI (j := 7) gz_42_12 rfl is_82 rd_5 rfl (fun v422 ev422 pv422 qv422 => ?_)
              refine w_imul gz_42_15 ⟨by omega, by omega⟩ ?_
              refine w_iadd gz_42_16 ⟨by omega, by omega⟩ ?_
              refine v_putI (j := 9) gz_42_17 rfl is_82 rd_5 rfl (by omega) (by omega) rfl (fun h423 fh423 => ?_)
              have gh423 : my_fr [(4, 4), (4, 5), (4, 6), (4, 7), (4, 8), (4, 9), (5, 5), (5, 6), (5, 7), (5, 8), (5, 9), (32, -1), (33, -1), (34, -1), (35, -1), (36, -1), (37, -1), (38, -1), (39, -1)] h h423 := my_fr.up my_fr.rf is_82 fh423 rfl
              have Ln_h423 : Ln h423 := Ln_ag (my_ag.up fh423 is_82 rfl) n_Ln
              have Sp_h423 : Sp h423 wv := Sp_ag (my_ag.up fh423 is_82 rfl) hwv n_Ln n_Sp
              refine w_vret gz_42_20 gm_42 ?_
              show wp l rho (d + 8) 49 86 [(2, 82), (0, 0), (0, 1), (0, 1), (0, 0), (0, 0)] [] h423 Q
              have c424 := (my_up_self fh423)
              exact w_vret gz_49_86 gm_49 (k0 h423 (gh423) (by omega) (by omega) Ln_h423 Sp_h423)
          ·
            show wp l rho (d + 8) 49 35 [(2, 82), (0, 0), (0, 1), (0, 1), (0, 0), (9, 0)] [(0, 1)] h Q
            refine w_istore (ls' := [(2, 82), (0, 0), (0, 1), (0, 1), (0, 0), (0, 1)]) gz_49_35 gm_49 rfl rfl rfl ?_
            refine w_iload_n gz_49_37 rfl ?_
            refine w_ifne (t := 65) gz_49_38 rfl (fun u425 => by exfalso; omega) (fun u425 => ?_)
            refine w_iload_n gz_49_41 rfl ?_
            refine w_ifne (t := 65) gz_49_42 rfl (fun u426 => ?_) (fun u426 => by exfalso; omega)
            refine w_iload_n gz_49_65 rfl ?_
            refine w_ifne (t := 87) gz_49_66 rfl (fun u427 => by exfalso; omega) (fun u427 => ?_)
            refine w_aload_n gz_49_69 rfl ?_
            refine v_getR (j := 2) gz_49_70 rfl is_82 rd_5 rfl (fun v428 ev428 tv428 => ?_)
            refine v_getI (j := 9) gz_49_73 rfl tv428 rd_4 rfl (fun v429 ev429 pv429 qv429 => ?_)
            refine w_bipush gz_49_76 (by decide) ?_
            refine w_iclt (t := 87) gz_49_78 rfl (fun u430 => ?_) (fun u430 => ?_)
            ·
              have St5_ht431 : St5 h := ⟨by subst_vars; omega, by subst_vars; omega⟩
              refine w_aload_n gz_49_87 rfl ?_
              refine w_inv (k := 2) (as := []) (r := []) (x := 82) (ls0 := [(2, 82), (9, 0), (9, 0)]) gz_49_88 gm_37 rfl is_82 rd_5 rfl rfl rfl rfl rfl (c_Reader_nextToken_f0 (d := (d + 6))  (cf.trans (by omega)) (fun h432 frh432 w433 w434 w435 => ?_))
              have gh432 : my_fr [(4, 4), (4, 5), (4, 6), (4, 7), (4, 8), (4, 9), (5, 5), (5, 6), (5, 7), (5, 8), (5, 9), (32, -1), (33, -1), (34, -1), (35, -1), (36, -1), (37, -1), (38, -1), (39, -1)] h h432 := my_fr.tr my_fr.rf (frh432.mo rfl)
              have Ln_h432 : Ln h432 := Ln_ag (my_ag.fr frh432 rfl) n_Ln
              have Sp_h432 : Sp h432 wv := Sp_ag (my_ag.fr frh432 rfl) hwv n_Ln n_Sp
              have St5_h432 : St5 h432 := St5_ag (my_ag.fr frh432 rfl) n_Ln St5_ht431
              show wp l rho (d + 8) 49 91 [(2, 82), (0, 0), (0, 1), (0, 1), (0, 0), (0, 1)] [] h432 Q
              refine w_iload_n gz_49_91 rfl ?_
              refine w_ifeq (t := 102) gz_49_92 rfl (fun u436 => ?_) (fun u436 => by exfalso; omega)
              refine w_iload_n gz_49_102 rfl ?_
              refine w_ifeq (t := 113) gz_49_103 rfl (fun u437 => by exfalso; omega) (fun u437 => ?_)
              refine w_aload_n gz_49_106 rfl ?_
              refine w_inv (k := 3) (as := []) (r := []) (x := 82) (ls0 := [(2, 82), (9, 0), (9, 0), (9, 0)]) gz_49_107 gm_52 rfl is_82 rd_5 rfl rfl rfl rfl rfl (c_Reader_readCut_f0 (d := d)  (wv := wv) (((my_fr.at frh432 is_82 rfl).trans cf).trans (by omega)) (by first | assumption | omega) (by first | assumption | omega) Ln_h432 Sp_h432 St5_h432 (fun h438 frh438 w439 w440 Ln_h438t441 Sp_h438t442 => ?_) (fun h443 frh443 w444 Ln_h443t445 Sp_h443t446 => ?_))
              ·
                have gh438 : my_fr [(4, 4), (4, 5), (4, 6), (4, 7), (4, 8), (4, 9), (5, 5), (5, 6), (5, 7), (5, 8), (5, 9), (32, -1), (33, -1), (34, -1), (35, -1), (36, -1), (37, -1), (38, -1), (39, -1)] h h438 := my_fr.tr gh432 (frh438.mo rfl)
                show wp l rho (d + 8) 49 110 [(2, 82), (0, 0), (0, 1), (0, 1), (0, 0), (0, 1)] [] h438 Q
                refine w_goto (t := 140) gz_49_110 rfl ?_
                have c447 := (rfl : h438 82 9 = h438 82 9)
                exact w_vret gz_49_140 gm_49 (k0 h438 (gh438) (by omega) (by omega) Ln_h438t441 Sp_h438t442)
              ·
                have gh443 : my_fr [(4, 4), (4, 5), (4, 6), (4, 7), (4, 8), (4, 9), (5, 5), (5, 6), (5, 7), (5, 8), (5, 9), (32, -1), (33, -1), (34, -1), (35, -1), (36, -1), (37, -1), (38, -1), (39, -1)] h h443 := my_fr.tr gh432 (frh443.mo rfl)
                show wp l rho (d + 8) 49 110 [(2, 82), (0, 0), (0, 1), (0, 1), (0, 0), (0, 1)] [] h443 Q
                refine w_goto (t := 140) gz_49_110 rfl ?_
                have c448 := w444
                exact w_vret gz_49_140 gm_49 (k1 h443 (gh443) (by omega) Ln_h443t445 Sp_h443t446)
            ·
              refine w_aload_n gz_49_81 rfl ?_
              refine w_iconst gz_49_82 (by decide) ?_
              refine w_inv (k := 0) (as := [(0, 5)]) (r := []) (x := 82) (ls0 := [(2, 82), (0, 5)]) gz_49_83 gm_42 rfl is_82 rd_5 rfl rfl rfl rfl rfl ?_
              refine w_aload_n gz_42_0 rfl ?_
              refine v_getI (j := 9) gz_42_1 rfl is_82 rd_5 rfl (fun v449 ev449 pv449 qv449 => ?_)
              have zv449 := ev449.trans cf
              refine w_ifne (t := 20) gz_42_4 rfl (fun u450 => by exfalso; omega) (fun u450 => ?_)
              refine w_aload_n gz_42_7 rfl ?_
              refine w_iload_n gz_42_8 rfl ?_
              refine w_bipush gz_42_9 (by decide) ?_
              refine w_aload_n gz_42_11 rfl ?_
              refine v_getI (j := 7) gz_42_12 rfl is_82 rd_5 rfl (fun v451 ev451 pv451 qv451 => ?_)
              refine w_imul gz_42_15 ⟨by omega, by omega⟩ ?_
              refine w_iadd gz_42_16 ⟨by omega, by omega⟩ ?_
              refine v_putI (j := 9) gz_42_17 rfl is_82 rd_5 rfl (by omega) (by omega) rfl (fun h452 fh452 => ?_)
              have gh452 : my_fr [(4, 4), (4, 5), (4, 6), (4, 7), (4, 8), (4, 9), (5, 5), (5, 6), (5, 7), (5, 8), (5, 9), (32, -1), (33, -1), (34, -1), (35, -1), (36, -1), (37, -1), (38, -1), (39, -1)] h h452 := my_fr.up my_fr.rf is_82 fh452 rfl
              have Ln_h452 : Ln h452 := Ln_ag (my_ag.up fh452 is_82 rfl) n_Ln
              have Sp_h452 : Sp h452 wv := Sp_ag (my_ag.up fh452 is_82 rfl) hwv n_Ln n_Sp
              refine w_vret gz_42_20 gm_42 ?_
              show wp l rho (d + 8) 49 86 [(2, 82), (0, 0), (0, 1), (0, 1), (0, 0), (0, 1)] [] h452 Q
              have c453 := (my_up_self fh452)
              exact w_vret gz_49_86 gm_49 (k0 h452 (gh452) (by omega) (by omega) Ln_h452 Sp_h452)
        ·
          show wp l rho (d + 8) 49 27 [(2, 82), (0, 0), (0, 1), (0, 1), (9, 0), (9, 0)] [(0, 1)] h Q
          refine w_istore (ls' := [(2, 82), (0, 0), (0, 1), (0, 1), (0, 1), (9, 0)]) gz_49_27 gm_49 rfl rfl rfl ?_
          refine w_aload_n gz_49_29 rfl ?_
          refine w_ldcS gz_49_30 (by decide) ?_
          refine w_inv (k := 1) (as := [(3, ((8 : Nat) : Int))]) (r := []) (x := 82) (ls0 := [(2, 82), (3, ((8 : Nat) : Int)), (9, 0)]) gz_49_32 gm_41 rfl is_82 rd_5 rfl rfl rfl rfl rfl (c_Reader_isWord_f0 (d := (d + 3)) (x1 := ((8 : Nat) : Int)) (by decide) (cf.trans (by omega)) (fun w454 => ?_) (fun w455 w456 => ?_))
          ·
            show wp l rho (d + 8) 49 35 [(2, 82), (0, 0), (0, 1), (0, 1), (0, 1), (9, 0)] [(0, 0)] h Q
            refine w_istore (ls' := [(2, 82), (0, 0), (0, 1), (0, 1), (0, 1), (0, 0)]) gz_49_35 gm_49 rfl rfl rfl ?_
            refine w_iload_n gz_49_37 rfl ?_
            refine w_ifne (t := 65) gz_49_38 rfl (fun u457 => by exfalso; omega) (fun u457 => ?_)
            refine w_iload_n gz_49_41 rfl ?_
            refine w_ifne (t := 65) gz_49_42 rfl (fun u458 => ?_) (fun u458 => by exfalso; omega)
            refine w_iload_n gz_49_65 rfl ?_
            refine w_ifne (t := 87) gz_49_66 rfl (fun u459 => by exfalso; omega) (fun u459 => ?_)
            refine w_aload_n gz_49_69 rfl ?_
            refine v_getR (j := 2) gz_49_70 rfl is_82 rd_5 rfl (fun v460 ev460 tv460 => ?_)
            refine v_getI (j := 9) gz_49_73 rfl tv460 rd_4 rfl (fun v461 ev461 pv461 qv461 => ?_)
            refine w_bipush gz_49_76 (by decide) ?_
            refine w_iclt (t := 87) gz_49_78 rfl (fun u462 => ?_) (fun u462 => ?_)
            ·
              have St5_ht463 : St5 h := ⟨by subst_vars; omega, by subst_vars; omega⟩
              refine w_aload_n gz_49_87 rfl ?_
              refine w_inv (k := 2) (as := []) (r := []) (x := 82) (ls0 := [(2, 82), (9, 0), (9, 0)]) gz_49_88 gm_37 rfl is_82 rd_5 rfl rfl rfl rfl rfl (c_Reader_nextToken_f0 (d := (d + 6))  (cf.trans (by omega)) (fun h464 frh464 w465 w466 w467 => ?_))
              have gh464 : my_fr [(4, 4), (4, 5), (4, 6), (4, 7), (4, 8), (4, 9), (5, 5), (5, 6), (5, 7), (5, 8), (5, 9), (32, -1), (33, -1), (34, -1), (35, -1), (36, -1), (37, -1), (38, -1), (39, -1)] h h464 := my_fr.tr my_fr.rf (frh464.mo rfl)
              have Ln_h464 : Ln h464 := Ln_ag (my_ag.fr frh464 rfl) n_Ln
              have Sp_h464 : Sp h464 wv := Sp_ag (my_ag.fr frh464 rfl) hwv n_Ln n_Sp
              have St5_h464 : St5 h464 := St5_ag (my_ag.fr frh464 rfl) n_Ln St5_ht463
              show wp l rho (d + 8) 49 91 [(2, 82), (0, 0), (0, 1), (0, 1), (0, 1), (0, 0)] [] h464 Q
              refine w_iload_n gz_49_91 rfl ?_
              refine w_ifeq (t := 102) gz_49_92 rfl (fun u468 => ?_) (fun u468 => by exfalso; omega)
              refine w_iload_n gz_49_102 rfl ?_
              refine w_ifeq (t := 113) gz_49_103 rfl (fun u469 => by exfalso; omega) (fun u469 => ?_)
              refine w_aload_n gz_49_106 rfl ?_
              refine w_inv (k := 3) (as := []) (r := []) (x := 82) (ls0 := [(2, 82), (9, 0), (9, 0), (9, 0)]) gz_49_107 gm_52 rfl is_82 rd_5 rfl rfl rfl rfl rfl (c_Reader_readCut_f0 (d := d)  (wv := wv) (((my_fr.at frh464 is_82 rfl).trans cf).trans (by omega)) (by first | assumption | omega) (by first | assumption | omega) Ln_h464 Sp_h464 St5_h464 (fun h470 frh470 w471 w472 Ln_h470t473 Sp_h470t474 => ?_) (fun h475 frh475 w476 Ln_h475t477 Sp_h475t478 => ?_))
              ·
                have gh470 : my_fr [(4, 4), (4, 5), (4, 6), (4, 7), (4, 8), (4, 9), (5, 5), (5, 6), (5, 7), (5, 8), (5, 9), (32, -1), (33, -1), (34, -1), (35, -1), (36, -1), (37, -1), (38, -1), (39, -1)] h h470 := my_fr.tr gh464 (frh470.mo rfl)
                show wp l rho (d + 8) 49 110 [(2, 82), (0, 0), (0, 1), (0, 1), (0, 1), (0, 0)] [] h470 Q
                refine w_goto (t := 140) gz_49_110 rfl ?_
                have c479 := (rfl : h470 82 9 = h470 82 9)
                exact w_vret gz_49_140 gm_49 (k0 h470 (gh470) (by omega) (by omega) Ln_h470t473 Sp_h470t474)
              ·
                have gh475 : my_fr [(4, 4), (4, 5), (4, 6), (4, 7), (4, 8), (4, 9), (5, 5), (5, 6), (5, 7), (5, 8), (5, 9), (32, -1), (33, -1), (34, -1), (35, -1), (36, -1), (37, -1), (38, -1), (39, -1)] h h475 := my_fr.tr gh464 (frh475.mo rfl)
                show wp l rho (d + 8) 49 110 [(2, 82), (0, 0), (0, 1), (0, 1), (0, 1), (0, 0)] [] h475 Q
                refine w_goto (t := 140) gz_49_110 rfl ?_
                have c480 := w476
                exact w_vret gz_49_140 gm_49 (k1 h475 (gh475) (by omega) Ln_h475t477 Sp_h475t478)
            ·
              refine w_aload_n gz_49_81 rfl ?_
              refine w_iconst gz_49_82 (by decide) ?_
              refine w_inv (k := 0) (as := [(0, 5)]) (r := []) (x := 82) (ls0 := [(2, 82), (0, 5)]) gz_49_83 gm_42 rfl is_82 rd_5 rfl rfl rfl rfl rfl ?_
              refine w_aload_n gz_42_0 rfl ?_
              refine v_getI (j := 9) gz_42_1 rfl is_82 rd_5 rfl (fun v481 ev481 pv481 qv481 => ?_)
              have zv481 := ev481.trans cf
              refine w_ifne (t := 20) gz_42_4 rfl (fun u482 => by exfalso; omega) (fun u482 => ?_)
              refine w_aload_n gz_42_7 rfl ?_
              refine w_iload_n gz_42_8 rfl ?_
              refine w_bipush gz_42_9 (by decide) ?_
              refine w_aload_n gz_42_11 rfl ?_
              refine v_getI (j := 7) gz_42_12 rfl is_82 rd_5 rfl (fun v483 ev483 pv483 qv483 => ?_)
              refine w_imul gz_42_15 ⟨by omega, by omega⟩ ?_
              refine w_iadd gz_42_16 ⟨by omega, by omega⟩ ?_
              refine v_putI (j := 9) gz_42_17 rfl is_82 rd_5 rfl (by omega) (by omega) rfl (fun h484 fh484 => ?_)
              have gh484 : my_fr [(4, 4), (4, 5), (4, 6), (4, 7), (4, 8), (4, 9), (5, 5), (5, 6), (5, 7), (5, 8), (5, 9), (32, -1), (33, -1), (34, -1), (35, -1), (36, -1), (37, -1), (38, -1), (39, -1)] h h484 := my_fr.up my_fr.rf is_82 fh484 rfl
              have Ln_h484 : Ln h484 := Ln_ag (my_ag.up fh484 is_82 rfl) n_Ln
              have Sp_h484 : Sp h484 wv := Sp_ag (my_ag.up fh484 is_82 rfl) hwv n_Ln n_Sp
              refine w_vret gz_42_20 gm_42 ?_
              show wp l rho (d + 8) 49 86 [(2, 82), (0, 0), (0, 1), (0, 1), (0, 1), (0, 0)] [] h484 Q
              have c485 := (my_up_self fh484)
              exact w_vret gz_49_86 gm_49 (k0 h484 (gh484) (by omega) (by omega) Ln_h484 Sp_h484)
          ·
            show wp l rho (d + 8) 49 35 [(2, 82), (0, 0), (0, 1), (0, 1), (0, 1), (9, 0)] [(0, 1)] h Q
            refine w_istore (ls' := [(2, 82), (0, 0), (0, 1), (0, 1), (0, 1), (0, 1)]) gz_49_35 gm_49 rfl rfl rfl ?_
            refine w_iload_n gz_49_37 rfl ?_
            refine w_ifne (t := 65) gz_49_38 rfl (fun u486 => by exfalso; omega) (fun u486 => ?_)
            refine w_iload_n gz_49_41 rfl ?_
            refine w_ifne (t := 65) gz_49_42 rfl (fun u487 => ?_) (fun u487 => by exfalso; omega)
            refine w_iload_n gz_49_65 rfl ?_
            refine w_ifne (t := 87) gz_49_66 rfl (fun u488 => by exfalso; omega) (fun u488 => ?_)
            refine w_aload_n gz_49_69 rfl ?_
            refine v_getR (j := 2) gz_49_70 rfl is_82 rd_5 rfl (fun v489 ev489 tv489 => ?_)
            refine v_getI (j := 9) gz_49_73 rfl tv489 rd_4 rfl (fun v490 ev490 pv490 qv490 => ?_)
            refine w_bipush gz_49_76 (by decide) ?_
            refine w_iclt (t := 87) gz_49_78 rfl (fun u491 => ?_) (fun u491 => ?_)
            ·
              have St5_ht492 : St5 h := ⟨by subst_vars; omega, by subst_vars; omega⟩
              refine w_aload_n gz_49_87 rfl ?_
              refine w_inv (k := 2) (as := []) (r := []) (x := 82) (ls0 := [(2, 82), (9, 0), (9, 0)]) gz_49_88 gm_37 rfl is_82 rd_5 rfl rfl rfl rfl rfl (c_Reader_nextToken_f0 (d := (d + 6))  (cf.trans (by omega)) (fun h493 frh493 w494 w495 w496 => ?_))
              have gh493 : my_fr [(4, 4), (4, 5), (4, 6), (4, 7), (4, 8), (4, 9), (5, 5), (5, 6), (5, 7), (5, 8), (5, 9), (32, -1), (33, -1), (34, -1), (35, -1), (36, -1), (37, -1), (38, -1), (39, -1)] h h493 := my_fr.tr my_fr.rf (frh493.mo rfl)
              have Ln_h493 : Ln h493 := Ln_ag (my_ag.fr frh493 rfl) n_Ln
              have Sp_h493 : Sp h493 wv := Sp_ag (my_ag.fr frh493 rfl) hwv n_Ln n_Sp
              have St5_h493 : St5 h493 := St5_ag (my_ag.fr frh493 rfl) n_Ln St5_ht492
              show wp l rho (d + 8) 49 91 [(2, 82), (0, 0), (0, 1), (0, 1), (0, 1), (0, 1)] [] h493 Q
              refine w_iload_n gz_49_91 rfl ?_
              refine w_ifeq (t := 102) gz_49_92 rfl (fun u497 => ?_) (fun u497 => by exfalso; omega)
              refine w_iload_n gz_49_102 rfl ?_
              refine w_ifeq (t := 113) gz_49_103 rfl (fun u498 => by exfalso; omega) (fun u498 => ?_)
              refine w_aload_n gz_49_106 rfl ?_
              refine w_inv (k := 3) (as := []) (r := []) (x := 82) (ls0 := [(2, 82), (9, 0), (9, 0), (9, 0)]) gz_49_107 gm_52 rfl is_82 rd_5 rfl rfl rfl rfl rfl (c_Reader_readCut_f0 (d := d)  (wv := wv) (((my_fr.at frh493 is_82 rfl).trans cf).trans (by omega)) (by first | assumption | omega) (by first | assumption | omega) Ln_h493 Sp_h493 St5_h493 (fun h499 frh499 w500 w501 Ln_h499t502 Sp_h499t503 => ?_) (fun h504 frh504 w505 Ln_h504t506 Sp_h504t507 => ?_))
              ·
                have gh499 : my_fr [(4, 4), (4, 5), (4, 6), (4, 7), (4, 8), (4, 9), (5, 5), (5, 6), (5, 7), (5, 8), (5, 9), (32, -1), (33, -1), (34, -1), (35, -1), (36, -1), (37, -1), (38, -1), (39, -1)] h h499 := my_fr.tr gh493 (frh499.mo rfl)
                show wp l rho (d + 8) 49 110 [(2, 82), (0, 0), (0, 1), (0, 1), (0, 1), (0, 1)] [] h499 Q
                refine w_goto (t := 140) gz_49_110 rfl ?_
                have c508 := (rfl : h499 82 9 = h499 82 9)
                exact w_vret gz_49_140 gm_49 (k0 h499 (gh499) (by omega) (by omega) Ln_h499t502 Sp_h499t503)
              ·
                have gh504 : my_fr [(4, 4), (4, 5), (4, 6), (4, 7), (4, 8), (4, 9), (5, 5), (5, 6), (5, 7), (5, 8), (5, 9), (32, -1), (33, -1), (34, -1), (35, -1), (36, -1), (37, -1), (38, -1), (39, -1)] h h504 := my_fr.tr gh493 (frh504.mo rfl)
                show wp l rho (d + 8) 49 110 [(2, 82), (0, 0), (0, 1), (0, 1), (0, 1), (0, 1)] [] h504 Q
                refine w_goto (t := 140) gz_49_110 rfl ?_
                have c509 := w505
                exact w_vret gz_49_140 gm_49 (k1 h504 (gh504) (by omega) Ln_h504t506 Sp_h504t507)
            ·
              refine w_aload_n gz_49_81 rfl ?_
              refine w_iconst gz_49_82 (by decide) ?_
              refine w_inv (k := 0) (as := [(0, 5)]) (r := []) (x := 82) (ls0 := [(2, 82), (0, 5)]) gz_49_83 gm_42 rfl is_82 rd_5 rfl rfl rfl rfl rfl ?_
              refine w_aload_n gz_42_0 rfl ?_
              refine v_getI (j := 9) gz_42_1 rfl is_82 rd_5 rfl (fun v510 ev510 pv510 qv510 => ?_)
              have zv510 := ev510.trans cf
              refine w_ifne (t := 20) gz_42_4 rfl (fun u511 => by exfalso; omega) (fun u511 => ?_)
              refine w_aload_n gz_42_7 rfl ?_
              refine w_iload_n gz_42_8 rfl ?_
              refine w_bipush gz_42_9 (by decide) ?_
              refine w_aload_n gz_42_11 rfl ?_
              refine v_getI (j := 7) gz_42_12 rfl is_82 rd_5 rfl (fun v512 ev512 pv512 qv512 => ?_)
              refine w_imul gz_42_15 ⟨by omega, by omega⟩ ?_
              refine w_iadd gz_42_16 ⟨by omega, by omega⟩ ?_
              refine v_putI (j := 9) gz_42_17 rfl is_82 rd_5 rfl (by omega) (by omega) rfl (fun h513 fh513 => ?_)
              have gh513 : my_fr [(4, 4), (4, 5), (4, 6), (4, 7), (4, 8), (4, 9), (5, 5), (5, 6), (5, 7), (5, 8), (5, 9), (32, -1), (33, -1), (34, -1), (35, -1), (36, -1), (37, -1), (38, -1), (39, -1)] h h513 := my_fr.up my_fr.rf is_82 fh513 rfl
              have Ln_h513 : Ln h513 := Ln_ag (my_ag.up fh513 is_82 rfl) n_Ln
              have Sp_h513 : Sp h513 wv := Sp_ag (my_ag.up fh513 is_82 rfl) hwv n_Ln n_Sp
              refine w_vret gz_42_20 gm_42 ?_
              show wp l rho (d + 8) 49 86 [(2, 82), (0, 0), (0, 1), (0, 1), (0, 1), (0, 1)] [] h513 Q
              have c514 := (my_up_self fh513)
              exact w_vret gz_49_86 gm_49 (k0 h513 (gh513) (by omega) (by omega) Ln_h513 Sp_h513)
  ·
    show wp l rho (d + 8) 49 6 [(2, 82), (9, 0), (9, 0), (9, 0), (9, 0), (9, 0)] [(0, 1)] h Q
    refine w_istore_n (ls' := [(2, 82), (0, 1), (9, 0), (9, 0), (9, 0), (9, 0)]) gz_49_6 gm_49 rfl rfl rfl ?_
    refine w_aload_n gz_49_7 rfl ?_
    refine w_ldcS gz_49_8 (by decide) ?_
    refine w_inv (k := 1) (as := [(3, ((5 : Nat) : Int))]) (r := []) (x := 82) (ls0 := [(2, 82), (3, ((5 : Nat) : Int)), (9, 0)]) gz_49_10 gm_41 rfl is_82 rd_5 rfl rfl rfl rfl rfl (c_Reader_isWord_f0 (d := (d + 3)) (x1 := ((5 : Nat) : Int)) (by decide) (cf.trans (by omega)) (fun w515 => ?_) (fun w516 w517 => ?_))
    ·
      show wp l rho (d + 8) 49 13 [(2, 82), (0, 1), (9, 0), (9, 0), (9, 0), (9, 0)] [(0, 0)] h Q
      refine w_istore_n (ls' := [(2, 82), (0, 1), (0, 0), (9, 0), (9, 0), (9, 0)]) gz_49_13 gm_49 rfl rfl rfl ?_
      refine w_aload_n gz_49_14 rfl ?_
      refine w_ldcS gz_49_15 (by decide) ?_
      refine w_inv (k := 1) (as := [(3, ((6 : Nat) : Int))]) (r := []) (x := 82) (ls0 := [(2, 82), (3, ((6 : Nat) : Int)), (9, 0)]) gz_49_17 gm_41 rfl is_82 rd_5 rfl rfl rfl rfl rfl (c_Reader_isWord_f0 (d := (d + 3)) (x1 := ((6 : Nat) : Int)) (by decide) (cf.trans (by omega)) (fun w518 => ?_) (fun w519 w520 => ?_))
      ·
        show wp l rho (d + 8) 49 20 [(2, 82), (0, 1), (0, 0), (9, 0), (9, 0), (9, 0)] [(0, 0)] h Q
        refine w_istore_n (ls' := [(2, 82), (0, 1), (0, 0), (0, 0), (9, 0), (9, 0)]) gz_49_20 gm_49 rfl rfl rfl ?_
        refine w_aload_n gz_49_21 rfl ?_
        refine w_ldcS gz_49_22 (by decide) ?_
        refine w_inv (k := 1) (as := [(3, ((7 : Nat) : Int))]) (r := []) (x := 82) (ls0 := [(2, 82), (3, ((7 : Nat) : Int)), (9, 0)]) gz_49_24 gm_41 rfl is_82 rd_5 rfl rfl rfl rfl rfl (c_Reader_isWord_f0 (d := (d + 3)) (x1 := ((7 : Nat) : Int)) (by decide) (cf.trans (by omega)) (fun w521 => ?_) (fun w522 w523 => ?_))
        ·
          show wp l rho (d + 8) 49 27 [(2, 82), (0, 1), (0, 0), (0, 0), (9, 0), (9, 0)] [(0, 0)] h Q
          refine w_istore (ls' := [(2, 82), (0, 1), (0, 0), (0, 0), (0, 0), (9, 0)]) gz_49_27 gm_49 rfl rfl rfl ?_
          refine w_aload_n gz_49_29 rfl ?_
          refine w_ldcS gz_49_30 (by decide) ?_
          refine w_inv (k := 1) (as := [(3, ((8 : Nat) : Int))]) (r := []) (x := 82) (ls0 := [(2, 82), (3, ((8 : Nat) : Int)), (9, 0)]) gz_49_32 gm_41 rfl is_82 rd_5 rfl rfl rfl rfl rfl (c_Reader_isWord_f0 (d := (d + 3)) (x1 := ((8 : Nat) : Int)) (by decide) (cf.trans (by omega)) (fun w524 => ?_) (fun w525 w526 => ?_))
          ·
            show wp l rho (d + 8) 49 35 [(2, 82), (0, 1), (0, 0), (0, 0), (0, 0), (9, 0)] [(0, 0)] h Q
            refine w_istore (ls' := [(2, 82), (0, 1), (0, 0), (0, 0), (0, 0), (0, 0)]) gz_49_35 gm_49 rfl rfl rfl ?_
            refine w_iload_n gz_49_37 rfl ?_
            refine w_ifne (t := 65) gz_49_38 rfl (fun u527 => ?_) (fun u527 => by exfalso; omega)
            refine w_iload_n gz_49_65 rfl ?_
            refine w_ifne (t := 87) gz_49_66 rfl (fun u528 => ?_) (fun u528 => by exfalso; omega)
            refine w_aload_n gz_49_87 rfl ?_
            refine w_inv (k := 2) (as := []) (r := []) (x := 82) (ls0 := [(2, 82), (9, 0), (9, 0)]) gz_49_88 gm_37 rfl is_82 rd_5 rfl rfl rfl rfl rfl (c_Reader_nextToken_f0 (d := (d + 6))  (cf.trans (by omega)) (fun h529 frh529 w530 w531 w532 => ?_))
            have gh529 : my_fr [(4, 4), (4, 5), (4, 6), (4, 7), (4, 8), (4, 9), (5, 5), (5, 6), (5, 7), (5, 8), (5, 9), (32, -1), (33, -1), (34, -1), (35, -1), (36, -1), (37, -1), (38, -1), (39, -1)] h h529 := my_fr.tr my_fr.rf (frh529.mo rfl)
            have Ln_h529 : Ln h529 := Ln_ag (my_ag.fr frh529 rfl) n_Ln
            have Sp_h529 : Sp h529 wv := Sp_ag (my_ag.fr frh529 rfl) hwv n_Ln n_Sp
            show wp l rho (d + 8) 49 91 [(2, 82), (0, 1), (0, 0), (0, 0), (0, 0), (0, 0)] [] h529 Q
            refine w_iload_n gz_49_91 rfl ?_
            refine w_ifeq (t := 102) gz_49_92 rfl (fun u533 => by exfalso; omega) (fun u533 => ?_)
            refine w_aload_n gz_49_95 rfl ?_
            refine w_inv (k := 2) (as := []) (r := []) (x := 82) (ls0 := [(2, 82), (9, 0), (9, 0)]) gz_49_96 gm_50 rfl is_82 rd_5 rfl rfl rfl rfl rfl (c_Reader_readFill_f0 (d := (d + 4))  (((my_fr.at frh529 is_82 rfl).trans cf).trans (by omega)) (fun h534 frh534 w535 w536 => ?_) (fun h537 frh537 w538 => ?_))
            ·
              have gh534 : my_fr [(4, 4), (4, 5), (4, 6), (4, 7), (4, 8), (4, 9), (5, 5), (5, 6), (5, 7), (5, 8), (5, 9), (32, -1), (33, -1), (34, -1), (35, -1), (36, -1), (37, -1), (38, -1), (39, -1)] h h534 := my_fr.tr gh529 (frh534.mo rfl)
              have Ln_h534 : Ln h534 := Ln_ag (my_ag.fr frh534 rfl) Ln_h529
              have Sp_h534 : Sp h534 wv := Sp_ag (my_ag.fr frh534 rfl) hwv Ln_h529 Sp_h529
              show wp l rho (d + 8) 49 99 [(2, 82), (0, 1), (0, 0), (0, 0), (0, 0), (0, 0)] [] h534 Q
              refine w_goto (t := 140) gz_49_99 rfl ?_
              have c539 := (rfl : h534 82 9 = h534 82 9)
              exact w_vret gz_49_140 gm_49 (k0 h534 (gh534) (by omega) (by omega) Ln_h534 Sp_h534)
            ·
              have gh537 : my_fr [(4, 4), (4, 5), (4, 6), (4, 7), (4, 8), (4, 9), (5, 5), (5, 6), (5, 7), (5, 8), (5, 9), (32, -1), (33, -1), (34, -1), (35, -1), (36, -1), (37, -1), (38, -1), (39, -1)] h h537 := my_fr.tr gh529 (frh537.mo rfl)
              have Ln_h537 : Ln h537 := Ln_ag (my_ag.fr frh537 rfl) Ln_h529
              have Sp_h537 : Sp h537 wv := Sp_ag (my_ag.fr frh537 rfl) hwv Ln_h529 Sp_h529
              show wp l rho (d + 8) 49 99 [(2, 82), (0, 1), (0, 0), (0, 0), (0, 0), (0, 0)] [] h537 Q
              refine w_goto (t := 140) gz_49_99 rfl ?_
              have c540 := w538
              exact w_vret gz_49_140 gm_49 (k1 h537 (gh537) (by omega) Ln_h537 Sp_h537)
          ·
            show wp l rho (d + 8) 49 35 [(2, 82), (0, 1), (0, 0), (0, 0), (0, 0), (9, 0)] [(0, 1)] h Q
            refine w_istore (ls' := [(2, 82), (0, 1), (0, 0), (0, 0), (0, 0), (0, 1)]) gz_49_35 gm_49 rfl rfl rfl ?_
            refine w_iload_n gz_49_37 rfl ?_
            refine w_ifne (t := 65) gz_49_38 rfl (fun u541 => ?_) (fun u541 => by exfalso; omega)
            refine w_iload_n gz_49_65 rfl ?_
            refine w_ifne (t := 87) gz_49_66 rfl (fun u542 => ?_) (fun u542 => by exfalso; omega)
            refine w_aload_n gz_49_87 rfl ?_
            refine w_inv (k := 2) (as := []) (r := []) (x := 82) (ls0 := [(2, 82), (9, 0), (9, 0)]) gz_49_88 gm_37 rfl is_82 rd_5 rfl rfl rfl rfl rfl (c_Reader_nextToken_f0 (d := (d + 6))  (cf.trans (by omega)) (fun h543 frh543 w544 w545 w546 => ?_))
            have gh543 : my_fr [(4, 4), (4, 5), (4, 6), (4, 7), (4, 8), (4, 9), (5, 5), (5, 6), (5, 7), (5, 8), (5, 9), (32, -1), (33, -1), (34, -1), (35, -1), (36, -1), (37, -1), (38, -1), (39, -1)] h h543 := my_fr.tr my_fr.rf (frh543.mo rfl)
            have Ln_h543 : Ln h543 := Ln_ag (my_ag.fr frh543 rfl) n_Ln
            have Sp_h543 : Sp h543 wv := Sp_ag (my_ag.fr frh543 rfl) hwv n_Ln n_Sp
            show wp l rho (d + 8) 49 91 [(2, 82), (0, 1), (0, 0), (0, 0), (0, 0), (0, 1)] [] h543 Q
            refine w_iload_n gz_49_91 rfl ?_
            refine w_ifeq (t := 102) gz_49_92 rfl (fun u547 => by exfalso; omega) (fun u547 => ?_)
            refine w_aload_n gz_49_95 rfl ?_
            refine w_inv (k := 2) (as := []) (r := []) (x := 82) (ls0 := [(2, 82), (9, 0), (9, 0)]) gz_49_96 gm_50 rfl is_82 rd_5 rfl rfl rfl rfl rfl (c_Reader_readFill_f0 (d := (d + 4))  (((my_fr.at frh543 is_82 rfl).trans cf).trans (by omega)) (fun h548 frh548 w549 w550 => ?_) (fun h551 frh551 w552 => ?_))
            ·
              have gh548 : my_fr [(4, 4), (4, 5), (4, 6), (4, 7), (4, 8), (4, 9), (5, 5), (5, 6), (5, 7), (5, 8), (5, 9), (32, -1), (33, -1), (34, -1), (35, -1), (36, -1), (37, -1), (38, -1), (39, -1)] h h548 := my_fr.tr gh543 (frh548.mo rfl)
              have Ln_h548 : Ln h548 := Ln_ag (my_ag.fr frh548 rfl) Ln_h543
              have Sp_h548 : Sp h548 wv := Sp_ag (my_ag.fr frh548 rfl) hwv Ln_h543 Sp_h543
              show wp l rho (d + 8) 49 99 [(2, 82), (0, 1), (0, 0), (0, 0), (0, 0), (0, 1)] [] h548 Q
              refine w_goto (t := 140) gz_49_99 rfl ?_
              have c553 := (rfl : h548 82 9 = h548 82 9)
              exact w_vret gz_49_140 gm_49 (k0 h548 (gh548) (by omega) (by omega) Ln_h548 Sp_h548)
            ·
              have gh551 : my_fr [(4, 4), (4, 5), (4, 6), (4, 7), (4, 8), (4, 9), (5, 5), (5, 6), (5, 7), (5, 8), (5, 9), (32, -1), (33, -1), (34, -1), (35, -1), (36, -1), (37, -1), (38, -1), (39, -1)] h h551 := my_fr.tr gh543 (frh551.mo rfl)
              have Ln_h551 : Ln h551 := Ln_ag (my_ag.fr frh551 rfl) Ln_h543
              have Sp_h551 : Sp h551 wv := Sp_ag (my_ag.fr frh551 rfl) hwv Ln_h543 Sp_h543
              show wp l rho (d + 8) 49 99 [(2, 82), (0, 1), (0, 0), (0, 0), (0, 0), (0, 1)] [] h551 Q
              refine w_goto (t := 140) gz_49_99 rfl ?_
              have c554 := w552
              exact w_vret gz_49_140 gm_49 (k1 h551 (gh551) (by omega) Ln_h551 Sp_h551)
        ·
          show wp l rho (d + 8) 49 27 [(2, 82), (0, 1), (0, 0), (0, 0), (9, 0), (9, 0)] [(0, 1)] h Q
          refine w_istore (ls' := [(2, 82), (0, 1), (0, 0), (0, 0), (0, 1), (9, 0)]) gz_49_27 gm_49 rfl rfl rfl ?_
          refine w_aload_n gz_49_29 rfl ?_
          refine w_ldcS gz_49_30 (by decide) ?_
          refine w_inv (k := 1) (as := [(3, ((8 : Nat) : Int))]) (r := []) (x := 82) (ls0 := [(2, 82), (3, ((8 : Nat) : Int)), (9, 0)]) gz_49_32 gm_41 rfl is_82 rd_5 rfl rfl rfl rfl rfl (c_Reader_isWord_f0 (d := (d + 3)) (x1 := ((8 : Nat) : Int)) (by decide) (cf.trans (by omega)) (fun w555 => ?_) (fun w556 w557 => ?_))
          ·
            show wp l rho (d + 8) 49 35 [(2, 82), (0, 1), (0, 0), (0, 0), (0, 1), (9, 0)] [(0, 0)] h Q
            refine w_istore (ls' := [(2, 82), (0, 1), (0, 0), (0, 0), (0, 1), (0, 0)]) gz_49_35 gm_49 rfl rfl rfl ?_
            refine w_iload_n gz_49_37 rfl ?_
            refine w_ifne (t := 65) gz_49_38 rfl (fun u558 => ?_) (fun u558 => by exfalso; omega)
            refine w_iload_n gz_49_65 rfl ?_
            refine w_ifne (t := 87) gz_49_66 rfl (fun u559 => ?_) (fun u559 => by exfalso; omega)
            refine w_aload_n gz_49_87 rfl ?_
            refine w_inv (k := 2) (as := []) (r := []) (x := 82) (ls0 := [(2, 82), (9, 0), (9, 0)]) gz_49_88 gm_37 rfl is_82 rd_5 rfl rfl rfl rfl rfl (c_Reader_nextToken_f0 (d := (d + 6))  (cf.trans (by omega)) (fun h560 frh560 w561 w562 w563 => ?_))
            have gh560 : my_fr [(4, 4), (4, 5), (4, 6), (4, 7), (4, 8), (4, 9), (5, 5), (5, 6), (5, 7), (5, 8), (5, 9), (32, -1), (33, -1), (34, -1), (35, -1), (36, -1), (37, -1), (38, -1), (39, -1)] h h560 := my_fr.tr my_fr.rf (frh560.mo rfl)
            have Ln_h560 : Ln h560 := Ln_ag (my_ag.fr frh560 rfl) n_Ln
            have Sp_h560 : Sp h560 wv := Sp_ag (my_ag.fr frh560 rfl) hwv n_Ln n_Sp
            show wp l rho (d + 8) 49 91 [(2, 82), (0, 1), (0, 0), (0, 0), (0, 1), (0, 0)] [] h560 Q
            refine w_iload_n gz_49_91 rfl ?_
            refine w_ifeq (t := 102) gz_49_92 rfl (fun u564 => by exfalso; omega) (fun u564 => ?_)
            refine w_aload_n gz_49_95 rfl ?_
            refine w_inv (k := 2) (as := []) (r := []) (x := 82) (ls0 := [(2, 82), (9, 0), (9, 0)]) gz_49_96 gm_50 rfl is_82 rd_5 rfl rfl rfl rfl rfl (c_Reader_readFill_f0 (d := (d + 4))  (((my_fr.at frh560 is_82 rfl).trans cf).trans (by omega)) (fun h565 frh565 w566 w567 => ?_) (fun h568 frh568 w569 => ?_))
            ·
              have gh565 : my_fr [(4, 4), (4, 5), (4, 6), (4, 7), (4, 8), (4, 9), (5, 5), (5, 6), (5, 7), (5, 8), (5, 9), (32, -1), (33, -1), (34, -1), (35, -1), (36, -1), (37, -1), (38, -1), (39, -1)] h h565 := my_fr.tr gh560 (frh565.mo rfl)
              have Ln_h565 : Ln h565 := Ln_ag (my_ag.fr frh565 rfl) Ln_h560
              have Sp_h565 : Sp h565 wv := Sp_ag (my_ag.fr frh565 rfl) hwv Ln_h560 Sp_h560
              show wp l rho (d + 8) 49 99 [(2, 82), (0, 1), (0, 0), (0, 0), (0, 1), (0, 0)] [] h565 Q
              refine w_goto (t := 140) gz_49_99 rfl ?_
              have c570 := (rfl : h565 82 9 = h565 82 9)
              exact w_vret gz_49_140 gm_49 (k0 h565 (gh565) (by omega) (by omega) Ln_h565 Sp_h565)
            ·
              have gh568 : my_fr [(4, 4), (4, 5), (4, 6), (4, 7), (4, 8), (4, 9), (5, 5), (5, 6), (5, 7), (5, 8), (5, 9), (32, -1), (33, -1), (34, -1), (35, -1), (36, -1), (37, -1), (38, -1), (39, -1)] h h568 := my_fr.tr gh560 (frh568.mo rfl)
              have Ln_h568 : Ln h568 := Ln_ag (my_ag.fr frh568 rfl) Ln_h560
              have Sp_h568 : Sp h568 wv := Sp_ag (my_ag.fr frh568 rfl) hwv Ln_h560 Sp_h560
              show wp l rho (d + 8) 49 99 [(2, 82), (0, 1), (0, 0), (0, 0), (0, 1), (0, 0)] [] h568 Q
              refine w_goto (t := 140) gz_49_99 rfl ?_
              have c571 := w569
              exact w_vret gz_49_140 gm_49 (k1 h568 (gh568) (by omega) Ln_h568 Sp_h568)
          ·
            show wp l rho (d + 8) 49 35 [(2, 82), (0, 1), (0, 0), (0, 0), (0, 1), (9, 0)] [(0, 1)] h Q
            refine w_istore (ls' := [(2, 82), (0, 1), (0, 0), (0, 0), (0, 1), (0, 1)]) gz_49_35 gm_49 rfl rfl rfl ?_
            refine w_iload_n gz_49_37 rfl ?_
            refine w_ifne (t := 65) gz_49_38 rfl (fun u572 => ?_) (fun u572 => by exfalso; omega)
            refine w_iload_n gz_49_65 rfl ?_
            refine w_ifne (t := 87) gz_49_66 rfl (fun u573 => ?_) (fun u573 => by exfalso; omega)
            refine w_aload_n gz_49_87 rfl ?_
            refine w_inv (k := 2) (as := []) (r := []) (x := 82) (ls0 := [(2, 82), (9, 0), (9, 0)]) gz_49_88 gm_37 rfl is_82 rd_5 rfl rfl rfl rfl rfl (c_Reader_nextToken_f0 (d := (d + 6))  (cf.trans (by omega)) (fun h574 frh574 w575 w576 w577 => ?_))
            have gh574 : my_fr [(4, 4), (4, 5), (4, 6), (4, 7), (4, 8), (4, 9), (5, 5), (5, 6), (5, 7), (5, 8), (5, 9), (32, -1), (33, -1), (34, -1), (35, -1), (36, -1), (37, -1), (38, -1), (39, -1)] h h574 := my_fr.tr my_fr.rf (frh574.mo rfl)
            have Ln_h574 : Ln h574 := Ln_ag (my_ag.fr frh574 rfl) n_Ln
            have Sp_h574 : Sp h574 wv := Sp_ag (my_ag.fr frh574 rfl) hwv n_Ln n_Sp
            show wp l rho (d + 8) 49 91 [(2, 82), (0, 1), (0, 0), (0, 0), (0, 1), (0, 1)] [] h574 Q
            refine w_iload_n gz_49_91 rfl ?_
            refine w_ifeq (t := 102) gz_49_92 rfl (fun u578 => by exfalso; omega) (fun u578 => ?_)
            refine w_aload_n gz_49_95 rfl ?_
            refine w_inv (k := 2) (as := []) (r := []) (x := 82) (ls0 := [(2, 82), (9, 0), (9, 0)]) gz_49_96 gm_50 rfl is_82 rd_5 rfl rfl rfl rfl rfl (c_Reader_readFill_f0 (d := (d + 4))  (((my_fr.at frh574 is_82 rfl).trans cf).trans (by omega)) (fun h579 frh579 w580 w581 => ?_) (fun h582 frh582 w583 => ?_))
            ·
              have gh579 : my_fr [(4, 4), (4, 5), (4, 6), (4, 7), (4, 8), (4, 9), (5, 5), (5, 6), (5, 7), (5, 8), (5, 9), (32, -1), (33, -1), (34, -1), (35, -1), (36, -1), (37, -1), (38, -1), (39, -1)] h h579 := my_fr.tr gh574 (frh579.mo rfl)
              have Ln_h579 : Ln h579 := Ln_ag (my_ag.fr frh579 rfl) Ln_h574
              have Sp_h579 : Sp h579 wv := Sp_ag (my_ag.fr frh579 rfl) hwv Ln_h574 Sp_h574
              show wp l rho (d + 8) 49 99 [(2, 82), (0, 1), (0, 0), (0, 0), (0, 1), (0, 1)] [] h579 Q
              refine w_goto (t := 140) gz_49_99 rfl ?_
              have c584 := (rfl : h579 82 9 = h579 82 9)
              exact w_vret gz_49_140 gm_49 (k0 h579 (gh579) (by omega) (by omega) Ln_h579 Sp_h579)
            ·
              have gh582 : my_fr [(4, 4), (4, 5), (4, 6), (4, 7), (4, 8), (4, 9), (5, 5), (5, 6), (5, 7), (5, 8), (5, 9), (32, -1), (33, -1), (34, -1), (35, -1), (36, -1), (37, -1), (38, -1), (39, -1)] h h582 := my_fr.tr gh574 (frh582.mo rfl)
              have Ln_h582 : Ln h582 := Ln_ag (my_ag.fr frh582 rfl) Ln_h574
              have Sp_h582 : Sp h582 wv := Sp_ag (my_ag.fr frh582 rfl) hwv Ln_h574 Sp_h574
              show wp l rho (d + 8) 49 99 [(2, 82), (0, 1), (0, 0), (0, 0), (0, 1), (0, 1)] [] h582 Q
              refine w_goto (t := 140) gz_49_99 rfl ?_
              have c585 := w583
              exact w_vret gz_49_140 gm_49 (k1 h582 (gh582) (by omega) Ln_h582 Sp_h582)
      ·
        show wp l rho (d + 8) 49 20 [(2, 82), (0, 1), (0, 0), (9, 0), (9, 0), (9, 0)] [(0, 1)] h Q
        refine w_istore_n (ls' := [(2, 82), (0, 1), (0, 0), (0, 1), (9, 0), (9, 0)]) gz_49_20 gm_49 rfl rfl rfl ?_
        refine w_aload_n gz_49_21 rfl ?_
        refine w_ldcS gz_49_22 (by decide) ?_
        refine w_inv (k := 1) (as := [(3, ((7 : Nat) : Int))]) (r := []) (x := 82) (ls0 := [(2, 82), (3, ((7 : Nat) : Int)), (9, 0)]) gz_49_24 gm_41 rfl is_82 rd_5 rfl rfl rfl rfl rfl (c_Reader_isWord_f0 (d := (d + 3)) (x1 := ((7 : Nat) : Int)) (by decide) (cf.trans (by omega)) (fun w586 => ?_) (fun w587 w588 => ?_))
        ·
          show wp l rho (d + 8) 49 27 [(2, 82), (0, 1), (0, 0), (0, 1), (9, 0), (9, 0)] [(0, 0)] h Q
          refine w_istore (ls' := [(2, 82), (0, 1), (0, 0), (0, 1), (0, 0), (9, 0)]) gz_49_27 gm_49 rfl rfl rfl ?_
          refine w_aload_n gz_49_29 rfl ?_
          refine w_ldcS gz_49_30 (by decide) ?_
          refine w_inv (k := 1) (as := [(3, ((8 : Nat) : Int))]) (r := []) (x := 82) (ls0 := [(2, 82), (3, ((8 : Nat) : Int)), (9, 0)]) gz_49_32 gm_41 rfl is_82 rd_5 rfl rfl rfl rfl rfl (c_Reader_isWord_f0 (d := (d + 3)) (x1 := ((8 : Nat) : Int)) (by decide) (cf.trans (by omega)) (fun w589 => ?_) (fun w590 w591 => ?_))
          ·
            show wp l rho (d + 8) 49 35 [(2, 82), (0, 1), (0, 0), (0, 1), (0, 0), (9, 0)] [(0, 0)] h Q
            refine w_istore (ls' := [(2, 82), (0, 1), (0, 0), (0, 1), (0, 0), (0, 0)]) gz_49_35 gm_49 rfl rfl rfl ?_
            refine w_iload_n gz_49_37 rfl ?_
            refine w_ifne (t := 65) gz_49_38 rfl (fun u592 => ?_) (fun u592 => by exfalso; omega)
            refine w_iload_n gz_49_65 rfl ?_
            refine w_ifne (t := 87) gz_49_66 rfl (fun u593 => ?_) (fun u593 => by exfalso; omega)
            refine w_aload_n gz_49_87 rfl ?_
            refine w_inv (k := 2) (as := []) (r := []) (x := 82) (ls0 := [(2, 82), (9, 0), (9, 0)]) gz_49_88 gm_37 rfl is_82 rd_5 rfl rfl rfl rfl rfl (c_Reader_nextToken_f0 (d := (d + 6))  (cf.trans (by omega)) (fun h594 frh594 w595 w596 w597 => ?_))
            have gh594 : my_fr [(4, 4), (4, 5), (4, 6), (4, 7), (4, 8), (4, 9), (5, 5), (5, 6), (5, 7), (5, 8), (5, 9), (32, -1), (33, -1), (34, -1), (35, -1), (36, -1), (37, -1), (38, -1), (39, -1)] h h594 := my_fr.tr my_fr.rf (frh594.mo rfl)
            have Ln_h594 : Ln h594 := Ln_ag (my_ag.fr frh594 rfl) n_Ln
            have Sp_h594 : Sp h594 wv := Sp_ag (my_ag.fr frh594 rfl) hwv n_Ln n_Sp
            show wp l rho (d + 8) 49 91 [(2, 82), (0, 1), (0, 0), (0, 1), (0, 0), (0, 0)] [] h594 Q
            refine w_iload_n gz_49_91 rfl ?_
            refine w_ifeq (t := 102) gz_49_92 rfl (fun u598 => by exfalso; omega) (fun u598 => ?_)
            refine w_aload_n gz_49_95 rfl ?_
            refine w_inv (k := 2) (as := []) (r := []) (x := 82) (ls0 := [(2, 82), (9, 0), (9, 0)]) gz_49_96 gm_50 rfl is_82 rd_5 rfl rfl rfl rfl rfl (c_Reader_readFill_f0 (d := (d + 4))  (((my_fr.at frh594 is_82 rfl).trans cf).trans (by omega)) (fun h599 frh599 w600 w601 => ?_) (fun h602 frh602 w603 => ?_))
            ·
              have gh599 : my_fr [(4, 4), (4, 5), (4, 6), (4, 7), (4, 8), (4, 9), (5, 5), (5, 6), (5, 7), (5, 8), (5, 9), (32, -1), (33, -1), (34, -1), (35, -1), (36, -1), (37, -1), (38, -1), (39, -1)] h h599 := my_fr.tr gh594 (frh599.mo rfl)
              have Ln_h599 : Ln h599 := Ln_ag (my_ag.fr frh599 rfl) Ln_h594
              have Sp_h599 : Sp h599 wv := Sp_ag (my_ag.fr frh599 rfl) hwv Ln_h594 Sp_h594
              show wp l rho (d + 8) 49 99 [(2, 82), (0, 1), (0, 0), (0, 1), (0, 0), (0, 0)] [] h599 Q
              refine w_goto (t := 140) gz_49_99 rfl ?_
              have c604 := (rfl : h599 82 9 = h599 82 9)
              exact w_vret gz_49_140 gm_49 (k0 h599 (gh599) (by omega) (by omega) Ln_h599 Sp_h599)
            ·
              have gh602 : my_fr [(4, 4), (4, 5), (4, 6), (4, 7), (4, 8), (4, 9), (5, 5), (5, 6), (5, 7), (5, 8), (5, 9), (32, -1), (33, -1), (34, -1), (35, -1), (36, -1), (37, -1), (38, -1), (39, -1)] h h602 := my_fr.tr gh594 (frh602.mo rfl)
              have Ln_h602 : Ln h602 := Ln_ag (my_ag.fr frh602 rfl) Ln_h594
              have Sp_h602 : Sp h602 wv := Sp_ag (my_ag.fr frh602 rfl) hwv Ln_h594 Sp_h594
              show wp l rho (d + 8) 49 99 [(2, 82), (0, 1), (0, 0), (0, 1), (0, 0), (0, 0)] [] h602 Q
              refine w_goto (t := 140) gz_49_99 rfl ?_
              have c605 := w603
              exact w_vret gz_49_140 gm_49 (k1 h602 (gh602) (by omega) Ln_h602 Sp_h602)
          ·
            show wp l rho (d + 8) 49 35 [(2, 82), (0, 1), (0, 0), (0, 1), (0, 0), (9, 0)] [(0, 1)] h Q
            refine w_istore (ls' := [(2, 82), (0, 1), (0, 0), (0, 1), (0, 0), (0, 1)]) gz_49_35 gm_49 rfl rfl rfl ?_
            refine w_iload_n gz_49_37 rfl ?_
            refine w_ifne (t := 65) gz_49_38 rfl (fun u606 => ?_) (fun u606 => by exfalso; omega)
            refine w_iload_n gz_49_65 rfl ?_
            refine w_ifne (t := 87) gz_49_66 rfl (fun u607 => ?_) (fun u607 => by exfalso; omega)
            refine w_aload_n gz_49_87 rfl ?_
            refine w_inv (k := 2) (as := []) (r := []) (x := 82) (ls0 := [(2, 82), (9, 0), (9, 0)]) gz_49_88 gm_37 rfl is_82 rd_5 rfl rfl rfl rfl rfl (c_Reader_nextToken_f0 (d := (d + 6))  (cf.trans (by omega)) (fun h608 frh608 w609 w610 w611 => ?_))
            have gh608 : my_fr [(4, 4), (4, 5), (4, 6), (4, 7), (4, 8), (4, 9), (5, 5), (5, 6), (5, 7), (5, 8), (5, 9), (32, -1), (33, -1), (34, -1), (35, -1), (36, -1), (37, -1), (38, -1), (39, -1)] h h608 := my_fr.tr my_fr.rf (frh608.mo rfl)
            have Ln_h608 : Ln h608 := Ln_ag (my_ag.fr frh608 rfl) n_Ln
            have Sp_h608 : Sp h608 wv := Sp_ag (my_ag.fr frh608 rfl) hwv n_Ln n_Sp
            show wp l rho (d + 8) 49 91 [(2, 82), (0, 1), (0, 0), (0, 1), (0, 0), (0, 1)] [] h608 Q
            refine w_iload_n gz_49_91 rfl ?_
            refine w_ifeq (t := 102) gz_49_92 rfl (fun u612 => by exfalso; omega) (fun u612 => ?_)
            refine w_aload_n gz_49_95 rfl ?_
            refine w_inv (k := 2) (as := []) (r := []) (x := 82) (ls0 := [(2, 82), (9, 0), (9, 0)]) gz_49_96 gm_50 rfl is_82 rd_5 rfl rfl rfl rfl rfl (c_Reader_readFill_f0 (d := (d + 4))  (((my_fr.at frh608 is_82 rfl).trans cf).trans (by omega)) (fun h613 frh613 w614 w615 => ?_) (fun h616 frh616 w617 => ?_))
            ·
              have gh613 : my_fr [(4, 4), (4, 5), (4, 6), (4, 7), (4, 8), (4, 9), (5, 5), (5, 6), (5, 7), (5, 8), (5, 9), (32, -1), (33, -1), (34, -1), (35, -1), (36, -1), (37, -1), (38, -1), (39, -1)] h h613 := my_fr.tr gh608 (frh613.mo rfl)
              have Ln_h613 : Ln h613 := Ln_ag (my_ag.fr frh613 rfl) Ln_h608
              have Sp_h613 : Sp h613 wv := Sp_ag (my_ag.fr frh613 rfl) hwv Ln_h608 Sp_h608
              show wp l rho (d + 8) 49 99 [(2, 82), (0, 1), (0, 0), (0, 1), (0, 0), (0, 1)] [] h613 Q
              refine w_goto (t := 140) gz_49_99 rfl ?_
              have c618 := (rfl : h613 82 9 = h613 82 9)
              exact w_vret gz_49_140 gm_49 (k0 h613 (gh613) (by omega) (by omega) Ln_h613 Sp_h613)
            ·
              have gh616 : my_fr [(4, 4), (4, 5), (4, 6), (4, 7), (4, 8), (4, 9), (5, 5), (5, 6), (5, 7), (5, 8), (5, 9), (32, -1), (33, -1), (34, -1), (35, -1), (36, -1), (37, -1), (38, -1), (39, -1)] h h616 := my_fr.tr gh608 (frh616.mo rfl)
              have Ln_h616 : Ln h616 := Ln_ag (my_ag.fr frh616 rfl) Ln_h608
              have Sp_h616 : Sp h616 wv := Sp_ag (my_ag.fr frh616 rfl) hwv Ln_h608 Sp_h608
              show wp l rho (d + 8) 49 99 [(2, 82), (0, 1), (0, 0), (0, 1), (0, 0), (0, 1)] [] h616 Q
              refine w_goto (t := 140) gz_49_99 rfl ?_
              have c619 := w617
              exact w_vret gz_49_140 gm_49 (k1 h616 (gh616) (by omega) Ln_h616 Sp_h616)
        ·
          show wp l rho (d + 8) 49 27 [(2, 82), (0, 1), (0, 0), (0, 1), (9, 0), (9, 0)] [(0, 1)] h Q
          refine w_istore (ls' := [(2, 82), (0, 1), (0, 0), (0, 1), (0, 1), (9, 0)]) gz_49_27 gm_49 rfl rfl rfl ?_
          refine w_aload_n gz_49_29 rfl ?_
          refine w_ldcS gz_49_30 (by decide) ?_
          refine w_inv (k := 1) (as := [(3, ((8 : Nat) : Int))]) (r := []) (x := 82) (ls0 := [(2, 82), (3, ((8 : Nat) : Int)), (9, 0)]) gz_49_32 gm_41 rfl is_82 rd_5 rfl rfl rfl rfl rfl (c_Reader_isWord_f0 (d := (d + 3)) (x1 := ((8 : Nat) : Int)) (by decide) (cf.trans (by omega)) (fun w620 => ?_) (fun w621 w622 => ?_))
          ·
            show wp l rho (d + 8) 49 35 [(2, 82), (0, 1), (0, 0), (0, 1), (0, 1), (9, 0)] [(0, 0)] h Q
            refine w_istore (ls' := [(2, 82), (0, 1), (0, 0), (0, 1), (0, 1), (0, 0)]) gz_49_35 gm_49 rfl rfl rfl ?_
            refine w_iload_n gz_49_37 rfl ?_
            refine w_ifne (t := 65) gz_49_38 rfl (fun u623 => ?_) (fun u623 => by exfalso; omega)
            refine w_iload_n gz_49_65 rfl ?_
            refine w_ifne (t := 87) gz_49_66 rfl (fun u624 => ?_) (fun u624 => by exfalso; omega)
            refine w_aload_n gz_49_87 rfl ?_
            refine w_inv (k := 2) (as := []) (r := []) (x := 82) (ls0 := [(2, 82), (9, 0), (9, 0)]) gz_49_88 gm_37 rfl is_82 rd_5 rfl rfl rfl rfl rfl (c_Reader_nextToken_f0 (d := (d + 6))  (cf.trans (by omega)) (fun h625 frh625 w626 w627 w628 => ?_))
            have gh625 : my_fr [(4, 4), (4, 5), (4, 6), (4, 7), (4, 8), (4, 9), (5, 5), (5, 6), (5, 7), (5, 8), (5, 9), (32, -1), (33, -1), (34, -1), (35, -1), (36, -1), (37, -1), (38, -1), (39, -1)] h h625 := my_fr.tr my_fr.rf (frh625.mo rfl)
            have Ln_h625 : Ln h625 := Ln_ag (my_ag.fr frh625 rfl) n_Ln
            have Sp_h625 : Sp h625 wv := Sp_ag (my_ag.fr frh625 rfl) hwv n_Ln n_Sp
            show wp l rho (d + 8) 49 91 [(2, 82), (0, 1), (0, 0), (0, 1), (0, 1), (0, 0)] [] h625 Q
            refine w_iload_n gz_49_91 rfl ?_
            refine w_ifeq (t := 102) gz_49_92 rfl (fun u629 => by exfalso; omega) (fun u629 => ?_)
            refine w_aload_n gz_49_95 rfl ?_
            refine w_inv (k := 2) (as := []) (r := []) (x := 82) (ls0 := [(2, 82), (9, 0), (9, 0)]) gz_49_96 gm_50 rfl is_82 rd_5 rfl rfl rfl rfl rfl (c_Reader_readFill_f0 (d := (d + 4))  (((my_fr.at frh625 is_82 rfl).trans cf).trans (by omega)) (fun h630 frh630 w631 w632 => ?_) (fun h633 frh633 w634 => ?_))
            ·
              have gh630 : my_fr [(4, 4), (4, 5), (4, 6), (4, 7), (4, 8), (4, 9), (5, 5), (5, 6), (5, 7), (5, 8), (5, 9), (32, -1), (33, -1), (34, -1), (35, -1), (36, -1), (37, -1), (38, -1), (39, -1)] h h630 := my_fr.tr gh625 (frh630.mo rfl)
              have Ln_h630 : Ln h630 := Ln_ag (my_ag.fr frh630 rfl) Ln_h625
              have Sp_h630 : Sp h630 wv := Sp_ag (my_ag.fr frh630 rfl) hwv Ln_h625 Sp_h625
              show wp l rho (d + 8) 49 99 [(2, 82), (0, 1), (0, 0), (0, 1), (0, 1), (0, 0)] [] h630 Q
              refine w_goto (t := 140) gz_49_99 rfl ?_
              have c635 := (rfl : h630 82 9 = h630 82 9)
              exact w_vret gz_49_140 gm_49 (k0 h630 (gh630) (by omega) (by omega) Ln_h630 Sp_h630)
            ·
              have gh633 : my_fr [(4, 4), (4, 5), (4, 6), (4, 7), (4, 8), (4, 9), (5, 5), (5, 6), (5, 7), (5, 8), (5, 9), (32, -1), (33, -1), (34, -1), (35, -1), (36, -1), (37, -1), (38, -1), (39, -1)] h h633 := my_fr.tr gh625 (frh633.mo rfl)
              have Ln_h633 : Ln h633 := Ln_ag (my_ag.fr frh633 rfl) Ln_h625
              have Sp_h633 : Sp h633 wv := Sp_ag (my_ag.fr frh633 rfl) hwv Ln_h625 Sp_h625
              show wp l rho (d + 8) 49 99 [(2, 82), (0, 1), (0, 0), (0, 1), (0, 1), (0, 0)] [] h633 Q
              refine w_goto (t := 140) gz_49_99 rfl ?_
              have c636 := w634
              exact w_vret gz_49_140 gm_49 (k1 h633 (gh633) (by omega) Ln_h633 Sp_h633)
          ·
            show wp l rho (d + 8) 49 35 [(2, 82), (0, 1), (0, 0), (0, 1), (0, 1), (9, 0)] [(0, 1)] h Q
            refine w_istore (ls' := [(2, 82), (0, 1), (0, 0), (0, 1), (0, 1), (0, 1)]) gz_49_35 gm_49 rfl rfl rfl ?_
            refine w_iload_n gz_49_37 rfl ?_
            refine w_ifne (t := 65) gz_49_38 rfl (fun u637 => ?_) (fun u637 => by exfalso; omega)
            refine w_iload_n gz_49_65 rfl ?_
            refine w_ifne (t := 87) gz_49_66 rfl (fun u638 => ?_) (fun u638 => by exfalso; omega)
            refine w_aload_n gz_49_87 rfl ?_
            refine w_inv (k := 2) (as := []) (r := []) (x := 82) (ls0 := [(2, 82), (9, 0), (9, 0)]) gz_49_88 gm_37 rfl is_82 rd_5 rfl rfl rfl rfl rfl (c_Reader_nextToken_f0 (d := (d + 6))  (cf.trans (by omega)) (fun h639 frh639 w640 w641 w642 => ?_))
            have gh639 : my_fr [(4, 4), (4, 5), (4, 6), (4, 7), (4, 8), (4, 9), (5, 5), (5, 6), (5, 7), (5, 8), (5, 9), (32, -1), (33, -1), (34, -1), (35, -1), (36, -1), (37, -1), (38, -1), (39, -1)] h h639 := my_fr.tr my_fr.rf (frh639.mo rfl)
            have Ln_h639 : Ln h639 := Ln_ag (my_ag.fr frh639 rfl) n_Ln
            have Sp_h639 : Sp h639 wv := Sp_ag (my_ag.fr frh639 rfl) hwv n_Ln n_Sp
            show wp l rho (d + 8) 49 91 [(2, 82), (0, 1), (0, 0), (0, 1), (0, 1), (0, 1)] [] h639 Q
            refine w_iload_n gz_49_91 rfl ?_
            refine w_ifeq (t := 102) gz_49_92 rfl (fun u643 => by exfalso; omega) (fun u643 => ?_)
            refine w_aload_n gz_49_95 rfl ?_
            refine w_inv (k := 2) (as := []) (r := []) (x := 82) (ls0 := [(2, 82), (9, 0), (9, 0)]) gz_49_96 gm_50 rfl is_82 rd_5 rfl rfl rfl rfl rfl (c_Reader_readFill_f0 (d := (d + 4))  (((my_fr.at frh639 is_82 rfl).trans cf).trans (by omega)) (fun h644 frh644 w645 w646 => ?_) (fun h647 frh647 w648 => ?_))
            ·
              have gh644 : my_fr [(4, 4), (4, 5), (4, 6), (4, 7), (4, 8), (4, 9), (5, 5), (5, 6), (5, 7), (5, 8), (5, 9), (32, -1), (33, -1), (34, -1), (35, -1), (36, -1), (37, -1), (38, -1), (39, -1)] h h644 := my_fr.tr gh639 (frh644.mo rfl)
              have Ln_h644 : Ln h644 := Ln_ag (my_ag.fr frh644 rfl) Ln_h639
              have Sp_h644 : Sp h644 wv := Sp_ag (my_ag.fr frh644 rfl) hwv Ln_h639 Sp_h639
              show wp l rho (d + 8) 49 99 [(2, 82), (0, 1), (0, 0), (0, 1), (0, 1), (0, 1)] [] h644 Q
              refine w_goto (t := 140) gz_49_99 rfl ?_
              have c649 := (rfl : h644 82 9 = h644 82 9)
              exact w_vret gz_49_140 gm_49 (k0 h644 (gh644) (by omega) (by omega) Ln_h644 Sp_h644)
            ·
              have gh647 : my_fr [(4, 4), (4, 5), (4, 6), (4, 7), (4, 8), (4, 9), (5, 5), (5, 6), (5, 7), (5, 8), (5, 9), (32, -1), (33, -1), (34, -1), (35, -1), (36, -1), (37, -1), (38, -1), (39, -1)] h h647 := my_fr.tr gh639 (frh647.mo rfl)
              have Ln_h647 : Ln h647 := Ln_ag (my_ag.fr frh647 rfl) Ln_h639
              have Sp_h647 : Sp h647 wv := Sp_ag (my_ag.fr frh647 rfl) hwv Ln_h639 Sp_h639
              show wp l rho (d + 8) 49 99 [(2, 82), (0, 1), (0, 0), (0, 1), (0, 1), (0, 1)] [] h647 Q
              refine w_goto (t := 140) gz_49_99 rfl ?_
              have c650 := w648
              exact w_vret gz_49_140 gm_49 (k1 h647 (gh647) (by omega) Ln_h647 Sp_h647)
    ·
      show wp l rho (d + 8) 49 13 [(2, 82), (0, 1), (9, 0), (9, 0), (9, 0), (9, 0)] [(0, 1)] h Q
      refine w_istore_n (ls' := [(2, 82), (0, 1), (0, 1), (9, 0), (9, 0), (9, 0)]) gz_49_13 gm_49 rfl rfl rfl ?_
      refine w_aload_n gz_49_14 rfl ?_
      refine w_ldcS gz_49_15 (by decide) ?_
      refine w_inv (k := 1) (as := [(3, ((6 : Nat) : Int))]) (r := []) (x := 82) (ls0 := [(2, 82), (3, ((6 : Nat) : Int)), (9, 0)]) gz_49_17 gm_41 rfl is_82 rd_5 rfl rfl rfl rfl rfl (c_Reader_isWord_f0 (d := (d + 3)) (x1 := ((6 : Nat) : Int)) (by decide) (cf.trans (by omega)) (fun w651 => ?_) (fun w652 w653 => ?_))
      ·
        show wp l rho (d + 8) 49 20 [(2, 82), (0, 1), (0, 1), (9, 0), (9, 0), (9, 0)] [(0, 0)] h Q
        refine w_istore_n (ls' := [(2, 82), (0, 1), (0, 1), (0, 0), (9, 0), (9, 0)]) gz_49_20 gm_49 rfl rfl rfl ?_
        refine w_aload_n gz_49_21 rfl ?_
        refine w_ldcS gz_49_22 (by decide) ?_
        refine w_inv (k := 1) (as := [(3, ((7 : Nat) : Int))]) (r := []) (x := 82) (ls0 := [(2, 82), (3, ((7 : Nat) : Int)), (9, 0)]) gz_49_24 gm_41 rfl is_82 rd_5 rfl rfl rfl rfl rfl (c_Reader_isWord_f0 (d := (d + 3)) (x1 := ((7 : Nat) : Int)) (by decide) (cf.trans (by omega)) (fun w654 => ?_) (fun w655 w656 => ?_))
        ·
          show wp l rho (d + 8) 49 27 [(2, 82), (0, 1), (0, 1), (0, 0), (9, 0), (9, 0)] [(0, 0)] h Q
          refine w_istore (ls' := [(2, 82), (0, 1), (0, 1), (0, 0), (0, 0), (9, 0)]) gz_49_27 gm_49 rfl rfl rfl ?_
          refine w_aload_n gz_49_29 rfl ?_
          refine w_ldcS gz_49_30 (by decide) ?_
          refine w_inv (k := 1) (as := [(3, ((8 : Nat) : Int))]) (r := []) (x := 82) (ls0 := [(2, 82), (3, ((8 : Nat) : Int)), (9, 0)]) gz_49_32 gm_41 rfl is_82 rd_5 rfl rfl rfl rfl rfl (c_Reader_isWord_f0 (d := (d + 3)) (x1 := ((8 : Nat) : Int)) (by decide) (cf.trans (by omega)) (fun w657 => ?_) (fun w658 w659 => ?_))
          ·
            show wp l rho (d + 8) 49 35 [(2, 82), (0, 1), (0, 1), (0, 0), (0, 0), (9, 0)] [(0, 0)] h Q
            refine w_istore (ls' := [(2, 82), (0, 1), (0, 1), (0, 0), (0, 0), (0, 0)]) gz_49_35 gm_49 rfl rfl rfl ?_
            refine w_iload_n gz_49_37 rfl ?_
            refine w_ifne (t := 65) gz_49_38 rfl (fun u660 => ?_) (fun u660 => by exfalso; omega)
            refine w_iload_n gz_49_65 rfl ?_
            refine w_ifne (t := 87) gz_49_66 rfl (fun u661 => ?_) (fun u661 => by exfalso; omega)
            refine w_aload_n gz_49_87 rfl ?_
            refine w_inv (k := 2) (as := []) (r := []) (x := 82) (ls0 := [(2, 82), (9, 0), (9, 0)]) gz_49_88 gm_37 rfl is_82 rd_5 rfl rfl rfl rfl rfl (c_Reader_nextToken_f0 (d := (d + 6))  (cf.trans (by omega)) (fun h662 frh662 w663 w664 w665 => ?_))
            have gh662 : my_fr [(4, 4), (4, 5), (4, 6), (4, 7), (4, 8), (4, 9), (5, 5), (5, 6), (5, 7), (5, 8), (5, 9), (32, -1), (33, -1), (34, -1), (35, -1), (36, -1), (37, -1), (38, -1), (39, -1)] h h662 := my_fr.tr my_fr.rf (frh662.mo rfl)
            have Ln_h662 : Ln h662 := Ln_ag (my_ag.fr frh662 rfl) n_Ln
            have Sp_h662 : Sp h662 wv := Sp_ag (my_ag.fr frh662 rfl) hwv n_Ln n_Sp
            show wp l rho (d + 8) 49 91 [(2, 82), (0, 1), (0, 1), (0, 0), (0, 0), (0, 0)] [] h662 Q
            refine w_iload_n gz_49_91 rfl ?_
            refine w_ifeq (t := 102) gz_49_92 rfl (fun u666 => by exfalso; omega) (fun u666 => ?_)
            refine w_aload_n gz_49_95 rfl ?_
            refine w_inv (k := 2) (as := []) (r := []) (x := 82) (ls0 := [(2, 82), (9, 0), (9, 0)]) gz_49_96 gm_50 rfl is_82 rd_5 rfl rfl rfl rfl rfl (c_Reader_readFill_f0 (d := (d + 4))  (((my_fr.at frh662 is_82 rfl).trans cf).trans (by omega)) (fun h667 frh667 w668 w669 => ?_) (fun h670 frh670 w671 => ?_))
            ·
              have gh667 : my_fr [(4, 4), (4, 5), (4, 6), (4, 7), (4, 8), (4, 9), (5, 5), (5, 6), (5, 7), (5, 8), (5, 9), (32, -1), (33, -1), (34, -1), (35, -1), (36, -1), (37, -1), (38, -1), (39, -1)] h h667 := my_fr.tr gh662 (frh667.mo rfl)
              have Ln_h667 : Ln h667 := Ln_ag (my_ag.fr frh667 rfl) Ln_h662
              have Sp_h667 : Sp h667 wv := Sp_ag (my_ag.fr frh667 rfl) hwv Ln_h662 Sp_h662
              show wp l rho (d + 8) 49 99 [(2, 82), (0, 1), (0, 1), (0, 0), (0, 0), (0, 0)] [] h667 Q
              refine w_goto (t := 140) gz_49_99 rfl ?_
              have c672 := (rfl : h667 82 9 = h667 82 9)
              exact w_vret gz_49_140 gm_49 (k0 h667 (gh667) (by omega) (by omega) Ln_h667 Sp_h667)
            ·
              have gh670 : my_fr [(4, 4), (4, 5), (4, 6), (4, 7), (4, 8), (4, 9), (5, 5), (5, 6), (5, 7), (5, 8), (5, 9), (32, -1), (33, -1), (34, -1), (35, -1), (36, -1), (37, -1), (38, -1), (39, -1)] h h670 := my_fr.tr gh662 (frh670.mo rfl)
              have Ln_h670 : Ln h670 := Ln_ag (my_ag.fr frh670 rfl) Ln_h662
              have Sp_h670 : Sp h670 wv := Sp_ag (my_ag.fr frh670 rfl) hwv Ln_h662 Sp_h662
              show wp l rho (d + 8) 49 99 [(2, 82), (0, 1), (0, 1), (0, 0), (0, 0), (0, 0)] [] h670 Q
              refine w_goto (t := 140) gz_49_99 rfl ?_
              have c673 := w671
              exact w_vret gz_49_140 gm_49 (k1 h670 (gh670) (by omega) Ln_h670 Sp_h670)
          ·
            show wp l rho (d + 8) 49 35 [(2, 82), (0, 1), (0, 1), (0, 0), (0, 0), (9, 0)] [(0, 1)] h Q
            refine w_istore (ls' := [(2, 82), (0, 1), (0, 1), (0, 0), (0, 0), (0, 1)]) gz_49_35 gm_49 rfl rfl rfl ?_
            refine w_iload_n gz_49_37 rfl ?_
            refine w_ifne (t := 65) gz_49_38 rfl (fun u674 => ?_) (fun u674 => by exfalso; omega)
            refine w_iload_n gz_49_65 rfl ?_
            refine w_ifne (t := 87) gz_49_66 rfl (fun u675 => ?_) (fun u675 => by exfalso; omega)
            refine w_aload_n gz_49_87 rfl ?_
            refine w_inv (k := 2) (as := []) (r := []) (x := 82) (ls0 := [(2, 82), (9, 0), (9, 0)]) gz_49_88 gm_37 rfl is_82 rd_5 rfl rfl rfl rfl rfl (c_Reader_nextToken_f0 (d := (d + 6))  (cf.trans (by omega)) (fun h676 frh676 w677 w678 w679 => ?_))
            have gh676 : my_fr [(4, 4), (4, 5), (4, 6), (4, 7), (4, 8), (4, 9), (5, 5), (5, 6), (5, 7), (5, 8), (5, 9), (32, -1), (33, -1), (34, -1), (35, -1), (36, -1), (37, -1), (38, -1), (39, -1)] h h676 := my_fr.tr my_fr.rf (frh676.mo rfl)
            have Ln_h676 : Ln h676 := Ln_ag (my_ag.fr frh676 rfl) n_Ln
            have Sp_h676 : Sp h676 wv := Sp_ag (my_ag.fr frh676 rfl) hwv n_Ln n_Sp
            show wp l rho (d + 8) 49 91 [(2, 82), (0, 1), (0, 1), (0, 0), (0, 0), (0, 1)] [] h676 Q
            refine w_iload_n gz_49_91 rfl ?_
            refine w_ifeq (t := 102) gz_49_92 rfl (fun u680 => by exfalso; omega) (fun u680 => ?_)
            refine w_aload_n gz_49_95 rfl ?_
            refine w_inv (k := 2) (as := []) (r := []) (x := 82) (ls0 := [(2, 82), (9, 0), (9, 0)]) gz_49_96 gm_50 rfl is_82 rd_5 rfl rfl rfl rfl rfl (c_Reader_readFill_f0 (d := (d + 4))  (((my_fr.at frh676 is_82 rfl).trans cf).trans (by omega)) (fun h681 frh681 w682 w683 => ?_) (fun h684 frh684 w685 => ?_))
            ·
              have gh681 : my_fr [(4, 4), (4, 5), (4, 6), (4, 7), (4, 8), (4, 9), (5, 5), (5, 6), (5, 7), (5, 8), (5, 9), (32, -1), (33, -1), (34, -1), (35, -1), (36, -1), (37, -1), (38, -1), (39, -1)] h h681 := my_fr.tr gh676 (frh681.mo rfl)
              have Ln_h681 : Ln h681 := Ln_ag (my_ag.fr frh681 rfl) Ln_h676
              have Sp_h681 : Sp h681 wv := Sp_ag (my_ag.fr frh681 rfl) hwv Ln_h676 Sp_h676
              show wp l rho (d + 8) 49 99 [(2, 82), (0, 1), (0, 1), (0, 0), (0, 0), (0, 1)] [] h681 Q
              refine w_goto (t := 140) gz_49_99 rfl ?_
              have c686 := (rfl : h681 82 9 = h681 82 9)
              exact w_vret gz_49_140 gm_49 (k0 h681 (gh681) (by omega) (by omega) Ln_h681 Sp_h681)
            ·
              have gh684 : my_fr [(4, 4), (4, 5), (4, 6), (4, 7), (4, 8), (4, 9), (5, 5), (5, 6), (5, 7), (5, 8), (5, 9), (32, -1), (33, -1), (34, -1), (35, -1), (36, -1), (37, -1), (38, -1), (39, -1)] h h684 := my_fr.tr gh676 (frh684.mo rfl)
              have Ln_h684 : Ln h684 := Ln_ag (my_ag.fr frh684 rfl) Ln_h676
              have Sp_h684 : Sp h684 wv := Sp_ag (my_ag.fr frh684 rfl) hwv Ln_h676 Sp_h676
              show wp l rho (d + 8) 49 99 [(2, 82), (0, 1), (0, 1), (0, 0), (0, 0), (0, 1)] [] h684 Q
              refine w_goto (t := 140) gz_49_99 rfl ?_
              have c687 := w685
              exact w_vret gz_49_140 gm_49 (k1 h684 (gh684) (by omega) Ln_h684 Sp_h684)
        ·
          show wp l rho (d + 8) 49 27 [(2, 82), (0, 1), (0, 1), (0, 0), (9, 0), (9, 0)] [(0, 1)] h Q
          refine w_istore (ls' := [(2, 82), (0, 1), (0, 1), (0, 0), (0, 1), (9, 0)]) gz_49_27 gm_49 rfl rfl rfl ?_
          refine w_aload_n gz_49_29 rfl ?_
          refine w_ldcS gz_49_30 (by decide) ?_
          refine w_inv (k := 1) (as := [(3, ((8 : Nat) : Int))]) (r := []) (x := 82) (ls0 := [(2, 82), (3, ((8 : Nat) : Int)), (9, 0)]) gz_49_32 gm_41 rfl is_82 rd_5 rfl rfl rfl rfl rfl (c_Reader_isWord_f0 (d := (d + 3)) (x1 := ((8 : Nat) : Int)) (by decide) (cf.trans (by omega)) (fun w688 => ?_) (fun w689 w690 => ?_))
          ·
            show wp l rho (d + 8) 49 35 [(2, 82), (0, 1), (0, 1), (0, 0), (0, 1), (9, 0)] [(0, 0)] h Q
            refine w_istore (ls' := [(2, 82), (0, 1), (0, 1), (0, 0), (0, 1), (0, 0)]) gz_49_35 gm_49 rfl rfl rfl ?_
            refine w_iload_n gz_49_37 rfl ?_
            refine w_ifne (t := 65) gz_49_38 rfl (fun u691 => ?_) (fun u691 => by exfalso; omega)
            refine w_iload_n gz_49_65 rfl ?_
            refine w_ifne (t := 87) gz_49_66 rfl (fun u692 => ?_) (fun u692 => by exfalso; omega)
            refine w_aload_n gz_49_87 rfl ?_
            refine w_inv (k := 2) (as := []) (r := []) (x := 82) (ls0 := [(2, 82), (9, 0), (9, 0)]) gz_49_88 gm_37 rfl is_82 rd_5 rfl rfl rfl rfl rfl (c_Reader_nextToken_f0 (d := (d + 6))  (cf.trans (by omega)) (fun h693 frh693 w694 w695 w696 => ?_))
            have gh693 : my_fr [(4, 4), (4, 5), (4, 6), (4, 7), (4, 8), (4, 9), (5, 5), (5, 6), (5, 7), (5, 8), (5, 9), (32, -1), (33, -1), (34, -1), (35, -1), (36, -1), (37, -1), (38, -1), (39, -1)] h h693 := my_fr.tr my_fr.rf (frh693.mo rfl)
            have Ln_h693 : Ln h693 := Ln_ag (my_ag.fr frh693 rfl) n_Ln
            have Sp_h693 : Sp h693 wv := Sp_ag (my_ag.fr frh693 rfl) hwv n_Ln n_Sp
            show wp l rho (d + 8) 49 91 [(2, 82), (0, 1), (0, 1), (0, 0), (0, 1), (0, 0)] [] h693 Q
            refine w_iload_n gz_49_91 rfl ?_
            refine w_ifeq (t := 102) gz_49_92 rfl (fun u697 => by exfalso; omega) (fun u697 => ?_)
            refine w_aload_n gz_49_95 rfl ?_
            refine w_inv (k := 2) (as := []) (r := []) (x := 82) (ls0 := [(2, 82), (9, 0), (9, 0)]) gz_49_96 gm_50 rfl is_82 rd_5 rfl rfl rfl rfl rfl (c_Reader_readFill_f0 (d := (d + 4))  (((my_fr.at frh693 is_82 rfl).trans cf).trans (by omega)) (fun h698 frh698 w699 w700 => ?_) (fun h701 frh701 w702 => ?_))
            ·
              have gh698 : my_fr [(4, 4), (4, 5), (4, 6), (4, 7), (4, 8), (4, 9), (5, 5), (5, 6), (5, 7), (5, 8), (5, 9), (32, -1), (33, -1), (34, -1), (35, -1), (36, -1), (37, -1), (38, -1), (39, -1)] h h698 := my_fr.tr gh693 (frh698.mo rfl)
              have Ln_h698 : Ln h698 := Ln_ag (my_ag.fr frh698 rfl) Ln_h693
              have Sp_h698 : Sp h698 wv := Sp_ag (my_ag.fr frh698 rfl) hwv Ln_h693 Sp_h693
              show wp l rho (d + 8) 49 99 [(2, 82), (0, 1), (0, 1), (0, 0), (0, 1), (0, 0)] [] h698 Q
              refine w_goto (t := 140) gz_49_99 rfl ?_
              have c703 := (rfl : h698 82 9 = h698 82 9)
              exact w_vret gz_49_140 gm_49 (k0 h698 (gh698) (by omega) (by omega) Ln_h698 Sp_h698)
            ·
              have gh701 : my_fr [(4, 4), (4, 5), (4, 6), (4, 7), (4, 8), (4, 9), (5, 5), (5, 6), (5, 7), (5, 8), (5, 9), (32, -1), (33, -1), (34, -1), (35, -1), (36, -1), (37, -1), (38, -1), (39, -1)] h h701 := my_fr.tr gh693 (frh701.mo rfl)
              have Ln_h701 : Ln h701 := Ln_ag (my_ag.fr frh701 rfl) Ln_h693
              have Sp_h701 : Sp h701 wv := Sp_ag (my_ag.fr frh701 rfl) hwv Ln_h693 Sp_h693
              show wp l rho (d + 8) 49 99 [(2, 82), (0, 1), (0, 1), (0, 0), (0, 1), (0, 0)] [] h701 Q
              refine w_goto (t := 140) gz_49_99 rfl ?_
              have c704 := w702
              exact w_vret gz_49_140 gm_49 (k1 h701 (gh701) (by omega) Ln_h701 Sp_h701)
          ·
            show wp l rho (d + 8) 49 35 [(2, 82), (0, 1), (0, 1), (0, 0), (0, 1), (9, 0)] [(0, 1)] h Q
            refine w_istore (ls' := [(2, 82), (0, 1), (0, 1), (0, 0), (0, 1), (0, 1)]) gz_49_35 gm_49 rfl rfl rfl ?_
            refine w_iload_n gz_49_37 rfl ?_
            refine w_ifne (t := 65) gz_49_38 rfl (fun u705 => ?_) (fun u705 => by exfalso; omega)
            refine w_iload_n gz_49_65 rfl ?_
            refine w_ifne (t := 87) gz_49_66 rfl (fun u706 => ?_) (fun u706 => by exfalso; omega)
            refine w_aload_n gz_49_87 rfl ?_
            refine w_inv (k := 2) (as := []) (r := []) (x := 82) (ls0 := [(2, 82), (9, 0), (9, 0)]) gz_49_88 gm_37 rfl is_82 rd_5 rfl rfl rfl rfl rfl (c_Reader_nextToken_f0 (d := (d + 6))  (cf.trans (by omega)) (fun h707 frh707 w708 w709 w710 => ?_))
            have gh707 : my_fr [(4, 4), (4, 5), (4, 6), (4, 7), (4, 8), (4, 9), (5, 5), (5, 6), (5, 7), (5, 8), (5, 9), (32, -1), (33, -1), (34, -1), (35, -1), (36, -1), (37, -1), (38, -1), (39, -1)] h h707 := my_fr.tr my_fr.rf (frh707.mo rfl)
            have Ln_h707 : Ln h707 := Ln_ag (my_ag.fr frh707 rfl) n_Ln
            have Sp_h707 : Sp h707 wv := Sp_ag (my_ag.fr frh707 rfl) hwv n_Ln n_Sp
            show wp l rho (d + 8) 49 91 [(2, 82), (0, 1), (0, 1), (0, 0), (0, 1), (0, 1)] [] h707 Q
            refine w_iload_n gz_49_91 rfl ?_
            refine w_ifeq (t := 102) gz_49_92 rfl (fun u711 => by exfalso; omega) (fun u711 => ?_)
            refine w_aload_n gz_49_95 rfl ?_
            refine w_inv (k := 2) (as := []) (r := []) (x := 82) (ls0 := [(2, 82), (9, 0), (9, 0)]) gz_49_96 gm_50 rfl is_82 rd_5 rfl rfl rfl rfl rfl (c_Reader_readFill_f0 (d := (d + 4))  (((my_fr.at frh707 is_82 rfl).trans cf).trans (by omega)) (fun h712 frh712 w713 w714 => ?_) (fun h715 frh715 w716 => ?_))
            ·
              have gh712 : my_fr [(4, 4), (4, 5), (4, 6), (4, 7), (4, 8), (4, 9), (5, 5), (5, 6), (5, 7), (5, 8), (5, 9), (32, -1), (33, -1), (34, -1), (35, -1), (36, -1), (37, -1), (38, -1), (39, -1)] h h712 := my_fr.tr gh707 (frh712.mo rfl)
              have Ln_h712 : Ln h712 := Ln_ag (my_ag.fr frh712 rfl) Ln_h707
              have Sp_h712 : Sp h712 wv := Sp_ag (my_ag.fr frh712 rfl) hwv Ln_h707 Sp_h707
              show wp l rho (d + 8) 49 99 [(2, 82), (0, 1), (0, 1), (0, 0), (0, 1), (0, 1)] [] h712 Q
              refine w_goto (t := 140) gz_49_99 rfl ?_
              have c717 := (rfl : h712 82 9 = h712 82 9)
              exact w_vret gz_49_140 gm_49 (k0 h712 (gh712) (by omega) (by omega) Ln_h712 Sp_h712)
            ·
              have gh715 : my_fr [(4, 4), (4, 5), (4, 6), (4, 7), (4, 8), (4, 9), (5, 5), (5, 6), (5, 7), (5, 8), (5, 9), (32, -1), (33, -1), (34, -1), (35, -1), (36, -1), (37, -1), (38, -1), (39, -1)] h h715 := my_fr.tr gh707 (frh715.mo rfl)
              have Ln_h715 : Ln h715 := Ln_ag (my_ag.fr frh715 rfl) Ln_h707
              have Sp_h715 : Sp h715 wv := Sp_ag (my_ag.fr frh715 rfl) hwv Ln_h707 Sp_h707
              show wp l rho (d + 8) 49 99 [(2, 82), (0, 1), (0, 1), (0, 0), (0, 1), (0, 1)] [] h715 Q
              refine w_goto (t := 140) gz_49_99 rfl ?_
              have c718 := w716
              exact w_vret gz_49_140 gm_49 (k1 h715 (gh715) (by omega) Ln_h715 Sp_h715)
      ·
        show wp l rho (d + 8) 49 20 [(2, 82), (0, 1), (0, 1), (9, 0), (9, 0), (9, 0)] [(0, 1)] h Q
        refine w_istore_n (ls' := [(2, 82), (0, 1), (0, 1), (0, 1), (9, 0), (9, 0)]) gz_49_20 gm_49 rfl rfl rfl ?_
        refine w_aload_n gz_49_21 rfl ?_
        refine w_ldcS gz_49_22 (by decide) ?_
        refine w_inv (k := 1) (as := [(3, ((7 : Nat) : Int))]) (r := []) (x := 82) (ls0 := [(2, 82), (3, ((7 : Nat) : Int)), (9, 0)]) gz_49_24 gm_41 rfl is_82 rd_5 rfl rfl rfl rfl rfl (c_Reader_isWord_f0 (d := (d + 3)) (x1 := ((7 : Nat) : Int)) (by decide) (cf.trans (by omega)) (fun w719 => ?_) (fun w720 w721 => ?_))
        ·
          show wp l rho (d + 8) 49 27 [(2, 82), (0, 1), (0, 1), (0, 1), (9, 0), (9, 0)] [(0, 0)] h Q
          refine w_istore (ls' := [(2, 82), (0, 1), (0, 1), (0, 1), (0, 0), (9, 0)]) gz_49_27 gm_49 rfl rfl rfl ?_
          refine w_aload_n gz_49_29 rfl ?_
          refine w_ldcS gz_49_30 (by decide) ?_
          refine w_inv (k := 1) (as := [(3, ((8 : Nat) : Int))]) (r := []) (x := 82) (ls0 := [(2, 82), (3, ((8 : Nat) : Int)), (9, 0)]) gz_49_32 gm_41 rfl is_82 rd_5 rfl rfl rfl rfl rfl (c_Reader_isWord_f0 (d := (d + 3)) (x1 := ((8 : Nat) : Int)) (by decide) (cf.trans (by omega)) (fun w722 => ?_) (fun w723 w724 => ?_))
          ·
            show wp l rho (d + 8) 49 35 [(2, 82), (0, 1), (0, 1), (0, 1), (0, 0), (9, 0)] [(0, 0)] h Q
            refine w_istore (ls' := [(2, 82), (0, 1), (0, 1), (0, 1), (0, 0), (0, 0)]) gz_49_35 gm_49 rfl rfl rfl ?_
            refine w_iload_n gz_49_37 rfl ?_
            refine w_ifne (t := 65) gz_49_38 rfl (fun u725 => ?_) (fun u725 => by exfalso; omega)
            refine w_iload_n gz_49_65 rfl ?_
            refine w_ifne (t := 87) gz_49_66 rfl (fun u726 => ?_) (fun u726 => by exfalso; omega)
            refine w_aload_n gz_49_87 rfl ?_
            refine w_inv (k := 2) (as := []) (r := []) (x := 82) (ls0 := [(2, 82), (9, 0), (9, 0)]) gz_49_88 gm_37 rfl is_82 rd_5 rfl rfl rfl rfl rfl (c_Reader_nextToken_f0 (d := (d + 6))  (cf.trans (by omega)) (fun h727 frh727 w728 w729 w730 => ?_))
            have gh727 : my_fr [(4, 4), (4, 5), (4, 6), (4, 7), (4, 8), (4, 9), (5, 5), (5, 6), (5, 7), (5, 8), (5, 9), (32, -1), (33, -1), (34, -1), (35, -1), (36, -1), (37, -1), (38, -1), (39, -1)] h h727 := my_fr.tr my_fr.rf (frh727.mo rfl)
            have Ln_h727 : Ln h727 := Ln_ag (my_ag.fr frh727 rfl) n_Ln
            have Sp_h727 : Sp h727 wv := Sp_ag (my_ag.fr frh727 rfl) hwv n_Ln n_Sp
            show wp l rho (d + 8) 49 91 [(2, 82), (0, 1), (0, 1), (0, 1), (0, 0), (0, 0)] [] h727 Q
            refine w_iload_n gz_49_91 rfl ?_
            refine w_ifeq (t := 102) gz_49_92 rfl (fun u731 => by exfalso; omega) (fun u731 => ?_)
            refine w_aload_n gz_49_95 rfl ?_
            refine w_inv (k := 2) (as := []) (r := []) (x := 82) (ls0 := [(2, 82), (9, 0), (9, 0)]) gz_49_96 gm_50 rfl is_82 rd_5 rfl rfl rfl rfl rfl (c_Reader_readFill_f0 (d := (d + 4))  (((my_fr.at frh727 is_82 rfl).trans cf).trans (by omega)) (fun h732 frh732 w733 w734 => ?_) (fun h735 frh735 w736 => ?_))
            ·
              have gh732 : my_fr [(4, 4), (4, 5), (4, 6), (4, 7), (4, 8), (4, 9), (5, 5), (5, 6), (5, 7), (5, 8), (5, 9), (32, -1), (33, -1), (34, -1), (35, -1), (36, -1), (37, -1), (38, -1), (39, -1)] h h732 := my_fr.tr gh727 (frh732.mo rfl)
              have Ln_h732 : Ln h732 := Ln_ag (my_ag.fr frh732 rfl) Ln_h727
              have Sp_h732 : Sp h732 wv := Sp_ag (my_ag.fr frh732 rfl) hwv Ln_h727 Sp_h727
              show wp l rho (d + 8) 49 99 [(2, 82), (0, 1), (0, 1), (0, 1), (0, 0), (0, 0)] [] h732 Q
              refine w_goto (t := 140) gz_49_99 rfl ?_
              have c737 := (rfl : h732 82 9 = h732 82 9)
              exact w_vret gz_49_140 gm_49 (k0 h732 (gh732) (by omega) (by omega) Ln_h732 Sp_h732)
            ·
              have gh735 : my_fr [(4, 4), (4, 5), (4, 6), (4, 7), (4, 8), (4, 9), (5, 5), (5, 6), (5, 7), (5, 8), (5, 9), (32, -1), (33, -1), (34, -1), (35, -1), (36, -1), (37, -1), (38, -1), (39, -1)] h h735 := my_fr.tr gh727 (frh735.mo rfl)
              have Ln_h735 : Ln h735 := Ln_ag (my_ag.fr frh735 rfl) Ln_h727
              have Sp_h735 : Sp h735 wv := Sp_ag (my_ag.fr frh735 rfl) hwv Ln_h727 Sp_h727
              show wp l rho (d + 8) 49 99 [(2, 82), (0, 1), (0, 1), (0, 1), (0, 0), (0, 0)] [] h735 Q
              refine w_goto (t := 140) gz_49_99 rfl ?_
              have c738 := w736
              exact w_vret gz_49_140 gm_49 (k1 h735 (gh735) (by omega) Ln_h735 Sp_h735)
          ·
            show wp l rho (d + 8) 49 35 [(2, 82), (0, 1), (0, 1), (0, 1), (0, 0), (9, 0)] [(0, 1)] h Q
            refine w_istore (ls' := [(2, 82), (0, 1), (0, 1), (0, 1), (0, 0), (0, 1)]) gz_49_35 gm_49 rfl rfl rfl ?_
            refine w_iload_n gz_49_37 rfl ?_
            refine w_ifne (t := 65) gz_49_38 rfl (fun u739 => ?_) (fun u739 => by exfalso; omega)
            refine w_iload_n gz_49_65 rfl ?_
            refine w_ifne (t := 87) gz_49_66 rfl (fun u740 => ?_) (fun u740 => by exfalso; omega)
            refine w_aload_n gz_49_87 rfl ?_
            refine w_inv (k := 2) (as := []) (r := []) (x := 82) (ls0 := [(2, 82), (9, 0), (9, 0)]) gz_49_88 gm_37 rfl is_82 rd_5 rfl rfl rfl rfl rfl (c_Reader_nextToken_f0 (d := (d + 6))  (cf.trans (by omega)) (fun h741 frh741 w742 w743 w744 => ?_))
            have gh741 : my_fr [(4, 4), (4, 5), (4, 6), (4, 7), (4, 8), (4, 9), (5, 5), (5, 6), (5, 7), (5, 8), (5, 9), (32, -1), (33, -1), (34, -1), (35, -1), (36, -1), (37, -1), (38, -1), (39, -1)] h h741 := my_fr.tr my_fr.rf (frh741.mo rfl)
            have Ln_h741 : Ln h741 := Ln_ag (my_ag.fr frh741 rfl) n_Ln
            have Sp_h741 : Sp h741 wv := Sp_ag (my_ag.fr frh741 rfl) hwv n_Ln n_Sp
            show wp l rho (d + 8) 49 91 [(2, 82), (0, 1), (0, 1), (0, 1), (0, 0), (0, 1)] [] h741 Q
            refine w_iload_n gz_49_91 rfl ?_
            refine w_ifeq (t := 102) gz_49_92 rfl (fun u745 => by exfalso; omega) (fun u745 => ?_)
            refine w_aload_n gz_49_95 rfl ?_
            refine w_inv (k := 2) (as := []) (r := []) (x := 82) (ls0 := [(2, 82), (9, 0), (9, 0)]) gz_49_96 gm_50 rfl is_82 rd_5 rfl rfl rfl rfl rfl (c_Reader_readFill_f0 (d := (d + 4))  (((my_fr.at frh741 is_82 rfl).trans cf).trans (by omega)) (fun h746 frh746 w747 w748 => ?_) (fun h749 frh749 w750 => ?_))
            ·
              have gh746 : my_fr [(4, 4), (4, 5), (4, 6), (4, 7), (4, 8), (4, 9), (5, 5), (5, 6), (5, 7), (5, 8), (5, 9), (32, -1), (33, -1), (34, -1), (35, -1), (36, -1), (37, -1), (38, -1), (39, -1)] h h746 := my_fr.tr gh741 (frh746.mo rfl)
              have Ln_h746 : Ln h746 := Ln_ag (my_ag.fr frh746 rfl) Ln_h741
              have Sp_h746 : Sp h746 wv := Sp_ag (my_ag.fr frh746 rfl) hwv Ln_h741 Sp_h741
              show wp l rho (d + 8) 49 99 [(2, 82), (0, 1), (0, 1), (0, 1), (0, 0), (0, 1)] [] h746 Q
              refine w_goto (t := 140) gz_49_99 rfl ?_
              have c751 := (rfl : h746 82 9 = h746 82 9)
              exact w_vret gz_49_140 gm_49 (k0 h746 (gh746) (by omega) (by omega) Ln_h746 Sp_h746)
            ·
              have gh749 : my_fr [(4, 4), (4, 5), (4, 6), (4, 7), (4, 8), (4, 9), (5, 5), (5, 6), (5, 7), (5, 8), (5, 9), (32, -1), (33, -1), (34, -1), (35, -1), (36, -1), (37, -1), (38, -1), (39, -1)] h h749 := my_fr.tr gh741 (frh749.mo rfl)
              have Ln_h749 : Ln h749 := Ln_ag (my_ag.fr frh749 rfl) Ln_h741
              have Sp_h749 : Sp h749 wv := Sp_ag (my_ag.fr frh749 rfl) hwv Ln_h741 Sp_h741
              show wp l rho (d + 8) 49 99 [(2, 82), (0, 1), (0, 1), (0, 1), (0, 0), (0, 1)] [] h749 Q
              refine w_goto (t := 140) gz_49_99 rfl ?_
              have c752 := w750
              exact w_vret gz_49_140 gm_49 (k1 h749 (gh749) (by omega) Ln_h749 Sp_h749)
        ·
          show wp l rho (d + 8) 49 27 [(2, 82), (0, 1), (0, 1), (0, 1), (9, 0), (9, 0)] [(0, 1)] h Q
          refine w_istore (ls' := [(2, 82), (0, 1), (0, 1), (0, 1), (0, 1), (9, 0)]) gz_49_27 gm_49 rfl rfl rfl ?_
          refine w_aload_n gz_49_29 rfl ?_
          refine w_ldcS gz_49_30 (by decide) ?_
          refine w_inv (k := 1) (as := [(3, ((8 : Nat) : Int))]) (r := []) (x := 82) (ls0 := [(2, 82), (3, ((8 : Nat) : Int)), (9, 0)]) gz_49_32 gm_41 rfl is_82 rd_5 rfl rfl rfl rfl rfl (c_Reader_isWord_f0 (d := (d + 3)) (x1 := ((8 : Nat) : Int)) (by decide) (cf.trans (by omega)) (fun w753 => ?_) (fun w754 w755 => ?_))
          ·
            show wp l rho (d + 8) 49 35 [(2, 82), (0, 1), (0, 1), (0, 1), (0, 1), (9, 0)] [(0, 0)] h Q
            refine w_istore (ls' := [(2, 82), (0, 1), (0, 1), (0, 1), (0, 1), (0, 0)]) gz_49_35 gm_49 rfl rfl rfl ?_
            refine w_iload_n gz_49_37 rfl ?_
            refine w_ifne (t := 65) gz_49_38 rfl (fun u756 => ?_) (fun u756 => by exfalso; omega)
            refine w_iload_n gz_49_65 rfl ?_
            refine w_ifne (t := 87) gz_49_66 rfl (fun u757 => ?_) (fun u757 => by exfalso; omega)
            refine w_aload_n gz_49_87 rfl ?_
            refine w_inv (k := 2) (as := []) (r := []) (x := 82) (ls0 := [(2, 82), (9, 0), (9, 0)]) gz_49_88 gm_37 rfl is_82 rd_5 rfl rfl rfl rfl rfl (c_Reader_nextToken_f0 (d := (d + 6))  (cf.trans (by omega)) (fun h758 frh758 w759 w760 w761 => ?_))
            have gh758 : my_fr [(4, 4), (4, 5), (4, 6), (4, 7), (4, 8), (4, 9), (5, 5), (5, 6), (5, 7), (5, 8), (5, 9), (32, -1), (33, -1), (34, -1), (35, -1), (36, -1), (37, -1), (38, -1), (39, -1)] h h758 := my_fr.tr my_fr.rf (frh758.mo rfl)
            have Ln_h758 : Ln h758 := Ln_ag (my_ag.fr frh758 rfl) n_Ln
            have Sp_h758 : Sp h758 wv := Sp_ag (my_ag.fr frh758 rfl) hwv n_Ln n_Sp
            show wp l rho (d + 8) 49 91 [(2, 82), (0, 1), (0, 1), (0, 1), (0, 1), (0, 0)] [] h758 Q
            refine w_iload_n gz_49_91 rfl ?_
            refine w_ifeq (t := 102) gz_49_92 rfl (fun u762 => by exfalso; omega) (fun u762 => ?_)
            refine w_aload_n gz_49_95 rfl ?_
            refine w_inv (k := 2) (as := []) (r := []) (x := 82) (ls0 := [(2, 82), (9, 0), (9, 0)]) gz_49_96 gm_50 rfl is_82 rd_5 rfl rfl rfl rfl rfl (c_Reader_readFill_f0 (d := (d + 4))  (((my_fr.at frh758 is_82 rfl).trans cf).trans (by omega)) (fun h763 frh763 w764 w765 => ?_) (fun h766 frh766 w767 => ?_))
            ·
              have gh763 : my_fr [(4, 4), (4, 5), (4, 6), (4, 7), (4, 8), (4, 9), (5, 5), (5, 6), (5, 7), (5, 8), (5, 9), (32, -1), (33, -1), (34, -1), (35, -1), (36, -1), (37, -1), (38, -1), (39, -1)] h h763 := my_fr.tr gh758 (frh763.mo rfl)
              have Ln_h763 : Ln h763 := Ln_ag (my_ag.fr frh763 rfl) Ln_h758
              have Sp_h763 : Sp h763 wv := Sp_ag (my_ag.fr frh763 rfl) hwv Ln_h758 Sp_h758
              show wp l rho (d + 8) 49 99 [(2, 82), (0, 1), (0, 1), (0, 1), (0, 1), (0, 0)] [] h763 Q
              refine w_goto (t := 140) gz_49_99 rfl ?_
              have c768 := (rfl : h763 82 9 = h763 82 9)
              exact w_vret gz_49_140 gm_49 (k0 h763 (gh763) (by omega) (by omega) Ln_h763 Sp_h763)
            ·
              have gh766 : my_fr [(4, 4), (4, 5), (4, 6), (4, 7), (4, 8), (4, 9), (5, 5), (5, 6), (5, 7), (5, 8), (5, 9), (32, -1), (33, -1), (34, -1), (35, -1), (36, -1), (37, -1), (38, -1), (39, -1)] h h766 := my_fr.tr gh758 (frh766.mo rfl)
              have Ln_h766 : Ln h766 := Ln_ag (my_ag.fr frh766 rfl) Ln_h758
              have Sp_h766 : Sp h766 wv := Sp_ag (my_ag.fr frh766 rfl) hwv Ln_h758 Sp_h758
              show wp l rho (d + 8) 49 99 [(2, 82), (0, 1), (0, 1), (0, 1), (0, 1), (0, 0)] [] h766 Q
              refine w_goto (t := 140) gz_49_99 rfl ?_
              have c769 := w767
              exact w_vret gz_49_140 gm_49 (k1 h766 (gh766) (by omega) Ln_h766 Sp_h766)
          ·
            show wp l rho (d + 8) 49 35 [(2, 82), (0, 1), (0, 1), (0, 1), (0, 1), (9, 0)] [(0, 1)] h Q
            refine w_istore (ls' := [(2, 82), (0, 1), (0, 1), (0, 1), (0, 1), (0, 1)]) gz_49_35 gm_49 rfl rfl rfl ?_
            refine w_iload_n gz_49_37 rfl ?_
            refine w_ifne (t := 65) gz_49_38 rfl (fun u770 => ?_) (fun u770 => by exfalso; omega)
            refine w_iload_n gz_49_65 rfl ?_
            refine w_ifne (t := 87) gz_49_66 rfl (fun u771 => ?_) (fun u771 => by exfalso; omega)
            refine w_aload_n gz_49_87 rfl ?_
            refine w_inv (k := 2) (as := []) (r := []) (x := 82) (ls0 := [(2, 82), (9, 0), (9, 0)]) gz_49_88 gm_37 rfl is_82 rd_5 rfl rfl rfl rfl rfl (c_Reader_nextToken_f0 (d := (d + 6))  (cf.trans (by omega)) (fun h772 frh772 w773 w774 w775 => ?_))
            have gh772 : my_fr [(4, 4), (4, 5), (4, 6), (4, 7), (4, 8), (4, 9), (5, 5), (5, 6), (5, 7), (5, 8), (5, 9), (32, -1), (33, -1), (34, -1), (35, -1), (36, -1), (37, -1), (38, -1), (39, -1)] h h772 := my_fr.tr my_fr.rf (frh772.mo rfl)
            have Ln_h772 : Ln h772 := Ln_ag (my_ag.fr frh772 rfl) n_Ln
            have Sp_h772 : Sp h772 wv := Sp_ag (my_ag.fr frh772 rfl) hwv n_Ln n_Sp
            show wp l rho (d + 8) 49 91 [(2, 82), (0, 1), (0, 1), (0, 1), (0, 1), (0, 1)] [] h772 Q
            refine w_iload_n gz_49_91 rfl ?_
            refine w_ifeq (t := 102) gz_49_92 rfl (fun u776 => by exfalso; omega) (fun u776 => ?_)
            refine w_aload_n gz_49_95 rfl ?_
            refine w_inv (k := 2) (as := []) (r := []) (x := 82) (ls0 := [(2, 82), (9, 0), (9, 0)]) gz_49_96 gm_50 rfl is_82 rd_5 rfl rfl rfl rfl rfl (c_Reader_readFill_f0 (d := (d + 4))  (((my_fr.at frh772 is_82 rfl).trans cf).trans (by omega)) (fun h777 frh777 w778 w779 => ?_) (fun h780 frh780 w781 => ?_))
            ·
              have gh777 : my_fr [(4, 4), (4, 5), (4, 6), (4, 7), (4, 8), (4, 9), (5, 5), (5, 6), (5, 7), (5, 8), (5, 9), (32, -1), (33, -1), (34, -1), (35, -1), (36, -1), (37, -1), (38, -1), (39, -1)] h h777 := my_fr.tr gh772 (frh777.mo rfl)
              have Ln_h777 : Ln h777 := Ln_ag (my_ag.fr frh777 rfl) Ln_h772
              have Sp_h777 : Sp h777 wv := Sp_ag (my_ag.fr frh777 rfl) hwv Ln_h772 Sp_h772
              show wp l rho (d + 8) 49 99 [(2, 82), (0, 1), (0, 1), (0, 1), (0, 1), (0, 1)] [] h777 Q
              refine w_goto (t := 140) gz_49_99 rfl ?_
              have c782 := (rfl : h777 82 9 = h777 82 9)
              exact w_vret gz_49_140 gm_49 (k0 h777 (gh777) (by omega) (by omega) Ln_h777 Sp_h777)
            ·
              have gh780 : my_fr [(4, 4), (4, 5), (4, 6), (4, 7), (4, 8), (4, 9), (5, 5), (5, 6), (5, 7), (5, 8), (5, 9), (32, -1), (33, -1), (34, -1), (35, -1), (36, -1), (37, -1), (38, -1), (39, -1)] h h780 := my_fr.tr gh772 (frh780.mo rfl)
              have Ln_h780 : Ln h780 := Ln_ag (my_ag.fr frh780 rfl) Ln_h772
              have Sp_h780 : Sp h780 wv := Sp_ag (my_ag.fr frh780 rfl) hwv Ln_h772 Sp_h772
              show wp l rho (d + 8) 49 99 [(2, 82), (0, 1), (0, 1), (0, 1), (0, 1), (0, 1)] [] h780 Q
              refine w_goto (t := 140) gz_49_99 rfl ?_
              have c783 := w781
              exact w_vret gz_49_140 gm_49 (k1 h780 (gh780) (by omega) Ln_h780 Sp_h780)
end MYNCutter_countArranged
