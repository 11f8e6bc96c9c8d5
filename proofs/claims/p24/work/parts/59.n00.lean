/-! contracts, printed by wip/gen/gy.py -/
section MYNThroughWindow_clerk9
theorem c_ThroughWindow_clerk9 {l : Launch} {rho : Nat → Int32} {d : Nat} {h : my_H} {Q : my_H → my_V → Prop} {x1 x2 x3 x4 : Int} (k0 : ∀ (h' : my_H), my_fr [(46, -1), (47, -1), (48, -1)] h h' → ¬ (0 ≤ x1 ∧ x1 ≤ 2 ∧ (x2 = -1 ∨ (0 ≤ x2 ∧ x2 ≤ 5 ∧ h (h 27 x2) 0 = 1 ∧ 0 ≤ x3 ∧ x3 ≤ 79 ∧ 0 ≤ x4 ∧ x4 ≤ 199))) → Q h' (0, 0)) (k1 : ∀ (h' : my_H), my_fr [(46, -1), (47, -1), (48, -1)] h h' → 0 ≤ x1 → x1 ≤ 2 → (-1) ≤ x2 → x2 ≤ 5 → 0 ≤ x1 ∧ x1 ≤ 2 ∧ (x2 = -1 ∨ (0 ≤ x2 ∧ x2 ≤ 5 ∧ h (h 27 x2) 0 = 1 ∧ 0 ≤ x3 ∧ x3 ≤ 79 ∧ 0 ≤ x4 ∧ x4 ≤ 199)) → Q h' (0, 1)) : wp l rho (d + 1) 127 0 [(2, 0), (0, x1), (0, x2), (0, x3), (0, x4)] [] h Q := by
  refine w_iload_n gz_127_0 rfl ?_
  refine w_iflt (t := 9) gz_127_1 rfl (fun u1 => ?_) (fun u1 => ?_)
  ·
    refine w_iconst gz_127_9 (by decide) ?_
    exact w_bret gz_127_10 gm_127 (by omega) (by omega) (k0 h (my_fr.rf) (by first | omega | (subst_vars; omega) | omega))
  ·
    refine w_iload_n gz_127_4 rfl ?_
    refine w_iconst gz_127_5 (by decide) ?_
    refine w_iclt (t := 11) gz_127_6 rfl (fun u2 => ?_) (fun u2 => ?_)
    ·
      refine w_iload_n gz_127_11 rfl ?_
      refine w_iconst gz_127_12 (by decide) ?_
      refine w_icne (t := 28) gz_127_13 rfl (fun u3 => ?_) (fun u3 => ?_)
      ·
        refine w_aload_n gz_127_28 rfl ?_
        refine w_getX (v := 94) gz_127_29 is_0 rd_9 rfl (by decide) rfl ?_
        refine w_iload_n gz_127_32 rfl ?_
        refine w_inv (k := 0) (as := [(0, x2)]) (r := []) (x := 94) (ls0 := [(2, 94), (0, x2)]) gz_127_33 gm_66 rfl is_94 rd_2 rfl rfl rfl rfl rfl ?_
        refine w_iload_n gz_66_0 rfl ?_
        refine w_iflt (t := 26) gz_66_1 rfl (fun u5 => ?_) (fun u5 => ?_)
        ·
          refine w_iconst gz_66_26 (by decide) ?_
          refine w_bret gz_66_27 gm_66 (by omega) (by omega) ?_
          show wp l rho (d + 1) 127 36 [(2, 0), (0, x1), (0, x2), (0, x3), (0, x4)] [(0, 0)] h Q
          refine w_ifeq (t := 62) gz_127_36 rfl (fun u6 => ?_) (fun u6 => by exfalso; omega)
          refine w_iconst gz_127_62 (by decide) ?_
          exact w_bret gz_127_63 gm_127 (by omega) (by omega) (k0 h (my_fr.rf) (by first | omega | (subst_vars; omega) | omega))
        ·
          refine w_iload_n gz_66_4 rfl ?_
          refine w_bipush gz_66_5 (by decide) ?_
          refine w_icge (t := 26) gz_66_7 rfl (fun u7 => ?_) (fun u7 => ?_)
          ·
            refine w_iconst gz_66_26 (by decide) ?_
            refine w_bret gz_66_27 gm_66 (by omega) (by omega) ?_
            show wp l rho (d + 1) 127 36 [(2, 0), (0, x1), (0, x2), (0, x3), (0, x4)] [(0, 0)] h Q
            refine w_ifeq (t := 62) gz_127_36 rfl (fun u8 => ?_) (fun u8 => by exfalso; omega)
            refine w_iconst gz_127_62 (by decide) ?_
            exact w_bret gz_127_63 gm_127 (by omega) (by omega) (k0 h (my_fr.rf) (by first | omega | (subst_vars; omega) | omega))
          ·
            refine w_aload_n gz_66_10 rfl ?_
            refine w_getX (v := 27) gz_66_11 is_94 rd_2 rfl (by decide) rfl ?_
            refine w_iload_n gz_66_14 rfl ?_
            refine w_aald gz_66_15 is_27 rd_22 rfl (by omega) (by omega) (fun v10 ev10 tv10 => ?_)
            refine v_getI (j := 0) gz_66_16 rfl tv10 rd_4 rfl (fun v11 ev11 pv11 qv11 => ?_)
            refine w_ifeq (t := 26) gz_66_19 rfl (fun u12 => ?_) (fun u12 => ?_)
            ·
              refine w_iconst gz_66_26 (by decide) ?_
              refine w_bret gz_66_27 gm_66 (by omega) (by omega) ?_
              show wp l rho (d + 1) 127 36 [(2, 0), (0, x1), (0, x2), (0, x3), (0, x4)] [(0, 0)] h Q
              refine w_ifeq (t := 62) gz_127_36 rfl (fun u13 => ?_) (fun u13 => by exfalso; omega)
              refine w_iconst gz_127_62 (by decide) ?_
              exact w_bret gz_127_63 gm_127 (by omega) (by omega) (k0 h (my_fr.rf) (by first | omega | (subst_vars; omega) | omega))
            ·
              refine w_iconst gz_66_22 (by decide) ?_
              refine w_goto (t := 27) gz_66_23 rfl ?_
              refine w_bret gz_66_27 gm_66 (by omega) (by omega) ?_
              show wp l rho (d + 1) 127 36 [(2, 0), (0, x1), (0, x2), (0, x3), (0, x4)] [(0, 1)] h Q
              refine w_ifeq (t := 62) gz_127_36 rfl (fun u14 => by exfalso; omega) (fun u14 => ?_)
              refine w_iload_n gz_127_39 rfl ?_
              refine w_iflt (t := 62) gz_127_40 rfl (fun u15 => ?_) (fun u15 => ?_)
              ·
                refine w_iconst gz_127_62 (by decide) ?_
                exact w_bret gz_127_63 gm_127 (by omega) (by omega) (k0 h (my_fr.rf) (by first | omega | (subst_vars; omega) | omega))
              ·
                refine w_iload_n gz_127_43 rfl ?_
                refine w_bipush gz_127_44 (by decide) ?_
                refine w_icge (t := 62) gz_127_46 rfl (fun u16 => ?_) (fun u16 => ?_)
                ·
                  refine w_iconst gz_127_62 (by decide) ?_
                  exact w_bret gz_127_63 gm_127 (by omega) (by omega) (k0 h (my_fr.rf) (by first | omega | (subst_vars; omega) | omega))
                ·
                  refine w_iload gz_127_49 rfl ?_
                  refine w_iflt (t := 62) gz_127_51 rfl (fun u17 => ?_) (fun u17 => ?_)
                  ·
                    refine w_iconst gz_127_62 (by decide) ?_
                    exact w_bret gz_127_63 gm_127 (by omega) (by omega) (k0 h (my_fr.rf) (by first | omega | (subst_vars; omega) | omega))
                  ·
                    refine w_iload gz_127_54 rfl ?_
                    refine w_sipush gz_127_56 (by decide) ?_
                    refine w_iclt (t := 64) gz_127_59 rfl (fun u18 => ?_) (fun u18 => ?_)
                    ·
                      refine w_aload_n gz_127_64 rfl ?_
                      refine w_getX (v := 120) gz_127_65 is_0 rd_9 rfl (by decide) rfl ?_
                      refine w_getX (v := 121) gz_127_68 is_120 rd_0 rfl (by decide) rfl ?_
                      refine w_iload_n gz_127_71 rfl ?_
                      refine w_iload_n gz_127_72 rfl ?_
                      refine w_iast gz_127_73 is_121 rd_46 (by omega) (by omega) (by omega) (by omega) (fun h21 fh21 => ?_)
                      have gh21 : my_fr [(46, -1), (47, -1), (48, -1)] h h21 := my_fr.up my_fr.rf is_121 fh21 rfl
                      refine w_aload_n gz_127_74 rfl ?_
                      refine w_getX (v := 120) gz_127_75 is_0 rd_9 rfl (by decide) rfl ?_
                      refine w_getX (v := 122) gz_127_78 is_120 rd_0 rfl (by decide) rfl ?_
                      refine w_iload_n gz_127_81 rfl ?_
                      refine w_iload_n gz_127_82 rfl ?_
                      refine w_iast gz_127_83 is_122 rd_47 (by omega) (by omega) (by omega) (by omega) (fun h24 fh24 => ?_)
                      have gh24 : my_fr [(46, -1), (47, -1), (48, -1)] h h24 := my_fr.up gh21 is_122 fh24 rfl
                      refine w_aload_n gz_127_84 rfl ?_
                      refine w_getX (v := 120) gz_127_85 is_0 rd_9 rfl (by decide) rfl ?_
                      refine w_getX (v := 123) gz_127_88 is_120 rd_0 rfl (by decide) rfl ?_
                      refine w_iload_n gz_127_91 rfl ?_
                      refine w_iload gz_127_92 rfl ?_
                      refine w_iast gz_127_94 is_123 rd_48 (by omega) (by omega) (by omega) (by omega) (fun h27 fh27 => ?_)
                      have gh27 : my_fr [(46, -1), (47, -1), (48, -1)] h h27 := my_fr.up gh24 is_123 fh27 rfl
                      refine w_iconst gz_127_95 (by decide) ?_
                      exact w_bret gz_127_96 gm_127 (by omega) (by omega) (k1 h27 (gh27) (by omega) (by omega) (by omega) (by omega) (by first | omega | (subst_vars; omega) | omega))
                    ·
                      refine w_iconst gz_127_62 (by decide) ?_
                      exact w_bret gz_127_63 gm_127 (by omega) (by omega) (k0 h (my_fr.rf) (by first | omega | (subst_vars; omega) | omega))
      ·
        refine w_aload_n gz_127_16 rfl ?_
        refine w_getX (v := 120) gz_127_17 is_0 rd_9 rfl (by decide) rfl ?_
        refine w_getX (v := 121) gz_127_20 is_120 rd_0 rfl (by decide) rfl ?_
        refine w_iload_n gz_127_23 rfl ?_
        refine w_iconst gz_127_24 (by decide) ?_
        refine w_iast gz_127_25 is_121 rd_46 (by omega) (by omega) (by omega) (by omega) (fun h30 fh30 => ?_)
        have gh30 : my_fr [(46, -1), (47, -1), (48, -1)] h h30 := my_fr.up my_fr.rf is_121 fh30 rfl
        refine w_iconst gz_127_26 (by decide) ?_
        exact w_bret gz_127_27 gm_127 (by omega) (by omega) (k1 h30 (gh30) (by omega) (by omega) (by omega) (by omega) (by first | omega | (subst_vars; omega) | omega))
    ·
      refine w_iconst gz_127_9 (by decide) ?_
      exact w_bret gz_127_10 gm_127 (by omega) (by omega) (k0 h (my_fr.rf) (by first | omega | (subst_vars; omega) | omega))
theorem c_Model_clerk9 {l : Launch} {rho : Nat → Int32} {d : Nat} {h : my_H} {Q : my_H → my_V → Prop} {x1 x2 x3 x4 : Int} (k0 : ∀ (h' : my_H), my_fr [(10, 0), (98, -1), (99, -1), (100, -1)] h h' → h' 151 0 = 0 → ¬ (0 ≤ x1 ∧ x1 ≤ 2 ∧ (x2 = -1 ∨ (0 ≤ x2 ∧ x2 ≤ 5 ∧ h 164 x2 = 1 ∧ 0 ≤ x3 ∧ x3 ≤ 79 ∧ 0 ≤ x4 ∧ x4 ≤ 199))) → Q h' (0, 0)) (k1 : ∀ (h' : my_H), my_fr [(10, 0), (98, -1), (99, -1), (100, -1)] h h' → 0 ≤ x1 → x1 ≤ 2 → (-1) ≤ x2 → x2 ≤ 5 → h' 151 0 = 0 → 0 ≤ x1 ∧ x1 ≤ 2 ∧ (x2 = -1 ∨ (0 ≤ x2 ∧ x2 ≤ 5 ∧ h 164 x2 = 1 ∧ 0 ≤ x3 ∧ x3 ≤ 79 ∧ 0 ≤ x4 ∧ x4 ≤ 199)) → Q h' (0, 1)) : wp l rho (d + 1) 241 0 [(2, 151), (0, x1), (0, x2), (0, x3), (0, x4)] [] h Q := by
  refine w_aload_n gz_241_0 rfl ?_
  refine w_iconst gz_241_1 (by decide) ?_
  refine v_putI (j := 0) gz_241_2 rfl is_151 rd_10 rfl (by omega) (by omega) rfl (fun h1 fh1 => ?_)
  have gh1 : my_fr [(10, 0), (98, -1), (99, -1), (100, -1)] h h1 := my_fr.up my_fr.rf is_151 fh1 rfl
  have f164 : h1 164 x2 = h 164 x2 := my_fr.at gh1 is_164 rfl
  refine w_iload_n gz_241_5 rfl ?_
  refine w_iconst gz_241_6 (by decide) ?_
  refine w_iconst gz_241_7 (by decide) ?_
  refine w_inS (k := 0) (as := [(0, 2), (0, 0), (0, x1)]) (r := []) (ls0 := [(0, x1), (0, 0), (0, 2)]) gz_241_8 gm_147 rfl rfl rfl rfl rfl rfl ?_
  refine w_iload_n gz_147_0 rfl ?_
  refine w_iload_n gz_147_1 rfl ?_
  refine w_iclt (t := 14) gz_147_2 rfl (fun u2 => ?_) (fun u2 => ?_)
  ·
    refine w_iconst gz_147_14 (by decide) ?_
    refine w_bret gz_147_15 gm_147 (by omega) (by omega) ?_
    show wp l rho (d + 1) 241 11 [(2, 151), (0, x1), (0, x2), (0, x3), (0, x4)] [(0, 0)] h1 Q
    refine w_ifeq (t := 49) gz_241_11 rfl (fun u3 => ?_) (fun u3 => by exfalso; omega)
    refine w_iconst gz_241_49 (by decide) ?_
    have c4 := (my_up_self fh1)
    exact w_bret gz_241_50 gm_241 (by omega) (by omega) (k0 h1 (gh1) (by omega) (by first | omega | (subst_vars; omega) | omega))
  ·
    refine w_iload_n gz_147_5 rfl ?_
    refine w_iload_n gz_147_6 rfl ?_
    refine w_icgt (t := 14) gz_147_7 rfl (fun u5 => ?_) (fun u5 => ?_)
    ·
      refine w_iconst gz_147_14 (by decide) ?_
      refine w_bret gz_147_15 gm_147 (by omega) (by omega) ?_
      show wp l rho (d + 1) 241 11 [(2, 151), (0, x1), (0, x2), (0, x3), (0, x4)] [(0, 0)] h1 Q
      refine w_ifeq (t := 49) gz_241_11 rfl (fun u6 => ?_) (fun u6 => by exfalso; omega)
      refine w_iconst gz_241_49 (by decide) ?_
      have c7 := (my_up_self fh1)
      exact w_bret gz_241_50 gm_241 (by omega) (by omega) (k0 h1 (gh1) (by omega) (by first | omega | (subst_vars; omega) | omega))
    ·
      refine w_iconst gz_147_10 (by decide) ?_
      refine w_goto (t := 15) gz_147_11 rfl ?_
      refine w_bret gz_147_15 gm_147 (by omega) (by omega) ?_
      show wp l rho (d + 1) 241 11 [(2, 151), (0, x1), (0, x2), (0, x3), (0, x4)] [(0, 1)] h1 Q
      refine w_ifeq (t := 49) gz_241_11 rfl (fun u8 => by exfalso; omega) (fun u8 => ?_)
      refine w_iload_n gz_241_14 rfl ?_
      refine w_iconst gz_241_15 (by decide) ?_
      refine w_iceq (t := 51) gz_241_16 rfl (fun u9 => ?_) (fun u9 => ?_)
      ·
        refine w_aload_n gz_241_51 rfl ?_
        refine w_getX (v := 199) gz_241_52 is_151 rd_10 rfl (by decide) rfl ?_
        refine w_iload_n gz_241_55 rfl ?_
        refine w_iload_n gz_241_56 rfl ?_
        refine w_iast gz_241_57 is_199 rd_98 (by omega) (by omega) (by omega) (by omega) (fun h11 fh11 => ?_)
        have gh11 : my_fr [(10, 0), (98, -1), (99, -1), (100, -1)] h h11 := my_fr.up gh1 is_199 fh11 rfl
        refine w_aload_n gz_241_58 rfl ?_
        refine w_getX (v := 200) gz_241_59 is_151 rd_10 rfl (by decide) rfl ?_
        refine w_iload_n gz_241_62 rfl ?_
        refine w_iload_n gz_241_63 rfl ?_
        refine w_iastA gz_241_64 is_200 rd_99 (by omega) (by omega) (fun h13 fh13 => ?_)
        have gh13 : my_fr [(10, 0), (98, -1), (99, -1), (100, -1)] h h13 := my_fr.up gh11 is_200 fh13 rfl
        refine w_aload_n gz_241_65 rfl ?_
        refine w_getX (v := 201) gz_241_66 is_151 rd_10 rfl (by decide) rfl ?_
        refine w_iload_n gz_241_69 rfl ?_
        refine w_iload gz_241_70 rfl ?_
        refine w_iastA gz_241_72 is_201 rd_100 (by omega) (by omega) (fun h15 fh15 => ?_)
        have gh15 : my_fr [(10, 0), (98, -1), (99, -1), (100, -1)] h h15 := my_fr.up gh13 is_201 fh15 rfl
        refine w_iconst gz_241_73 (by decide) ?_
        have c16 := ((my_up_role fh15 is_151 is_201 rfl).trans ((my_up_role fh13 is_151 is_200 rfl).trans ((my_up_role fh11 is_151 is_199 rfl).trans (my_up_self fh1))))
        exact w_bret gz_241_74 gm_241 (by omega) (by omega) (k1 h15 (gh15) (by omega) (by omega) (by omega) (by omega) (by omega) (by first | omega | (subst_vars; omega) | omega))
      ·
        refine w_aload_n gz_241_19 rfl ?_
        refine w_iload_n gz_241_20 rfl ?_
        refine w_inv (k := 0) (as := [(0, x2)]) (r := []) (x := 151) (ls0 := [(2, 151), (0, x2)]) gz_241_21 gm_193 rfl is_151 rd_10 rfl rfl rfl rfl rfl ?_
        refine w_iload_n gz_193_0 rfl ?_
        refine w_iflt (t := 23) gz_193_1 rfl (fun u17 => ?_) (fun u17 => ?_)
        ·
          refine w_iconst gz_193_23 (by decide) ?_
          refine w_bret gz_193_24 gm_193 (by omega) (by omega) ?_
          show wp l rho (d + 1) 241 24 [(2, 151), (0, x1), (0, x2), (0, x3), (0, x4)] [(0, 0)] h1 Q
          refine w_ifeq (t := 49) gz_241_24 rfl (fun u18 => ?_) (fun u18 => by exfalso; omega)
          refine w_iconst gz_241_49 (by decide) ?_
          have c19 := (my_up_self fh1)
          exact w_bret gz_241_50 gm_241 (by omega) (by omega) (k0 h1 (gh1) (by omega) (by first | omega | (subst_vars; omega) | omega))
        ·
          refine w_iload_n gz_193_4 rfl ?_
          refine w_bipush gz_193_5 (by decide) ?_
          refine w_icge (t := 23) gz_193_7 rfl (fun u20 => ?_) (fun u20 => ?_)
          ·
            refine w_iconst gz_193_23 (by decide) ?_
            refine w_bret gz_193_24 gm_193 (by omega) (by omega) ?_
            show wp l rho (d + 1) 241 24 [(2, 151), (0, x1), (0, x2), (0, x3), (0, x4)] [(0, 0)] h1 Q
            refine w_ifeq (t := 49) gz_241_24 rfl (fun u21 => ?_) (fun u21 => by exfalso; omega)
            refine w_iconst gz_241_49 (by decide) ?_
            have c22 := (my_up_self fh1)
            exact w_bret gz_241_50 gm_241 (by omega) (by omega) (k0 h1 (gh1) (by omega) (by first | omega | (subst_vars; omega) | omega))
          ·
            refine w_aload_n gz_193_10 rfl ?_
            refine w_getX (v := 164) gz_193_11 is_151 rd_10 rfl (by decide) rfl ?_
            refine w_iload_n gz_193_14 rfl ?_
            refine w_bald gz_193_15 is_164 rd_63 (by omega) (by omega) (fun v24 ev24 pv24 qv24 => ?_)
            refine w_ifeq (t := 23) gz_193_16 rfl (fun u25 => ?_) (fun u25 => ?_)
            ·
              refine w_iconst gz_193_23 (by decide) ?_
              refine w_bret gz_193_24 gm_193 (by omega) (by omega) ?_
              show wp l rho (d + 1) 241 24 [(2, 151), (0, x1), (0, x2), (0, x3), (0, x4)] [(0, 0)] h1 Q
              refine w_ifeq (t := 49) gz_241_24 rfl (fun u26 => ?_) (fun u26 => by exfalso; omega)
              refine w_iconst gz_241_49 (by decide) ?_
              have c27 := (my_up_self fh1)
              exact w_bret gz_241_50 gm_241 (by omega) (by omega) (k0 h1 (gh1) (by omega) (by first | omega | (subst_vars; omega) | omega))
            ·
              refine w_iconst gz_193_19 (by decide) ?_
              refine w_goto (t := 24) gz_193_20 rfl ?_
              refine w_bret gz_193_24 gm_193 (by omega) (by omega) ?_
              show wp l rho (d + 1) 241 24 [(2, 151), (0, x1), (0, x2), (0, x3), (0, x4)] [(0, 1)] h1 Q
              refine w_ifeq (t := 49) gz_241_24 rfl (fun u28 => by exfalso; omega) (fun u28 => ?_)
              refine w_iload_n gz_241_27 rfl ?_
              refine w_iconst gz_241_28 (by decide) ?_
              refine w_bipush gz_241_29 (by decide) ?_
              refine w_inS (k := 0) (as := [(0, 79), (0, 0), (0, x3)]) (r := []) (ls0 := [(0, x3), (0, 0), (0, 79)]) gz_241_31 gm_147 rfl rfl rfl rfl rfl rfl ?_
              refine w_iload_n gz_147_0 rfl ?_
              refine w_iload_n gz_147_1 rfl ?_
              refine w_iclt (t := 14) gz_147_2 rfl (fun u29 => ?_) (fun u29 => ?_)
              ·
                refine w_iconst gz_147_14 (by decide) ?_
                refine w_bret gz_147_15 gm_147 (by omega) (by omega) ?_
                show wp l rho (d + 1) 241 34 [(2, 151), (0, x1), (0, x2), (0, x3), (0, x4)] [(0, 0)] h1 Q
                refine w_ifeq (t := 49) gz_241_34 rfl (fun u30 => ?_) (fun u30 => by exfalso; omega)
                refine w_iconst gz_241_49 (by decide) ?_
                have c31 := (my_up_self fh1)
                exact w_bret gz_241_50 gm_241 (by omega) (by omega) (k0 h1 (gh1) (by omega) (by first | omega | (subst_vars; omega) | omega))
              ·
                refine w_iload_n gz_147_5 rfl ?_
                refine w_iload_n gz_147_6 rfl ?_
                refine w_icgt (t := 14) gz_147_7 rfl (fun u32 => ?_) (fun u32 => ?_)
                ·
                  refine w_iconst gz_147_14 (by decide) ?_
                  refine w_bret gz_147_15 gm_147 (by omega) (by omega) ?_
                  show wp l rho (d + 1) 241 34 [(2, 151), (0, x1), (0, x2), (0, x3), (0, x4)] [(0, 0)] h1 Q
                  refine w_ifeq (t := 49) gz_241_34 rfl (fun u33 => ?_) (fun u33 => by exfalso; omega)
                  refine w_iconst gz_241_49 (by decide) ?_
                  have c34 := (my_up_self fh1)
                  exact w_bret gz_241_50 gm_241 (by omega) (by omega) (k0 h1 (gh1) (by omega) (by first | omega | (subst_vars; omega) | omega))
                ·
                  refine w_iconst gz_147_10 (by decide) ?_
                  refine w_goto (t := 15) gz_147_11 rfl ?_
                  refine w_bret gz_147_15 gm_147 (by omega) (by omega) ?_
                  show wp l rho (d + 1) 241 34 [(2, 151), (0, x1), (0, x2), (0, x3), (0, x4)] [(0, 1)] h1 Q
                  refine w_ifeq (t := 49) gz_241_34 rfl (fun u35 => by exfalso; omega) (fun u35 => ?_)
                  refine w_iload gz_241_37 rfl ?_
                  refine w_iconst gz_241_39 (by decide) ?_
                  refine w_sipush gz_241_40 (by decide) ?_
                  refine w_inS (k := 0) (as := [(0, 199), (0, 0), (0, x4)]) (r := []) (ls0 := [(0, x4), (0, 0), (0, 199)]) gz_241_43 gm_147 rfl rfl rfl rfl rfl rfl ?_
                  refine w_iload_n gz_147_0 rfl ?_
                  refine w_iload_n gz_147_1 rfl ?_
                  refine w_iclt (t := 14) gz_147_2 rfl (fun u36 => ?_) (fun u36 => ?_)
                  ·
                    refine w_iconst gz_147_14 (by decide) ?_
                    refine w_bret gz_147_15 gm_147 (by omega) (by omega) ?_
                    show wp l rho (d + 1) 241 46 [(2, 151), (0, x1), (0, x2), (0, x3), (0, x4)] [(0, 0)] h1 Q
                    refine w_ifne (t := 51) gz_241_46 rfl (fun u37 => by exfalso; omega) (fun u37 => ?_)
                    refine w_iconst gz_241_49 (by decide) ?_
                    have c38 := (my_up_self fh1)
                    exact w_bret gz_241_50 gm_241 (by omega) (by omega) (k0 h1 (gh1) (by omega) (by first | omega | (subst_vars; omega) | omega))
                  ·
                    refine w_iload_n gz_147_5 rfl ?_
                    refine w_iload_n gz_147_6 rfl ?_
                    refine w_icgt (t := 14) gz_147_7 rfl (fun u39 => ?_) (fun u39 => ?_)
                    ·
                      refine w_iconst gz_147_14 (by decide) ?_
                      refine w_bret gz_147_15 gm_147 (by omega) (by omega) ?_
                      show wp l rho (d + 1) 241 46 [(2, 151), (0, x1), (0, x2), (0, x3), (0, x4)] [(0, 0)] h1 Q
                      refine w_ifne (t := 51) gz_241_46 rfl (fun u40 => by exfalso; omega) (fun u40 => ?_)
                      refine w_iconst gz_241_49 (by decide) ?_
                      have c41 := (my_up_self fh1)
                      exact w_bret gz_241_50 gm_241 (by omega) (by omega) (k0 h1 (gh1) (by omega) (by first | omega | (subst_vars; omega) | omega))
                    ·
                      refine w_iconst gz_147_10 (by decide) ?_
                      refine w_goto (t := 15) gz_147_11 rfl ?_
                      refine w_bret gz_147_15 gm_147 (by omega) (by omega) ?_
                      show wp l rho (d + 1) 241 46 [(2, 151), (0, x1), (0, x2), (0, x3), (0, x4)] [(0, 1)] h1 Q
                      refine w_ifne (t := 51) gz_241_46 rfl (fun u42 => ?_) (fun u42 => by exfalso; omega)
                      refine w_aload_n gz_241_51 rfl ?_
                      refine w_getX (v := 199) gz_241_52 is_151 rd_10 rfl (by decide) rfl ?_
                      refine w_iload_n gz_241_55 rfl ?_
                      refine w_iload_n gz_241_56 rfl ?_
                      refine w_iast gz_241_57 is_199 rd_98 (by omega) (by omega) (by omega) (by omega) (fun h44 fh44 => ?_)
                      have gh44 : my_fr [(10, 0), (98, -1), (99, -1), (100, -1)] h h44 := my_fr.up gh1 is_199 fh44 rfl
                      refine w_aload_n gz_241_58 rfl ?_
                      refine w_getX (v := 200) gz_241_59 is_151 rd_10 rfl (by decide) rfl ?_
                      refine w_iload_n gz_241_62 rfl ?_
                      refine w_iload_n gz_241_63 rfl ?_
                      refine w_iastA gz_241_64 is_200 rd_99 (by omega) (by omega) (fun h46 fh46 => ?_)
                      have gh46 : my_fr [(10, 0), (98, -1), (99, -1), (100, -1)] h h46 := my_fr.up gh44 is_200 fh46 rfl
                      refine w_aload_n gz_241_65 rfl ?_
                      refine w_getX (v := 201) gz_241_66 is_151 rd_10 rfl (by decide) rfl ?_
                      refine w_iload_n gz_241_69 rfl ?_
                      refine w_iload gz_241_70 rfl ?_
                      refine w_iastA gz_241_72 is_201 rd_100 (by omega) (by omega) (fun h48 fh48 => ?_)
                      have gh48 : my_fr [(10, 0), (98, -1), (99, -1), (100, -1)] h h48 := my_fr.up gh46 is_201 fh48 rfl
                      refine w_iconst gz_241_73 (by decide) ?_
                      have c49 := ((my_up_role fh48 is_151 is_201 rfl).trans ((my_up_role fh46 is_151 is_200 rfl).trans ((my_up_role fh44 is_151 is_199 rfl).trans (my_up_self fh1))))
                      exact w_bret gz_241_74 gm_241 (by omega) (by omega) (k1 h48 (gh48) (by omega) (by omega) (by omega) (by omega) (by omega) (by first | omega | (subst_vars; omega) | omega))
end MYNThroughWindow_clerk9
