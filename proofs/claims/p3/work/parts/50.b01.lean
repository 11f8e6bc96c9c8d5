/-! contracts, printed by wip/gen/gy.py -/
section MYG1
theorem c_Model_isBefore {l : Launch} {rho : Nat → Int32} {d : Nat} {h : my_H} {Q : my_H → my_V → Prop} {x1 x2 : Int} (a1 : 1 ≤ x1) (b1 : x1 ≤ 9) (a2 : 0 ≤ x2) (b2 : x2 ≤ 8) (k0 : Q h (0, 0)) (k1 : Q h (0, 1)) : wp l rho d 200 0 [(2, 151), (0, x1), (0, x2), (9, 0)] [] h Q := by
  have J2_0 : ∀ (n : Nat) (p2_0 : Int), 0 ≤ p2_0 → p2_0 ≤ 8 → 9 - p2_0 ≤ (n : Int) → wp l rho d 200 2 [(2, 151), (0, x1), (0, x2), (0, p2_0)] [] h Q := by
    intro n
    induction n with
    | zero => intro p2_0 q0_2_0 q1_2_0 hm_2_0; exfalso; omega
    | succ n ih_2_0 =>
      intro p2_0 q0_2_0 q1_2_0 hm_2_0
      refine w_iload_n gz_200_2 rfl ?_
      refine w_aload_n gz_200_3 rfl ?_
      refine v_getI (j := 27) gz_200_4 rfl is_151 rd_10 rfl (fun v1 ev1 pv1 qv1 => ?_)
      refine w_icge (t := 72) gz_200_7 rfl (fun u2 => ?_) (fun u2 => ?_)
      ·
        refine w_aload_n gz_200_72 rfl ?_
        refine w_getX (v := 181) gz_200_73 is_151 rd_10 rfl (by decide) rfl ?_
        refine w_iload_n gz_200_76 rfl ?_
        refine w_iald gz_200_77 is_181 rd_80 (by omega) (by omega) (fun v4 ev4 pv4 qv4 => ?_)
        refine w_aload_n gz_200_78 rfl ?_
        refine w_getX (v := 181) gz_200_79 is_151 rd_10 rfl (by decide) rfl ?_
        refine w_iload_n gz_200_82 rfl ?_
        refine w_iald gz_200_83 is_181 rd_80 (by omega) (by omega) (fun v6 ev6 pv6 qv6 => ?_)
        refine w_icge (t := 91) gz_200_84 rfl (fun u7 => ?_) (fun u7 => ?_)
        ·
          refine w_iconst gz_200_91 (by decide) ?_
          exact w_bret gz_200_92 gm_200 (by omega) (by omega) (k0 )
        ·
          refine w_iconst gz_200_87 (by decide) ?_
          refine w_goto (t := 92) gz_200_88 rfl ?_
          exact w_bret gz_200_92 gm_200 (by omega) (by omega) (k1 )
      ·
        refine w_aload_n gz_200_10 rfl ?_
        refine w_getX (v := 182) gz_200_11 is_151 rd_10 rfl (by decide) rfl ?_
        refine w_bipush gz_200_14 (by decide) ?_
        refine w_iload_n gz_200_16 rfl ?_
        refine w_imul gz_200_17 ⟨by omega, by omega⟩ ?_
        refine w_iload_n gz_200_18 rfl ?_
        refine w_iadd gz_200_19 ⟨by omega, by omega⟩ ?_
        refine w_iald gz_200_20 is_182 rd_81 (by omega) (by omega) (fun v9 ev9 pv9 qv9 => ?_)
        refine w_aload_n gz_200_21 rfl ?_
        refine w_getX (v := 182) gz_200_22 is_151 rd_10 rfl (by decide) rfl ?_
        refine w_bipush gz_200_25 (by decide) ?_
        refine w_iload_n gz_200_27 rfl ?_
        refine w_imul gz_200_28 ⟨by omega, by omega⟩ ?_
        refine w_iload_n gz_200_29 rfl ?_
        refine w_iadd gz_200_30 ⟨by omega, by omega⟩ ?_
        refine w_iald gz_200_31 is_182 rd_81 (by omega) (by omega) (fun v11 ev11 pv11 qv11 => ?_)
        refine w_iceq (t := 66) gz_200_32 rfl (fun u12 => ?_) (fun u12 => ?_)
        ·
          refine w_iinc (ls' := [(2, 151), (0, x1), (0, x2), (0, (p2_0 + 1))]) gz_200_66 rfl gm_200 rfl rfl rfl ⟨by omega, by omega⟩ ?_
          refine w_goto (t := 2) gz_200_69 rfl ?_
          exact ih_2_0 ((p2_0 + 1)) (by omega) (by omega) (by omega)
        ·
          refine w_aload_n gz_200_35 rfl ?_
          refine w_getX (v := 182) gz_200_36 is_151 rd_10 rfl (by decide) rfl ?_
          refine w_bipush gz_200_39 (by decide) ?_
          refine w_iload_n gz_200_41 rfl ?_
          refine w_imul gz_200_42 ⟨by omega, by omega⟩ ?_
          refine w_iload_n gz_200_43 rfl ?_
          refine w_iadd gz_200_44 ⟨by omega, by omega⟩ ?_
          refine w_iald gz_200_45 is_182 rd_81 (by omega) (by omega) (fun v14 ev14 pv14 qv14 => ?_)
          refine w_aload_n gz_200_46 rfl ?_
          refine w_getX (v := 182) gz_200_47 is_151 rd_10 rfl (by decide) rfl ?_
          refine w_bipush gz_200_50 (by decide) ?_
          refine w_iload_n gz_200_52 rfl ?_
          refine w_imul gz_200_53 ⟨by omega, by omega⟩ ?_
          refine w_iload_n gz_200_54 rfl ?_
          refine w_iadd gz_200_55 ⟨by omega, by omega⟩ ?_
          refine w_iald gz_200_56 is_182 rd_81 (by omega) (by omega) (fun v16 ev16 pv16 qv16 => ?_)
          refine w_icge (t := 64) gz_200_57 rfl (fun u17 => ?_) (fun u17 => ?_)
          ·
            refine w_iconst gz_200_64 (by decide) ?_
            exact w_bret gz_200_65 gm_200 (by omega) (by omega) (k0 )
          ·
            refine w_iconst gz_200_60 (by decide) ?_
            refine w_goto (t := 65) gz_200_61 rfl ?_
            exact w_bret gz_200_65 gm_200 (by omega) (by omega) (k1 )
  refine w_iconst gz_200_0 (by decide) ?_
  refine w_istore_n (ls' := [(2, 151), (0, x1), (0, x2), (0, 0)]) gz_200_1 gm_200 rfl rfl rfl ?_
  exact J2_0 9 (0) (by omega) (by omega) (by omega)
theorem c_Model_swaps {l : Launch} {rho : Nat → Int32} {d : Nat} {h : my_H} {Q : my_H → my_V → Prop} {x1 x2 : Int} (a1 : 0 ≤ x1) (b1 : x1 ≤ 8) (a2 : 1 ≤ x2) (b2 : x2 ≤ 9) (k0 : ∀ (h' : my_H), my_fr [(80, -1), (81, -1), (82, -1)] h h' → Q h' (9, 0)) : wp l rho d 201 0 [(2, 151), (0, x1), (0, x2), (9, 0), (9, 0), (9, 0), (9, 0)] [] h Q := by
  have J29_0 : ∀ (n : Nat) (p29_0 p29_1 : Int) (h29_0 : my_H), my_fr [(80, -1), (81, -1), (82, -1)] h h29_0 → 0 ≤ p29_0 → p29_0 ≤ 19 → 0 ≤ p29_1 → p29_1 ≤ 8 → 9 - p29_1 ≤ (n : Int) → wp l rho d 201 29 [(2, 151), (0, x1), (0, x2), (0, p29_0), (0, p29_1), (9, 0), (9, 0)] [] h29_0 Q := by
    intro n
    induction n with
    | zero => intro p29_0 p29_1 h29_0 gh_29_0 q0_29_0 q1_29_0 q2_29_0 q3_29_0 hm_29_0; exfalso; omega
    | succ n ih_29_0 =>
      intro p29_0 p29_1 h29_0 gh_29_0 q0_29_0 q1_29_0 q2_29_0 q3_29_0 hm_29_0
      refine w_iload gz_201_29 rfl ?_
      refine w_bipush gz_201_31 (by decide) ?_
      refine w_icge (t := 146) gz_201_33 rfl (fun u1 => ?_) (fun u1 => ?_)
      ·
        exact w_vret gz_201_146 gm_201 (k0 h29_0 (gh_29_0))
      ·
        refine w_aload_n gz_201_36 rfl ?_
        refine w_getX (v := 182) gz_201_37 is_151 rd_10 rfl (by decide) rfl ?_
        refine w_bipush gz_201_40 (by decide) ?_
        refine w_iload_n gz_201_42 rfl ?_
        refine w_imul gz_201_43 ⟨by omega, by omega⟩ ?_
        refine w_iload gz_201_44 rfl ?_
        refine w_iadd gz_201_46 ⟨by omega, by omega⟩ ?_
        refine w_iald gz_201_47 is_182 rd_81 (by omega) (by omega) (fun v3 ev3 pv3 qv3 => ?_)
        refine w_istore (ls' := [(2, 151), (0, x1), (0, x2), (0, p29_0), (0, p29_1), (0, v3), (9, 0)]) gz_201_48 gm_201 rfl rfl rfl ?_
        refine w_aload_n gz_201_50 rfl ?_
        refine w_getX (v := 183) gz_201_51 is_151 rd_10 rfl (by decide) rfl ?_
        refine w_bipush gz_201_54 (by decide) ?_
        refine w_iload_n gz_201_56 rfl ?_
        refine w_imul gz_201_57 ⟨by omega, by omega⟩ ?_
        refine w_iload gz_201_58 rfl ?_
        refine w_iadd gz_201_60 ⟨by omega, by omega⟩ ?_
        refine w_iald gz_201_61 is_183 rd_82 (by omega) (by omega) (fun v5 ev5 pv5 qv5 => ?_)
        refine w_istore (ls' := [(2, 151), (0, x1), (0, x2), (0, p29_0), (0, p29_1), (0, v3), (0, v5)]) gz_201_62 gm_201 rfl rfl rfl ?_
        refine w_aload_n gz_201_64 rfl ?_
        refine w_getX (v := 182) gz_201_65 is_151 rd_10 rfl (by decide) rfl ?_
        refine w_bipush gz_201_68 (by decide) ?_
        refine w_iload_n gz_201_70 rfl ?_
        refine w_imul gz_201_71 ⟨by omega, by omega⟩ ?_
        refine w_iload gz_201_72 rfl ?_
        refine w_iadd gz_201_74 ⟨by omega, by omega⟩ ?_
        refine w_aload_n gz_201_75 rfl ?_
        refine w_getX (v := 182) gz_201_76 is_151 rd_10 rfl (by decide) rfl ?_
        refine w_bipush gz_201_79 (by decide) ?_
        refine w_iload_n gz_201_81 rfl ?_
        refine w_imul gz_201_82 ⟨by omega, by omega⟩ ?_
        refine w_iload gz_201_83 rfl ?_
        refine w_iadd gz_201_85 ⟨by omega, by omega⟩ ?_
        refine w_iald gz_201_86 is_182 rd_81 (by omega) (by omega) (fun v8 ev8 pv8 qv8 => ?_)
        refine w_iast gz_201_87 is_182 rd_81 (by omega) (by omega) (by omega) (by omega) (fun h9 fh9 => ?_)
        have gh9 : my_fr [(80, -1), (81, -1), (82, -1)] h h9 := my_fr.up gh_29_0 is_182 fh9 rfl
        refine w_aload_n gz_201_88 rfl ?_
        refine w_getX (v := 183) gz_201_89 is_151 rd_10 rfl (by decide) rfl ?_
        refine w_bipush gz_201_92 (by decide) ?_
        refine w_iload_n gz_201_94 rfl ?_
        refine w_imul gz_201_95 ⟨by omega, by omega⟩ ?_
        refine w_iload gz_201_96 rfl ?_
        refine w_iadd gz_201_98 ⟨by omega, by omega⟩ ?_
        refine w_aload_n gz_201_99 rfl ?_
        refine w_getX (v := 183) gz_201_100 is_151 rd_10 rfl (by decide) rfl ?_
        refine w_bipush gz_201_103 (by decide) ?_
        refine w_iload_n gz_201_105 rfl ?_
        refine w_imul gz_201_106 ⟨by omega, by omega⟩ ?_
        refine w_iload gz_201_107 rfl ?_
        refine w_iadd gz_201_109 ⟨by omega, by omega⟩ ?_
        refine w_iald gz_201_110 is_183 rd_82 (by omega) (by omega) (fun v12 ev12 pv12 qv12 => ?_)
        refine w_iast gz_201_111 is_183 rd_82 (by omega) (by omega) (by omega) (by omega) (fun h13 fh13 => ?_)
        have gh13 : my_fr [(80, -1), (81, -1), (82, -1)] h h13 := my_fr.up gh9 is_183 fh13 rfl
        refine w_aload_n gz_201_112 rfl ?_
        refine w_getX (v := 182) gz_201_113 is_151 rd_10 rfl (by decide) rfl ?_
        refine w_bipush gz_201_116 (by decide) ?_
        refine w_iload_n gz_201_118 rfl ?_
        refine w_imul gz_201_119 ⟨by omega, by omega⟩ ?_
        refine w_iload gz_201_120 rfl ?_
        refine w_iadd gz_201_122 ⟨by omega, by omega⟩ ?_
        refine w_iload gz_201_123 rfl ?_
        refine w_iast gz_201_125 is_182 rd_81 (by omega) (by omega) (by omega) (by omega) (fun h15 fh15 => ?_)
        have gh15 : my_fr [(80, -1), (81, -1), (82, -1)] h h15 := my_fr.up gh13 is_182 fh15 rfl
        refine w_aload_n gz_201_126 rfl ?_
        refine w_getX (v := 183) gz_201_127 is_151 rd_10 rfl (by decide) rfl ?_
        refine w_bipush gz_201_130 (by decide) ?_
        refine w_iload_n gz_201_132 rfl ?_
        refine w_imul gz_201_133 ⟨by omega, by omega⟩ ?_
        refine w_iload gz_201_134 rfl ?_
        refine w_iadd gz_201_136 ⟨by omega, by omega⟩ ?_
        refine w_iload gz_201_137 rfl ?_
        refine w_iast gz_201_139 is_183 rd_82 (by omega) (by omega) (by omega) (by omega) (fun h17 fh17 => ?_)
        have gh17 : my_fr [(80, -1), (81, -1), (82, -1)] h h17 := my_fr.up gh15 is_183 fh17 rfl
        refine w_iinc (ls' := [(2, 151), (0, x1), (0, x2), (0, p29_0), (0, (p29_1 + 1)), (0, v3), (0, v5)]) gz_201_140 rfl gm_201 rfl rfl rfl ⟨by omega, by omega⟩ ?_
        refine w_goto (t := 29) gz_201_143 rfl ?_
        refine w_weak (ls' := [(2, 151), (0, x1), (0, x2), (0, p29_0), (0, (p29_1 + 1)), (9, 0), (9, 0)]) (wk_e (wk_e (wk_e (wk_e (wk_e (wk_9 (wk_9 wk_n))))))) ?_
        exact ih_29_0 (p29_0) ((p29_1 + 1)) h17 (gh17) (by omega) (by omega) (by omega) (by omega) (by omega)
  refine w_aload_n gz_201_0 rfl ?_
  refine w_getX (v := 181) gz_201_1 is_151 rd_10 rfl (by decide) rfl ?_
  refine w_iload_n gz_201_4 rfl ?_
  refine w_iald gz_201_5 is_181 rd_80 (by omega) (by omega) (fun v19 ev19 pv19 qv19 => ?_)
  refine w_istore_n (ls' := [(2, 151), (0, x1), (0, x2), (0, v19), (9, 0), (9, 0), (9, 0)]) gz_201_6 gm_201 rfl rfl rfl ?_
  refine w_aload_n gz_201_7 rfl ?_
  refine w_getX (v := 181) gz_201_8 is_151 rd_10 rfl (by decide) rfl ?_
  refine w_iload_n gz_201_11 rfl ?_
  refine w_aload_n gz_201_12 rfl ?_
  refine w_getX (v := 181) gz_201_13 is_151 rd_10 rfl (by decide) rfl ?_
  refine w_iload_n gz_201_16 rfl ?_
  refine w_iald gz_201_17 is_181 rd_80 (by omega) (by omega) (fun v22 ev22 pv22 qv22 => ?_)
  refine w_iast gz_201_18 is_181 rd_80 (by omega) (by omega) (by omega) (by omega) (fun h23 fh23 => ?_)
  have gh23 : my_fr [(80, -1), (81, -1), (82, -1)] h h23 := my_fr.up my_fr.rf is_181 fh23 rfl
  refine w_aload_n gz_201_19 rfl ?_
  refine w_getX (v := 181) gz_201_20 is_151 rd_10 rfl (by decide) rfl ?_
  refine w_iload_n gz_201_23 rfl ?_
  refine w_iload_n gz_201_24 rfl ?_
  refine w_iast gz_201_25 is_181 rd_80 (by omega) (by omega) (by omega) (by omega) (fun h25 fh25 => ?_)
  have gh25 : my_fr [(80, -1), (81, -1), (82, -1)] h h25 := my_fr.up gh23 is_181 fh25 rfl
  refine w_iconst gz_201_26 (by decide) ?_
  refine w_istore (ls' := [(2, 151), (0, x1), (0, x2), (0, v19), (0, 0), (9, 0), (9, 0)]) gz_201_27 gm_201 rfl rfl rfl ?_
  exact J29_0 9 (v19) (0) h25 (gh25) (by omega) (by omega) (by omega) (by omega) (by omega)
theorem c_Model_draft {l : Launch} {rho : Nat → Int32} {d : Nat} {h : my_H} {Q : my_H → my_V → Prop} {x1 x2 : Int} (k0 : ∀ (h' : my_H), my_fr [(10, 0), (87, -1)] h h' → h' 151 0 = 0 → Q h' (0, 0)) (k1 : ∀ (h' : my_H), my_fr [(10, 0), (87, -1)] h h' → 0 ≤ x1 → x1 ≤ 7 → 0 ≤ x2 → x2 ≤ 19 → h' 151 0 = 0 → Q h' (0, 1)) : wp l rho (d + 1) 206 0 [(2, 151), (0, x1), (0, x2)] [] h Q := by
  refine w_aload_n gz_206_0 rfl ?_
  refine w_iconst gz_206_1 (by decide) ?_
  refine v_putI (j := 0) gz_206_2 rfl is_151 rd_10 rfl (by omega) (by omega) rfl (fun h1 fh1 => ?_)
  have gh1 : my_fr [(10, 0), (87, -1)] h h1 := my_fr.up my_fr.rf is_151 fh1 rfl
  refine w_iload_n gz_206_5 rfl ?_
  refine w_iconst gz_206_6 (by decide) ?_
  refine w_bipush gz_206_7 (by decide) ?_
  refine w_inS (k := 0) (as := [(0, 7), (0, 0), (0, x1)]) (r := []) (ls0 := [(0, x1), (0, 0), (0, 7)]) gz_206_9 gm_147 rfl rfl rfl rfl rfl rfl ?_
  refine w_iload_n gz_147_0 rfl ?_
  refine w_iload_n gz_147_1 rfl ?_
  refine w_iclt (t := 14) gz_147_2 rfl (fun u2 => ?_) (fun u2 => ?_)
  ·
    refine w_iconst gz_147_14 (by decide) ?_
    refine w_bret gz_147_15 gm_147 (by omega) (by omega) ?_
    show wp l rho (d + 1) 206 12 [(2, 151), (0, x1), (0, x2)] [(0, 0)] h1 Q
    refine w_ifeq (t := 25) gz_206_12 rfl (fun u3 => ?_) (fun u3 => by exfalso; omega)
    refine w_iconst gz_206_25 (by decide) ?_
    have c4 := (my_up_self fh1)
    exact w_bret gz_206_26 gm_206 (by omega) (by omega) (k0 h1 (gh1) (by omega))
  ·
    refine w_iload_n gz_147_5 rfl ?_
    refine w_iload_n gz_147_6 rfl ?_
    refine w_icgt (t := 14) gz_147_7 rfl (fun u5 => ?_) (fun u5 => ?_)
    ·
      refine w_iconst gz_147_14 (by decide) ?_
      refine w_bret gz_147_15 gm_147 (by omega) (by omega) ?_
      show wp l rho (d + 1) 206 12 [(2, 151), (0, x1), (0, x2)] [(0, 0)] h1 Q
      refine w_ifeq (t := 25) gz_206_12 rfl (fun u6 => ?_) (fun u6 => by exfalso; omega)
      refine w_iconst gz_206_25 (by decide) ?_
      have c7 := (my_up_self fh1)
      exact w_bret gz_206_26 gm_206 (by omega) (by omega) (k0 h1 (gh1) (by omega))
    ·
      refine w_iconst gz_147_10 (by decide) ?_
      refine w_goto (t := 15) gz_147_11 rfl ?_
      refine w_bret gz_147_15 gm_147 (by omega) (by omega) ?_
      show wp l rho (d + 1) 206 12 [(2, 151), (0, x1), (0, x2)] [(0, 1)] h1 Q
      refine w_ifeq (t := 25) gz_206_12 rfl (fun u8 => by exfalso; omega) (fun u8 => ?_)
      refine w_iload_n gz_206_15 rfl ?_
      refine w_iconst gz_206_16 (by decide) ?_
      refine w_bipush gz_206_17 (by decide) ?_
      refine w_inS (k := 0) (as := [(0, 19), (0, 0), (0, x2)]) (r := []) (ls0 := [(0, x2), (0, 0), (0, 19)]) gz_206_19 gm_147 rfl rfl rfl rfl rfl rfl ?_
      refine w_iload_n gz_147_0 rfl ?_
      refine w_iload_n gz_147_1 rfl ?_
      refine w_iclt (t := 14) gz_147_2 rfl (fun u9 => ?_) (fun u9 => ?_)
      ·
        refine w_iconst gz_147_14 (by decide) ?_
        refine w_bret gz_147_15 gm_147 (by omega) (by omega) ?_
        show wp l rho (d + 1) 206 22 [(2, 151), (0, x1), (0, x2)] [(0, 0)] h1 Q
        refine w_ifne (t := 27) gz_206_22 rfl (fun u10 => by exfalso; omega) (fun u10 => ?_)
        refine w_iconst gz_206_25 (by decide) ?_
        have c11 := (my_up_self fh1)
        exact w_bret gz_206_26 gm_206 (by omega) (by omega) (k0 h1 (gh1) (by omega))
      ·
        refine w_iload_n gz_147_5 rfl ?_
        refine w_iload_n gz_147_6 rfl ?_
        refine w_icgt (t := 14) gz_147_7 rfl (fun u12 => ?_) (fun u12 => ?_)
        ·
          refine w_iconst gz_147_14 (by decide) ?_
          refine w_bret gz_147_15 gm_147 (by omega) (by omega) ?_
          show wp l rho (d + 1) 206 22 [(2, 151), (0, x1), (0, x2)] [(0, 0)] h1 Q
          refine w_ifne (t := 27) gz_206_22 rfl (fun u13 => by exfalso; omega) (fun u13 => ?_)
          refine w_iconst gz_206_25 (by decide) ?_
          have c14 := (my_up_self fh1)
          exact w_bret gz_206_26 gm_206 (by omega) (by omega) (k0 h1 (gh1) (by omega))
        ·
          refine w_iconst gz_147_10 (by decide) ?_
          refine w_goto (t := 15) gz_147_11 rfl ?_
          refine w_bret gz_147_15 gm_147 (by omega) (by omega) ?_
          show wp l rho (d + 1) 206 22 [(2, 151), (0, x1), (0, x2)] [(0, 1)] h1 Q
          refine w_ifne (t := 27) gz_206_22 rfl (fun u15 => ?_) (fun u15 => by exfalso; omega)
          refine w_aload_n gz_206_27 rfl ?_
          refine w_getX (v := 188) gz_206_28 is_151 rd_10 rfl (by decide) rfl ?_
          refine w_iload_n gz_206_31 rfl ?_
          refine w_iload_n gz_206_32 rfl ?_
          refine w_iast gz_206_33 is_188 rd_87 (by omega) (by omega) (by omega) (by omega) (fun h17 fh17 => ?_)
          have gh17 : my_fr [(10, 0), (87, -1)] h h17 := my_fr.up gh1 is_188 fh17 rfl
          refine w_iconst gz_206_34 (by decide) ?_
          have c18 := ((my_up_role fh17 is_151 is_188 rfl).trans (my_up_self fh1))
          exact w_bret gz_206_35 gm_206 (by omega) (by omega) (k1 h17 (gh17) (by omega) (by omega) (by omega) (by omega) (by omega))
theorem c_Laws_namesKeys {l : Launch} {rho : Nat → Int32} {d : Nat} {h : my_H} {Q : my_H → my_V → Prop} {x0 x1 x2 x3 : Int} (t0 : my_is 6 x0) (a1 : 0 ≤ x1) (b1 : x1 ≤ 2) (a2 : 0 ≤ x2) (b2 : x2 ≤ 3) (a3 : 0 ≤ x3) (b3 : x3 ≤ 2) (k0 : Q h (0, 0)) (k1 : Q h (0, 1)) : wp l rho (d + 1) 21 0 [(2, x0), (0, x1), (0, x2), (0, x3), (9, 0), (9, 0)] [] h Q := by
  have J3_0 : ∀ (n : Nat) (p3_0 : Int), 0 ≤ p3_0 → p3_0 ≤ 20 → 21 - p3_0 ≤ (n : Int) → wp l rho (d + 1) 21 3 [(2, x0), (0, x1), (0, x2), (0, x3), (0, p3_0), (9, 0)] [] h Q := by
    intro n
    induction n with
    | zero => intro p3_0 q0_3_0 q1_3_0 hm_3_0; exfalso; omega
    | succ n ih_3_0 =>
      intro p3_0 q0_3_0 q1_3_0 hm_3_0
      have J48_0 : ∀ (p48_0 : Int), p3_0 ≤ 19 → 0 ≤ p48_0 → p48_0 ≤ 236 → wp l rho (d + 1) 21 48 [(2, x0), (0, x1), (0, x2), (0, x3), (0, p3_0), (0, p48_0)] [] h Q := by
        intro p48_0 q0_48_0 q1_48_0 q2_48_0
        refine w_iinc (ls' := [(2, x0), (0, x1), (0, x2), (0, x3), (0, (p3_0 + 1)), (0, p48_0)]) gz_21_48 rfl gm_21 rfl rfl rfl ⟨by omega, by omega⟩ ?_
        refine w_goto (t := 3) gz_21_51 rfl ?_
        refine w_weak (ls' := [(2, x0), (0, x1), (0, x2), (0, x3), (0, (p3_0 + 1)), (9, 0)]) (wk_e (wk_e (wk_e (wk_e (wk_e (wk_9 wk_n)))))) ?_
        exact ih_3_0 ((p3_0 + 1)) (by omega) (by omega) (by omega)
      refine w_iload gz_21_3 rfl ?_
      refine w_bipush gz_21_5 (by decide) ?_
      refine w_icge (t := 54) gz_21_7 rfl (fun u1 => ?_) (fun u1 => ?_)
      ·
        refine w_iconst gz_21_54 (by decide) ?_
        exact w_bret gz_21_55 gm_21 (by omega) (by omega) (k1 )
      ·
        refine w_iload_n gz_21_10 rfl ?_
        refine w_iload gz_21_11 rfl ?_
        refine w_inS (k := 0) (as := [(0, p3_0), (0, x1)]) (r := []) (ls0 := [(0, x1), (0, p3_0)]) gz_21_13 gm_17 rfl rfl rfl rfl rfl rfl ?_
        refine w_iload_n gz_17_0 rfl ?_
        refine w_bipush gz_17_1 (by decide) ?_
        refine w_imul gz_17_3 ⟨by omega, by omega⟩ ?_
        refine w_iload_n gz_17_4 rfl ?_
        refine w_iadd gz_17_5 ⟨by omega, by omega⟩ ?_
        refine w_iconst gz_17_6 (by decide) ?_
        refine w_imul gz_17_7 ⟨by omega, by omega⟩ ?_
        refine w_iret gz_17_8 gm_17 ?_
        show wp l rho (d + 1) 21 16 [(2, x0), (0, x1), (0, x2), (0, x3), (0, p3_0), (9, 0)] [(0, (((x1 * 20) + p3_0) * 4))] h Q
        refine w_istore (ls' := [(2, x0), (0, x1), (0, x2), (0, x3), (0, p3_0), (0, (((x1 * 20) + p3_0) * 4))]) gz_21_16 gm_21 rfl rfl rfl ?_
        refine w_aload_n gz_21_18 rfl ?_
        refine w_getX (v := (x0 + 1)) gz_21_19 t0 rd_6 rfl (by decide) rfl ?_
        refine w_iload gz_21_22 rfl ?_
        refine w_iald gz_21_24 (ix_6_1 t0) rd_30 (by omega) (by omega) (fun v3 ev3 pv3 qv3 => ?_)
        refine w_iconst gz_21_25 (by decide) ?_
        refine w_iceq (t := 48) gz_21_26 rfl (fun u4 => ?_) (fun u4 => ?_)
        ·
          exact J48_0 ((((x1 * 20) + p3_0) * 4)) (by omega) (by omega) (by omega)
        ·
          refine w_aload_n gz_21_29 rfl ?_
          refine w_iload_n gz_21_30 rfl ?_
          refine w_aload_n gz_21_31 rfl ?_
          refine w_getX (v := (x0 + 1)) gz_21_32 t0 rd_6 rfl (by decide) rfl ?_
          refine w_iload gz_21_35 rfl ?_
          refine w_iload_n gz_21_37 rfl ?_
          refine w_iadd gz_21_38 ⟨by omega, by omega⟩ ?_
          refine w_iald gz_21_39 (ix_6_1 t0) rd_30 (by omega) (by omega) (fun v6 ev6 pv6 qv6 => ?_)
          refine w_inv (k := 0) (as := [(0, v6), (0, x3)]) (r := []) (x := x0) (ls0 := [(2, x0), (0, x3), (0, v6)]) gz_21_40 gm_15 rfl t0 rd_6 rfl rfl rfl rfl rfl ?_
          refine w_iload_n gz_15_0 rfl ?_
          refine w_iflt (t := 31) gz_15_1 rfl (fun u7 => ?_) (fun u7 => ?_)
          ·
            refine w_iconst gz_15_31 (by decide) ?_
            refine w_bret gz_15_32 gm_15 (by omega) (by omega) ?_
            show wp l rho (d + 1) 21 43 [(2, x0), (0, x1), (0, x2), (0, x3), (0, p3_0), (0, (((x1 * 20) + p3_0) * 4))] [(0, 0)] h Q
            refine w_ifne (t := 48) gz_21_43 rfl (fun u8 => by exfalso; omega) (fun u8 => ?_)
            refine w_iconst gz_21_46 (by decide) ?_
            exact w_bret gz_21_47 gm_21 (by omega) (by omega) (k0 )
          ·
            refine w_iload_n gz_15_4 rfl ?_
            refine w_bipush gz_15_5 (by decide) ?_
            refine w_icge (t := 31) gz_15_7 rfl (fun u9 => by exfalso; omega) (fun u9 => ?_)
            refine w_aload_n gz_15_10 rfl ?_
            refine w_getX (v := (x0 + 1)) gz_15_11 t0 rd_6 rfl (by decide) rfl ?_
            refine w_iload_n gz_15_14 rfl ?_
            refine w_bipush gz_15_15 (by decide) ?_
            refine w_imul gz_15_17 ⟨by omega, by omega⟩ ?_
            refine w_iload_n gz_15_18 rfl ?_
            refine w_iadd gz_15_19 ⟨by omega, by omega⟩ ?_
            refine w_iconst gz_15_20 (by decide) ?_
            refine w_imul gz_15_21 ⟨by omega, by omega⟩ ?_
            refine w_iald gz_15_22 (ix_6_1 t0) rd_30 (by omega) (by omega) (fun v11 ev11 pv11 qv11 => ?_)
            refine w_iconst gz_15_23 (by decide) ?_
            refine w_iceq (t := 31) gz_15_24 rfl (fun u12 => ?_) (fun u12 => ?_)
            ·
              refine w_iconst gz_15_31 (by decide) ?_
              refine w_bret gz_15_32 gm_15 (by omega) (by omega) ?_
              show wp l rho (d + 1) 21 43 [(2, x0), (0, x1), (0, x2), (0, x3), (0, p3_0), (0, (((x1 * 20) + p3_0) * 4))] [(0, 0)] h Q
              refine w_ifne (t := 48) gz_21_43 rfl (fun u13 => by exfalso; omega) (fun u13 => ?_)
              refine w_iconst gz_21_46 (by decide) ?_
              exact w_bret gz_21_47 gm_21 (by omega) (by omega) (k0 )
            ·
              refine w_iconst gz_15_27 (by decide) ?_
              refine w_goto (t := 32) gz_15_28 rfl ?_
              refine w_bret gz_15_32 gm_15 (by omega) (by omega) ?_
              show wp l rho (d + 1) 21 43 [(2, x0), (0, x1), (0, x2), (0, x3), (0, p3_0), (0, (((x1 * 20) + p3_0) * 4))] [(0, 1)] h Q
              refine w_ifne (t := 48) gz_21_43 rfl (fun u14 => ?_) (fun u14 => by exfalso; omega)
              exact J48_0 ((((x1 * 20) + p3_0) * 4)) (by omega) (by omega) (by omega)
  refine w_iconst gz_21_0 (by decide) ?_
  refine w_istore (ls' := [(2, x0), (0, x1), (0, x2), (0, x3), (0, 0), (9, 0)]) gz_21_1 gm_21 rfl rfl rfl ?_
  exact J3_0 21 (0) (by omega) (by omega) (by omega)
theorem c_Model_isLess {l : Launch} {rho : Nat → Int32} {d : Nat} {h : my_H} {Q : my_H → my_V → Prop} {x1 x2 : Int} (a1 : 1 ≤ x1) (b1 : x1 ≤ 10) (a2 : 0 ≤ x2) (b2 : x2 ≤ 9) (k0 : Q h (0, 0)) (k1 : 1 ≤ h 151 27 → h 151 27 ≤ 8 → Q h (0, 1)) : wp l rho d 211 0 [(2, 151), (0, x1), (0, x2), (9, 0)] [] h Q := by
  have J2_0 : ∀ (n : Nat) (p2_0 : Int), 0 ≤ p2_0 → p2_0 ≤ 8 → 9 - p2_0 ≤ (n : Int) → wp l rho d 211 2 [(2, 151), (0, x1), (0, x2), (0, p2_0)] [] h Q := by
    intro n
    induction n with
    | zero => intro p2_0 q0_2_0 q1_2_0 hm_2_0; exfalso; omega
    | succ n ih_2_0 =>
      intro p2_0 q0_2_0 q1_2_0 hm_2_0
      refine w_iload_n gz_211_2 rfl ?_
      refine w_aload_n gz_211_3 rfl ?_
      refine v_getI (j := 27) gz_211_4 rfl is_151 rd_10 rfl (fun v1 ev1 pv1 qv1 => ?_)
      refine w_icge (t := 72) gz_211_7 rfl (fun u2 => ?_) (fun u2 => ?_)
      ·
        refine w_iconst gz_211_72 (by decide) ?_
        exact w_bret gz_211_73 gm_211 (by omega) (by omega) (k0 )
      ·
        refine w_aload_n gz_211_10 rfl ?_
        refine w_getX (v := 189) gz_211_11 is_151 rd_10 rfl (by decide) rfl ?_
        refine w_bipush gz_211_14 (by decide) ?_
        refine w_iload_n gz_211_16 rfl ?_
        refine w_imul gz_211_17 ⟨by omega, by omega⟩ ?_
        refine w_iload_n gz_211_18 rfl ?_
        refine w_iadd gz_211_19 ⟨by omega, by omega⟩ ?_
        refine w_iald gz_211_20 is_189 rd_88 (by omega) (by omega) (fun v4 ev4 pv4 qv4 => ?_)
        refine w_aload_n gz_211_21 rfl ?_
        refine w_getX (v := 189) gz_211_22 is_151 rd_10 rfl (by decide) rfl ?_
        refine w_bipush gz_211_25 (by decide) ?_
        refine w_iload_n gz_211_27 rfl ?_
        refine w_imul gz_211_28 ⟨by omega, by omega⟩ ?_
        refine w_iload_n gz_211_29 rfl ?_
        refine w_iadd gz_211_30 ⟨by omega, by omega⟩ ?_
        refine w_iald gz_211_31 is_189 rd_88 (by omega) (by omega) (fun v6 ev6 pv6 qv6 => ?_)
        refine w_iceq (t := 66) gz_211_32 rfl (fun u7 => ?_) (fun u7 => ?_)
        ·
          refine w_iinc (ls' := [(2, 151), (0, x1), (0, x2), (0, (p2_0 + 1))]) gz_211_66 rfl gm_211 rfl rfl rfl ⟨by omega, by omega⟩ ?_
          refine w_goto (t := 2) gz_211_69 rfl ?_
          exact ih_2_0 ((p2_0 + 1)) (by omega) (by omega) (by omega)
        ·
          refine w_aload_n gz_211_35 rfl ?_
          refine w_getX (v := 189) gz_211_36 is_151 rd_10 rfl (by decide) rfl ?_
          refine w_bipush gz_211_39 (by decide) ?_
          refine w_iload_n gz_211_41 rfl ?_
          refine w_imul gz_211_42 ⟨by omega, by omega⟩ ?_
          refine w_iload_n gz_211_43 rfl ?_
          refine w_iadd gz_211_44 ⟨by omega, by omega⟩ ?_
          refine w_iald gz_211_45 is_189 rd_88 (by omega) (by omega) (fun v9 ev9 pv9 qv9 => ?_)
          refine w_aload_n gz_211_46 rfl ?_
          refine w_getX (v := 189) gz_211_47 is_151 rd_10 rfl (by decide) rfl ?_
          refine w_bipush gz_211_50 (by decide) ?_
          refine w_iload_n gz_211_52 rfl ?_
          refine w_imul gz_211_53 ⟨by omega, by omega⟩ ?_
          refine w_iload_n gz_211_54 rfl ?_
          refine w_iadd gz_211_55 ⟨by omega, by omega⟩ ?_
          refine w_iald gz_211_56 is_189 rd_88 (by omega) (by omega) (fun v11 ev11 pv11 qv11 => ?_)
          refine w_icge (t := 64) gz_211_57 rfl (fun u12 => ?_) (fun u12 => ?_)
          ·
            refine w_iconst gz_211_64 (by decide) ?_
            exact w_bret gz_211_65 gm_211 (by omega) (by omega) (k0 )
          ·
            refine w_iconst gz_211_60 (by decide) ?_
            refine w_goto (t := 65) gz_211_61 rfl ?_
            have c13 := ev1.symm
            exact w_bret gz_211_65 gm_211 (by omega) (by omega) (k1 (by omega) (by omega))
  refine w_iconst gz_211_0 (by decide) ?_
  refine w_istore_n (ls' := [(2, 151), (0, x1), (0, x2), (0, 0)]) gz_211_1 gm_211 rfl rfl rfl ?_
  exact J2_0 9 (0) (by omega) (by omega) (by omega)
theorem c_Model_exchanges {l : Launch} {rho : Nat → Int32} {d : Nat} {h : my_H} {Q : my_H → my_V → Prop} {x1 x2 : Int} (a1 : 0 ≤ x1) (b1 : x1 ≤ 9) (a2 : 1 ≤ x2) (b2 : x2 ≤ 10) (k0 : ∀ (h' : my_H), my_fr [(88, -1)] h h' → Q h' (9, 0)) : wp l rho d 212 0 [(2, 151), (0, x1), (0, x2), (9, 0), (9, 0)] [] h Q := by
  have J2_0 : ∀ (n : Nat) (p2_0 : Int) (h2_0 : my_H), my_fr [(88, -1)] h h2_0 → 0 ≤ p2_0 → p2_0 ≤ 8 → 9 - p2_0 ≤ (n : Int) → wp l rho d 212 2 [(2, 151), (0, x1), (0, x2), (0, p2_0), (9, 0)] [] h2_0 Q := by
    intro n
    induction n with
    | zero => intro p2_0 h2_0 gh_2_0 q0_2_0 q1_2_0 hm_2_0; exfalso; omega
    | succ n ih_2_0 =>
      intro p2_0 h2_0 gh_2_0 q0_2_0 q1_2_0 hm_2_0
      refine w_iload_n gz_212_2 rfl ?_
      refine w_aload_n gz_212_3 rfl ?_
      refine v_getI (j := 27) gz_212_4 rfl is_151 rd_10 rfl (fun v1 ev1 pv1 qv1 => ?_)
      refine w_icge (t := 64) gz_212_7 rfl (fun u2 => ?_) (fun u2 => ?_)
      ·
        exact w_vret gz_212_64 gm_212 (k0 h2_0 (gh_2_0))
      ·
        refine w_aload_n gz_212_10 rfl ?_
        refine w_getX (v := 189) gz_212_11 is_151 rd_10 rfl (by decide) rfl ?_
        refine w_bipush gz_212_14 (by decide) ?_
        refine w_iload_n gz_212_16 rfl ?_
        refine w_imul gz_212_17 ⟨by omega, by omega⟩ ?_
        refine w_iload_n gz_212_18 rfl ?_
        refine w_iadd gz_212_19 ⟨by omega, by omega⟩ ?_
        refine w_iald gz_212_20 is_189 rd_88 (by omega) (by omega) (fun v4 ev4 pv4 qv4 => ?_)
        refine w_istore (ls' := [(2, 151), (0, x1), (0, x2), (0, p2_0), (0, v4)]) gz_212_21 gm_212 rfl rfl rfl ?_
        refine w_aload_n gz_212_23 rfl ?_
        refine w_getX (v := 189) gz_212_24 is_151 rd_10 rfl (by decide) rfl ?_
        refine w_bipush gz_212_27 (by decide) ?_
        refine w_iload_n gz_212_29 rfl ?_
        refine w_imul gz_212_30 ⟨by omega, by omega⟩ ?_
        refine w_iload_n gz_212_31 rfl ?_
        refine w_iadd gz_212_32 ⟨by omega, by omega⟩ ?_
        refine w_aload_n gz_212_33 rfl ?_
        refine w_getX (v := 189) gz_212_34 is_151 rd_10 rfl (by decide) rfl ?_
        refine w_bipush gz_212_37 (by decide) ?_
        refine w_iload_n gz_212_39 rfl ?_
        refine w_imul gz_212_40 ⟨by omega, by omega⟩ ?_
        refine w_iload_n gz_212_41 rfl ?_
        refine w_iadd gz_212_42 ⟨by omega, by omega⟩ ?_
        refine w_iald gz_212_43 is_189 rd_88 (by omega) (by omega) (fun v7 ev7 pv7 qv7 => ?_)
        refine w_iast gz_212_44 is_189 rd_88 (by omega) (by omega) (by omega) (by omega) (fun h8 fh8 => ?_)
        have gh8 : my_fr [(88, -1)] h h8 := my_fr.up gh_2_0 is_189 fh8 rfl
        refine w_aload_n gz_212_45 rfl ?_
        refine w_getX (v := 189) gz_212_46 is_151 rd_10 rfl (by decide) rfl ?_
        refine w_bipush gz_212_49 (by decide) ?_
        refine w_iload_n gz_212_51 rfl ?_
        refine w_imul gz_212_52 ⟨by omega, by omega⟩ ?_
        refine w_iload_n gz_212_53 rfl ?_
        refine w_iadd gz_212_54 ⟨by omega, by omega⟩ ?_
        refine w_iload gz_212_55 rfl ?_
        refine w_iast gz_212_57 is_189 rd_88 (by omega) (by omega) (by omega) (by omega) (fun h10 fh10 => ?_)
        have gh10 : my_fr [(88, -1)] h h10 := my_fr.up gh8 is_189 fh10 rfl
        refine w_iinc (ls' := [(2, 151), (0, x1), (0, x2), (0, (p2_0 + 1)), (0, v4)]) gz_212_58 rfl gm_212 rfl rfl rfl ⟨by omega, by omega⟩ ?_
        refine w_goto (t := 2) gz_212_61 rfl ?_
        refine w_weak (ls' := [(2, 151), (0, x1), (0, x2), (0, (p2_0 + 1)), (9, 0)]) (wk_e (wk_e (wk_e (wk_e (wk_9 wk_n))))) ?_
        exact ih_2_0 ((p2_0 + 1)) h10 (gh10) (by omega) (by omega) (by omega)
  refine w_iconst gz_212_0 (by decide) ?_
  refine w_istore_n (ls' := [(2, 151), (0, x1), (0, x2), (0, 0), (9, 0)]) gz_212_1 gm_212 rfl rfl rfl ?_
  exact J2_0 9 (0) h (my_fr.rf) (by omega) (by omega) (by omega)
theorem c_Model_fillOf {l : Launch} {rho : Nat → Int32} {d : Nat} {h : my_H} {Q : my_H → my_V → Prop} {x1 : Int} (a1 : 0 ≤ x1) (b1 : x1 ≤ 3) (k0 : Q h (0, 0)) (k1 : ∀ (y : Int), (-1) ≤ y → y ≤ 19 → 1 ≤ h 151 32 → h 151 32 ≤ 6 → Q h (0, y)) : wp l rho d 218 0 [(2, 151), (0, x1), (9, 0)] [] h Q := by
  have J7_0 : ∀ (n : Nat) (p7_0 p7_1 : Int), (-1) ≤ p7_0 → p7_0 ≤ 5 → 0 ≤ p7_1 → p7_1 ≤ 6 → p7_0 ≤ (p7_1 - 1) → h 151 32 = p7_1 → p7_0 - (-2) ≤ (n : Int) → wp l rho d 218 7 [(2, 151), (0, x1), (0, p7_0)] [] h Q := by
    intro n
    induction n with
    | zero => intro p7_0 p7_1 q0_7_0 q1_7_0 q2_7_0 q3_7_0 q4_7_0 c151_32_7_0 hm_7_0; exfalso; omega
    | succ n ih_7_0 =>
      intro p7_0 p7_1 q0_7_0 q1_7_0 q2_7_0 q3_7_0 q4_7_0 c151_32_7_0 hm_7_0
      refine w_iload_n gz_218_7 rfl ?_
      refine w_iflt (t := 51) gz_218_8 rfl (fun u1 => ?_) (fun u1 => ?_)
      ·
        refine w_iconst gz_218_51 (by decide) ?_
        exact w_iret gz_218_52 gm_218 (k0 )
      ·
        refine w_aload_n gz_218_11 rfl ?_
        refine w_getX (v := 173) gz_218_12 is_151 rd_10 rfl (by decide) rfl ?_
        refine w_iconst gz_218_15 (by decide) ?_
        refine w_aload_n gz_218_16 rfl ?_
        refine w_getX (v := 177) gz_218_17 is_151 rd_10 rfl (by decide) rfl ?_
        refine w_iload_n gz_218_20 rfl ?_
        refine w_iald gz_218_21 is_177 rd_76 (by omega) (by omega) (fun v4 ev4 pv4 qv4 => ?_)
        refine w_imul gz_218_22 ⟨by omega, by omega⟩ ?_
        refine w_iload_n gz_218_23 rfl ?_
        refine w_iadd gz_218_24 ⟨by omega, by omega⟩ ?_
        refine w_iald gz_218_25 is_173 rd_72 (by omega) (by omega) (fun v5 ev5 pv5 qv5 => ?_)
        refine w_iflt (t := 45) gz_218_26 rfl (fun u6 => ?_) (fun u6 => ?_)
        ·
          refine w_iinc (ls' := [(2, 151), (0, x1), (0, (p7_0 + (-1)))]) gz_218_45 rfl gm_218 rfl rfl rfl ⟨by omega, by omega⟩ ?_
          refine w_goto (t := 7) gz_218_48 rfl ?_
          exact ih_7_0 ((p7_0 + (-1))) (p7_1) (by omega) (by omega) (by omega) (by omega) (by omega) (c151_32_7_0.trans (by omega)) (by omega)
        ·
          refine w_aload_n gz_218_29 rfl ?_
          refine w_getX (v := 173) gz_218_30 is_151 rd_10 rfl (by decide) rfl ?_
          refine w_iconst gz_218_33 (by decide) ?_
          refine w_aload_n gz_218_34 rfl ?_
          refine w_getX (v := 177) gz_218_35 is_151 rd_10 rfl (by decide) rfl ?_
          refine w_iload_n gz_218_38 rfl ?_
          refine w_iald gz_218_39 is_177 rd_76 (by omega) (by omega) (fun v9 ev9 pv9 qv9 => ?_)
          have zv9 := ev9.trans ev4.symm
          refine w_imul gz_218_40 ⟨by omega, by omega⟩ ?_
          refine w_iload_n gz_218_41 rfl ?_
          refine w_iadd gz_218_42 ⟨by omega, by omega⟩ ?_
          refine w_iald gz_218_43 is_173 rd_72 (by omega) (by omega) (fun v10 ev10 pv10 qv10 => ?_)
          have c11 := c151_32_7_0
          exact w_iret gz_218_44 gm_218 (k1 (v10) (by omega) (by omega) (by omega) (by omega))
  refine w_aload_n gz_218_0 rfl ?_
  refine v_getI (j := 32) gz_218_1 rfl is_151 rd_10 rfl (fun v12 ev12 pv12 qv12 => ?_)
  refine w_iconst gz_218_4 (by decide) ?_
  refine w_isub gz_218_5 ⟨by omega, by omega⟩ ?_
  refine w_istore_n (ls' := [(2, 151), (0, x1), (0, (v12 - 1))]) gz_218_6 gm_218 rfl rfl rfl ?_
  exact J7_0 7 ((v12 - 1)) (v12) (by omega) (by omega) (by omega) (by omega) (by omega) (ev12.symm.trans (by omega)) (by omega)
theorem c_Laws_isSingle {l : Launch} {rho : Nat → Int32} {d : Nat} {h : my_H} {Q : my_H → my_V → Prop} {x0 x1 x2 : Int} (t0 : my_is 6 x0) (a1 : 0 ≤ x1) (b1 : x1 ≤ 2) (a2 : 0 ≤ x2) (b2 : x2 ≤ 3) (k0 : Q h (0, 0)) (k1 : Q h (0, 1)) : wp l rho (d + 1) 22 0 [(2, x0), (0, x1), (0, x2), (9, 0), (9, 0), (9, 0), (9, 0)] [] h Q := by
  have J5_0 : ∀ (n : Nat) (p5_0 p5_1 : Int), 0 ≤ p5_1 → p5_1 ≤ 20 → 21 - p5_1 ≤ (n : Int) → wp l rho (d + 1) 22 5 [(2, x0), (0, x1), (0, x2), (0, p5_0), (0, p5_1), (9, 0), (9, 0)] [] h Q := by
    intro n
    induction n with
    | zero => intro p5_0 p5_1 q0_5_0 q1_5_0 hm_5_0; exfalso; omega
    | succ n ih_5_0 =>
      intro p5_0 p5_1 q0_5_0 q1_5_0 hm_5_0
      have J58_0 : ∀ (p58_0 p58_1 : Int), p5_1 ≤ 19 → 0 ≤ p58_1 → p58_1 ≤ 236 → wp l rho (d + 1) 22 58 [(2, x0), (0, x1), (0, x2), (0, p58_0), (0, p5_1), (0, p58_1), (9, 0)] [] h Q := by
        intro p58_0 p58_1 q0_58_0 q1_58_0 q2_58_0
        refine w_iinc (ls' := [(2, x0), (0, x1), (0, x2), (0, p58_0), (0, (p5_1 + 1)), (0, p58_1), (9, 0)]) gz_22_58 rfl gm_22 rfl rfl rfl ⟨by omega, by omega⟩ ?_
        refine w_goto (t := 5) gz_22_61 rfl ?_
        refine w_weak (ls' := [(2, x0), (0, x1), (0, x2), (0, p58_0), (0, (p5_1 + 1)), (9, 0), (9, 0)]) (wk_e (wk_e (wk_e (wk_e (wk_e (wk_9 (wk_9 wk_n))))))) ?_
        exact ih_5_0 (p58_0) ((p5_1 + 1)) (by omega) (by omega) (by omega)
      refine w_iload gz_22_5 rfl ?_
      refine w_bipush gz_22_7 (by decide) ?_
      refine w_icge (t := 64) gz_22_9 rfl (fun u1 => ?_) (fun u1 => ?_)
      ·
        refine w_iconst gz_22_64 (by decide) ?_
        exact w_bret gz_22_65 gm_22 (by omega) (by omega) (k1 )
      ·
        refine w_iload_n gz_22_12 rfl ?_
        refine w_iload gz_22_13 rfl ?_
        refine w_inS (k := 0) (as := [(0, p5_1), (0, x1)]) (r := []) (ls0 := [(0, x1), (0, p5_1)]) gz_22_15 gm_17 rfl rfl rfl rfl rfl rfl ?_
        refine w_iload_n gz_17_0 rfl ?_
        refine w_bipush gz_17_1 (by decide) ?_
        refine w_imul gz_17_3 ⟨by omega, by omega⟩ ?_
        refine w_iload_n gz_17_4 rfl ?_
        refine w_iadd gz_17_5 ⟨by omega, by omega⟩ ?_
        refine w_iconst gz_17_6 (by decide) ?_
        refine w_imul gz_17_7 ⟨by omega, by omega⟩ ?_
        refine w_iret gz_17_8 gm_17 ?_
        show wp l rho (d + 1) 22 18 [(2, x0), (0, x1), (0, x2), (0, p5_0), (0, p5_1), (9, 0), (9, 0)] [(0, (((x1 * 20) + p5_1) * 4))] h Q
        refine w_istore (ls' := [(2, x0), (0, x1), (0, x2), (0, p5_0), (0, p5_1), (0, (((x1 * 20) + p5_1) * 4)), (9, 0)]) gz_22_18 gm_22 rfl rfl rfl ?_
        refine w_aload_n gz_22_20 rfl ?_
        refine w_getX (v := (x0 + 1)) gz_22_21 t0 rd_6 rfl (by decide) rfl ?_
        refine w_iload gz_22_24 rfl ?_
        refine w_iald gz_22_26 (ix_6_1 t0) rd_30 (by omega) (by omega) (fun v3 ev3 pv3 qv3 => ?_)
        refine w_iconst gz_22_27 (by decide) ?_
        refine w_iceq (t := 58) gz_22_28 rfl (fun u4 => ?_) (fun u4 => ?_)
        ·
          exact J58_0 (p5_0) ((((x1 * 20) + p5_1) * 4)) (by omega) (by omega) (by omega)
        ·
          refine w_iconst gz_22_31 (by decide) ?_
          refine w_aload_n gz_22_32 rfl ?_
          refine w_getX (v := (x0 + 1)) gz_22_33 t0 rd_6 rfl (by decide) rfl ?_
          refine w_iload gz_22_36 rfl ?_
          refine w_iload_n gz_22_38 rfl ?_
          refine w_iadd gz_22_39 ⟨by omega, by omega⟩ ?_
          refine w_iald gz_22_40 (ix_6_1 t0) rd_30 (by omega) (by omega) (fun v6 ev6 pv6 qv6 => ?_)
          refine w_ianyL gz_22_41 (fun v7 pv7 qv7 => ?_)
          refine w_istore (ls' := [(2, x0), (0, x1), (0, x2), (0, p5_0), (0, p5_1), (0, (((x1 * 20) + p5_1) * 4)), (0, v7)]) gz_22_42 gm_22 rfl rfl rfl ?_
          refine w_iload_n gz_22_44 rfl ?_
          refine w_iload gz_22_45 rfl ?_
          refine w_ianyN gz_22_47 (fun v8 pv8 qv8 => ?_)
          refine w_ifeq (t := 53) gz_22_48 rfl (fun u9 => ?_) (fun u9 => ?_)
          ·
            refine w_iload_n gz_22_53 rfl ?_
            refine w_iload gz_22_54 rfl ?_
            refine w_ianyO gz_22_56 (fun v10 pv10 qv10 => ?_)
            refine w_istore_n (ls' := [(2, x0), (0, x1), (0, x2), (0, v10), (0, p5_1), (0, (((x1 * 20) + p5_1) * 4)), (0, v7)]) gz_22_57 gm_22 rfl rfl rfl ?_
            refine w_weak (ls' := [(2, x0), (0, x1), (0, x2), (0, v10), (0, p5_1), (0, (((x1 * 20) + p5_1) * 4)), (9, 0)]) (wk_e (wk_e (wk_e (wk_e (wk_e (wk_e (wk_9 wk_n))))))) ?_
            exact J58_0 (v10) ((((x1 * 20) + p5_1) * 4)) (by omega) (by omega) (by omega)
          ·
            refine w_iconst gz_22_51 (by decide) ?_
            exact w_bret gz_22_52 gm_22 (by omega) (by omega) (k0 )
  refine w_iconst gz_22_0 (by decide) ?_
  refine w_istore_n (ls' := [(2, x0), (0, x1), (0, x2), (0, 0), (9, 0), (9, 0), (9, 0)]) gz_22_1 gm_22 rfl rfl rfl ?_
  refine w_iconst gz_22_2 (by decide) ?_
  refine w_istore (ls' := [(2, x0), (0, x1), (0, x2), (0, 0), (0, 0), (9, 0), (9, 0)]) gz_22_3 gm_22 rfl rfl rfl ?_
  exact J5_0 21 (0) (0) (by omega) (by omega) (by omega)
theorem c_Model_breaks {l : Launch} {rho : Nat → Int32} {d : Nat} {h : my_H} {Q : my_H → my_V → Prop} {x2 x3 x4 : Int} (a2 : 0 ≤ x2) (b2 : x2 ≤ 2) (a3 : 0 ≤ x3) (b3 : x3 ≤ 19) (a4 : 0 ≤ x4) (b4 : x4 ≤ 3) (k0 : Q h (0, 0)) (k1 : Q h (0, 1)) (k2 : ∀ (y : Int), 2 ≤ y → y ≤ 3 → Q h (0, y)) : wp l rho (d + 2) 227 0 [(2, 151), (0, 5), (0, x2), (0, x3), (0, x4), (9, 0), (9, 0), (9, 0)] [] h Q := by
  have J79_0 : ∀ (n : Nat) (p79_0 p79_1 p79_2 : Int), 0 ≤ p79_0 → p79_0 ≤ 11 → 0 ≤ p79_1 → p79_1 ≤ 19 → 0 ≤ p79_2 → p79_2 ≤ 19 → p79_2 ≤ x3 → 20 - p79_2 ≤ (n : Int) → wp l rho (d + 2) 227 79 [(2, 151), (0, 5), (0, x2), (0, x3), (0, x4), (0, p79_0), (0, p79_1), (0, p79_2)] [] h Q := by
    intro n
    induction n with
    | zero => intro p79_0 p79_1 p79_2 q0_79_0 q1_79_0 q2_79_0 q3_79_0 q4_79_0 q5_79_0 q6_79_0 hm_79_0; exfalso; omega
    | succ n ih_79_0 =>
      intro p79_0 p79_1 p79_2 q0_79_0 q1_79_0 q2_79_0 q3_79_0 q4_79_0 q5_79_0 q6_79_0 hm_79_0
      have J127_0 : 1 ≤ x3 → p79_2 ≤ 18 → p79_2 ≤ (x3 - 1) → wp l rho (d + 2) 227 127 [(2, 151), (0, 5), (0, x2), (0, x3), (0, x4), (0, p79_0), (0, p79_1), (0, p79_2)] [] h Q := by
        intro q0_127_0 q1_127_0 q2_127_0
        refine w_iinc (ls' := [(2, 151), (0, 5), (0, x2), (0, x3), (0, x4), (0, p79_0), (0, p79_1), (0, (p79_2 + 1))]) gz_227_127 rfl gm_227 rfl rfl rfl ⟨by omega, by omega⟩ ?_
        refine w_goto (t := 79) gz_227_130 rfl ?_
        exact ih_79_0 (p79_0) (p79_1) ((p79_2 + 1)) (by omega) (by omega) (by omega) (by omega) (by omega) (by omega) (by omega) (by omega)
      refine w_iload gz_227_79 rfl ?_
      refine w_iload_n gz_227_81 rfl ?_
      refine w_icge (t := 133) gz_227_82 rfl (fun u1 => ?_) (fun u1 => ?_)
      ·
        refine w_iconst gz_227_133 (by decide) ?_
        exact w_iret gz_227_134 gm_227 (k0 )
      ·
        refine w_aload_n gz_227_85 rfl ?_
        refine w_getX (v := 161) gz_227_86 is_151 rd_10 rfl (by decide) rfl ?_
        refine w_iload gz_227_89 rfl ?_
        refine w_bald gz_227_91 is_161 rd_60 (by omega) (by omega) (fun v3 ev3 pv3 qv3 => ?_)
        refine w_ifeq (t := 133) gz_227_92 rfl (fun u4 => ?_) (fun u4 => ?_)
        ·
          refine w_iconst gz_227_133 (by decide) ?_
          exact w_iret gz_227_134 gm_227 (k0 )
        ·
          refine w_aload_n gz_227_95 rfl ?_
          refine w_getX (v := 162) gz_227_96 is_151 rd_10 rfl (by decide) rfl ?_
          refine w_iload_n gz_227_99 rfl ?_
          refine w_iload_n gz_227_100 rfl ?_
          refine w_iload gz_227_101 rfl ?_
          refine w_inS (k := 0) (as := [(0, p79_2), (0, x2), (0, 5)]) (r := [(2, 162)]) (ls0 := [(0, 5), (0, x2), (0, p79_2)]) gz_227_103 gm_150 rfl rfl rfl rfl rfl rfl ?_
          refine w_bipush gz_150_0 (by decide) ?_
          refine w_iload_n gz_150_2 rfl ?_
          refine w_imul gz_150_3 ⟨by omega, by omega⟩ ?_
          refine w_bipush gz_150_4 (by decide) ?_
          refine w_iload_n gz_150_6 rfl ?_
          refine w_imul gz_150_7 ⟨by omega, by omega⟩ ?_
          refine w_iadd gz_150_8 ⟨by omega, by omega⟩ ?_
          refine w_iload_n gz_150_9 rfl ?_
          refine w_iadd gz_150_10 ⟨by omega, by omega⟩ ?_
          refine w_iret gz_150_11 gm_150 ?_
          show wp l rho (d + 2) 227 106 [(2, 151), (0, 5), (0, x2), (0, x3), (0, x4), (0, p79_0), (0, p79_1), (0, p79_2)] [(0, (((60 * 5) + (20 * x2)) + p79_2)), (2, 162)] h Q
          refine w_bald gz_227_106 is_162 rd_61 (by omega) (by omega) (fun v6 ev6 pv6 qv6 => ?_)
          refine w_ifeq (t := 127) gz_227_107 rfl (fun u7 => ?_) (fun u7 => ?_)
          ·
            exact J127_0 (by omega) (by omega) (by omega)
          ·
            refine w_aload_n gz_227_110 rfl ?_
            refine w_iload_n gz_227_111 rfl ?_
            refine w_iload_n gz_227_112 rfl ?_
            refine w_iload gz_227_113 rfl ?_
            refine w_iload gz_227_115 rfl ?_
            refine w_inv (k := 0) (as := [(0, x4), (0, p79_2), (0, x2), (0, 5)]) (r := []) (x := 151) (ls0 := [(2, 151), (0, 5), (0, x2), (0, p79_2), (0, x4)]) gz_227_117 gm_157 rfl is_151 rd_10 rfl rfl rfl rfl rfl ?_
            refine w_aload_n gz_157_0 rfl ?_
            refine w_getX (v := 163) gz_157_1 is_151 rd_10 rfl (by decide) rfl ?_
            refine w_iconst gz_157_4 (by decide) ?_
            refine w_iload_n gz_157_5 rfl ?_
            refine w_iload_n gz_157_6 rfl ?_
            refine w_iload_n gz_157_7 rfl ?_
            refine w_inS (k := 0) (as := [(0, p79_2), (0, x2), (0, 5)]) (r := [(0, 4), (2, 163)]) (ls0 := [(0, 5), (0, x2), (0, p79_2)]) gz_157_8 gm_150 rfl rfl rfl rfl rfl rfl ?_
            refine w_bipush gz_150_0 (by decide) ?_
            refine w_iload_n gz_150_2 rfl ?_
            refine w_imul gz_150_3 ⟨by omega, by omega⟩ ?_
            refine w_bipush gz_150_4 (by decide) ?_
            refine w_iload_n gz_150_6 rfl ?_
            refine w_imul gz_150_7 ⟨by omega, by omega⟩ ?_
            refine w_iadd gz_150_8 ⟨by omega, by omega⟩ ?_
            refine w_iload_n gz_150_9 rfl ?_
            refine w_iadd gz_150_10 ⟨by omega, by omega⟩ ?_
            refine w_iret gz_150_11 gm_150 ?_
            show wp l rho (d + 1) 157 11 [(2, 151), (0, 5), (0, x2), (0, p79_2), (0, x4)] [(0, (((60 * 5) + (20 * x2)) + p79_2)), (0, 4), (2, 163)] h _
            refine w_imul gz_157_11 ⟨by omega, by omega⟩ ?_
            refine w_iload gz_157_12 rfl ?_
            refine w_iadd gz_157_14 ⟨by omega, by omega⟩ ?_
            refine w_iald gz_157_15 is_163 rd_62 (by omega) (by omega) (fun v9 ev9 pv9 qv9 => ?_)
            refine w_iret gz_157_16 gm_157 ?_
            show wp l rho (d + 2) 227 120 [(2, 151), (0, 5), (0, x2), (0, x3), (0, x4), (0, p79_0), (0, p79_1), (0, p79_2)] [(0, v9)] h Q
            refine w_iload gz_227_120 rfl ?_
            refine w_icne (t := 127) gz_227_122 rfl (fun u10 => ?_) (fun u10 => ?_)
            ·
              exact J127_0 (by omega) (by omega) (by omega)
            ·
              refine w_iconst gz_227_125 (by decide) ?_
              exact w_iret gz_227_126 gm_227 (k2 (3) (by omega) (by omega))
  have J76_0 : ∀ (p76_0 p76_1 : Int), 0 ≤ p76_0 → p76_0 ≤ 11 → 0 ≤ p76_1 → p76_1 ≤ 19 → wp l rho (d + 2) 227 76 [(2, 151), (0, 5), (0, x2), (0, x3), (0, x4), (0, p76_0), (0, p76_1), (9, 0)] [] h Q := by
    intro p76_0 p76_1 q0_76_0 q1_76_0 q2_76_0 q3_76_0
    refine w_iconst gz_227_76 (by decide) ?_
    refine w_istore (ls' := [(2, 151), (0, 5), (0, x2), (0, x3), (0, x4), (0, p76_0), (0, p76_1), (0, 0)]) gz_227_77 gm_227 rfl rfl rfl ?_
    exact J79_0 20 (p76_0) (p76_1) (0) (by omega) (by omega) (by omega) (by omega) (by omega) (by omega) (by omega) (by omega)
  refine w_iconst gz_227_0 (by decide) ?_
  refine w_iload_n gz_227_1 rfl ?_
  refine w_imul gz_227_2 ⟨by omega, by omega⟩ ?_
  refine w_iload gz_227_3 rfl ?_
  refine w_iadd gz_227_5 ⟨by omega, by omega⟩ ?_
  refine w_istore (ls' := [(2, 151), (0, 5), (0, x2), (0, x3), (0, x4), (0, ((4 * x2) + x4)), (9, 0), (9, 0)]) gz_227_6 gm_227 rfl rfl rfl ?_
  refine w_aload_n gz_227_8 rfl ?_
  refine w_iload_n gz_227_9 rfl ?_
  refine w_iload_n gz_227_10 rfl ?_
  refine w_iload_n gz_227_11 rfl ?_
  refine w_iload gz_227_12 rfl ?_
  refine w_inv (k := 0) (as := [(0, x4), (0, x3), (0, x2), (0, 5)]) (r := []) (x := 151) (ls0 := [(2, 151), (0, 5), (0, x2), (0, x3), (0, x4)]) gz_227_14 gm_157 rfl is_151 rd_10 rfl rfl rfl rfl rfl ?_
  refine w_aload_n gz_157_0 rfl ?_
  refine w_getX (v := 163) gz_157_1 is_151 rd_10 rfl (by decide) rfl ?_
  refine w_iconst gz_157_4 (by decide) ?_
  refine w_iload_n gz_157_5 rfl ?_
  refine w_iload_n gz_157_6 rfl ?_
  refine w_iload_n gz_157_7 rfl ?_
  refine w_inS (k := 0) (as := [(0, x3), (0, x2), (0, 5)]) (r := [(0, 4), (2, 163)]) (ls0 := [(0, 5), (0, x2), (0, x3)]) gz_157_8 gm_150 rfl rfl rfl rfl rfl rfl ?_
  refine w_bipush gz_150_0 (by decide) ?_
  refine w_iload_n gz_150_2 rfl ?_
  refine w_imul gz_150_3 ⟨by omega, by omega⟩ ?_
  refine w_bipush gz_150_4 (by decide) ?_
  refine w_iload_n gz_150_6 rfl ?_
  refine w_imul gz_150_7 ⟨by omega, by omega⟩ ?_
  refine w_iadd gz_150_8 ⟨by omega, by omega⟩ ?_
  refine w_iload_n gz_150_9 rfl ?_
  refine w_iadd gz_150_10 ⟨by omega, by omega⟩ ?_
  refine w_iret gz_150_11 gm_150 ?_
  show wp l rho (d + 1) 157 11 [(2, 151), (0, 5), (0, x2), (0, x3), (0, x4)] [(0, (((60 * 5) + (20 * x2)) + x3)), (0, 4), (2, 163)] h _
  refine w_imul gz_157_11 ⟨by omega, by omega⟩ ?_
  refine w_iload gz_157_12 rfl ?_
  refine w_iadd gz_157_14 ⟨by omega, by omega⟩ ?_
  refine w_iald gz_157_15 is_163 rd_62 (by omega) (by omega) (fun v12 ev12 pv12 qv12 => ?_)
  refine w_iret gz_157_16 gm_157 ?_
  show wp l rho (d + 2) 227 17 [(2, 151), (0, 5), (0, x2), (0, x3), (0, x4), (0, ((4 * x2) + x4)), (9, 0), (9, 0)] [(0, v12)] h Q
  refine w_istore (ls' := [(2, 151), (0, 5), (0, x2), (0, x3), (0, x4), (0, ((4 * x2) + x4)), (0, v12), (9, 0)]) gz_227_17 gm_227 rfl rfl rfl ?_
  refine w_iload gz_227_19 rfl ?_
  refine w_aload_n gz_227_21 rfl ?_
  refine w_getX (v := 158) gz_227_22 is_151 rd_10 rfl (by decide) rfl ?_
  refine w_iload gz_227_25 rfl ?_
  refine w_iald gz_227_27 is_158 rd_57 (by omega) (by omega) (fun v14 ev14 pv14 qv14 => ?_)
  refine w_aload_n gz_227_28 rfl ?_
  refine w_getX (v := 159) gz_227_29 is_151 rd_10 rfl (by decide) rfl ?_
  refine w_iload gz_227_32 rfl ?_
  refine w_iald gz_227_34 is_159 rd_58 (by omega) (by omega) (fun v16 ev16 pv16 qv16 => ?_)
  refine w_inS (k := 0) (as := [(0, v16), (0, v14), (0, v12)]) (r := []) (ls0 := [(0, v12), (0, v14), (0, v16)]) gz_227_35 gm_147 rfl rfl rfl rfl rfl rfl ?_
  refine w_iload_n gz_147_0 rfl ?_
  refine w_iload_n gz_147_1 rfl ?_
  refine w_iclt (t := 14) gz_147_2 rfl (fun u17 => ?_) (fun u17 => ?_)
  ·
    refine w_iconst gz_147_14 (by decide) ?_
    refine w_bret gz_147_15 gm_147 (by omega) (by omega) ?_
    show wp l rho (d + 2) 227 38 [(2, 151), (0, 5), (0, x2), (0, x3), (0, x4), (0, ((4 * x2) + x4)), (0, v12), (9, 0)] [(0, 0)] h Q
    refine w_ifne (t := 43) gz_227_38 rfl (fun u18 => by exfalso; omega) (fun u18 => ?_)
    refine w_iconst gz_227_41 (by decide) ?_
    exact w_iret gz_227_42 gm_227 (k1 )
  ·
    refine w_iload_n gz_147_5 rfl ?_
    refine w_iload_n gz_147_6 rfl ?_
    refine w_icgt (t := 14) gz_147_7 rfl (fun u19 => ?_) (fun u19 => ?_)
    ·
      refine w_iconst gz_147_14 (by decide) ?_
      refine w_bret gz_147_15 gm_147 (by omega) (by omega) ?_
      show wp l rho (d + 2) 227 38 [(2, 151), (0, 5), (0, x2), (0, x3), (0, x4), (0, ((4 * x2) + x4)), (0, v12), (9, 0)] [(0, 0)] h Q
      refine w_ifne (t := 43) gz_227_38 rfl (fun u20 => by exfalso; omega) (fun u20 => ?_)
      refine w_iconst gz_227_41 (by decide) ?_
      exact w_iret gz_227_42 gm_227 (k1 )
    ·
      refine w_iconst gz_147_10 (by decide) ?_
      refine w_goto (t := 15) gz_147_11 rfl ?_
      refine w_bret gz_147_15 gm_147 (by omega) (by omega) ?_
      show wp l rho (d + 2) 227 38 [(2, 151), (0, 5), (0, x2), (0, x3), (0, x4), (0, ((4 * x2) + x4)), (0, v12), (9, 0)] [(0, 1)] h Q
      refine w_ifne (t := 43) gz_227_38 rfl (fun u21 => ?_) (fun u21 => by exfalso; omega)
      refine w_aload_n gz_227_43 rfl ?_
      refine w_getX (v := 160) gz_227_44 is_151 rd_10 rfl (by decide) rfl ?_
      refine w_iload gz_227_47 rfl ?_
      refine w_iald gz_227_49 is_160 rd_59 (by omega) (by omega) (fun v23 ev23 pv23 qv23 => ?_)
      refine w_iflt (t := 76) gz_227_50 rfl (fun u24 => ?_) (fun u24 => ?_)
      ·
        exact J76_0 (((4 * x2) + x4)) (v12) (by omega) (by omega) (by omega) (by omega)
      ·
        refine w_aload_n gz_227_53 rfl ?_
        refine w_getX (v := 162) gz_227_54 is_151 rd_10 rfl (by decide) rfl ?_
        refine w_iload_n gz_227_57 rfl ?_
        refine w_aload_n gz_227_58 rfl ?_
        refine w_getX (v := 160) gz_227_59 is_151 rd_10 rfl (by decide) rfl ?_
        refine w_iload gz_227_62 rfl ?_
        refine w_iald gz_227_64 is_160 rd_59 (by omega) (by omega) (fun v27 ev27 pv27 qv27 => ?_)
        have zv27 := ev27.trans ev23.symm
        refine w_iload gz_227_65 rfl ?_
        refine w_inS (k := 0) (as := [(0, v12), (0, v27), (0, 5)]) (r := [(2, 162)]) (ls0 := [(0, 5), (0, v27), (0, v12)]) gz_227_67 gm_150 rfl rfl rfl rfl rfl rfl ?_
        refine w_bipush gz_150_0 (by decide) ?_
        refine w_iload_n gz_150_2 rfl ?_
        refine w_imul gz_150_3 ⟨by omega, by omega⟩ ?_
        refine w_bipush gz_150_4 (by decide) ?_
        refine w_iload_n gz_150_6 rfl ?_
        refine w_imul gz_150_7 ⟨by omega, by omega⟩ ?_
        refine w_iadd gz_150_8 ⟨by omega, by omega⟩ ?_
        refine w_iload_n gz_150_9 rfl ?_
        refine w_iadd gz_150_10 ⟨by omega, by omega⟩ ?_
        refine w_iret gz_150_11 gm_150 ?_
        show wp l rho (d + 2) 227 70 [(2, 151), (0, 5), (0, x2), (0, x3), (0, x4), (0, ((4 * x2) + x4)), (0, v12), (9, 0)] [(0, (((60 * 5) + (20 * v27)) + v12)), (2, 162)] h Q
        refine w_bald gz_227_70 is_162 rd_61 (by omega) (by omega) (fun v28 ev28 pv28 qv28 => ?_)
        refine w_ifne (t := 76) gz_227_71 rfl (fun u29 => ?_) (fun u29 => ?_)
        ·
          exact J76_0 (((4 * x2) + x4)) (v12) (by omega) (by omega) (by omega) (by omega)
        ·
          refine w_iconst gz_227_74 (by decide) ?_
          exact w_iret gz_227_75 gm_227 (k2 (2) (by omega) (by omega))
theorem c_Rows_drop {l : Launch} {rho : Nat → Int32} {d : Nat} {h : my_H} {Q : my_H → my_V → Prop} {x0 x1 x2 : Int} (t0 : my_is 6 x0) (a1 : 0 ≤ x1) (b1 : x1 ≤ 2) (a2 : 0 ≤ x2) (b2 : x2 ≤ 19) (k0 : ∀ (h' : my_H), my_fr [(30, -1), (31, -1)] h h' → my_fx x0 2 h h' → Q h' (9, 0)) : wp l rho (d + 1) 23 0 [(2, x0), (0, x1), (0, x2), (9, 0), (9, 0)] [] h Q := by
  have J16_0 : ∀ (n : Nat) (p16_0 p16_1 : Int) (h16_0 : my_H), my_fr [(30, -1), (31, -1)] h h16_0 → my_fx x0 2 h h16_0 → 0 ≤ p16_0 → p16_0 ≤ 236 → 1 ≤ p16_1 → p16_1 ≤ 4 → 5 - p16_1 ≤ (n : Int) → wp l rho (d + 1) 23 16 [(2, x0), (0, x1), (0, x2), (0, p16_0), (0, p16_1)] [] h16_0 Q := by
    intro n
    induction n with
    | zero => intro p16_0 p16_1 h16_0 gh_16_0 gx_16_0 q0_16_0 q1_16_0 q2_16_0 q3_16_0 hm_16_0; exfalso; omega
    | succ n ih_16_0 =>
      intro p16_0 p16_1 h16_0 gh_16_0 gx_16_0 q0_16_0 q1_16_0 q2_16_0 q3_16_0 hm_16_0
      refine w_iload gz_23_16 rfl ?_
      refine w_iconst gz_23_18 (by decide) ?_
      refine w_icge (t := 38) gz_23_19 rfl (fun u1 => ?_) (fun u1 => ?_)
      ·
        refine w_aload_n gz_23_38 rfl ?_
        refine w_getX (v := (x0 + 2)) gz_23_39 t0 rd_6 rfl (by decide) rfl ?_
        refine w_iload_n gz_23_42 rfl ?_
        refine w_dup2 gz_23_43 rfl rfl ?_
        refine w_iald gz_23_44 (ix_6_2 t0) rd_31 (by omega) (by omega) (fun v3 ev3 pv3 qv3 => ?_)
        refine w_iconst gz_23_45 (by decide) ?_
        refine w_ianyS gz_23_46 (fun v4 pv4 qv4 => ?_)
        refine w_iastA gz_23_47 (ix_6_2 t0) rd_31 (by omega) (by omega) (fun h5 fh5 => ?_)
        have gh5 : my_fr [(30, -1), (31, -1)] h h5 := my_fr.up gh_16_0 (ix_6_2 t0) fh5 rfl
        have gxh5 : my_fx x0 2 h h5 := my_fx.up gx_16_0 fh5 (by omega)
        exact w_vret gz_23_48 gm_23 (k0 h5 (gh5) (gxh5))
      ·
        refine w_aload_n gz_23_22 rfl ?_
        refine w_getX (v := (x0 + 1)) gz_23_23 t0 rd_6 rfl (by decide) rfl ?_
        refine w_iload_n gz_23_26 rfl ?_
        refine w_iload gz_23_27 rfl ?_
        refine w_iadd gz_23_29 ⟨by omega, by omega⟩ ?_
        refine w_iconst gz_23_30 (by decide) ?_
        refine w_iast gz_23_31 (ix_6_1 t0) rd_30 (by omega) (by omega) (by omega) (by omega) (fun h7 fh7 => ?_)
        have gh7 : my_fr [(30, -1), (31, -1)] h h7 := my_fr.up gh_16_0 (ix_6_1 t0) fh7 rfl
        have gxh7 : my_fx x0 2 h h7 := my_fx.up gx_16_0 fh7 (by omega)
        refine w_iinc (ls' := [(2, x0), (0, x1), (0, x2), (0, p16_0), (0, (p16_1 + 1))]) gz_23_32 rfl gm_23 rfl rfl rfl ⟨by omega, by omega⟩ ?_
        refine w_goto (t := 16) gz_23_35 rfl ?_
        exact ih_16_0 (p16_0) ((p16_1 + 1)) h7 (gh7) (gxh7) (by omega) (by omega) (by omega) (by omega) (by omega)
  refine w_iload_n gz_23_0 rfl ?_
  refine w_iload_n gz_23_1 rfl ?_
  refine w_inS (k := 0) (as := [(0, x2), (0, x1)]) (r := []) (ls0 := [(0, x1), (0, x2)]) gz_23_2 gm_17 rfl rfl rfl rfl rfl rfl ?_
  refine w_iload_n gz_17_0 rfl ?_
  refine w_bipush gz_17_1 (by decide) ?_
  refine w_imul gz_17_3 ⟨by omega, by omega⟩ ?_
  refine w_iload_n gz_17_4 rfl ?_
  refine w_iadd gz_17_5 ⟨by omega, by omega⟩ ?_
  refine w_iconst gz_17_6 (by decide) ?_
  refine w_imul gz_17_7 ⟨by omega, by omega⟩ ?_
  refine w_iret gz_17_8 gm_17 ?_
  show wp l rho (d + 1) 23 5 [(2, x0), (0, x1), (0, x2), (9, 0), (9, 0)] [(0, (((x1 * 20) + x2) * 4))] h Q
  refine w_istore_n (ls' := [(2, x0), (0, x1), (0, x2), (0, (((x1 * 20) + x2) * 4)), (9, 0)]) gz_23_5 gm_23 rfl rfl rfl ?_
  refine w_aload_n gz_23_6 rfl ?_
  refine w_getX (v := (x0 + 1)) gz_23_7 t0 rd_6 rfl (by decide) rfl ?_
  refine w_iload_n gz_23_10 rfl ?_
  refine w_iconst gz_23_11 (by decide) ?_
  refine w_iast gz_23_12 (ix_6_1 t0) rd_30 (by omega) (by omega) (by omega) (by omega) (fun h9 fh9 => ?_)
  have gh9 : my_fr [(30, -1), (31, -1)] h h9 := my_fr.up my_fr.rf (ix_6_1 t0) fh9 rfl
  have gxh9 : my_fx x0 2 h h9 := my_fx.up my_fx.rf fh9 (by omega)
  refine w_iconst gz_23_13 (by decide) ?_
  refine w_istore (ls' := [(2, x0), (0, x1), (0, x2), (0, (((x1 * 20) + x2) * 4)), (0, 1)]) gz_23_14 gm_23 rfl rfl rfl ?_
  exact J16_0 4 ((((x1 * 20) + x2) * 4)) (1) h9 (gh9) (gxh9) (by omega) (by omega) (by omega) (by omega) (by omega)
theorem c_Model_areAlike {l : Launch} {rho : Nat → Int32} {d : Nat} {h : my_H} {Q : my_H → my_V → Prop} {x1 x2 : Int} (a1 : 0 ≤ x1) (b1 : x1 ≤ 15) (a2 : 0 ≤ x2) (b2 : x2 ≤ 15) (k0 : ∀ (y : Int), 0 ≤ y → y ≤ 1 → Q h (0, y)) : wp l rho d 230 0 [(2, 151), (0, x1), (0, x2), (9, 0), (9, 0), (9, 0)] [] h Q := by
  have J5_0 : ∀ (n : Nat) (p5_0 p5_1 : Int), 0 ≤ p5_0 → p5_0 ≤ 1 → 0 ≤ p5_1 → p5_1 ≤ 60 → 61 - p5_1 ≤ (n : Int) → wp l rho d 230 5 [(2, 151), (0, x1), (0, x2), (0, p5_0), (0, p5_1), (9, 0)] [] h Q := by
    intro n
    induction n with
    | zero => intro p5_0 p5_1 q0_5_0 q1_5_0 q2_5_0 q3_5_0 hm_5_0; exfalso; omega
    | succ n ih_5_0 =>
      intro p5_0 p5_1 q0_5_0 q1_5_0 q2_5_0 q3_5_0 hm_5_0
      have J126_0 : ∀ (p126_0 p126_1 : Int), 0 ≤ p126_0 → p126_0 ≤ 1 → p5_1 ≤ 59 → 0 ≤ p126_1 → p126_1 ≤ 4 → p126_0 ≤ p5_0 → wp l rho d 230 126 [(2, 151), (0, x1), (0, x2), (0, p126_0), (0, p5_1), (0, p126_1)] [] h Q := by
        intro p126_0 p126_1 q0_126_0 q1_126_0 q2_126_0 q3_126_0 q4_126_0 q5_126_0
        refine w_iinc (ls' := [(2, 151), (0, x1), (0, x2), (0, p126_0), (0, (p5_1 + 1)), (0, p126_1)]) gz_230_126 rfl gm_230 rfl rfl rfl ⟨by omega, by omega⟩ ?_
        refine w_goto (t := 5) gz_230_129 rfl ?_
        refine w_weak (ls' := [(2, 151), (0, x1), (0, x2), (0, p126_0), (0, (p5_1 + 1)), (9, 0)]) (wk_e (wk_e (wk_e (wk_e (wk_e (wk_9 wk_n)))))) ?_
        exact ih_5_0 (p126_0) ((p5_1 + 1)) (by omega) (by omega) (by omega) (by omega) (by omega)
      have J52_0 : ∀ (n : Nat) (p52_0 p52_1 : Int), 0 ≤ p52_0 → p52_0 ≤ 1 → p5_1 ≤ 59 → 0 ≤ p52_1 → p52_1 ≤ 4 → p52_0 ≤ p5_0 → 5 - p52_1 ≤ (n : Int) → wp l rho d 230 52 [(2, 151), (0, x1), (0, x2), (0, p52_0), (0, p5_1), (0, p52_1)] [] h Q := by
        intro n
        induction n with
        | zero => intro p52_0 p52_1 q0_52_0 q1_52_0 q2_52_0 q3_52_0 q4_52_0 q5_52_0 hm_52_0; exfalso; omega
        | succ n ih_52_0 =>
          intro p52_0 p52_1 q0_52_0 q1_52_0 q2_52_0 q3_52_0 q4_52_0 q5_52_0 hm_52_0
          refine w_iload gz_230_52 rfl ?_
          refine w_iconst gz_230_54 (by decide) ?_
          refine w_icge (t := 126) gz_230_55 rfl (fun u1 => ?_) (fun u1 => ?_)
          ·
            exact J126_0 (p52_0) (p52_1) (by omega) (by omega) (by omega) (by omega) (by omega) (by omega)
          ·
            refine w_iload_n gz_230_58 rfl ?_
            refine w_ifeq (t := 126) gz_230_59 rfl (fun u2 => ?_) (fun u2 => ?_)
            ·
              exact J126_0 (p52_0) (p52_1) (by omega) (by omega) (by omega) (by omega) (by omega) (by omega)
            ·
              refine w_aload_n gz_230_62 rfl ?_
              refine w_getX (v := 162) gz_230_63 is_151 rd_10 rfl (by decide) rfl ?_
              refine w_bipush gz_230_66 (by decide) ?_
              refine w_iload_n gz_230_68 rfl ?_
              refine w_imul gz_230_69 ⟨by omega, by omega⟩ ?_
              refine w_iload gz_230_70 rfl ?_
              refine w_iadd gz_230_72 ⟨by omega, by omega⟩ ?_
              refine w_bald gz_230_73 is_162 rd_61 (by omega) (by omega) (fun v4 ev4 pv4 qv4 => ?_)
              refine w_ifeq (t := 126) gz_230_74 rfl (fun u5 => ?_) (fun u5 => ?_)
              ·
                exact J126_0 (p52_0) (p52_1) (by omega) (by omega) (by omega) (by omega) (by omega) (by omega)
              ·
                refine w_aload_n gz_230_77 rfl ?_
                refine w_getX (v := 163) gz_230_78 is_151 rd_10 rfl (by decide) rfl ?_
                refine w_iconst gz_230_81 (by decide) ?_
                refine w_bipush gz_230_82 (by decide) ?_
                refine w_iload_n gz_230_84 rfl ?_
                refine w_imul gz_230_85 ⟨by omega, by omega⟩ ?_
                refine w_iload gz_230_86 rfl ?_
                refine w_iadd gz_230_88 ⟨by omega, by omega⟩ ?_
                refine w_imul gz_230_89 ⟨by omega, by omega⟩ ?_
                refine w_iload gz_230_90 rfl ?_
                refine w_iadd gz_230_92 ⟨by omega, by omega⟩ ?_
                refine w_iald gz_230_93 is_163 rd_62 (by omega) (by omega) (fun v7 ev7 pv7 qv7 => ?_)
                refine w_aload_n gz_230_94 rfl ?_
                refine w_getX (v := 163) gz_230_95 is_151 rd_10 rfl (by decide) rfl ?_
                refine w_iconst gz_230_98 (by decide) ?_
                refine w_bipush gz_230_99 (by decide) ?_
                refine w_iload_n gz_230_101 rfl ?_
                refine w_imul gz_230_102 ⟨by omega, by omega⟩ ?_
                refine w_iload gz_230_103 rfl ?_
                refine w_iadd gz_230_105 ⟨by omega, by omega⟩ ?_
                refine w_imul gz_230_106 ⟨by omega, by omega⟩ ?_
                refine w_iload gz_230_107 rfl ?_
                refine w_iadd gz_230_109 ⟨by omega, by omega⟩ ?_
                refine w_iald gz_230_110 is_163 rd_62 (by omega) (by omega) (fun v9 ev9 pv9 qv9 => ?_)
                refine w_icne (t := 118) gz_230_111 rfl (fun u10 => ?_) (fun u10 => ?_)
                ·
                  refine w_iconst gz_230_118 (by decide) ?_
                  refine w_istore_n (ls' := [(2, 151), (0, x1), (0, x2), (0, 0), (0, p5_1), (0, p52_1)]) gz_230_119 gm_230 rfl rfl rfl ?_
                  refine w_iinc (ls' := [(2, 151), (0, x1), (0, x2), (0, 0), (0, p5_1), (0, (p52_1 + 1))]) gz_230_120 rfl gm_230 rfl rfl rfl ⟨by omega, by omega⟩ ?_
                  refine w_goto (t := 52) gz_230_123 rfl ?_
                  exact ih_52_0 (0) ((p52_1 + 1)) (by omega) (by omega) (by omega) (by omega) (by omega) (by omega) (by omega)
                ·
                  refine w_iconst gz_230_114 (by decide) ?_
                  refine w_goto (t := 119) gz_230_115 rfl ?_
                  refine w_istore_n (ls' := [(2, 151), (0, x1), (0, x2), (0, 1), (0, p5_1), (0, p52_1)]) gz_230_119 gm_230 rfl rfl rfl ?_
                  refine w_iinc (ls' := [(2, 151), (0, x1), (0, x2), (0, 1), (0, p5_1), (0, (p52_1 + 1))]) gz_230_120 rfl gm_230 rfl rfl rfl ⟨by omega, by omega⟩ ?_
                  refine w_goto (t := 52) gz_230_123 rfl ?_
                  exact ih_52_0 (1) ((p52_1 + 1)) (by omega) (by omega) (by omega) (by omega) (by omega) (by omega) (by omega)
      have J47_0 : ∀ (p47_0 : Int), 0 ≤ p47_0 → p47_0 ≤ 1 → p5_1 ≤ 59 → p47_0 ≤ p5_0 → p5_0 ≤ p47_0 → wp l rho d 230 47 [(2, 151), (0, x1), (0, x2), (0, p47_0), (0, p5_1), (9, 0)] [] h Q := by
        intro p47_0 q0_47_0 q1_47_0 q2_47_0 q3_47_0 q4_47_0
        refine w_iconst gz_230_47 (by decide) ?_
        refine w_istore_n (ls' := [(2, 151), (0, x1), (0, x2), (0, 0), (0, p5_1), (9, 0)]) gz_230_48 gm_230 rfl rfl rfl ?_
        refine w_iconst gz_230_49 (by decide) ?_
        refine w_istore (ls' := [(2, 151), (0, x1), (0, x2), (0, 0), (0, p5_1), (0, 0)]) gz_230_50 gm_230 rfl rfl rfl ?_
        exact J52_0 5 (0) (0) (by omega) (by omega) (by omega) (by omega) (by omega) (by omega) (by omega)
      refine w_iload gz_230_5 rfl ?_
      refine w_bipush gz_230_7 (by decide) ?_
      refine w_icge (t := 132) gz_230_9 rfl (fun u11 => ?_) (fun u11 => ?_)
      ·
        refine w_iload_n gz_230_132 rfl ?_
        exact w_bret gz_230_133 gm_230 (by omega) (by omega) (k0 (p5_0) (by omega) (by omega))
      ·
        refine w_iload_n gz_230_12 rfl ?_
        refine w_ifeq (t := 47) gz_230_13 rfl (fun u12 => ?_) (fun u12 => ?_)
        ·
          exact J47_0 (p5_0) (by omega) (by omega) (by omega) (by omega) (by omega)
        ·
          refine w_aload_n gz_230_16 rfl ?_
          refine w_getX (v := 162) gz_230_17 is_151 rd_10 rfl (by decide) rfl ?_
          refine w_bipush gz_230_20 (by decide) ?_
          refine w_iload_n gz_230_22 rfl ?_
          refine w_imul gz_230_23 ⟨by omega, by omega⟩ ?_
          refine w_iload gz_230_24 rfl ?_
          refine w_iadd gz_230_26 ⟨by omega, by omega⟩ ?_
          refine w_bald gz_230_27 is_162 rd_61 (by omega) (by omega) (fun v14 ev14 pv14 qv14 => ?_)
          refine w_aload_n gz_230_28 rfl ?_
          refine w_getX (v := 162) gz_230_29 is_151 rd_10 rfl (by decide) rfl ?_
          refine w_bipush gz_230_32 (by decide) ?_
          refine w_iload_n gz_230_34 rfl ?_
          refine w_imul gz_230_35 ⟨by omega, by omega⟩ ?_
          refine w_iload gz_230_36 rfl ?_
          refine w_iadd gz_230_38 ⟨by omega, by omega⟩ ?_
          refine w_bald gz_230_39 is_162 rd_61 (by omega) (by omega) (fun v16 ev16 pv16 qv16 => ?_)
          refine w_icne (t := 47) gz_230_40 rfl (fun u17 => ?_) (fun u17 => ?_)
          ·
            exact J47_0 (p5_0) (by omega) (by omega) (by omega) (by omega) (by omega)
          ·
            refine w_iconst gz_230_43 (by decide) ?_
            refine w_goto (t := 48) gz_230_44 rfl ?_
            refine w_istore_n (ls' := [(2, 151), (0, x1), (0, x2), (0, 1), (0, p5_1), (9, 0)]) gz_230_48 gm_230 rfl rfl rfl ?_
            refine w_iconst gz_230_49 (by decide) ?_
            refine w_istore (ls' := [(2, 151), (0, x1), (0, x2), (0, 1), (0, p5_1), (0, 0)]) gz_230_50 gm_230 rfl rfl rfl ?_
            exact J52_0 5 (1) (0) (by omega) (by omega) (by omega) (by omega) (by omega) (by omega) (by omega)
  refine w_iconst gz_230_0 (by decide) ?_
  refine w_istore_n (ls' := [(2, 151), (0, x1), (0, x2), (0, 1), (9, 0), (9, 0)]) gz_230_1 gm_230 rfl rfl rfl ?_
  refine w_iconst gz_230_2 (by decide) ?_
  refine w_istore (ls' := [(2, 151), (0, x1), (0, x2), (0, 1), (0, 0), (9, 0)]) gz_230_3 gm_230 rfl rfl rfl ?_
  exact J5_0 61 (1) (0) (by omega) (by omega) (by omega) (by omega) (by omega)
theorem c_Model_isCut {l : Launch} {rho : Nat → Int32} {d : Nat} {h : my_H} {Q : my_H → my_V → Prop} {x1 x2 x3 x4 x5 : Int} (a1 : 0 ≤ x1) (b1 : x1 ≤ 2) (a2 : 0 ≤ x2) (b2 : x2 ≤ 2147483646) (a3 : 0 ≤ x3) (b3 : x3 ≤ 3) (a4 : 0 ≤ x4) (b4 : x4 ≤ 2) (a5 : 0 ≤ x5) (b5 : x5 ≤ 199) (k0 : Q h (0, 0)) (k1 : Q h (0, 1)) : wp l rho (d + 2) 235 0 [(2, 151), (0, x1), (0, x2), (0, x3), (0, x4), (0, x5), (9, 0), (9, 0), (9, 0), (9, 0)] [] h Q := by
  have J6_0 : ∀ (n : Nat) (p6_0 p6_1 p6_2 : Int), 0 ≤ p6_0 → p6_0 ≤ 2 → 0 ≤ p6_1 → p6_1 ≤ 20 → 0 ≤ p6_2 → p6_2 ≤ 20 → p6_0 ≤ x4 → p6_1 ≤ p6_2 → x4 ≤ p6_0 → 21 - p6_2 ≤ (n : Int) → wp l rho (d + 2) 235 6 [(2, 151), (0, x1), (0, x2), (0, x3), (0, p6_0), (0, x5), (0, p6_1), (0, p6_2), (9, 0), (9, 0)] [] h Q := by
    intro n
    induction n with
    | zero => intro p6_0 p6_1 p6_2 q0_6_0 q1_6_0 q2_6_0 q3_6_0 q4_6_0 q5_6_0 q6_6_0 q7_6_0 q8_6_0 hm_6_0; exfalso; omega
    | succ n ih_6_0 =>
      intro p6_0 p6_1 p6_2 q0_6_0 q1_6_0 q2_6_0 q3_6_0 q4_6_0 q5_6_0 q6_6_0 q7_6_0 q8_6_0 hm_6_0
      have J92_1 : ∀ (p92_0 p92_1 : Int), 0 ≤ p92_0 → p92_0 ≤ 2 → p6_1 ≤ 19 → p6_2 ≤ 19 → 0 ≤ p92_1 → p92_1 ≤ 19 → p92_0 ≤ (p92_1 + 1) → p92_0 ≤ p6_0 → p92_0 ≤ x4 → p6_1 ≤ p6_2 → p6_0 ≤ p92_0 → p6_0 ≤ (p92_1 + 1) → p6_0 ≤ x4 → x4 ≤ p92_0 → x4 ≤ (p92_1 + 1) → x4 ≤ p6_0 → wp l rho (d + 2) 235 92 [(2, 151), (0, x1), (0, x2), (0, x3), (0, p92_0), (0, x5), (0, p6_1), (0, p6_2), (0, p92_1), (9, 0)] [(0, 1)] h Q := by
        intro p92_0 p92_1 q0_92_1 q1_92_1 q2_92_1 q3_92_1 q4_92_1 q5_92_1 q6_92_1 q7_92_1 q8_92_1 q9_92_1 q10_92_1 q11_92_1 q12_92_1 q13_92_1 q14_92_1 q15_92_1
        refine w_istore (ls' := [(2, 151), (0, x1), (0, x2), (0, x3), (0, p92_0), (0, x5), (0, p6_1), (0, p6_2), (0, p92_1), (0, 1)]) gz_235_92 gm_235 rfl rfl rfl ?_
        refine w_iload gz_235_94 rfl ?_
        refine w_iload_n gz_235_96 rfl ?_
        refine w_iload gz_235_97 rfl ?_
        refine w_ianyR gz_235_99 (fun v1 pv1 qv1 => ?_)
        refine w_iconst gz_235_100 (by decide) ?_
        refine w_iandM gz_235_101 (by decide) (fun v2 pv2 qv2 => ?_)
        refine w_iconst gz_235_102 (by decide) ?_
        refine w_icne (t := 110) gz_235_103 rfl (fun u3 => ?_) (fun u3 => ?_)
        ·
          refine w_iconst gz_235_110 (by decide) ?_
          refine w_iceq (t := 116) gz_235_111 rfl (fun u4 => by exfalso; omega) (fun u4 => ?_)
          refine w_iconst gz_235_114 (by decide) ?_
          exact w_bret gz_235_115 gm_235 (by omega) (by omega) (k0 )
        ·
          refine w_iconst gz_235_106 (by decide) ?_
          refine w_goto (t := 111) gz_235_107 rfl ?_
          refine w_iceq (t := 116) gz_235_111 rfl (fun u5 => ?_) (fun u5 => by exfalso; omega)
          refine w_iinc (ls' := [(2, 151), (0, x1), (0, x2), (0, x3), (0, p92_0), (0, x5), (0, (p6_1 + 1)), (0, p6_2), (0, p92_1), (0, 1)]) gz_235_116 rfl gm_235 rfl rfl rfl ⟨by omega, by omega⟩ ?_
          refine w_iinc (ls' := [(2, 151), (0, x1), (0, x2), (0, x3), (0, p92_0), (0, x5), (0, (p6_1 + 1)), (0, (p6_2 + 1)), (0, p92_1), (0, 1)]) gz_235_119 rfl gm_235 rfl rfl rfl ⟨by omega, by omega⟩ ?_
          refine w_goto (t := 6) gz_235_122 rfl ?_
          refine w_weak (ls' := [(2, 151), (0, x1), (0, x2), (0, x3), (0, p92_0), (0, x5), (0, (p6_1 + 1)), (0, (p6_2 + 1)), (9, 0), (9, 0)]) (wk_e (wk_e (wk_e (wk_e (wk_e (wk_e (wk_e (wk_e (wk_9 (wk_9 wk_n)))))))))) ?_
          exact ih_6_0 (p92_0) ((p6_1 + 1)) ((p6_2 + 1)) (by omega) (by omega) (by omega) (by omega) (by omega) (by omega) (by omega) (by omega) (by omega) (by omega)
      have J92_0 : ∀ (p92_0 p92_1 : Int), 0 ≤ p92_0 → p92_0 ≤ 2 → p6_1 ≤ 19 → p6_2 ≤ 19 → 0 ≤ p92_1 → p92_1 ≤ 19 → p92_0 ≤ p6_0 → p92_0 ≤ x4 → p6_1 ≤ p6_2 → p6_0 ≤ p92_0 → p6_0 ≤ x4 → x4 ≤ p92_0 → x4 ≤ p6_0 → wp l rho (d + 2) 235 92 [(2, 151), (0, x1), (0, x2), (0, x3), (0, p92_0), (0, x5), (0, p6_1), (0, p6_2), (0, p92_1), (9, 0)] [(0, 0)] h Q := by
        intro p92_0 p92_1 q0_92_0 q1_92_0 q2_92_0 q3_92_0 q4_92_0 q5_92_0 q6_92_0 q7_92_0 q8_92_0 q9_92_0 q10_92_0 q11_92_0 q12_92_0
        refine w_istore (ls' := [(2, 151), (0, x1), (0, x2), (0, x3), (0, p92_0), (0, x5), (0, p6_1), (0, p6_2), (0, p92_1), (0, 0)]) gz_235_92 gm_235 rfl rfl rfl ?_
        refine w_iload gz_235_94 rfl ?_
        refine w_iload_n gz_235_96 rfl ?_
        refine w_iload gz_235_97 rfl ?_
        refine w_ianyR gz_235_99 (fun v6 pv6 qv6 => ?_)
        refine w_iconst gz_235_100 (by decide) ?_
        refine w_iandM gz_235_101 (by decide) (fun v7 pv7 qv7 => ?_)
        refine w_iconst gz_235_102 (by decide) ?_
        refine w_icne (t := 110) gz_235_103 rfl (fun u8 => ?_) (fun u8 => ?_)
        ·
          refine w_iconst gz_235_110 (by decide) ?_
          refine w_iceq (t := 116) gz_235_111 rfl (fun u9 => ?_) (fun u9 => by exfalso; omega)
          refine w_iinc (ls' := [(2, 151), (0, x1), (0, x2), (0, x3), (0, p92_0), (0, x5), (0, (p6_1 + 1)), (0, p6_2), (0, p92_1), (0, 0)]) gz_235_116 rfl gm_235 rfl rfl rfl ⟨by omega, by omega⟩ ?_
          refine w_iinc (ls' := [(2, 151), (0, x1), (0, x2), (0, x3), (0, p92_0), (0, x5), (0, (p6_1 + 1)), (0, (p6_2 + 1)), (0, p92_1), (0, 0)]) gz_235_119 rfl gm_235 rfl rfl rfl ⟨by omega, by omega⟩ ?_
          refine w_goto (t := 6) gz_235_122 rfl ?_
          refine w_weak (ls' := [(2, 151), (0, x1), (0, x2), (0, x3), (0, p92_0), (0, x5), (0, (p6_1 + 1)), (0, (p6_2 + 1)), (9, 0), (9, 0)]) (wk_e (wk_e (wk_e (wk_e (wk_e (wk_e (wk_e (wk_e (wk_9 (wk_9 wk_n)))))))))) ?_
          exact ih_6_0 (p92_0) ((p6_1 + 1)) ((p6_2 + 1)) (by omega) (by omega) (by omega) (by omega) (by omega) (by omega) (by omega) (by omega) (by omega) (by omega)
        ·
          refine w_iconst gz_235_106 (by decide) ?_
          refine w_goto (t := 111) gz_235_107 rfl ?_
          refine w_iceq (t := 116) gz_235_111 rfl (fun u10 => by exfalso; omega) (fun u10 => ?_)
          refine w_iconst gz_235_114 (by decide) ?_
          exact w_bret gz_235_115 gm_235 (by omega) (by omega) (k0 )
      refine w_iload gz_235_6 rfl ?_
      refine w_bipush gz_235_8 (by decide) ?_
      refine w_icge (t := 125) gz_235_10 rfl (fun u11 => ?_) (fun u11 => ?_)
      ·
        refine w_iconst gz_235_125 (by decide) ?_
        exact w_bret gz_235_126 gm_235 (by omega) (by omega) (k1 )
      ·
        refine w_aload_n gz_235_13 rfl ?_
        refine w_getX (v := 162) gz_235_14 is_151 rd_10 rfl (by decide) rfl ?_
        refine w_iconst gz_235_17 (by decide) ?_
        refine w_iload_n gz_235_18 rfl ?_
        refine w_iload gz_235_19 rfl ?_
        refine w_inS (k := 0) (as := [(0, p6_2), (0, x1), (0, 0)]) (r := [(2, 162)]) (ls0 := [(0, 0), (0, x1), (0, p6_2)]) gz_235_21 gm_150 rfl rfl rfl rfl rfl rfl ?_
        refine w_bipush gz_150_0 (by decide) ?_
        refine w_iload_n gz_150_2 rfl ?_
        refine w_imul gz_150_3 ⟨by omega, by omega⟩ ?_
        refine w_bipush gz_150_4 (by decide) ?_
        refine w_iload_n gz_150_6 rfl ?_
        refine w_imul gz_150_7 ⟨by omega, by omega⟩ ?_
        refine w_iadd gz_150_8 ⟨by omega, by omega⟩ ?_
        refine w_iload_n gz_150_9 rfl ?_
        refine w_iadd gz_150_10 ⟨by omega, by omega⟩ ?_
        refine w_iret gz_150_11 gm_150 ?_
        show wp l rho (d + 2) 235 24 [(2, 151), (0, x1), (0, x2), (0, x3), (0, p6_0), (0, x5), (0, p6_1), (0, p6_2), (9, 0), (9, 0)] [(0, (((60 * 0) + (20 * x1)) + p6_2)), (2, 162)] h Q
        refine w_bald gz_235_24 is_162 rd_61 (by omega) (by omega) (fun v13 ev13 pv13 qv13 => ?_)
        refine w_ifeq (t := 119) gz_235_25 rfl (fun u14 => ?_) (fun u14 => ?_)
        ·
          refine w_iinc (ls' := [(2, 151), (0, x1), (0, x2), (0, x3), (0, p6_0), (0, x5), (0, p6_1), (0, (p6_2 + 1)), (9, 0), (9, 0)]) gz_235_119 rfl gm_235 rfl rfl rfl ⟨by omega, by omega⟩ ?_
          refine w_goto (t := 6) gz_235_122 rfl ?_
          exact ih_6_0 (p6_0) (p6_1) ((p6_2 + 1)) (by omega) (by omega) (by omega) (by omega) (by omega) (by omega) (by omega) (by omega) (by omega) (by omega)
        ·
          refine w_aload_n gz_235_28 rfl ?_
          refine w_iconst gz_235_29 (by decide) ?_
          refine w_iload_n gz_235_30 rfl ?_
          refine w_iload gz_235_31 rfl ?_
          refine w_iload_n gz_235_33 rfl ?_
          refine w_inv (k := 0) (as := [(0, x3), (0, p6_2), (0, x1), (0, 0)]) (r := []) (x := 151) (ls0 := [(2, 151), (0, 0), (0, x1), (0, p6_2), (0, x3)]) gz_235_34 gm_157 rfl is_151 rd_10 rfl rfl rfl rfl rfl ?_
          refine w_aload_n gz_157_0 rfl ?_
          refine w_getX (v := 163) gz_157_1 is_151 rd_10 rfl (by decide) rfl ?_
          refine w_iconst gz_157_4 (by decide) ?_
          refine w_iload_n gz_157_5 rfl ?_
          refine w_iload_n gz_157_6 rfl ?_
          refine w_iload_n gz_157_7 rfl ?_
          refine w_inS (k := 0) (as := [(0, p6_2), (0, x1), (0, 0)]) (r := [(0, 4), (2, 163)]) (ls0 := [(0, 0), (0, x1), (0, p6_2)]) gz_157_8 gm_150 rfl rfl rfl rfl rfl rfl ?_
          refine w_bipush gz_150_0 (by decide) ?_
          refine w_iload_n gz_150_2 rfl ?_
          refine w_imul gz_150_3 ⟨by omega, by omega⟩ ?_
          refine w_bipush gz_150_4 (by decide) ?_
          refine w_iload_n gz_150_6 rfl ?_
          refine w_imul gz_150_7 ⟨by omega, by omega⟩ ?_
          refine w_iadd gz_150_8 ⟨by omega, by omega⟩ ?_
          refine w_iload_n gz_150_9 rfl ?_
          refine w_iadd gz_150_10 ⟨by omega, by omega⟩ ?_
          refine w_iret gz_150_11 gm_150 ?_
          show wp l rho (d + 1) 157 11 [(2, 151), (0, 0), (0, x1), (0, p6_2), (0, x3)] [(0, (((60 * 0) + (20 * x1)) + p6_2)), (0, 4), (2, 163)] h _
          refine w_imul gz_157_11 ⟨by omega, by omega⟩ ?_
          refine w_iload gz_157_12 rfl ?_
          refine w_iadd gz_157_14 ⟨by omega, by omega⟩ ?_
          refine w_iald gz_157_15 is_163 rd_62 (by omega) (by omega) (fun v16 ev16 pv16 qv16 => ?_)
          refine w_iret gz_157_16 gm_157 ?_
          show wp l rho (d + 2) 235 37 [(2, 151), (0, x1), (0, x2), (0, x3), (0, p6_0), (0, x5), (0, p6_1), (0, p6_2), (9, 0), (9, 0)] [(0, v16)] h Q
          refine w_istore (ls' := [(2, 151), (0, x1), (0, x2), (0, x3), (0, p6_0), (0, x5), (0, p6_1), (0, p6_2), (0, v16), (9, 0)]) gz_235_37 gm_235 rfl rfl rfl ?_
          refine w_iload gz_235_39 rfl ?_
          refine w_ifne (t := 59) gz_235_41 rfl (fun u17 => ?_) (fun u17 => ?_)
          ·
            refine w_iload gz_235_59 rfl ?_
            refine w_iconst gz_235_61 (by decide) ?_
            refine w_icne (t := 80) gz_235_62 rfl (fun u18 => ?_) (fun u18 => ?_)
            ·
              refine w_iload gz_235_80 rfl ?_
              refine w_iload gz_235_82 rfl ?_
              refine w_icle (t := 91) gz_235_84 rfl (fun u19 => ?_) (fun u19 => ?_)
              ·
                refine w_iconst gz_235_91 (by decide) ?_
                exact J92_0 (p6_0) (v16) (by omega) (by omega) (by omega) (by omega) (by omega) (by omega) (by omega) (by omega) (by omega) (by omega) (by omega) (by omega) (by omega)
              ·
                refine w_iconst gz_235_87 (by decide) ?_
                refine w_goto (t := 92) gz_235_88 rfl ?_
                exact J92_1 (p6_0) (v16) (by omega) (by omega) (by omega) (by omega) (by omega) (by omega) (by omega) (by omega) (by omega) (by omega) (by omega) (by omega) (by omega) (by omega) (by omega) (by omega)
            ·
              refine w_iload gz_235_65 rfl ?_
              refine w_iload gz_235_67 rfl ?_
              refine w_icne (t := 76) gz_235_69 rfl (fun u20 => ?_) (fun u20 => ?_)
              ·
                refine w_iconst gz_235_76 (by decide) ?_
                refine w_goto (t := 92) gz_235_77 rfl ?_
                exact J92_0 (p6_0) (v16) (by omega) (by omega) (by omega) (by omega) (by omega) (by omega) (by omega) (by omega) (by omega) (by omega) (by omega) (by omega) (by omega)
              ·
                refine w_iconst gz_235_72 (by decide) ?_
                refine w_goto (t := 92) gz_235_73 rfl ?_
                exact J92_1 (p6_0) (v16) (by omega) (by omega) (by omega) (by omega) (by omega) (by omega) (by omega) (by omega) (by omega) (by omega) (by omega) (by omega) (by omega) (by omega) (by omega) (by omega)
          ·
            refine w_iload gz_235_44 rfl ?_
            refine w_iload gz_235_46 rfl ?_
            refine w_icge (t := 55) gz_235_48 rfl (fun u21 => ?_) (fun u21 => ?_)
            ·
              refine w_iconst gz_235_55 (by decide) ?_
              refine w_goto (t := 92) gz_235_56 rfl ?_
              exact J92_0 (p6_0) (v16) (by omega) (by omega) (by omega) (by omega) (by omega) (by omega) (by omega) (by omega) (by omega) (by omega) (by omega) (by omega) (by omega)
            ·
              refine w_iconst gz_235_51 (by decide) ?_
              refine w_goto (t := 92) gz_235_52 rfl ?_
              exact J92_1 (p6_0) (v16) (by omega) (by omega) (by omega) (by omega) (by omega) (by omega) (by omega) (by omega) (by omega) (by omega) (by omega) (by omega) (by omega) (by omega) (by omega) (by omega)
  refine w_iconst gz_235_0 (by decide) ?_
  refine w_istore (ls' := [(2, 151), (0, x1), (0, x2), (0, x3), (0, x4), (0, x5), (0, 0), (9, 0), (9, 0), (9, 0)]) gz_235_1 gm_235 rfl rfl rfl ?_
  refine w_iconst gz_235_3 (by decide) ?_
  refine w_istore (ls' := [(2, 151), (0, x1), (0, x2), (0, x3), (0, x4), (0, x5), (0, 0), (0, 0), (9, 0), (9, 0)]) gz_235_4 gm_235 rfl rfl rfl ?_
  exact J6_0 21 (x4) (0) (0) (by omega) (by omega) (by omega) (by omega) (by omega) (by omega) (by omega) (by omega) (by omega) (by omega)
theorem c_Model_shownBy {l : Launch} {rho : Nat → Int32} {d : Nat} {h : my_H} {Q : my_H → my_V → Prop} {x1 x2 x3 x4 : Int} (a1 : 0 ≤ x1) (b1 : x1 ≤ 2) (a2 : 0 ≤ x2) (b2 : x2 ≤ 3) (a3 : 0 ≤ x3) (b3 : x3 ≤ 2) (a4 : 0 ≤ x4) (b4 : x4 ≤ 199) (k0 : ∀ (y : Int), Q h (0, y)) : wp l rho (d + 2) 240 0 [(2, 151), (0, x1), (0, x2), (0, x3), (0, x4), (9, 0), (9, 0), (9, 0), (9, 0)] [] h Q := by
  have J9_0 : ∀ (n : Nat) (p9_0 p9_1 p9_2 p9_3 : Int), 0 ≤ p9_0 → p9_0 ≤ 2 → 0 ≤ p9_2 → p9_2 ≤ 20 → 0 ≤ p9_3 → p9_3 ≤ 20 → p9_0 ≤ x3 → p9_2 ≤ p9_3 → x3 ≤ p9_0 → 21 - p9_3 ≤ (n : Int) → wp l rho (d + 2) 240 9 [(2, 151), (0, x1), (0, x2), (0, p9_0), (0, x4), (0, p9_1), (0, p9_2), (0, p9_3), (9, 0)] [] h Q := by
    intro n
    induction n with
    | zero => intro p9_0 p9_1 p9_2 p9_3 q0_9_0 q1_9_0 q2_9_0 q3_9_0 q4_9_0 q5_9_0 q6_9_0 q7_9_0 q8_9_0 hm_9_0; exfalso; omega
    | succ n ih_9_0 =>
      intro p9_0 p9_1 p9_2 p9_3 q0_9_0 q1_9_0 q2_9_0 q3_9_0 q4_9_0 q5_9_0 q6_9_0 q7_9_0 q8_9_0 hm_9_0
      have J94_0 : ∀ (p94_0 p94_1 p94_2 : Int), 0 ≤ p94_0 → p94_0 ≤ 2 → 0 ≤ p94_2 → p94_2 ≤ 20 → p9_3 ≤ 19 → p9_2 ≤ 19 → p94_0 ≤ p9_0 → p94_0 ≤ x3 → p94_2 ≤ (p9_3 + 1) → p94_2 ≤ (p9_2 + 1) → p9_2 ≤ p94_2 → p9_2 ≤ p9_3 → p9_0 ≤ p94_0 → p9_0 ≤ x3 → x3 ≤ p94_0 → x3 ≤ p9_0 → wp l rho (d + 2) 240 94 [(2, 151), (0, x1), (0, x2), (0, p94_0), (0, x4), (0, p94_1), (0, p94_2), (0, p9_3), (9, 0)] [] h Q := by
        intro p94_0 p94_1 p94_2 q0_94_0 q1_94_0 q2_94_0 q3_94_0 q4_94_0 q5_94_0 q6_94_0 q7_94_0 q8_94_0 q9_94_0 q10_94_0 q11_94_0 q12_94_0 q13_94_0 q14_94_0 q15_94_0
        refine w_iinc (ls' := [(2, 151), (0, x1), (0, x2), (0, p94_0), (0, x4), (0, p94_1), (0, p94_2), (0, (p9_3 + 1)), (9, 0)]) gz_240_94 rfl gm_240 rfl rfl rfl ⟨by omega, by omega⟩ ?_
        refine w_goto (t := 9) gz_240_97 rfl ?_
        exact ih_9_0 (p94_0) (p94_1) (p94_2) ((p9_3 + 1)) (by omega) (by omega) (by omega) (by omega) (by omega) (by omega) (by omega) (by omega) (by omega) (by omega)
      have J87_0 : ∀ (p87_0 p87_1 : Int), 0 ≤ p87_0 → p87_0 ≤ 2 → p9_2 ≤ 19 → p9_3 ≤ 19 → 0 ≤ p87_1 → p87_1 ≤ 19 → p87_0 ≤ p9_0 → p87_0 ≤ x3 → p9_2 ≤ p9_3 → p9_0 ≤ p87_0 → p9_0 ≤ x3 → x3 ≤ p87_0 → x3 ≤ p9_0 → wp l rho (d + 2) 240 87 [(2, 151), (0, x1), (0, x2), (0, p87_0), (0, x4), (0, p9_1), (0, p9_2), (0, p9_3), (0, p87_1)] [(0, p9_1)] h Q := by
        intro p87_0 p87_1 q0_87_0 q1_87_0 q2_87_0 q3_87_0 q4_87_0 q5_87_0 q6_87_0 q7_87_0 q8_87_0 q9_87_0 q10_87_0 q11_87_0 q12_87_0
        refine w_iconst gz_240_87 (by decide) ?_
        refine w_ianyO gz_240_88 (fun v1 pv1 qv1 => ?_)
        refine w_istore (ls' := [(2, 151), (0, x1), (0, x2), (0, p87_0), (0, x4), (0, v1), (0, p9_2), (0, p9_3), (0, p87_1)]) gz_240_89 gm_240 rfl rfl rfl ?_
        refine w_iinc (ls' := [(2, 151), (0, x1), (0, x2), (0, p87_0), (0, x4), (0, v1), (0, (p9_2 + 1)), (0, p9_3), (0, p87_1)]) gz_240_91 rfl gm_240 rfl rfl rfl ⟨by omega, by omega⟩ ?_
        refine w_weak (ls' := [(2, 151), (0, x1), (0, x2), (0, p87_0), (0, x4), (0, v1), (0, (p9_2 + 1)), (0, p9_3), (9, 0)]) (wk_e (wk_e (wk_e (wk_e (wk_e (wk_e (wk_e (wk_e (wk_9 wk_n))))))))) ?_
        exact J94_0 (p87_0) (v1) ((p9_2 + 1)) (by omega) (by omega) (by omega) (by omega) (by omega) (by omega) (by omega) (by omega) (by omega) (by omega) (by omega) (by omega) (by omega) (by omega) (by omega) (by omega)
      have J80_0 : ∀ (p80_0 p80_1 : Int), 0 ≤ p80_0 → p80_0 ≤ 2 → p9_2 ≤ 19 → p9_3 ≤ 19 → 0 ≤ p80_1 → p80_1 ≤ 19 → p80_0 ≤ (p80_1 + 1) → p80_0 ≤ p9_0 → p80_0 ≤ x3 → p9_2 ≤ p9_3 → p9_0 ≤ p80_0 → p9_0 ≤ (p80_1 + 1) → p9_0 ≤ x3 → x3 ≤ p80_0 → x3 ≤ (p80_1 + 1) → x3 ≤ p9_0 → wp l rho (d + 2) 240 80 [(2, 151), (0, x1), (0, x2), (0, p80_0), (0, x4), (0, p9_1), (0, p9_2), (0, p9_3), (0, p80_1)] [(0, p9_1)] h Q := by
        intro p80_0 p80_1 q0_80_0 q1_80_0 q2_80_0 q3_80_0 q4_80_0 q5_80_0 q6_80_0 q7_80_0 q8_80_0 q9_80_0 q10_80_0 q11_80_0 q12_80_0 q13_80_0 q14_80_0 q15_80_0
        refine w_iconst gz_240_80 (by decide) ?_
        refine w_iload gz_240_81 rfl ?_
        refine w_ianyL gz_240_83 (fun v2 pv2 qv2 => ?_)
        refine w_goto (t := 88) gz_240_84 rfl ?_
        refine w_ianyO gz_240_88 (fun v3 pv3 qv3 => ?_)
        refine w_istore (ls' := [(2, 151), (0, x1), (0, x2), (0, p80_0), (0, x4), (0, v3), (0, p9_2), (0, p9_3), (0, p80_1)]) gz_240_89 gm_240 rfl rfl rfl ?_
        refine w_iinc (ls' := [(2, 151), (0, x1), (0, x2), (0, p80_0), (0, x4), (0, v3), (0, (p9_2 + 1)), (0, p9_3), (0, p80_1)]) gz_240_91 rfl gm_240 rfl rfl rfl ⟨by omega, by omega⟩ ?_
        refine w_weak (ls' := [(2, 151), (0, x1), (0, x2), (0, p80_0), (0, x4), (0, v3), (0, (p9_2 + 1)), (0, p9_3), (9, 0)]) (wk_e (wk_e (wk_e (wk_e (wk_e (wk_e (wk_e (wk_e (wk_9 wk_n))))))))) ?_
        exact J94_0 (p80_0) (v3) ((p9_2 + 1)) (by omega) (by omega) (by omega) (by omega) (by omega) (by omega) (by omega) (by omega) (by omega) (by omega) (by omega) (by omega) (by omega) (by omega) (by omega) (by omega)
      refine w_iload gz_240_9 rfl ?_
      refine w_bipush gz_240_11 (by decide) ?_
      refine w_icge (t := 100) gz_240_13 rfl (fun u4 => ?_) (fun u4 => ?_)
      ·
        refine w_iload gz_240_100 rfl ?_
        exact w_iret gz_240_102 gm_240 (k0 (p9_1))
      ·
        refine w_aload_n gz_240_16 rfl ?_
        refine w_getX (v := 162) gz_240_17 is_151 rd_10 rfl (by decide) rfl ?_
        refine w_iconst gz_240_20 (by decide) ?_
        refine w_iload_n gz_240_21 rfl ?_
        refine w_iload gz_240_22 rfl ?_
        refine w_inS (k := 0) (as := [(0, p9_3), (0, x1), (0, 0)]) (r := [(2, 162)]) (ls0 := [(0, 0), (0, x1), (0, p9_3)]) gz_240_24 gm_150 rfl rfl rfl rfl rfl rfl ?_
        refine w_bipush gz_150_0 (by decide) ?_
        refine w_iload_n gz_150_2 rfl ?_
        refine w_imul gz_150_3 ⟨by omega, by omega⟩ ?_
        refine w_bipush gz_150_4 (by decide) ?_
        refine w_iload_n gz_150_6 rfl ?_
        refine w_imul gz_150_7 ⟨by omega, by omega⟩ ?_
        refine w_iadd gz_150_8 ⟨by omega, by omega⟩ ?_
        refine w_iload_n gz_150_9 rfl ?_
        refine w_iadd gz_150_10 ⟨by omega, by omega⟩ ?_
        refine w_iret gz_150_11 gm_150 ?_
        show wp l rho (d + 2) 240 27 [(2, 151), (0, x1), (0, x2), (0, p9_0), (0, x4), (0, p9_1), (0, p9_2), (0, p9_3), (9, 0)] [(0, (((60 * 0) + (20 * x1)) + p9_3)), (2, 162)] h Q
        refine w_bald gz_240_27 is_162 rd_61 (by omega) (by omega) (fun v6 ev6 pv6 qv6 => ?_)
        refine w_ifeq (t := 94) gz_240_28 rfl (fun u7 => ?_) (fun u7 => ?_)
        ·
          exact J94_0 (p9_0) (p9_1) (p9_2) (by omega) (by omega) (by omega) (by omega) (by omega) (by omega) (by omega) (by omega) (by omega) (by omega) (by omega) (by omega) (by omega) (by omega) (by omega) (by omega)
        ·
          refine w_aload_n gz_240_31 rfl ?_
          refine w_iconst gz_240_32 (by decide) ?_
          refine w_iload_n gz_240_33 rfl ?_
          refine w_iload gz_240_34 rfl ?_
          refine w_iload_n gz_240_36 rfl ?_
          refine w_inv (k := 0) (as := [(0, x2), (0, p9_3), (0, x1), (0, 0)]) (r := []) (x := 151) (ls0 := [(2, 151), (0, 0), (0, x1), (0, p9_3), (0, x2)]) gz_240_37 gm_157 rfl is_151 rd_10 rfl rfl rfl rfl rfl ?_
          refine w_aload_n gz_157_0 rfl ?_
          refine w_getX (v := 163) gz_157_1 is_151 rd_10 rfl (by decide) rfl ?_
          refine w_iconst gz_157_4 (by decide) ?_
          refine w_iload_n gz_157_5 rfl ?_
          refine w_iload_n gz_157_6 rfl ?_
          refine w_iload_n gz_157_7 rfl ?_
          refine w_inS (k := 0) (as := [(0, p9_3), (0, x1), (0, 0)]) (r := [(0, 4), (2, 163)]) (ls0 := [(0, 0), (0, x1), (0, p9_3)]) gz_157_8 gm_150 rfl rfl rfl rfl rfl rfl ?_
          refine w_bipush gz_150_0 (by decide) ?_
          refine w_iload_n gz_150_2 rfl ?_
          refine w_imul gz_150_3 ⟨by omega, by omega⟩ ?_
          refine w_bipush gz_150_4 (by decide) ?_
          refine w_iload_n gz_150_6 rfl ?_
          refine w_imul gz_150_7 ⟨by omega, by omega⟩ ?_
          refine w_iadd gz_150_8 ⟨by omega, by omega⟩ ?_
          refine w_iload_n gz_150_9 rfl ?_
          refine w_iadd gz_150_10 ⟨by omega, by omega⟩ ?_
          refine w_iret gz_150_11 gm_150 ?_
          show wp l rho (d + 1) 157 11 [(2, 151), (0, 0), (0, x1), (0, p9_3), (0, x2)] [(0, (((60 * 0) + (20 * x1)) + p9_3)), (0, 4), (2, 163)] h _
          refine w_imul gz_157_11 ⟨by omega, by omega⟩ ?_
          refine w_iload gz_157_12 rfl ?_
          refine w_iadd gz_157_14 ⟨by omega, by omega⟩ ?_
          refine w_iald gz_157_15 is_163 rd_62 (by omega) (by omega) (fun v9 ev9 pv9 qv9 => ?_)
          refine w_iret gz_157_16 gm_157 ?_
          show wp l rho (d + 2) 240 40 [(2, 151), (0, x1), (0, x2), (0, p9_0), (0, x4), (0, p9_1), (0, p9_2), (0, p9_3), (9, 0)] [(0, v9)] h Q
          refine w_istore (ls' := [(2, 151), (0, x1), (0, x2), (0, p9_0), (0, x4), (0, p9_1), (0, p9_2), (0, p9_3), (0, v9)]) gz_240_40 gm_240 rfl rfl rfl ?_
          refine w_iload gz_240_42 rfl ?_
          refine w_iload_n gz_240_44 rfl ?_
          refine w_ifne (t := 58) gz_240_45 rfl (fun u10 => ?_) (fun u10 => ?_)
          ·
            refine w_iload_n gz_240_58 rfl ?_
            refine w_iconst gz_240_59 (by decide) ?_
            refine w_icne (t := 73) gz_240_60 rfl (fun u11 => ?_) (fun u11 => ?_)
            ·
              refine w_iload gz_240_73 rfl ?_
              refine w_iload gz_240_75 rfl ?_
              refine w_icle (t := 87) gz_240_77 rfl (fun u12 => ?_) (fun u12 => ?_)
              ·
                exact J87_0 (p9_0) (v9) (by omega) (by omega) (by omega) (by omega) (by omega) (by omega) (by omega) (by omega) (by omega) (by omega) (by omega) (by omega) (by omega)
              ·
                exact J80_0 (p9_0) (v9) (by omega) (by omega) (by omega) (by omega) (by omega) (by omega) (by omega) (by omega) (by omega) (by omega) (by omega) (by omega) (by omega) (by omega) (by omega) (by omega)
            ·
              refine w_iload gz_240_63 rfl ?_
              refine w_iload gz_240_65 rfl ?_
              refine w_icne (t := 87) gz_240_67 rfl (fun u13 => ?_) (fun u13 => ?_)
              ·
                exact J87_0 (p9_0) (v9) (by omega) (by omega) (by omega) (by omega) (by omega) (by omega) (by omega) (by omega) (by omega) (by omega) (by omega) (by omega) (by omega)
              ·
                refine w_goto (t := 80) gz_240_70 rfl ?_
                exact J80_0 (p9_0) (v9) (by omega) (by omega) (by omega) (by omega) (by omega) (by omega) (by omega) (by omega) (by omega) (by omega) (by omega) (by omega) (by omega) (by omega) (by omega) (by omega)
          ·
            refine w_iload gz_240_48 rfl ?_
            refine w_iload gz_240_50 rfl ?_
            refine w_icge (t := 87) gz_240_52 rfl (fun u14 => ?_) (fun u14 => ?_)
            ·
              exact J87_0 (p9_0) (v9) (by omega) (by omega) (by omega) (by omega) (by omega) (by omega) (by omega) (by omega) (by omega) (by omega) (by omega) (by omega) (by omega)
            ·
              refine w_goto (t := 80) gz_240_55 rfl ?_
              exact J80_0 (p9_0) (v9) (by omega) (by omega) (by omega) (by omega) (by omega) (by omega) (by omega) (by omega) (by omega) (by omega) (by omega) (by omega) (by omega) (by omega) (by omega) (by omega)
  refine w_iconst gz_240_0 (by decide) ?_
  refine w_istore (ls' := [(2, 151), (0, x1), (0, x2), (0, x3), (0, x4), (0, 0), (9, 0), (9, 0), (9, 0)]) gz_240_1 gm_240 rfl rfl rfl ?_
  refine w_iconst gz_240_3 (by decide) ?_
  refine w_istore (ls' := [(2, 151), (0, x1), (0, x2), (0, x3), (0, x4), (0, 0), (0, 0), (9, 0), (9, 0)]) gz_240_4 gm_240 rfl rfl rfl ?_
  refine w_iconst gz_240_6 (by decide) ?_
  refine w_istore (ls' := [(2, 151), (0, x1), (0, x2), (0, x3), (0, x4), (0, 0), (0, 0), (0, 0), (9, 0)]) gz_240_7 gm_240 rfl rfl rfl ?_
  exact J9_0 21 (x3) (0) (0) (0) (by omega) (by omega) (by omega) (by omega) (by omega) (by omega) (by omega) (by omega) (by omega) (by omega)
theorem c_Model_clerk {l : Launch} {rho : Nat → Int32} {d : Nat} {h : my_H} {Q : my_H → my_V → Prop} {x1 x2 x3 x4 : Int} (k0 : ∀ (h' : my_H), my_fr [(10, 0), (98, -1), (99, -1), (100, -1)] h h' → h' 151 0 = 0 → Q h' (0, 0)) (k1 : ∀ (h' : my_H), my_fr [(10, 0), (98, -1), (99, -1), (100, -1)] h h' → 0 ≤ x1 → x1 ≤ 2 → (-1) ≤ x2 → x2 ≤ 5 → h' 151 0 = 0 → Q h' (0, 1)) : wp l rho (d + 1) 241 0 [(2, 151), (0, x1), (0, x2), (0, x3), (0, x4)] [] h Q := by
  have J51_0 : ∀ (h51_0 : my_H), my_fr [(10, 0), (98, -1), (99, -1), (100, -1)] h h51_0 → 0 ≤ x1 → x1 ≤ 2 → (-1) ≤ x2 → x2 ≤ 5 → h51_0 151 0 = 0 → wp l rho (d + 1) 241 51 [(2, 151), (0, x1), (0, x2), (0, x3), (0, x4)] [] h51_0 Q := by
    intro h51_0 gh_51_0 q0_51_0 q1_51_0 q2_51_0 q3_51_0 c151_0_51_0
    refine w_aload_n gz_241_51 rfl ?_
    refine w_getX (v := 199) gz_241_52 is_151 rd_10 rfl (by decide) rfl ?_
    refine w_iload_n gz_241_55 rfl ?_
    refine w_iload_n gz_241_56 rfl ?_
    refine w_iast gz_241_57 is_199 rd_98 (by omega) (by omega) (by omega) (by omega) (fun h2 fh2 => ?_)
    have gh2 : my_fr [(10, 0), (98, -1), (99, -1), (100, -1)] h h2 := my_fr.up gh_51_0 is_199 fh2 rfl
    refine w_aload_n gz_241_58 rfl ?_
    refine w_getX (v := 200) gz_241_59 is_151 rd_10 rfl (by decide) rfl ?_
    refine w_iload_n gz_241_62 rfl ?_
    refine w_iload_n gz_241_63 rfl ?_
    refine w_iastA gz_241_64 is_200 rd_99 (by omega) (by omega) (fun h4 fh4 => ?_)
    have gh4 : my_fr [(10, 0), (98, -1), (99, -1), (100, -1)] h h4 := my_fr.up gh2 is_200 fh4 rfl
    refine w_aload_n gz_241_65 rfl ?_
    refine w_getX (v := 201) gz_241_66 is_151 rd_10 rfl (by decide) rfl ?_
    refine w_iload_n gz_241_69 rfl ?_
    refine w_iload gz_241_70 rfl ?_
    refine w_iastA gz_241_72 is_201 rd_100 (by omega) (by omega) (fun h6 fh6 => ?_)
    have gh6 : my_fr [(10, 0), (98, -1), (99, -1), (100, -1)] h h6 := my_fr.up gh4 is_201 fh6 rfl
    refine w_iconst gz_241_73 (by decide) ?_
    have c7 := ((my_up_role fh6 is_151 is_201 rfl).trans ((my_up_role fh4 is_151 is_200 rfl).trans ((my_up_role fh2 is_151 is_199 rfl).trans c151_0_51_0)))
    exact w_bret gz_241_74 gm_241 (by omega) (by omega) (k1 h6 (gh6) (by omega) (by omega) (by omega) (by omega) (by omega))
  refine w_aload_n gz_241_0 rfl ?_
  refine w_iconst gz_241_1 (by decide) ?_
  refine v_putI (j := 0) gz_241_2 rfl is_151 rd_10 rfl (by omega) (by omega) rfl (fun h8 fh8 => ?_)
  have gh8 : my_fr [(10, 0), (98, -1), (99, -1), (100, -1)] h h8 := my_fr.up my_fr.rf is_151 fh8 rfl
  refine w_iload_n gz_241_5 rfl ?_
  refine w_iconst gz_241_6 (by decide) ?_
  refine w_iconst gz_241_7 (by decide) ?_
  refine w_inS (k := 0) (as := [(0, 2), (0, 0), (0, x1)]) (r := []) (ls0 := [(0, x1), (0, 0), (0, 2)]) gz_241_8 gm_147 rfl rfl rfl rfl rfl rfl ?_
  refine w_iload_n gz_147_0 rfl ?_
  refine w_iload_n gz_147_1 rfl ?_
  refine w_iclt (t := 14) gz_147_2 rfl (fun u9 => ?_) (fun u9 => ?_)
  ·
    refine w_iconst gz_147_14 (by decide) ?_
    refine w_bret gz_147_15 gm_147 (by omega) (by omega) ?_
    show wp l rho (d + 1) 241 11 [(2, 151), (0, x1), (0, x2), (0, x3), (0, x4)] [(0, 0)] h8 Q
    refine w_ifeq (t := 49) gz_241_11 rfl (fun u10 => ?_) (fun u10 => by exfalso; omega)
    refine w_iconst gz_241_49 (by decide) ?_
    have c11 := (my_up_self fh8)
    exact w_bret gz_241_50 gm_241 (by omega) (by omega) (k0 h8 (gh8) (by omega))
  ·
    refine w_iload_n gz_147_5 rfl ?_
    refine w_iload_n gz_147_6 rfl ?_
    refine w_icgt (t := 14) gz_147_7 rfl (fun u12 => ?_) (fun u12 => ?_)
    ·
      refine w_iconst gz_147_14 (by decide) ?_
      refine w_bret gz_147_15 gm_147 (by omega) (by omega) ?_
      show wp l rho (d + 1) 241 11 [(2, 151), (0, x1), (0, x2), (0, x3), (0, x4)] [(0, 0)] h8 Q
      refine w_ifeq (t := 49) gz_241_11 rfl (fun u13 => ?_) (fun u13 => by exfalso; omega)
      refine w_iconst gz_241_49 (by decide) ?_
      have c14 := (my_up_self fh8)
      exact w_bret gz_241_50 gm_241 (by omega) (by omega) (k0 h8 (gh8) (by omega))
    ·
      refine w_iconst gz_147_10 (by decide) ?_
      refine w_goto (t := 15) gz_147_11 rfl ?_
      refine w_bret gz_147_15 gm_147 (by omega) (by omega) ?_
      show wp l rho (d + 1) 241 11 [(2, 151), (0, x1), (0, x2), (0, x3), (0, x4)] [(0, 1)] h8 Q
      refine w_ifeq (t := 49) gz_241_11 rfl (fun u15 => by exfalso; omega) (fun u15 => ?_)
      refine w_iload_n gz_241_14 rfl ?_
      refine w_iconst gz_241_15 (by decide) ?_
      refine w_iceq (t := 51) gz_241_16 rfl (fun u16 => ?_) (fun u16 => ?_)
      ·
        exact J51_0 h8 (gh8) (by omega) (by omega) (by omega) (by omega) ((my_up_self fh8).trans (by omega))
      ·
        refine w_aload_n gz_241_19 rfl ?_
        refine w_iload_n gz_241_20 rfl ?_
        refine w_inv (k := 0) (as := [(0, x2)]) (r := []) (x := 151) (ls0 := [(2, 151), (0, x2)]) gz_241_21 gm_193 rfl is_151 rd_10 rfl rfl rfl rfl rfl ?_
        refine w_iload_n gz_193_0 rfl ?_
        refine w_iflt (t := 23) gz_193_1 rfl (fun u17 => ?_) (fun u17 => ?_)
        ·
          refine w_iconst gz_193_23 (by decide) ?_
          refine w_bret gz_193_24 gm_193 (by omega) (by omega) ?_
          show wp l rho (d + 1) 241 24 [(2, 151), (0, x1), (0, x2), (0, x3), (0, x4)] [(0, 0)] h8 Q
          refine w_ifeq (t := 49) gz_241_24 rfl (fun u18 => ?_) (fun u18 => by exfalso; omega)
          refine w_iconst gz_241_49 (by decide) ?_
          have c19 := (my_up_self fh8)
          exact w_bret gz_241_50 gm_241 (by omega) (by omega) (k0 h8 (gh8) (by omega))
        ·
          refine w_iload_n gz_193_4 rfl ?_
          refine w_bipush gz_193_5 (by decide) ?_
          refine w_icge (t := 23) gz_193_7 rfl (fun u20 => ?_) (fun u20 => ?_)
          ·
            refine w_iconst gz_193_23 (by decide) ?_
            refine w_bret gz_193_24 gm_193 (by omega) (by omega) ?_
            show wp l rho (d + 1) 241 24 [(2, 151), (0, x1), (0, x2), (0, x3), (0, x4)] [(0, 0)] h8 Q
            refine w_ifeq (t := 49) gz_241_24 rfl (fun u21 => ?_) (fun u21 => by exfalso; omega)
            refine w_iconst gz_241_49 (by decide) ?_
            have c22 := (my_up_self fh8)
            exact w_bret gz_241_50 gm_241 (by omega) (by omega) (k0 h8 (gh8) (by omega))
          ·
            refine w_aload_n gz_193_10 rfl ?_
            refine w_getX (v := 164) gz_193_11 is_151 rd_10 rfl (by decide) rfl ?_
            refine w_iload_n gz_193_14 rfl ?_
            refine w_bald gz_193_15 is_164 rd_63 (by omega) (by omega) (fun v24 ev24 pv24 qv24 => ?_)
            refine w_ifeq (t := 23) gz_193_16 rfl (fun u25 => ?_) (fun u25 => ?_)
            ·
              refine w_iconst gz_193_23 (by decide) ?_
              refine w_bret gz_193_24 gm_193 (by omega) (by omega) ?_
              show wp l rho (d + 1) 241 24 [(2, 151), (0, x1), (0, x2), (0, x3), (0, x4)] [(0, 0)] h8 Q
              refine w_ifeq (t := 49) gz_241_24 rfl (fun u26 => ?_) (fun u26 => by exfalso; omega)
              refine w_iconst gz_241_49 (by decide) ?_
              have c27 := (my_up_self fh8)
              exact w_bret gz_241_50 gm_241 (by omega) (by omega) (k0 h8 (gh8) (by omega))
            ·
              refine w_iconst gz_193_19 (by decide) ?_
              refine w_goto (t := 24) gz_193_20 rfl ?_
              refine w_bret gz_193_24 gm_193 (by omega) (by omega) ?_
              show wp l rho (d + 1) 241 24 [(2, 151), (0, x1), (0, x2), (0, x3), (0, x4)] [(0, 1)] h8 Q
              refine w_ifeq (t := 49) gz_241_24 rfl (fun u28 => by exfalso; omega) (fun u28 => ?_)
              refine w_iload_n gz_241_27 rfl ?_
              refine w_iconst gz_241_28 (by decide) ?_
              refine w_bipush gz_241_29 (by decide) ?_
              refine w_inS (k := 0) (as := [(0, 79), (0, 0), (0, x3)]) (r := []) (ls0 := [(0, x3), (0, 0), (0, 79)]) gz_241_31 gm_147 rfl rfl rfl rfl rfl rfl ?_
              refine w_iload_n gz_147_0 rfl ?_
              refine w_iload_n gz_147_1 rfl ?_
              refine w_iclt (t := 14) gz_147_2 rfl (fun u29 => ?_) (fun u29 => ?_)
              ·
                refine w_iconst gz_147_14 (by decide) ?_
                refine w_bret gz_147_15 gm_147 (by omega) (by omega) ?_
                show wp l rho (d + 1) 241 34 [(2, 151), (0, x1), (0, x2), (0, x3), (0, x4)] [(0, 0)] h8 Q
                refine w_ifeq (t := 49) gz_241_34 rfl (fun u30 => ?_) (fun u30 => by exfalso; omega)
                refine w_iconst gz_241_49 (by decide) ?_
                have c31 := (my_up_self fh8)
                exact w_bret gz_241_50 gm_241 (by omega) (by omega) (k0 h8 (gh8) (by omega))
              ·
                refine w_iload_n gz_147_5 rfl ?_
                refine w_iload_n gz_147_6 rfl ?_
                refine w_icgt (t := 14) gz_147_7 rfl (fun u32 => ?_) (fun u32 => ?_)
                ·
                  refine w_iconst gz_147_14 (by decide) ?_
                  refine w_bret gz_147_15 gm_147 (by omega) (by omega) ?_
                  show wp l rho (d + 1) 241 34 [(2, 151), (0, x1), (0, x2), (0, x3), (0, x4)] [(0, 0)] h8 Q
                  refine w_ifeq (t := 49) gz_241_34 rfl (fun u33 => ?_) (fun u33 => by exfalso; omega)
                  refine w_iconst gz_241_49 (by decide) ?_
                  have c34 := (my_up_self fh8)
                  exact w_bret gz_241_50 gm_241 (by omega) (by omega) (k0 h8 (gh8) (by omega))
                ·
                  refine w_iconst gz_147_10 (by decide) ?_
                  refine w_goto (t := 15) gz_147_11 rfl ?_
                  refine w_bret gz_147_15 gm_147 (by omega) (by omega) ?_
                  show wp l rho (d + 1) 241 34 [(2, 151), (0, x1), (0, x2), (0, x3), (0, x4)] [(0, 1)] h8 Q
                  refine w_ifeq (t := 49) gz_241_34 rfl (fun u35 => by exfalso; omega) (fun u35 => ?_)
                  refine w_iload gz_241_37 rfl ?_
                  refine w_iconst gz_241_39 (by decide) ?_
                  refine w_sipush gz_241_40 (by decide) ?_
                  refine w_inS (k := 0) (as := [(0, 199), (0, 0), (0, x4)]) (r := []) (ls0 := [(0, x4), (0, 0), (0, 199)]) gz_241_43 gm_147 rfl rfl rfl rfl rfl rfl ?_
                  refine w_iload_n gz_147_0 rfl ?_
                  refine w_iload_n gz_147_1 rfl ?_
                  refine w_iclt (t := 14) gz_147_2 rfl (fun u36 => ?_) (fun u36 => ?_)
                  ·
                    refine w_iconst gz_147_14 (by decide) ?_
                    refine w_bret gz_147_15 gm_147 (by omega) (by omega) ?_
                    show wp l rho (d + 1) 241 46 [(2, 151), (0, x1), (0, x2), (0, x3), (0, x4)] [(0, 0)] h8 Q
                    refine w_ifne (t := 51) gz_241_46 rfl (fun u37 => by exfalso; omega) (fun u37 => ?_)
                    refine w_iconst gz_241_49 (by decide) ?_
                    have c38 := (my_up_self fh8)
                    exact w_bret gz_241_50 gm_241 (by omega) (by omega) (k0 h8 (gh8) (by omega))
                  ·
                    refine w_iload_n gz_147_5 rfl ?_
                    refine w_iload_n gz_147_6 rfl ?_
                    refine w_icgt (t := 14) gz_147_7 rfl (fun u39 => ?_) (fun u39 => ?_)
                    ·
                      refine w_iconst gz_147_14 (by decide) ?_
                      refine w_bret gz_147_15 gm_147 (by omega) (by omega) ?_
                      show wp l rho (d + 1) 241 46 [(2, 151), (0, x1), (0, x2), (0, x3), (0, x4)] [(0, 0)] h8 Q
                      refine w_ifne (t := 51) gz_241_46 rfl (fun u40 => by exfalso; omega) (fun u40 => ?_)
                      refine w_iconst gz_241_49 (by decide) ?_
                      have c41 := (my_up_self fh8)
                      exact w_bret gz_241_50 gm_241 (by omega) (by omega) (k0 h8 (gh8) (by omega))
                    ·
                      refine w_iconst gz_147_10 (by decide) ?_
                      refine w_goto (t := 15) gz_147_11 rfl ?_
                      refine w_bret gz_147_15 gm_147 (by omega) (by omega) ?_
                      show wp l rho (d + 1) 241 46 [(2, 151), (0, x1), (0, x2), (0, x3), (0, x4)] [(0, 1)] h8 Q
                      refine w_ifne (t := 51) gz_241_46 rfl (fun u42 => ?_) (fun u42 => by exfalso; omega)
                      exact J51_0 h8 (gh8) (by omega) (by omega) (by omega) (by omega) ((my_up_self fh8).trans (by omega))
theorem c_Model_count {l : Launch} {rho : Nat → Int32} {d : Nat} {h : my_H} {Q : my_H → my_V → Prop} {x1 : Int} (k0 : ∀ (h' : my_H), my_fr [(10, 0)] h h' → h' 151 0 = 0 → Q h' (0, (-1))) (k1 : ∀ (h' : my_H) (y : Int), my_fr [(10, 0)] h h' → 0 ≤ x1 → x1 ≤ 5 → h' 151 0 = 0 → Q h' (0, y)) : wp l rho (d + 2) 249 0 [(2, 151), (0, x1), (9, 0), (9, 0), (9, 0)] [] h Q := by
  have J66_0 : ∀ (n : Nat) (p66_0 p66_1 : Int) (h66_0 : my_H), my_fr [(10, 0)] h h66_0 → 0 ≤ p66_0 → p66_0 ≤ 6 → 0 ≤ p66_1 → p66_1 ≤ 6 → 3 ≤ x1 → x1 ≤ 3 → p66_0 ≤ p66_1 → h66_0 151 0 = 0 → 7 - p66_1 ≤ (n : Int) → wp l rho (d + 2) 249 66 [(2, 151), (0, 3), (0, p66_0), (0, p66_1), (9, 0)] [] h66_0 Q := by
    intro n
    induction n with
    | zero => intro p66_0 p66_1 h66_0 gh_66_0 q0_66_0 q1_66_0 q2_66_0 q3_66_0 q4_66_0 q5_66_0 q6_66_0 c151_0_66_0 hm_66_0; exfalso; omega
    | succ n ih_66_0 =>
      intro p66_0 p66_1 h66_0 gh_66_0 q0_66_0 q1_66_0 q2_66_0 q3_66_0 q4_66_0 q5_66_0 q6_66_0 c151_0_66_0 hm_66_0
      refine w_iload_n gz_249_66 rfl ?_
      refine w_bipush gz_249_67 (by decide) ?_
      refine w_icge (t := 95) gz_249_69 rfl (fun u1 => ?_) (fun u1 => ?_)
      ·
        refine w_iload_n gz_249_95 rfl ?_
        have c2 := c151_0_66_0
        exact w_iret gz_249_96 gm_249 (k1 h66_0 (p66_0) (gh_66_0) (by omega) (by omega) (by omega))
      ·
        refine w_iload_n gz_249_72 rfl ?_
        refine w_aload_n gz_249_73 rfl ?_
        refine w_getX (v := 164) gz_249_74 is_151 rd_10 rfl (by decide) rfl ?_
        refine w_iload_n gz_249_77 rfl ?_
        refine w_bald gz_249_78 is_164 rd_63 (by omega) (by omega) (fun v4 ev4 pv4 qv4 => ?_)
        refine w_ifeq (t := 86) gz_249_79 rfl (fun u5 => ?_) (fun u5 => ?_)
        ·
          refine w_iconst gz_249_86 (by decide) ?_
          refine w_iadd gz_249_87 ⟨by omega, by omega⟩ ?_
          refine w_istore_n (ls' := [(2, 151), (0, 3), (0, (p66_0 + 0)), (0, p66_1), (9, 0)]) gz_249_88 gm_249 rfl rfl rfl ?_
          refine w_iinc (ls' := [(2, 151), (0, 3), (0, (p66_0 + 0)), (0, (p66_1 + 1)), (9, 0)]) gz_249_89 rfl gm_249 rfl rfl rfl ⟨by omega, by omega⟩ ?_
          refine w_goto (t := 66) gz_249_92 rfl ?_
          exact ih_66_0 ((p66_0 + 0)) ((p66_1 + 1)) h66_0 (gh_66_0) (by omega) (by omega) (by omega) (by omega) (by omega) (by omega) (by omega) (c151_0_66_0.trans (by omega)) (by omega)
        ·
          refine w_iconst gz_249_82 (by decide) ?_
          refine w_goto (t := 87) gz_249_83 rfl ?_
          refine w_iadd gz_249_87 ⟨by omega, by omega⟩ ?_
          refine w_istore_n (ls' := [(2, 151), (0, 3), (0, (p66_0 + 1)), (0, p66_1), (9, 0)]) gz_249_88 gm_249 rfl rfl rfl ?_
          refine w_iinc (ls' := [(2, 151), (0, 3), (0, (p66_0 + 1)), (0, (p66_1 + 1)), (9, 0)]) gz_249_89 rfl gm_249 rfl rfl rfl ⟨by omega, by omega⟩ ?_
          refine w_goto (t := 66) gz_249_92 rfl ?_
          exact ih_66_0 ((p66_0 + 1)) ((p66_1 + 1)) h66_0 (gh_66_0) (by omega) (by omega) (by omega) (by omega) (by omega) (by omega) (by omega) (c151_0_66_0.trans (by omega)) (by omega)
  have J104_0 : ∀ (n : Nat) (p104_0 p104_1 : Int) (h104_0 : my_H), my_fr [(10, 0)] h h104_0 → 0 ≤ p104_1 → p104_1 ≤ 60 → 5 ≤ x1 → x1 ≤ 5 → h104_0 151 0 = 0 → 61 - p104_1 ≤ (n : Int) → wp l rho (d + 2) 249 104 [(2, 151), (0, 5), (0, p104_0), (0, p104_1), (9, 0)] [] h104_0 Q := by
    intro n
    induction n with
    | zero => intro p104_0 p104_1 h104_0 gh_104_0 q0_104_0 q1_104_0 q2_104_0 q3_104_0 c151_0_104_0 hm_104_0; exfalso; omega
    | succ n ih_104_0 =>
      intro p104_0 p104_1 h104_0 gh_104_0 q0_104_0 q1_104_0 q2_104_0 q3_104_0 c151_0_104_0 hm_104_0
      have J156_0 : ∀ (p156_0 p156_1 : Int) (h156_0 : my_H), my_fr [(10, 0)] h h156_0 → p104_1 ≤ 59 → 0 ≤ p156_1 → p156_1 ≤ 4 → h156_0 151 0 = 0 → wp l rho (d + 2) 249 156 [(2, 151), (0, 5), (0, p156_0), (0, p104_1), (0, p156_1)] [] h156_0 Q := by
        intro p156_0 p156_1 h156_0 gh_156_0 q0_156_0 q1_156_0 q2_156_0 c151_0_156_0
        refine w_iinc (ls' := [(2, 151), (0, 5), (0, p156_0), (0, (p104_1 + 1)), (0, p156_1)]) gz_249_156 rfl gm_249 rfl rfl rfl ⟨by omega, by omega⟩ ?_
        refine w_goto (t := 104) gz_249_159 rfl ?_
        refine w_weak (ls' := [(2, 151), (0, 5), (0, p156_0), (0, (p104_1 + 1)), (9, 0)]) (wk_e (wk_e (wk_e (wk_e (wk_9 wk_n))))) ?_
        exact ih_104_0 (p156_0) ((p104_1 + 1)) h156_0 (gh_156_0) (by omega) (by omega) (by omega) (by omega) (c151_0_156_0.trans (by omega)) (by omega)
      have J113_0 : ∀ (n : Nat) (p113_0 p113_1 : Int) (h113_0 : my_H), my_fr [(10, 0)] h h113_0 → p104_1 ≤ 59 → 0 ≤ p113_1 → p113_1 ≤ 4 → h113_0 151 0 = 0 → 5 - p113_1 ≤ (n : Int) → wp l rho (d + 2) 249 113 [(2, 151), (0, 5), (0, p113_0), (0, p104_1), (0, p113_1)] [] h113_0 Q := by
        intro n
        induction n with
        | zero => intro p113_0 p113_1 h113_0 gh_113_0 q0_113_0 q1_113_0 q2_113_0 c151_0_113_0 hm_113_0; exfalso; omega
        | succ n ih_113_0 =>
          intro p113_0 p113_1 h113_0 gh_113_0 q0_113_0 q1_113_0 q2_113_0 c151_0_113_0 hm_113_0
          refine w_iload gz_249_113 rfl ?_
          refine w_aload_n gz_249_115 rfl ?_
          refine w_getX (v := 157) gz_249_116 is_151 rd_10 rfl (by decide) rfl ?_
          refine w_iload_n gz_249_119 rfl ?_
          refine w_bipush gz_249_120 (by decide) ?_
          refine w_idiv gz_249_122 (by omega) (by decide) ?_
          refine w_iald gz_249_123 is_157 rd_56 (by omega) (by omega) (fun v7 ev7 pv7 qv7 => ?_)
          refine w_icge (t := 156) gz_249_124 rfl (fun u8 => ?_) (fun u8 => ?_)
          ·
            exact J156_0 (p113_0) (p113_1) h113_0 (gh_113_0) (by omega) (by omega) (by omega) (c151_0_113_0.trans (by omega))
          ·
            refine w_aload_n gz_249_127 rfl ?_
            refine w_getX (v := 162) gz_249_128 is_151 rd_10 rfl (by decide) rfl ?_
            refine w_iload_n gz_249_131 rfl ?_
            refine w_bald gz_249_132 is_162 rd_61 (by omega) (by omega) (fun v10 ev10 pv10 qv10 => ?_)
            refine w_ifeq (t := 156) gz_249_133 rfl (fun u11 => ?_) (fun u11 => ?_)
            ·
              exact J156_0 (p113_0) (p113_1) h113_0 (gh_113_0) (by omega) (by omega) (by omega) (c151_0_113_0.trans (by omega))
            ·
              refine w_iload_n gz_249_136 rfl ?_
              refine w_aload_n gz_249_137 rfl ?_
              refine w_getX (v := 163) gz_249_138 is_151 rd_10 rfl (by decide) rfl ?_
              refine w_iconst gz_249_141 (by decide) ?_
              refine w_iload_n gz_249_142 rfl ?_
              refine w_imul gz_249_143 ⟨by omega, by omega⟩ ?_
              refine w_iload gz_249_144 rfl ?_
              refine w_iadd gz_249_146 ⟨by omega, by omega⟩ ?_
              refine w_iald gz_249_147 is_163 rd_62 (by omega) (by omega) (fun v13 ev13 pv13 qv13 => ?_)
              refine w_ianyA gz_249_148 (fun v14 pv14 qv14 => ?_)
              refine w_istore_n (ls' := [(2, 151), (0, 5), (0, v14), (0, p104_1), (0, p113_1)]) gz_249_149 gm_249 rfl rfl rfl ?_
              refine w_iinc (ls' := [(2, 151), (0, 5), (0, v14), (0, p104_1), (0, (p113_1 + 1))]) gz_249_150 rfl gm_249 rfl rfl rfl ⟨by omega, by omega⟩ ?_
              refine w_goto (t := 113) gz_249_153 rfl ?_
              exact ih_113_0 (v14) ((p113_1 + 1)) h113_0 (gh_113_0) (by omega) (by omega) (by omega) (c151_0_113_0.trans (by omega)) (by omega)
      refine w_iload_n gz_249_104 rfl ?_
      refine w_bipush gz_249_105 (by decide) ?_
      refine w_icge (t := 162) gz_249_107 rfl (fun u15 => ?_) (fun u15 => ?_)
      ·
        refine w_iload_n gz_249_162 rfl ?_
        have c16 := c151_0_104_0
        exact w_iret gz_249_163 gm_249 (k1 h104_0 (p104_0) (gh_104_0) (by omega) (by omega) (by omega))
      ·
        refine w_iconst gz_249_110 (by decide) ?_
        refine w_istore (ls' := [(2, 151), (0, 5), (0, p104_0), (0, p104_1), (0, 0)]) gz_249_111 gm_249 rfl rfl rfl ?_
        exact J113_0 5 (p104_0) (0) h104_0 (gh_104_0) (by omega) (by omega) (by omega) (c151_0_104_0.trans (by omega)) (by omega)
  refine w_aload_n gz_249_0 rfl ?_
  refine w_iconst gz_249_1 (by decide) ?_
  refine v_putI (j := 0) gz_249_2 rfl is_151 rd_10 rfl (by omega) (by omega) rfl (fun h17 fh17 => ?_)
  have gh17 : my_fr [(10, 0)] h h17 := my_fr.up my_fr.rf is_151 fh17 rfl
  refine w_iload_n gz_249_5 rfl ?_
  refine w_iconst gz_249_6 (by decide) ?_
  refine w_iconst gz_249_7 (by decide) ?_
  refine w_inS (k := 0) (as := [(0, 2), (0, 0), (0, x1)]) (r := []) (ls0 := [(0, x1), (0, 0), (0, 2)]) gz_249_8 gm_147 rfl rfl rfl rfl rfl rfl ?_
  refine w_iload_n gz_147_0 rfl ?_
  refine w_iload_n gz_147_1 rfl ?_
  refine w_iclt (t := 14) gz_147_2 rfl (fun u18 => ?_) (fun u18 => ?_)
  ·
    refine w_iconst gz_147_14 (by decide) ?_
    refine w_bret gz_147_15 gm_147 (by omega) (by omega) ?_
    show wp l rho (d + 2) 249 11 [(2, 151), (0, x1), (9, 0), (9, 0), (9, 0)] [(0, 0)] h17 Q
    refine w_ifeq (t := 34) gz_249_11 rfl (fun u19 => ?_) (fun u19 => by exfalso; omega)
    refine w_iconst gz_249_34 (by decide) ?_
    refine w_istore_n (ls' := [(2, 151), (0, x1), (0, 0), (9, 0), (9, 0)]) gz_249_35 gm_249 rfl rfl rfl ?_
    refine w_iload_n gz_249_36 rfl ?_
    refine w_tswD (t := 164) gz_249_37 (by omega) rfl ?_
    refine w_iconst gz_249_164 (by decide) ?_
    have c20 := (my_up_self fh17)
    exact w_iret gz_249_165 gm_249 (k0 h17 (gh17) (by omega))
  ·
    refine w_iload_n gz_147_5 rfl ?_
    refine w_iload_n gz_147_6 rfl ?_
    refine w_icgt (t := 14) gz_147_7 rfl (fun u21 => ?_) (fun u21 => ?_)
    ·
      refine w_iconst gz_147_14 (by decide) ?_
      refine w_bret gz_147_15 gm_147 (by omega) (by omega) ?_
      show wp l rho (d + 2) 249 11 [(2, 151), (0, x1), (9, 0), (9, 0), (9, 0)] [(0, 0)] h17 Q
      refine w_ifeq (t := 34) gz_249_11 rfl (fun u22 => ?_) (fun u22 => by exfalso; omega)
      refine w_iconst gz_249_34 (by decide) ?_
      refine w_istore_n (ls' := [(2, 151), (0, x1), (0, 0), (9, 0), (9, 0)]) gz_249_35 gm_249 rfl rfl rfl ?_
      refine w_iload_n gz_249_36 rfl ?_
      by_cases u23 : x1 = 3
      ·
        refine w_tswE (t := 64) gz_249_37 u23 (by decide) (by decide) rfl rfl ?_
        refine w_iconst gz_249_64 (by decide) ?_
        refine w_istore_n (ls' := [(2, 151), (0, x1), (0, 0), (0, 0), (9, 0)]) gz_249_65 gm_249 rfl rfl rfl ?_
        rw [show (x1 : Int) = 3 from by omega]
        exact J66_0 7 (0) (0) h17 (gh17) (by omega) (by omega) (by omega) (by omega) (by omega) (by omega) (by omega) ((my_up_self fh17).trans (by omega)) (by omega)
      ·
        by_cases u24 : x1 = 4
        ·
          refine w_tswE (t := 97) gz_249_37 u24 (by decide) (by decide) rfl rfl ?_
          refine w_aload_n gz_249_97 rfl ?_
          refine v_getI (j := 2) gz_249_98 rfl is_151 rd_10 rfl (fun v25 ev25 pv25 qv25 => ?_)
          have c26 := (my_up_self fh17)
          exact w_iret gz_249_101 gm_249 (k1 h17 (v25) (gh17) (by omega) (by omega) (by omega))
        ·
          by_cases u27 : x1 = 5
          ·
            refine w_tswE (t := 102) gz_249_37 u27 (by decide) (by decide) rfl rfl ?_
            refine w_iconst gz_249_102 (by decide) ?_
            refine w_istore_n (ls' := [(2, 151), (0, x1), (0, 0), (0, 0), (9, 0)]) gz_249_103 gm_249 rfl rfl rfl ?_
            rw [show (x1 : Int) = 5 from by omega]
            exact J104_0 61 (0) (0) h17 (gh17) (by omega) (by omega) (by omega) (by omega) ((my_up_self fh17).trans (by omega)) (by omega)
          ·
            refine w_tswD (t := 164) gz_249_37 (by omega) rfl ?_
            refine w_iconst gz_249_164 (by decide) ?_
            have c28 := (my_up_self fh17)
            exact w_iret gz_249_165 gm_249 (k0 h17 (gh17) (by omega))
    ·
      refine w_iconst gz_147_10 (by decide) ?_
      refine w_goto (t := 15) gz_147_11 rfl ?_
      refine w_bret gz_147_15 gm_147 (by omega) (by omega) ?_
      show wp l rho (d + 2) 249 11 [(2, 151), (0, x1), (9, 0), (9, 0), (9, 0)] [(0, 1)] h17 Q
      refine w_ifeq (t := 34) gz_249_11 rfl (fun u29 => by exfalso; omega) (fun u29 => ?_)
      refine w_aload_n gz_249_14 rfl ?_
      refine w_getX (v := 157) gz_249_15 is_151 rd_10 rfl (by decide) rfl ?_
      refine w_iload_n gz_249_18 rfl ?_
      refine w_iald gz_249_19 is_157 rd_56 (by omega) (by omega) (fun v31 ev31 pv31 qv31 => ?_)
      refine w_ifne (t := 27) gz_249_20 rfl (fun u32 => ?_) (fun u32 => ?_)
      ·
        refine w_aload_n gz_249_27 rfl ?_
        refine w_iconst gz_249_28 (by decide) ?_
        refine w_iload_n gz_249_29 rfl ?_
        refine w_inv (k := 2) (as := [(0, x1), (0, 0)]) (r := []) (x := 151) (ls0 := [(2, 151), (0, 0), (0, x1), (9, 0), (9, 0)]) gz_249_30 gm_151 rfl is_151 rd_10 rfl rfl rfl rfl rfl (c_Model_rowsOf (d := d) (x1 := 0) (x2 := x1) (by omega) (by omega) (by omega) (by omega) (fun v33 w34 w35 => ?_))
        show wp l rho (d + 2) 249 33 [(2, 151), (0, x1), (9, 0), (9, 0), (9, 0)] [(0, v33)] h17 Q
        have c36 := (my_up_self fh17)
        exact w_iret gz_249_33 gm_249 (k1 h17 (v33) (gh17) (by omega) (by omega) (by omega))
      ·
        refine w_iconst gz_249_23 (by decide) ?_
        refine w_goto (t := 33) gz_249_24 rfl ?_
        have c37 := (my_up_self fh17)
        exact w_iret gz_249_33 gm_249 (k0 h17 (gh17) (by omega))
theorem c_ThroughWindow_span {l : Launch} {rho : Nat → Int32} {d : Nat} {h : my_H} {Q : my_H → my_V → Prop} {x1 x2 x3 x4 : Int} (k0 : ∀ (h' : my_H), my_fr [(26, -1), (27, -1)] h h' → Q h' (0, 0)) (k1 : ∀ (h' : my_H), my_fr [(26, -1), (27, -1)] h h' → 0 ≤ x1 → x1 ≤ 2 → 0 ≤ x2 → x2 ≤ 3 → 0 ≤ x3 → x3 ≤ 19 → 0 ≤ x4 → x4 ≤ 19 → Q h' (0, 1)) : wp l rho (d + 2) 26 0 [(2, 0), (0, x1), (0, x2), (0, x3), (0, x4)] [] h Q := by
  refine w_aload_n gz_26_0 rfl ?_
  refine w_getX (v := 1) gz_26_1 is_0 rd_9 rfl (by decide) rfl ?_
  refine w_iload_n gz_26_4 rfl ?_
  refine w_iload_n gz_26_5 rfl ?_
  refine w_inv (k := 0) (as := [(0, x2), (0, x1)]) (r := []) (x := 1) (ls0 := [(2, 1), (0, x1), (0, x2)]) gz_26_6 gm_27 rfl is_1 rd_3 rfl rfl rfl rfl rfl ?_
  refine w_aload_n gz_27_0 rfl ?_
  refine w_iload_n gz_27_1 rfl ?_
  refine w_inv (k := 0) (as := [(0, x1)]) (r := []) (x := 1) (ls0 := [(2, 1), (0, x1)]) gz_27_2 gm_13 rfl is_1 rd_3 rfl rfl rfl rfl rfl ?_
  refine w_iload_n gz_13_0 rfl ?_
  refine w_iflt (t := 22) gz_13_1 rfl (fun u2 => ?_) (fun u2 => ?_)
  ·
    refine w_iconst gz_13_22 (by decide) ?_
    refine w_bret gz_13_23 gm_13 (by omega) (by omega) ?_
    show wp l rho (d + 1) 27 5 [(2, 1), (0, x1), (0, x2)] [(0, 0)] h _
    refine w_ifeq (t := 26) gz_27_5 rfl (fun u3 => ?_) (fun u3 => by exfalso; omega)
    refine w_iconst gz_27_26 (by decide) ?_
    refine w_bret gz_27_27 gm_27 (by omega) (by omega) ?_
    show wp l rho (d + 2) 26 9 [(2, 0), (0, x1), (0, x2), (0, x3), (0, x4)] [(0, 0)] h Q
    refine w_ifeq (t := 36) gz_26_9 rfl (fun u4 => ?_) (fun u4 => by exfalso; omega)
    refine w_iconst gz_26_36 (by decide) ?_
    exact w_bret gz_26_37 gm_26 (by omega) (by omega) (k0 h (my_fr.rf))
  ·
    refine w_iload_n gz_13_4 rfl ?_
    refine w_iconst gz_13_5 (by decide) ?_
    refine w_icge (t := 22) gz_13_6 rfl (fun u5 => ?_) (fun u5 => ?_)
    ·
      refine w_iconst gz_13_22 (by decide) ?_
      refine w_bret gz_13_23 gm_13 (by omega) (by omega) ?_
      show wp l rho (d + 1) 27 5 [(2, 1), (0, x1), (0, x2)] [(0, 0)] h _
      refine w_ifeq (t := 26) gz_27_5 rfl (fun u6 => ?_) (fun u6 => by exfalso; omega)
      refine w_iconst gz_27_26 (by decide) ?_
      refine w_bret gz_27_27 gm_27 (by omega) (by omega) ?_
      show wp l rho (d + 2) 26 9 [(2, 0), (0, x1), (0, x2), (0, x3), (0, x4)] [(0, 0)] h Q
      refine w_ifeq (t := 36) gz_26_9 rfl (fun u7 => ?_) (fun u7 => by exfalso; omega)
      refine w_iconst gz_26_36 (by decide) ?_
      exact w_bret gz_26_37 gm_26 (by omega) (by omega) (k0 h (my_fr.rf))
    ·
      refine w_aload_n gz_13_9 rfl ?_
      refine w_getX (v := 2) gz_13_10 is_1 rd_3 rfl (by decide) rfl ?_
      refine w_iload_n gz_13_13 rfl ?_
      refine w_iald gz_13_14 is_2 rd_25 (by omega) (by omega) (fun v9 ev9 pv9 qv9 => ?_)
      refine w_ifle (t := 22) gz_13_15 rfl (fun u10 => ?_) (fun u10 => ?_)
      ·
        refine w_iconst gz_13_22 (by decide) ?_
        refine w_bret gz_13_23 gm_13 (by omega) (by omega) ?_
        show wp l rho (d + 1) 27 5 [(2, 1), (0, x1), (0, x2)] [(0, 0)] h _
        refine w_ifeq (t := 26) gz_27_5 rfl (fun u11 => ?_) (fun u11 => by exfalso; omega)
        refine w_iconst gz_27_26 (by decide) ?_
        refine w_bret gz_27_27 gm_27 (by omega) (by omega) ?_
        show wp l rho (d + 2) 26 9 [(2, 0), (0, x1), (0, x2), (0, x3), (0, x4)] [(0, 0)] h Q
        refine w_ifeq (t := 36) gz_26_9 rfl (fun u12 => ?_) (fun u12 => by exfalso; omega)
        refine w_iconst gz_26_36 (by decide) ?_
        exact w_bret gz_26_37 gm_26 (by omega) (by omega) (k0 h (my_fr.rf))
      ·
        refine w_iconst gz_13_18 (by decide) ?_
        refine w_goto (t := 23) gz_13_19 rfl ?_
        refine w_bret gz_13_23 gm_13 (by omega) (by omega) ?_
        show wp l rho (d + 1) 27 5 [(2, 1), (0, x1), (0, x2)] [(0, 1)] h _
        refine w_ifeq (t := 26) gz_27_5 rfl (fun u13 => by exfalso; omega) (fun u13 => ?_)
        refine w_iload_n gz_27_8 rfl ?_
        refine w_iflt (t := 26) gz_27_9 rfl (fun u14 => ?_) (fun u14 => ?_)
        ·
          refine w_iconst gz_27_26 (by decide) ?_
          refine w_bret gz_27_27 gm_27 (by omega) (by omega) ?_
          show wp l rho (d + 2) 26 9 [(2, 0), (0, x1), (0, x2), (0, x3), (0, x4)] [(0, 0)] h Q
          refine w_ifeq (t := 36) gz_26_9 rfl (fun u15 => ?_) (fun u15 => by exfalso; omega)
          refine w_iconst gz_26_36 (by decide) ?_
          exact w_bret gz_26_37 gm_26 (by omega) (by omega) (k0 h (my_fr.rf))
        ·
          refine w_iload_n gz_27_12 rfl ?_
          refine w_aload_n gz_27_13 rfl ?_
          refine w_getX (v := 2) gz_27_14 is_1 rd_3 rfl (by decide) rfl ?_
          refine w_iload_n gz_27_17 rfl ?_
          refine w_iald gz_27_18 is_2 rd_25 (by omega) (by omega) (fun v17 ev17 pv17 qv17 => ?_)
          have zv17 := ev17.trans ev9.symm
          refine w_icge (t := 26) gz_27_19 rfl (fun u18 => ?_) (fun u18 => ?_)
          ·
            refine w_iconst gz_27_26 (by decide) ?_
            refine w_bret gz_27_27 gm_27 (by omega) (by omega) ?_
            show wp l rho (d + 2) 26 9 [(2, 0), (0, x1), (0, x2), (0, x3), (0, x4)] [(0, 0)] h Q
            refine w_ifeq (t := 36) gz_26_9 rfl (fun u19 => ?_) (fun u19 => by exfalso; omega)
            refine w_iconst gz_26_36 (by decide) ?_
            exact w_bret gz_26_37 gm_26 (by omega) (by omega) (k0 h (my_fr.rf))
          ·
            refine w_iconst gz_27_22 (by decide) ?_
            refine w_goto (t := 27) gz_27_23 rfl ?_
            refine w_bret gz_27_27 gm_27 (by omega) (by omega) ?_
            show wp l rho (d + 2) 26 9 [(2, 0), (0, x1), (0, x2), (0, x3), (0, x4)] [(0, 1)] h Q
            refine w_ifeq (t := 36) gz_26_9 rfl (fun u20 => by exfalso; omega) (fun u20 => ?_)
            refine w_iload_n gz_26_12 rfl ?_
            refine w_iload gz_26_13 rfl ?_
            refine w_inS (k := 0) (as := [(0, x4), (0, x3)]) (r := []) (ls0 := [(0, x3), (0, x4)]) gz_26_15 gm_28 rfl rfl rfl rfl rfl rfl ?_
            refine w_iload_n gz_28_0 rfl ?_
            refine w_iflt (t := 19) gz_28_1 rfl (fun u21 => ?_) (fun u21 => ?_)
            ·
              refine w_iconst gz_28_19 (by decide) ?_
              refine w_bret gz_28_20 gm_28 (by omega) (by omega) ?_
              show wp l rho (d + 2) 26 18 [(2, 0), (0, x1), (0, x2), (0, x3), (0, x4)] [(0, 0)] h Q
              refine w_ifeq (t := 36) gz_26_18 rfl (fun u22 => ?_) (fun u22 => by exfalso; omega)
              refine w_iconst gz_26_36 (by decide) ?_
              exact w_bret gz_26_37 gm_26 (by omega) (by omega) (k0 h (my_fr.rf))
            ·
              refine w_iload_n gz_28_4 rfl ?_
              refine w_iload_n gz_28_5 rfl ?_
              refine w_icgt (t := 19) gz_28_6 rfl (fun u23 => ?_) (fun u23 => ?_)
              ·
                refine w_iconst gz_28_19 (by decide) ?_
                refine w_bret gz_28_20 gm_28 (by omega) (by omega) ?_
                show wp l rho (d + 2) 26 18 [(2, 0), (0, x1), (0, x2), (0, x3), (0, x4)] [(0, 0)] h Q
                refine w_ifeq (t := 36) gz_26_18 rfl (fun u24 => ?_) (fun u24 => by exfalso; omega)
                refine w_iconst gz_26_36 (by decide) ?_
                exact w_bret gz_26_37 gm_26 (by omega) (by omega) (k0 h (my_fr.rf))
              ·
                refine w_iload_n gz_28_9 rfl ?_
                refine w_bipush gz_28_10 (by decide) ?_
                refine w_icge (t := 19) gz_28_12 rfl (fun u25 => ?_) (fun u25 => ?_)
                ·
                  refine w_iconst gz_28_19 (by decide) ?_
                  refine w_bret gz_28_20 gm_28 (by omega) (by omega) ?_
                  show wp l rho (d + 2) 26 18 [(2, 0), (0, x1), (0, x2), (0, x3), (0, x4)] [(0, 0)] h Q
                  refine w_ifeq (t := 36) gz_26_18 rfl (fun u26 => ?_) (fun u26 => by exfalso; omega)
                  refine w_iconst gz_26_36 (by decide) ?_
                  exact w_bret gz_26_37 gm_26 (by omega) (by omega) (k0 h (my_fr.rf))
                ·
                  refine w_iconst gz_28_15 (by decide) ?_
                  refine w_goto (t := 20) gz_28_16 rfl ?_
                  refine w_bret gz_28_20 gm_28 (by omega) (by omega) ?_
                  show wp l rho (d + 2) 26 18 [(2, 0), (0, x1), (0, x2), (0, x3), (0, x4)] [(0, 1)] h Q
                  refine w_ifeq (t := 36) gz_26_18 rfl (fun u27 => by exfalso; omega) (fun u27 => ?_)
                  refine w_aload_n gz_26_21 rfl ?_
                  refine w_getX (v := 7) gz_26_22 is_0 rd_9 rfl (by decide) rfl ?_
                  refine w_iload_n gz_26_25 rfl ?_
                  refine w_iload_n gz_26_26 rfl ?_
                  refine w_iload_n gz_26_27 rfl ?_
                  refine w_iload gz_26_28 rfl ?_
                  refine w_inv (k := 3) (as := [(0, x4), (0, x3), (0, x2), (0, x1)]) (r := []) (x := 7) (ls0 := [(2, 7), (0, x1), (0, x2), (0, x3), (0, x4), (9, 0), (9, 0), (9, 0)]) gz_26_30 gm_20 rfl is_7 rd_6 rfl rfl rfl rfl rfl (c_Rows_outside (d := d) (x0 := 7) (x1 := x1) (x2 := x2) (x3 := x3) (x4 := x4) is_7 (by omega) (by omega) (by omega) (by omega) (by omega) (by omega) (by omega) (by omega) (fun v29 w30 w31 => ?_))
                  show wp l rho (d + 2) 26 33 [(2, 0), (0, x1), (0, x2), (0, x3), (0, x4)] [(0, v29)] h Q
                  refine w_ifle (t := 38) gz_26_33 rfl (fun u32 => ?_) (fun u32 => ?_)
                  ·
                    refine w_aload_n gz_26_38 rfl ?_
                    refine w_getX (v := 1) gz_26_39 is_0 rd_9 rfl (by decide) rfl ?_
                    refine w_getX (v := 3) gz_26_42 is_1 rd_3 rfl (by decide) rfl ?_
                    refine w_iload_n gz_26_45 rfl ?_
                    refine w_iload_n gz_26_46 rfl ?_
                    refine w_inS (k := 0) (as := [(0, x2), (0, x1)]) (r := [(2, 3)]) (ls0 := [(0, x1), (0, x2)]) gz_26_47 gm_29 rfl rfl rfl rfl rfl rfl ?_
                    refine w_iload_n gz_29_0 rfl ?_
                    refine w_iconst gz_29_1 (by decide) ?_
                    refine w_imul gz_29_2 ⟨by omega, by omega⟩ ?_
                    refine w_iload_n gz_29_3 rfl ?_
                    refine w_iadd gz_29_4 ⟨by omega, by omega⟩ ?_
                    refine w_iret gz_29_5 gm_29 ?_
                    show wp l rho (d + 2) 26 50 [(2, 0), (0, x1), (0, x2), (0, x3), (0, x4)] [(0, ((x1 * 4) + x2)), (2, 3)] h Q
                    refine w_iload_n gz_26_50 rfl ?_
                    refine w_iast gz_26_51 is_3 rd_26 (by omega) (by omega) (by omega) (by omega) (fun h35 fh35 => ?_)
                    have gh35 : my_fr [(26, -1), (27, -1)] h h35 := my_fr.up my_fr.rf is_3 fh35 rfl
                    refine w_aload_n gz_26_52 rfl ?_
                    refine w_getX (v := 1) gz_26_53 is_0 rd_9 rfl (by decide) rfl ?_
                    refine w_getX (v := 4) gz_26_56 is_1 rd_3 rfl (by decide) rfl ?_
                    refine w_iload_n gz_26_59 rfl ?_
                    refine w_iload_n gz_26_60 rfl ?_
                    refine w_inS (k := 0) (as := [(0, x2), (0, x1)]) (r := [(2, 4)]) (ls0 := [(0, x1), (0, x2)]) gz_26_61 gm_29 rfl rfl rfl rfl rfl rfl ?_
                    refine w_iload_n gz_29_0 rfl ?_
                    refine w_iconst gz_29_1 (by decide) ?_
                    refine w_imul gz_29_2 ⟨by omega, by omega⟩ ?_
                    refine w_iload_n gz_29_3 rfl ?_
                    refine w_iadd gz_29_4 ⟨by omega, by omega⟩ ?_
                    refine w_iret gz_29_5 gm_29 ?_
                    show wp l rho (d + 2) 26 64 [(2, 0), (0, x1), (0, x2), (0, x3), (0, x4)] [(0, ((x1 * 4) + x2)), (2, 4)] h35 Q
                    refine w_iload gz_26_64 rfl ?_
                    refine w_iast gz_26_66 is_4 rd_27 (by omega) (by omega) (by omega) (by omega) (fun h38 fh38 => ?_)
                    have gh38 : my_fr [(26, -1), (27, -1)] h h38 := my_fr.up gh35 is_4 fh38 rfl
                    refine w_iconst gz_26_67 (by decide) ?_
                    exact w_bret gz_26_68 gm_26 (by omega) (by omega) (k1 h38 (gh38) (by omega) (by omega) (by omega) (by omega) (by omega) (by omega) (by omega) (by omega))
                  ·
                    refine w_iconst gz_26_36 (by decide) ?_
                    exact w_bret gz_26_37 gm_26 (by omega) (by omega) (k0 h (my_fr.rf))
theorem c_Reader_take {l : Launch} {rho : Nat → Int32} {d : Nat} {h : my_H} {Q : my_H → my_V → Prop} {x1 : Int} (k0 : ∀ (h' : my_H), my_fr [(5, 4), (40, -1)] h h' → Q h' (9, 0)) : wp l rho d 33 0 [(2, 82), (1, x1), (9, 0), (9, 0), (9, 0)] [] h Q := by
  have J3_0 : ∀ (n : Nat) (z3_l1 p3_0 : Int) (h3_0 : my_H), my_fr [(5, 4), (40, -1)] h h3_0 → (-8) ≤ p3_0 → p3_0 ≤ 56 → p3_0 - (-9) ≤ (n : Int) → wp l rho d 33 3 [(2, 82), (1, z3_l1), (9, 0), (0, p3_0), (9, 0)] [] h3_0 Q := by
    intro n
    induction n with
    | zero => intro z3_l1 p3_0 h3_0 gh_3_0 q0_3_0 q1_3_0 hm_3_0; exfalso; omega
    | succ n ih_3_0 =>
      intro z3_l1 p3_0 h3_0 gh_3_0 q0_3_0 q1_3_0 hm_3_0
      have J67_0 : ∀ (z67_l1 p67_0 : Int) (h67_0 : my_H), my_fr [(5, 4), (40, -1)] h h67_0 → 0 ≤ p3_0 → 0 ≤ p67_0 → p67_0 ≤ 255 → wp l rho d 33 67 [(2, 82), (1, z67_l1), (9, 0), (0, p3_0), (0, p67_0)] [] h67_0 Q := by
        intro z67_l1 p67_0 h67_0 gh_67_0 q0_67_0 q1_67_0 q2_67_0
        refine w_iinc (ls' := [(2, 82), (1, z67_l1), (9, 0), (0, (p3_0 + (-8))), (0, p67_0)]) gz_33_67 rfl gm_33 rfl rfl rfl ⟨by omega, by omega⟩ ?_
        refine w_goto (t := 3) gz_33_70 rfl ?_
        refine w_weak (ls' := [(2, 82), (1, z67_l1), (9, 0), (0, (p3_0 + (-8))), (9, 0)]) (wk_e (wk_e (wk_9 (wk_e (wk_9 wk_n))))) ?_
        exact ih_3_0 (z67_l1) ((p3_0 + (-8))) h67_0 (gh_67_0) (by omega) (by omega) (by omega)
      have J38_0 : ∀ (z38_l1 p38_0 : Int) (h38_0 : my_H), my_fr [(5, 4), (40, -1)] h h38_0 → 0 ≤ p3_0 → 10 ≤ p38_0 → p38_0 ≤ 126 → wp l rho d 33 38 [(2, 82), (1, z38_l1), (9, 0), (0, p3_0), (0, p38_0)] [] h38_0 Q := by
        intro z38_l1 p38_0 h38_0 gh_38_0 q0_38_0 q1_38_0 q2_38_0
        refine w_aload_n gz_33_38 rfl ?_
        refine v_getI (j := 4) gz_33_39 rfl is_82 rd_5 rfl (fun v1 ev1 pv1 qv1 => ?_)
        refine w_sipush gz_33_42 (by decide) ?_
        refine w_icge (t := 67) gz_33_45 rfl (fun u2 => ?_) (fun u2 => ?_)
        ·
          exact J67_0 (z38_l1) (p38_0) h38_0 (gh_38_0) (by omega) (by omega) (by omega)
        ·
          refine w_aload_n gz_33_48 rfl ?_
          refine w_getX (v := 92) gz_33_49 is_82 rd_5 rfl (by decide) rfl ?_
          refine w_aload_n gz_33_52 rfl ?_
          refine w_dup gz_33_53 rfl ?_
          refine v_getI (j := 4) gz_33_54 rfl is_82 rd_5 rfl (fun v4 ev4 pv4 qv4 => ?_)
          have zv4 := ev4.trans ev1.symm
          refine w_dupx gz_33_57 rfl rfl ?_
          refine w_iconst gz_33_58 (by decide) ?_
          refine w_iadd gz_33_59 ⟨by omega, by omega⟩ ?_
          refine v_putI (j := 4) gz_33_60 rfl is_82 rd_5 rfl (by omega) (by omega) rfl (fun h5 fh5 => ?_)
          have gh5 : my_fr [(5, 4), (40, -1)] h h5 := my_fr.up gh_38_0 is_82 fh5 rfl
          refine w_iload gz_33_63 rfl ?_
          refine w_i2b gz_33_65 (by omega) (by omega) ?_
          refine w_yast gz_33_66 is_92 rd_40 (by omega) (by omega) (by omega) (by omega) (by omega) (by omega) (fun h6 fh6 => ?_)
          have gh6 : my_fr [(5, 4), (40, -1)] h h6 := my_fr.up gh5 is_92 fh6 rfl
          exact J67_0 (z38_l1) (p38_0) h6 (gh6) (by omega) (by omega) (by omega)
      refine w_iload_n gz_33_3 rfl ?_
      refine w_iflt (t := 73) gz_33_4 rfl (fun u7 => ?_) (fun u7 => ?_)
      ·
        exact w_vret gz_33_73 gm_33 (k0 h3_0 (gh_3_0))
      ·
        refine w_lload_n gz_33_7 rfl ?_
        refine w_iload_n gz_33_8 rfl ?_
        refine w_jshf gz_33_9 (fun _ => rfl) rfl (fun v8 pv8 => ?_)
        refine w_l2i gz_33_10 (fun v9 pv9 qv9 => ?_)
        refine w_sipush gz_33_11 (by decide) ?_
        refine w_iandM gz_33_14 (by decide) (fun v10 pv10 qv10 => ?_)
        refine w_istore (ls' := [(2, 82), (1, z3_l1), (9, 0), (0, p3_0), (0, v10)]) gz_33_15 gm_33 rfl rfl rfl ?_
        refine w_iload gz_33_17 rfl ?_
        refine w_bipush gz_33_19 (by decide) ?_
        refine w_iceq (t := 38) gz_33_21 rfl (fun u11 => ?_) (fun u11 => ?_)
        ·
          exact J38_0 (z3_l1) (v10) h3_0 (gh_3_0) (by omega) (by omega) (by omega)
        ·
          refine w_iload gz_33_24 rfl ?_
          refine w_bipush gz_33_26 (by decide) ?_
          refine w_iclt (t := 67) gz_33_28 rfl (fun u12 => ?_) (fun u12 => ?_)
          ·
            exact J67_0 (z3_l1) (v10) h3_0 (gh_3_0) (by omega) (by omega) (by omega)
          ·
            refine w_iload gz_33_31 rfl ?_
            refine w_bipush gz_33_33 (by decide) ?_
            refine w_icgt (t := 67) gz_33_35 rfl (fun u13 => ?_) (fun u13 => ?_)
            ·
              exact J67_0 (z3_l1) (v10) h3_0 (gh_3_0) (by omega) (by omega) (by omega)
            ·
              exact J38_0 (z3_l1) (v10) h3_0 (gh_3_0) (by omega) (by omega) (by omega)
  refine w_bipush gz_33_0 (by decide) ?_
  refine w_istore_n (ls' := [(2, 82), (1, x1), (9, 0), (0, 56), (9, 0)]) gz_33_2 gm_33 rfl rfl rfl ?_
  exact J3_0 65 (x1) (56) h (my_fr.rf) (by omega) (by omega) (by omega)
theorem c_Reader_takeNumber_f1 {l : Launch} {rho : Nat → Int32} {d : Nat} {h : my_H} {Q : my_H → my_V → Prop} {x1 : Int} (a1 : 20 ≤ x1) (b1 : x1 ≤ 200) (xf : Int) (cf : h 82 9 = xf) (cf1 : 1 ≤ xf) (cf2 : xf ≤ 16005) (k0 : 1 ≤ h 82 9 → h 82 9 ≤ 16005 → Q h (0, (-1))) : wp l rho (d + 2) 51 0 [(2, 82), (0, x1), (9, 0)] [] h Q := by
  refine w_aload_n gz_51_0 rfl ?_
  refine w_iload_n gz_51_1 rfl ?_
  refine w_inv (k := 0) (as := [(0, x1)]) (r := []) (x := 82) (ls0 := [(2, 82), (0, x1)]) gz_51_2 gm_44 rfl is_82 rd_5 rfl rfl rfl rfl rfl ?_
  refine w_aload_n gz_44_0 rfl ?_
  refine v_getI (j := 6) gz_44_1 rfl is_82 rd_5 rfl (fun v1 ev1 pv1 qv1 => ?_)
  refine w_iconst gz_44_4 (by decide) ?_
  refine w_iceq (t := 15) gz_44_5 rfl (fun u2 => ?_) (fun u2 => ?_)
  ·
    refine w_aload_n gz_44_15 rfl ?_
    refine v_getI (j := 8) gz_44_16 rfl is_82 rd_5 rfl (fun v3 ev3 pv3 qv3 => ?_)
    refine w_iload_n gz_44_19 rfl ?_
    refine w_iclt (t := 30) gz_44_20 rfl (fun u4 => ?_) (fun u4 => ?_)
    ·
      refine w_aload_n gz_44_30 rfl ?_
      refine v_getI (j := 9) gz_44_31 rfl is_82 rd_5 rfl (fun v5 ev5 pv5 qv5 => ?_)
      have zv5 := ev5.trans cf
      refine w_ifne (t := 44) gz_44_34 rfl (fun u6 => ?_) (fun u6 => by exfalso; omega)
      refine w_iconst gz_44_44 (by decide) ?_
      refine w_iret gz_44_45 gm_44 ?_
      show wp l rho (d + 2) 51 5 [(2, 82), (0, x1), (9, 0)] [(0, (-1))] h Q
      refine w_istore_n (ls' := [(2, 82), (0, x1), (0, (-1))]) gz_51_5 gm_51 rfl rfl rfl ?_
      refine w_iload_n gz_51_6 rfl ?_
      refine w_iconst gz_51_7 (by decide) ?_
      refine w_iceq (t := 15) gz_51_8 rfl (fun u7 => ?_) (fun u7 => by exfalso; omega)
      refine w_iload_n gz_51_15 rfl ?_
      have c8 := ev5.symm
      exact w_iret gz_51_16 gm_51 (k0 (by omega) (by omega))
    ·
      refine w_aload_n gz_44_23 rfl ?_
      refine w_iconst gz_44_24 (by decide) ?_
      refine w_inv (k := 0) (as := [(0, 4)]) (r := []) (x := 82) (ls0 := [(2, 82), (0, 4)]) gz_44_25 gm_42 rfl is_82 rd_5 rfl rfl rfl rfl rfl ?_
      refine w_aload_n gz_42_0 rfl ?_
      refine v_getI (j := 9) gz_42_1 rfl is_82 rd_5 rfl (fun v9 ev9 pv9 qv9 => ?_)
      have zv9 := ev9.trans cf
      refine w_ifne (t := 20) gz_42_4 rfl (fun u10 => ?_) (fun u10 => by exfalso; omega)
      refine w_vret gz_42_20 gm_42 ?_
      show wp l rho (d + 1) 44 28 [(2, 82), (0, x1)] [] h _
      refine w_iconst gz_44_28 (by decide) ?_
      refine w_iret gz_44_29 gm_44 ?_
      show wp l rho (d + 2) 51 5 [(2, 82), (0, x1), (9, 0)] [(0, (-1))] h Q
      refine w_istore_n (ls' := [(2, 82), (0, x1), (0, (-1))]) gz_51_5 gm_51 rfl rfl rfl ?_
      refine w_iload_n gz_51_6 rfl ?_
      refine w_iconst gz_51_7 (by decide) ?_
      refine w_iceq (t := 15) gz_51_8 rfl (fun u11 => ?_) (fun u11 => by exfalso; omega)
      refine w_iload_n gz_51_15 rfl ?_
      have c12 := ev9.symm
      exact w_iret gz_51_16 gm_51 (k0 (by omega) (by omega))
  ·
    refine w_aload_n gz_44_8 rfl ?_
    refine w_iconst gz_44_9 (by decide) ?_
    refine w_inv (k := 0) (as := [(0, 1)]) (r := []) (x := 82) (ls0 := [(2, 82), (0, 1)]) gz_44_10 gm_42 rfl is_82 rd_5 rfl rfl rfl rfl rfl ?_
    refine w_aload_n gz_42_0 rfl ?_
    refine v_getI (j := 9) gz_42_1 rfl is_82 rd_5 rfl (fun v13 ev13 pv13 qv13 => ?_)
    have zv13 := ev13.trans cf
    refine w_ifne (t := 20) gz_42_4 rfl (fun u14 => ?_) (fun u14 => by exfalso; omega)
    refine w_vret gz_42_20 gm_42 ?_
    show wp l rho (d + 1) 44 13 [(2, 82), (0, x1)] [] h _
    refine w_iconst gz_44_13 (by decide) ?_
    refine w_iret gz_44_14 gm_44 ?_
    show wp l rho (d + 2) 51 5 [(2, 82), (0, x1), (9, 0)] [(0, (-1))] h Q
    refine w_istore_n (ls' := [(2, 82), (0, x1), (0, (-1))]) gz_51_5 gm_51 rfl rfl rfl ?_
    refine w_iload_n gz_51_6 rfl ?_
    refine w_iconst gz_51_7 (by decide) ?_
    refine w_iceq (t := 15) gz_51_8 rfl (fun u15 => ?_) (fun u15 => by exfalso; omega)
    refine w_iload_n gz_51_15 rfl ?_
    have c16 := ev13.symm
    exact w_iret gz_51_16 gm_51 (k0 (by omega) (by omega))
theorem c_View_compare {l : Launch} {rho : Nat → Int32} {d : Nat} {h : my_H} {Q : my_H → my_V → Prop} {x0 x1 x2 x3 : Int} (t0 : my_is 8 x0) (a1 : 0 ≤ x1) (b1 : x1 ≤ 11) (m1_0 : 0 ≤ x1 % 17) (m1_1 : x1 % 17 ≤ 10) (t2 : my_is 8 x2) (a3 : 0 ≤ x3) (b3 : x3 ≤ 11) (m3_0 : 0 ≤ x3 % 17) (m3_1 : x3 % 17 ≤ 10) (k0 : Q h (0, 0)) (k1 : ∀ (y : Int), 1 ≤ h x0 1 → h x0 1 ≤ 8 → Q h (0, y)) : wp l rho d 80 0 [(2, x0), (0, x1), (2, x2), (0, x3), (9, 0), (9, 0)] [] h Q := by
  have J3_0 : ∀ (n : Nat) (p3_0 : Int), 0 ≤ p3_0 → p3_0 ≤ 8 → 9 - p3_0 ≤ (n : Int) → wp l rho d 80 3 [(2, x0), (0, x1), (2, x2), (0, x3), (0, p3_0), (9, 0)] [] h Q := by
    intro n
    induction n with
    | zero => intro p3_0 q0_3_0 q1_3_0 hm_3_0; exfalso; omega
    | succ n ih_3_0 =>
      intro p3_0 q0_3_0 q1_3_0 hm_3_0
      refine w_iload gz_80_3 rfl ?_
      refine w_aload_n gz_80_5 rfl ?_
      refine v_getI (j := 1) gz_80_6 rfl t0 rd_8 rfl (fun v1 ev1 pv1 qv1 => ?_)
      refine w_icge (t := 53) gz_80_9 rfl (fun u2 => ?_) (fun u2 => ?_)
      ·
        refine w_iconst gz_80_53 (by decide) ?_
        exact w_iret gz_80_54 gm_80 (k0 )
      ·
        refine w_aload_n gz_80_12 rfl ?_
        refine w_getX (v := (x0 + 1)) gz_80_13 t0 rd_8 rfl (by decide) rfl ?_
        refine w_iload_n gz_80_16 rfl ?_
        refine w_bipush gz_80_17 (by decide) ?_
        refine w_imul gz_80_19 ⟨by omega, by omega⟩ ?_
        refine w_iload gz_80_20 rfl ?_
        refine w_iadd gz_80_22 ⟨by omega, by omega⟩ ?_
        refine w_gldA gz_80_23 (ix_8_1 t0) rd_42 (by omega) (by omega) (fun v4 ev4 pv4 qv4 => ?_)
        refine w_aload_n gz_80_24 rfl ?_
        refine w_getX (v := (x2 + 1)) gz_80_25 t2 rd_8 rfl (by decide) rfl ?_
        refine w_iload_n gz_80_28 rfl ?_
        refine w_bipush gz_80_29 (by decide) ?_
        refine w_imul gz_80_31 ⟨by omega, by omega⟩ ?_
        refine w_iload gz_80_32 rfl ?_
        refine w_iadd gz_80_34 ⟨by omega, by omega⟩ ?_
        refine w_gldA gz_80_35 (ix_8_1 t2) rd_42 (by omega) (by omega) (fun v6 ev6 pv6 qv6 => ?_)
        refine w_ianyS gz_80_36 (fun v7 pv7 qv7 => ?_)
        refine w_istore (ls' := [(2, x0), (0, x1), (2, x2), (0, x3), (0, p3_0), (0, v7)]) gz_80_37 gm_80 rfl rfl rfl ?_
        refine w_iload gz_80_39 rfl ?_
        refine w_ifeq (t := 47) gz_80_41 rfl (fun u8 => ?_) (fun u8 => ?_)
        ·
          refine w_iinc (ls' := [(2, x0), (0, x1), (2, x2), (0, x3), (0, (p3_0 + 1)), (0, v7)]) gz_80_47 rfl gm_80 rfl rfl rfl ⟨by omega, by omega⟩ ?_
          refine w_goto (t := 3) gz_80_50 rfl ?_
          refine w_weak (ls' := [(2, x0), (0, x1), (2, x2), (0, x3), (0, (p3_0 + 1)), (9, 0)]) (wk_e (wk_e (wk_e (wk_e (wk_e (wk_9 wk_n)))))) ?_
          exact ih_3_0 ((p3_0 + 1)) (by omega) (by omega) (by omega)
        ·
          refine w_iload gz_80_44 rfl ?_
          have c9 := ev1.symm
          exact w_iret gz_80_46 gm_80 (k1 (v7) (by omega) (by omega))
  refine w_iconst gz_80_0 (by decide) ?_
  refine w_istore (ls' := [(2, x0), (0, x1), (2, x2), (0, x3), (0, 0), (9, 0)]) gz_80_1 gm_80 rfl rfl rfl ?_
  exact J3_0 9 (0) (by omega) (by omega) (by omega)
theorem c_ThroughWindow_draft {l : Launch} {rho : Nat → Int32} {d : Nat} {h : my_H} {Q : my_H → my_V → Prop} {x1 x2 : Int} (k0 : ∀ (h' : my_H), my_fr [(23, -1)] h h' → Q h' (0, 0)) (k1 : ∀ (h' : my_H), my_fr [(23, -1)] h h' → 0 ≤ x1 → x1 ≤ 7 → 0 ≤ x2 → x2 ≤ 19 → Q h' (0, 1)) : wp l rho d 85 0 [(2, 0), (0, x1), (0, x2)] [] h Q := by
  refine w_iload_n gz_85_0 rfl ?_
  refine w_iflt (t := 20) gz_85_1 rfl (fun u1 => ?_) (fun u1 => ?_)
  ·
    refine w_iconst gz_85_20 (by decide) ?_
    exact w_bret gz_85_21 gm_85 (by omega) (by omega) (k0 h (my_fr.rf))
  ·
    refine w_iload_n gz_85_4 rfl ?_
    refine w_bipush gz_85_5 (by decide) ?_
    refine w_icge (t := 20) gz_85_7 rfl (fun u2 => ?_) (fun u2 => ?_)
    ·
      refine w_iconst gz_85_20 (by decide) ?_
      exact w_bret gz_85_21 gm_85 (by omega) (by omega) (k0 h (my_fr.rf))
    ·
      refine w_iload_n gz_85_10 rfl ?_
      refine w_iflt (t := 20) gz_85_11 rfl (fun u3 => ?_) (fun u3 => ?_)
      ·
        refine w_iconst gz_85_20 (by decide) ?_
        exact w_bret gz_85_21 gm_85 (by omega) (by omega) (k0 h (my_fr.rf))
      ·
        refine w_iload_n gz_85_14 rfl ?_
        refine w_bipush gz_85_15 (by decide) ?_
        refine w_iclt (t := 22) gz_85_17 rfl (fun u4 => ?_) (fun u4 => ?_)
        ·
          refine w_aload_n gz_85_22 rfl ?_
          refine w_getX (v := 93) gz_85_23 is_0 rd_9 rfl (by decide) rfl ?_
          refine w_iload_n gz_85_26 rfl ?_
          refine w_iload_n gz_85_27 rfl ?_
          refine w_iast gz_85_28 is_93 rd_23 (by omega) (by omega) (by omega) (by omega) (fun h6 fh6 => ?_)
          have gh6 : my_fr [(23, -1)] h h6 := my_fr.up my_fr.rf is_93 fh6 rfl
          refine w_iconst gz_85_29 (by decide) ?_
          exact w_bret gz_85_30 gm_85 (by omega) (by omega) (k1 h6 (gh6) (by omega) (by omega) (by omega) (by omega))
        ·
          refine w_iconst gz_85_20 (by decide) ?_
          exact w_bret gz_85_21 gm_85 (by omega) (by omega) (k0 h (my_fr.rf))
theorem c_View_same {l : Launch} {rho : Nat → Int32} {d : Nat} {h : my_H} {Q : my_H → my_V → Prop} {x0 x1 : Int} (t0 : my_is 8 x0) (t1 : my_is 8 x1) (k0 : Q h (0, 0)) (k1 : Q h (0, 1)) : wp l rho (d + 1) 93 0 [(2, x0), (2, x1), (9, 0)] [] h Q := by
  have J26_0 : ∀ (n : Nat) (p26_0 p26_1 p26_2 p26_3 p26_4 : Int), 0 ≤ p26_0 → p26_0 ≤ 11 → 0 ≤ p26_1 → p26_1 ≤ 11 → 0 ≤ p26_3 → p26_3 ≤ 11 → 0 ≤ p26_2 → p26_2 ≤ 8 → 0 ≤ p26_4 → p26_4 ≤ 8 → p26_0 ≤ p26_1 → p26_0 ≤ p26_3 → p26_1 ≤ p26_3 → p26_3 ≤ p26_1 → p26_2 ≤ p26_4 → p26_4 ≤ p26_2 → h x0 0 = p26_1 → h x0 1 = p26_2 → h x1 0 = p26_3 → h x1 1 = p26_4 → 12 - p26_0 ≤ (n : Int) → wp l rho (d + 1) 93 26 [(2, x0), (2, x1), (0, p26_0)] [] h Q := by
    intro n
    induction n with
    | zero => intro p26_0 p26_1 p26_2 p26_3 p26_4 q0_26_0 q1_26_0 q2_26_0 q3_26_0 q4_26_0 q5_26_0 q6_26_0 q7_26_0 q8_26_0 q9_26_0 q10_26_0 q11_26_0 q12_26_0 q13_26_0 q14_26_0 q15_26_0 ca0_0_26_0 ca0_1_26_0 ca1_0_26_0 ca1_1_26_0 hm_26_0; exfalso; omega
    | succ n ih_26_0 =>
      intro p26_0 p26_1 p26_2 p26_3 p26_4 q0_26_0 q1_26_0 q2_26_0 q3_26_0 q4_26_0 q5_26_0 q6_26_0 q7_26_0 q8_26_0 q9_26_0 q10_26_0 q11_26_0 q12_26_0 q13_26_0 q14_26_0 q15_26_0 ca0_0_26_0 ca0_1_26_0 ca1_0_26_0 ca1_1_26_0 hm_26_0
      refine w_iload_n gz_93_26 rfl ?_
      refine w_aload_n gz_93_27 rfl ?_
      refine v_getI (j := 0) gz_93_28 rfl t0 rd_8 rfl (fun v1 ev1 pv1 qv1 => ?_)
      have zv1 := ev1.trans ca0_0_26_0
      refine w_icge (t := 52) gz_93_31 rfl (fun u2 => ?_) (fun u2 => ?_)
      ·
        refine w_iconst gz_93_52 (by decide) ?_
        exact w_bret gz_93_53 gm_93 (by omega) (by omega) (k1 )
      ·
        refine w_aload_n gz_93_34 rfl ?_
        refine w_iload_n gz_93_35 rfl ?_
        refine w_aload_n gz_93_36 rfl ?_
        refine w_iload_n gz_93_37 rfl ?_
        refine w_inv (k := 2) (as := [(0, p26_0), (2, x1), (0, p26_0)]) (r := []) (x := x0) (ls0 := [(2, x0), (0, p26_0), (2, x1), (0, p26_0), (9, 0), (9, 0)]) gz_93_38 gm_80 rfl t0 rd_8 rfl rfl rfl rfl rfl (c_View_compare (d := d) (x0 := x0) (x1 := p26_0) (x2 := x1) (x3 := p26_0) t0 (by omega) (by omega) (by omega) (by omega) t1 (by omega) (by omega) (by omega) (by omega) ?_ (fun v3 w4 w5 => ?_))
        ·
          show wp l rho (d + 1) 93 41 [(2, x0), (2, x1), (0, p26_0)] [(0, 0)] h Q
          refine w_ifeq (t := 46) gz_93_41 rfl (fun u6 => ?_) (fun u6 => by exfalso; omega)
          refine w_iinc (ls' := [(2, x0), (2, x1), (0, (p26_0 + 1))]) gz_93_46 rfl gm_93 rfl rfl rfl ⟨by omega, by omega⟩ ?_
          refine w_goto (t := 26) gz_93_49 rfl ?_
          exact ih_26_0 ((p26_0 + 1)) (v1) (p26_2) (p26_3) (p26_4) (by omega) (by omega) (by omega) (by omega) (by omega) (by omega) (by omega) (by omega) (by omega) (by omega) (by omega) (by omega) (by omega) (by omega) (by omega) (by omega) (ev1.symm.trans (by omega)) (ca0_1_26_0.trans (by omega)) (ca1_0_26_0.trans (by omega)) (ca1_1_26_0.trans (by omega)) (by omega)
        ·
          show wp l rho (d + 1) 93 41 [(2, x0), (2, x1), (0, p26_0)] [(0, v3)] h Q
          refine w_ifeq (t := 46) gz_93_41 rfl (fun u7 => ?_) (fun u7 => ?_)
          ·
            refine w_iinc (ls' := [(2, x0), (2, x1), (0, (p26_0 + 1))]) gz_93_46 rfl gm_93 rfl rfl rfl ⟨by omega, by omega⟩ ?_
            refine w_goto (t := 26) gz_93_49 rfl ?_
            exact ih_26_0 ((p26_0 + 1)) (v1) (p26_2) (p26_3) (p26_4) (by omega) (by omega) (by omega) (by omega) (by omega) (by omega) (by omega) (by omega) (by omega) (by omega) (by omega) (by omega) (by omega) (by omega) (by omega) (by omega) (ev1.symm.trans (by omega)) (ca0_1_26_0.trans (by omega)) (ca1_0_26_0.trans (by omega)) (ca1_1_26_0.trans (by omega)) (by omega)
          ·
            refine w_iconst gz_93_44 (by decide) ?_
            exact w_bret gz_93_45 gm_93 (by omega) (by omega) (k0 )
  refine w_aload_n gz_93_0 rfl ?_
  refine v_getI (j := 0) gz_93_1 rfl t0 rd_8 rfl (fun v8 ev8 pv8 qv8 => ?_)
  refine w_aload_n gz_93_4 rfl ?_
  refine v_getI (j := 0) gz_93_5 rfl t1 rd_8 rfl (fun v9 ev9 pv9 qv9 => ?_)
  refine w_icne (t := 22) gz_93_8 rfl (fun u10 => ?_) (fun u10 => ?_)
  ·
    refine w_iconst gz_93_22 (by decide) ?_
    exact w_bret gz_93_23 gm_93 (by omega) (by omega) (k0 )
  ·
    refine w_aload_n gz_93_11 rfl ?_
    refine v_getI (j := 1) gz_93_12 rfl t0 rd_8 rfl (fun v11 ev11 pv11 qv11 => ?_)
    refine w_aload_n gz_93_15 rfl ?_
    refine v_getI (j := 1) gz_93_16 rfl t1 rd_8 rfl (fun v12 ev12 pv12 qv12 => ?_)
    refine w_iceq (t := 24) gz_93_19 rfl (fun u13 => ?_) (fun u13 => ?_)
    ·
      refine w_iconst gz_93_24 (by decide) ?_
      refine w_istore_n (ls' := [(2, x0), (2, x1), (0, 0)]) gz_93_25 gm_93 rfl rfl rfl ?_
      exact J26_0 12 (0) (v8) (v11) (v9) (v12) (by omega) (by omega) (by omega) (by omega) (by omega) (by omega) (by omega) (by omega) (by omega) (by omega) (by omega) (by omega) (by omega) (by omega) (by omega) (by omega) (ev8.symm.trans (by omega)) (ev11.symm.trans (by omega)) (ev9.symm.trans (by omega)) (ev12.symm.trans (by omega)) (by omega)
    ·
      refine w_iconst gz_93_22 (by decide) ?_
      exact w_bret gz_93_23 gm_93 (by omega) (by omega) (k0 )
theorem c_View_rowOf {l : Launch} {rho : Nat → Int32} {d : Nat} {h : my_H} {Q : my_H → my_V → Prop} {x0 x1 : Int} (t0 : my_is 8 x0) (a1 : 0 ≤ x1) (b1 : x1 ≤ 19) (k0 : Q h (0, (-1))) (k1 : ∀ (y : Int), 0 ≤ y → y ≤ 10 → 1 ≤ h x0 0 → h x0 0 ≤ 11 → Q h (0, y)) : wp l rho (d + 1) 97 0 [(2, x0), (0, x1), (9, 0)] [] h Q := by
  have J2_0 : ∀ (n : Nat) (p2_0 : Int), 0 ≤ p2_0 → p2_0 ≤ 11 → 12 - p2_0 ≤ (n : Int) → wp l rho (d + 1) 97 2 [(2, x0), (0, x1), (0, p2_0)] [] h Q := by
    intro n
    induction n with
    | zero => intro p2_0 q0_2_0 q1_2_0 hm_2_0; exfalso; omega
    | succ n ih_2_0 =>
      intro p2_0 q0_2_0 q1_2_0 hm_2_0
      refine w_iload_n gz_97_2 rfl ?_
      refine w_aload_n gz_97_3 rfl ?_
      refine v_getI (j := 0) gz_97_4 rfl t0 rd_8 rfl (fun v1 ev1 pv1 qv1 => ?_)
      refine w_icge (t := 27) gz_97_7 rfl (fun u2 => ?_) (fun u2 => ?_)
      ·
        refine w_iconst gz_97_27 (by decide) ?_
        exact w_iret gz_97_28 gm_97 (k0 )
      ·
        refine w_aload_n gz_97_10 rfl ?_
        refine w_iload_n gz_97_11 rfl ?_
        refine w_inv (k := 0) (as := [(0, p2_0)]) (r := []) (x := x0) (ls0 := [(2, x0), (0, p2_0)]) gz_97_12 gm_75 rfl t0 rd_8 rfl rfl rfl rfl rfl ?_
        refine w_aload_n gz_75_0 rfl ?_
        refine w_getX (v := (x0 + 1)) gz_75_1 t0 rd_8 rfl (by decide) rfl ?_
        refine w_iload_n gz_75_4 rfl ?_
        refine w_bipush gz_75_5 (by decide) ?_
        refine w_imul gz_75_7 ⟨by omega, by omega⟩ ?_
        refine w_bipush gz_75_8 (by decide) ?_
        refine w_iadd gz_75_10 ⟨by omega, by omega⟩ ?_
        refine w_gldT gz_75_11 (ix_8_1 t0) rd_42 (by omega) (by omega) (by omega) (fun v4 ev4 pv4 qv4 => ?_)
        refine w_iret gz_75_12 gm_75 ?_
        show wp l rho (d + 1) 97 15 [(2, x0), (0, x1), (0, p2_0)] [(0, v4)] h Q
        refine w_iload_n gz_97_15 rfl ?_
        refine w_icne (t := 21) gz_97_16 rfl (fun u5 => ?_) (fun u5 => ?_)
        ·
          refine w_iinc (ls' := [(2, x0), (0, x1), (0, (p2_0 + 1))]) gz_97_21 rfl gm_97 rfl rfl rfl ⟨by omega, by omega⟩ ?_
          refine w_goto (t := 2) gz_97_24 rfl ?_
          exact ih_2_0 ((p2_0 + 1)) (by omega) (by omega) (by omega)
        ·
          refine w_iload_n gz_97_19 rfl ?_
          have c6 := ev1.symm
          exact w_iret gz_97_20 gm_97 (k1 (p2_0) (by omega) (by omega) (by omega) (by omega))
  refine w_iconst gz_97_0 (by decide) ?_
  refine w_istore_n (ls' := [(2, x0), (0, x1), (0, 0)]) gz_97_1 gm_97 rfl rfl rfl ?_
  exact J2_0 12 (0) (by omega) (by omega) (by omega)
theorem c_Lens_liveColumns {l : Launch} {rho : Nat → Int32} {d : Nat} {h : my_H} {Q : my_H → my_V → Prop} {x0 : Int} (t0 : my_is 4 x0) (k0 : ∀ (y : Int), Q h (0, y)) : wp l rho d 99 0 [(2, x0), (9, 0), (9, 0)] [] h Q := by
  have J7_0 : ∀ (n : Nat) (p7_0 p7_1 p7_2 : Int), 0 ≤ p7_1 → p7_1 ≤ 8 → h x0 8 = p7_2 → 9 - p7_1 ≤ (n : Int) → wp l rho d 99 7 [(2, x0), (0, p7_0), (0, p7_1)] [] h Q := by
    intro n
    induction n with
    | zero => intro p7_0 p7_1 p7_2 q0_7_0 q1_7_0 ca0_8_7_0 hm_7_0; exfalso; omega
    | succ n ih_7_0 =>
      intro p7_0 p7_1 p7_2 q0_7_0 q1_7_0 ca0_8_7_0 hm_7_0
      have J39_0 : ∀ (p39_0 p39_1 : Int), p7_1 ≤ 7 → 1 ≤ p39_1 → p39_1 ≤ 8 → p7_1 ≤ (p39_1 - 1) → h x0 4 = p39_1 → h x0 8 = p7_2 → wp l rho d 99 39 [(2, x0), (0, p39_0), (0, p7_1)] [] h Q := by
        intro p39_0 p39_1 q0_39_0 q1_39_0 q2_39_0 q3_39_0 ca0_4_39_0 ca0_8_39_0
        refine w_iinc (ls' := [(2, x0), (0, p39_0), (0, (p7_1 + 1))]) gz_99_39 rfl gm_99 rfl rfl rfl ⟨by omega, by omega⟩ ?_
        refine w_goto (t := 7) gz_99_42 rfl ?_
        exact ih_7_0 (p39_0) ((p7_1 + 1)) (p7_2) (by omega) (by omega) (ca0_8_39_0.trans (by omega)) (by omega)
      refine w_iload_n gz_99_7 rfl ?_
      refine w_aload_n gz_99_8 rfl ?_
      refine v_getI (j := 4) gz_99_9 rfl t0 rd_4 rfl (fun v1 ev1 pv1 qv1 => ?_)
      refine w_icge (t := 45) gz_99_12 rfl (fun u2 => ?_) (fun u2 => ?_)
      ·
        refine w_iload_n gz_99_45 rfl ?_
        exact w_iret gz_99_46 gm_99 (k0 (p7_0))
      ·
        refine w_aload_n gz_99_15 rfl ?_
        refine w_getX (v := (x0 + 6)) gz_99_16 t0 rd_4 rfl (by decide) rfl ?_
        refine w_iload_n gz_99_19 rfl ?_
        refine w_iald gz_99_20 (ix_4_6 t0) rd_37 (by omega) (by omega) (fun v4 ev4 pv4 qv4 => ?_)
        refine w_iconst gz_99_21 (by decide) ?_
        refine w_iceq (t := 39) gz_99_22 rfl (fun u5 => ?_) (fun u5 => ?_)
        ·
          exact J39_0 (p7_0) (v1) (by omega) (by omega) (by omega) (by omega) (ev1.symm.trans (by omega)) (ca0_8_7_0.trans (by omega))
        ·
          refine w_iload_n gz_99_25 rfl ?_
          refine w_iconst gz_99_26 (by decide) ?_
          refine w_aload_n gz_99_27 rfl ?_
          refine w_getX (v := (x0 + 6)) gz_99_28 t0 rd_4 rfl (by decide) rfl ?_
          refine w_iload_n gz_99_31 rfl ?_
          refine w_iald gz_99_32 (ix_4_6 t0) rd_37 (by omega) (by omega) (fun v7 ev7 pv7 qv7 => ?_)
          have zv7 := ev7.trans ev4.symm
          refine w_bipush gz_99_33 (by decide) ?_
          refine w_irem gz_99_35 (by omega) (by decide) ?_
          refine w_ianyL gz_99_36 (fun v8 pv8 qv8 => ?_)
          refine w_ianyO gz_99_37 (fun v9 pv9 qv9 => ?_)
          refine w_istore_n (ls' := [(2, x0), (0, v9), (0, p7_1)]) gz_99_38 gm_99 rfl rfl rfl ?_
          exact J39_0 (v9) (v1) (by omega) (by omega) (by omega) (by omega) (ev1.symm.trans (by omega)) (ca0_8_7_0.trans (by omega))
  refine w_aload_n gz_99_0 rfl ?_
  refine v_getI (j := 8) gz_99_1 rfl t0 rd_4 rfl (fun v10 ev10 pv10 qv10 => ?_)
  refine w_istore_n (ls' := [(2, x0), (0, v10), (9, 0)]) gz_99_4 gm_99 rfl rfl rfl ?_
  refine w_iconst gz_99_5 (by decide) ?_
  refine w_istore_n (ls' := [(2, x0), (0, v10), (0, 0)]) gz_99_6 gm_99 rfl rfl rfl ?_
  exact J7_0 9 (v10) (0) (v10) (by omega) (by omega) (ev10.symm.trans (by omega)) (by omega)
end MYG1
