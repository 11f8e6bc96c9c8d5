/-! contracts, printed by wip/gen/gy.py -/
section MYG2
theorem c_Laws_allow {l : Launch} {rho : Nat → Int32} {d : Nat} {h : my_H} {Q : my_H → my_V → Prop} {x1 x2 x3 x4 x5 : Int} (t1 : my_is 6 x1) (a2 : 0 ≤ x2) (b2 : x2 ≤ 2) (a3 : 0 ≤ x3) (b3 : x3 ≤ 19) (a4 : 0 ≤ x4) (b4 : x4 ≤ 3) (a5 : 0 ≤ x5) (b5 : x5 ≤ 19) (k0 : Q h (0, 0)) (k1 : Q h (0, 1)) : wp l rho (d + 2) 102 0 [(2, 1), (2, x1), (0, x2), (0, x3), (0, x4), (0, x5), (9, 0)] [] h Q := by
  have J63_0 : ∀ (p63_0 : Int), 0 ≤ p63_0 → p63_0 ≤ 11 → wp l rho (d + 2) 102 63 [(2, 1), (2, x1), (0, x2), (0, x3), (0, x4), (0, x5), (0, p63_0)] [] h Q := by
    intro p63_0 q0_63_0 q1_63_0
    refine w_aload_n gz_102_63 rfl ?_
    refine w_getX (v := 6) gz_102_64 is_1 rd_3 rfl (by decide) rfl ?_
    refine w_iload gz_102_67 rfl ?_
    refine w_bald gz_102_69 is_6 rd_29 (by omega) (by omega) (fun v2 ev2 pv2 qv2 => ?_)
    refine w_ifeq (t := 86) gz_102_70 rfl (fun u3 => ?_) (fun u3 => ?_)
    ·
      refine w_iconst gz_102_86 (by decide) ?_
      refine w_goto (t := 91) gz_102_87 rfl ?_
      exact w_bret gz_102_91 gm_102 (by omega) (by omega) (k1 )
    ·
      refine w_aload_n gz_102_73 rfl ?_
      refine w_iload_n gz_102_74 rfl ?_
      refine w_iload_n gz_102_75 rfl ?_
      refine w_iload gz_102_76 rfl ?_
      refine w_iload gz_102_78 rfl ?_
      refine w_inS (k := 2) (as := [(0, x5), (0, x4), (0, x3), (0, x2), (2, x1)]) (r := []) (ls0 := [(2, x1), (0, x2), (0, x3), (0, x4), (0, x5), (9, 0), (9, 0)]) gz_102_80 gm_103 rfl rfl rfl rfl rfl rfl (c_Laws_isElsewhere (d := d) (x0 := x1) (x1 := x2) (x2 := x3) (x3 := x4) (x4 := x5) t1 (by omega) (by omega) (by omega) (by omega) (by omega) (by omega) (by omega) (by omega) ?_ ?_)
      ·
        show wp l rho (d + 2) 102 83 [(2, 1), (2, x1), (0, x2), (0, x3), (0, x4), (0, x5), (0, p63_0)] [(0, 0)] h Q
        refine w_ifne (t := 90) gz_102_83 rfl (fun u4 => by exfalso; omega) (fun u4 => ?_)
        refine w_iconst gz_102_86 (by decide) ?_
        refine w_goto (t := 91) gz_102_87 rfl ?_
        exact w_bret gz_102_91 gm_102 (by omega) (by omega) (k1 )
      ·
        show wp l rho (d + 2) 102 83 [(2, 1), (2, x1), (0, x2), (0, x3), (0, x4), (0, x5), (0, p63_0)] [(0, 1)] h Q
        refine w_ifne (t := 90) gz_102_83 rfl (fun u5 => ?_) (fun u5 => by exfalso; omega)
        refine w_iconst gz_102_90 (by decide) ?_
        exact w_bret gz_102_91 gm_102 (by omega) (by omega) (k0 )
  refine w_iload_n gz_102_0 rfl ?_
  refine w_iload gz_102_1 rfl ?_
  refine w_inS (k := 0) (as := [(0, x4), (0, x2)]) (r := []) (ls0 := [(0, x2), (0, x4)]) gz_102_3 gm_29 rfl rfl rfl rfl rfl rfl ?_
  refine w_iload_n gz_29_0 rfl ?_
  refine w_iconst gz_29_1 (by decide) ?_
  refine w_imul gz_29_2 ⟨by omega, by omega⟩ ?_
  refine w_iload_n gz_29_3 rfl ?_
  refine w_iadd gz_29_4 ⟨by omega, by omega⟩ ?_
  refine w_iret gz_29_5 gm_29 ?_
  show wp l rho (d + 2) 102 6 [(2, 1), (2, x1), (0, x2), (0, x3), (0, x4), (0, x5), (9, 0)] [(0, ((x2 * 4) + x4))] h Q
  refine w_istore (ls' := [(2, 1), (2, x1), (0, x2), (0, x3), (0, x4), (0, x5), (0, ((x2 * 4) + x4))]) gz_102_6 gm_102 rfl rfl rfl ?_
  refine w_iload gz_102_8 rfl ?_
  refine w_aload_n gz_102_10 rfl ?_
  refine w_getX (v := 3) gz_102_11 is_1 rd_3 rfl (by decide) rfl ?_
  refine w_iload gz_102_14 rfl ?_
  refine w_iald gz_102_16 is_3 rd_26 (by omega) (by omega) (fun v7 ev7 pv7 qv7 => ?_)
  refine w_iclt (t := 32) gz_102_17 rfl (fun u8 => ?_) (fun u8 => ?_)
  ·
    refine w_iconst gz_102_32 (by decide) ?_
    exact w_bret gz_102_33 gm_102 (by omega) (by omega) (k0 )
  ·
    refine w_iload gz_102_20 rfl ?_
    refine w_aload_n gz_102_22 rfl ?_
    refine w_getX (v := 4) gz_102_23 is_1 rd_3 rfl (by decide) rfl ?_
    refine w_iload gz_102_26 rfl ?_
    refine w_iald gz_102_28 is_4 rd_27 (by omega) (by omega) (fun v10 ev10 pv10 qv10 => ?_)
    refine w_icle (t := 34) gz_102_29 rfl (fun u11 => ?_) (fun u11 => ?_)
    ·
      refine w_aload_n gz_102_34 rfl ?_
      refine w_getX (v := 5) gz_102_35 is_1 rd_3 rfl (by decide) rfl ?_
      refine w_iload gz_102_38 rfl ?_
      refine w_iald gz_102_40 is_5 rd_28 (by omega) (by omega) (fun v13 ev13 pv13 qv13 => ?_)
      refine w_iconst gz_102_41 (by decide) ?_
      refine w_iceq (t := 63) gz_102_42 rfl (fun u14 => ?_) (fun u14 => ?_)
      ·
        exact J63_0 (((x2 * 4) + x4)) (by omega) (by omega)
      ·
        refine w_aload_n gz_102_45 rfl ?_
        refine w_aload_n gz_102_46 rfl ?_
        refine w_getX (v := 5) gz_102_47 is_1 rd_3 rfl (by decide) rfl ?_
        refine w_iload gz_102_50 rfl ?_
        refine w_iald gz_102_52 is_5 rd_28 (by omega) (by omega) (fun v16 ev16 pv16 qv16 => ?_)
        have zv16 := ev16.trans ev13.symm
        refine w_iload gz_102_53 rfl ?_
        refine w_inv (k := 0) (as := [(0, x5), (0, v16)]) (r := []) (x := x1) (ls0 := [(2, x1), (0, v16), (0, x5)]) gz_102_55 gm_15 rfl t1 rd_6 rfl rfl rfl rfl rfl ?_
        refine w_iload_n gz_15_0 rfl ?_
        refine w_iflt (t := 31) gz_15_1 rfl (fun u17 => by exfalso; omega) (fun u17 => ?_)
        refine w_iload_n gz_15_4 rfl ?_
        refine w_bipush gz_15_5 (by decide) ?_
        refine w_icge (t := 31) gz_15_7 rfl (fun u18 => by exfalso; omega) (fun u18 => ?_)
        refine w_aload_n gz_15_10 rfl ?_
        refine w_getX (v := (x1 + 1)) gz_15_11 t1 rd_6 rfl (by decide) rfl ?_
        refine w_iload_n gz_15_14 rfl ?_
        refine w_bipush gz_15_15 (by decide) ?_
        refine w_imul gz_15_17 ⟨by omega, by omega⟩ ?_
        refine w_iload_n gz_15_18 rfl ?_
        refine w_iadd gz_15_19 ⟨by omega, by omega⟩ ?_
        refine w_iconst gz_15_20 (by decide) ?_
        refine w_imul gz_15_21 ⟨by omega, by omega⟩ ?_
        refine w_iald gz_15_22 (ix_6_1 t1) rd_30 (by omega) (by omega) (fun v20 ev20 pv20 qv20 => ?_)
        refine w_iconst gz_15_23 (by decide) ?_
        refine w_iceq (t := 31) gz_15_24 rfl (fun u21 => ?_) (fun u21 => ?_)
        ·
          refine w_iconst gz_15_31 (by decide) ?_
          refine w_bret gz_15_32 gm_15 (by omega) (by omega) ?_
          show wp l rho (d + 2) 102 58 [(2, 1), (2, x1), (0, x2), (0, x3), (0, x4), (0, x5), (0, ((x2 * 4) + x4))] [(0, 0)] h Q
          refine w_ifne (t := 63) gz_102_58 rfl (fun u22 => by exfalso; omega) (fun u22 => ?_)
          refine w_iconst gz_102_61 (by decide) ?_
          exact w_bret gz_102_62 gm_102 (by omega) (by omega) (k0 )
        ·
          refine w_iconst gz_15_27 (by decide) ?_
          refine w_goto (t := 32) gz_15_28 rfl ?_
          refine w_bret gz_15_32 gm_15 (by omega) (by omega) ?_
          show wp l rho (d + 2) 102 58 [(2, 1), (2, x1), (0, x2), (0, x3), (0, x4), (0, x5), (0, ((x2 * 4) + x4))] [(0, 1)] h Q
          refine w_ifne (t := 63) gz_102_58 rfl (fun u23 => ?_) (fun u23 => by exfalso; omega)
          exact J63_0 (((x2 * 4) + x4)) (by omega) (by omega)
    ·
      refine w_iconst gz_102_32 (by decide) ?_
      exact w_bret gz_102_33 gm_102 (by omega) (by omega) (k0 )
theorem c_Desk_rowComes {l : Launch} {rho : Nat → Int32} {d : Nat} {h : my_H} {Q : my_H → my_V → Prop} {x1 : Int} (t1 : my_is 4 x1) (k0 : ∀ (h' : my_H), my_fr [(30, -1), (31, -1), (41, -1)] h h' → Q h' (0, 0)) (k1 : ∀ (h' : my_H), my_fr [(30, -1), (31, -1), (41, -1)] h h' → Q h' (0, 1)) : wp l rho (d + 2) 106 0 [(2, 94), (2, x1), (9, 0), (9, 0)] [] h Q := by
  have J2_0 : ∀ (n : Nat) (p2_0 : Int) (h2_0 : my_H), my_fr [(30, -1), (31, -1), (41, -1)] h h2_0 → 0 ≤ p2_0 → p2_0 ≤ 4 → 5 - p2_0 ≤ (n : Int) → wp l rho (d + 2) 106 2 [(2, 94), (2, x1), (0, p2_0), (9, 0)] [] h2_0 Q := by
    intro n
    induction n with
    | zero => intro p2_0 h2_0 gh_2_0 q0_2_0 q1_2_0 hm_2_0; exfalso; omega
    | succ n ih_2_0 =>
      intro p2_0 h2_0 gh_2_0 q0_2_0 q1_2_0 hm_2_0
      have J38_0 : ∀ (p38_0 p38_1 : Int) (h38_0 : my_H), my_fr [(30, -1), (31, -1), (41, -1)] h h38_0 → p2_0 ≤ 3 → (-1) ≤ p38_0 → p38_0 ≤ 7 → 0 ≤ p38_1 → p38_1 ≤ 19 → wp l rho (d + 2) 106 38 [(2, 94), (2, x1), (0, p2_0), (0, p38_0)] [(0, p38_1), (0, p2_0), (2, 110)] h38_0 Q := by
        intro p38_0 p38_1 h38_0 gh_38_0 q0_38_0 q1_38_0 q2_38_0 q3_38_0 q4_38_0
        refine w_iast gz_106_38 is_110 rd_41 (by omega) (by omega) (by omega) (by omega) (fun h1 fh1 => ?_)
        have gh1 : my_fr [(30, -1), (31, -1), (41, -1)] h h1 := my_fr.up gh_38_0 is_110 fh1 rfl
        refine w_iinc (ls' := [(2, 94), (2, x1), (0, (p2_0 + 1)), (0, p38_0)]) gz_106_39 rfl gm_106 rfl rfl rfl ⟨by omega, by omega⟩ ?_
        refine w_goto (t := 2) gz_106_42 rfl ?_
        refine w_weak (ls' := [(2, 94), (2, x1), (0, (p2_0 + 1)), (9, 0)]) (wk_e (wk_e (wk_e (wk_9 wk_n)))) ?_
        exact ih_2_0 ((p2_0 + 1)) h1 (gh1) (by omega) (by omega) (by omega)
      refine w_iload_n gz_106_2 rfl ?_
      refine w_iconst gz_106_3 (by decide) ?_
      refine w_icge (t := 45) gz_106_4 rfl (fun u2 => ?_) (fun u2 => ?_)
      ·
        refine w_aload_n gz_106_45 rfl ?_
        refine w_getX (v := 95) gz_106_46 is_94 rd_2 rfl (by decide) rfl ?_
        refine w_getX (v := 97) gz_106_49 is_95 rd_6 rfl (by decide) rfl ?_
        refine w_aload_n gz_106_52 rfl ?_
        refine v_getI (j := 2) gz_106_53 rfl t1 rd_4 rfl (fun v5 ev5 pv5 qv5 => ?_)
        refine w_iald gz_106_56 is_97 rd_31 (by omega) (by omega) (fun v6 ev6 pv6 qv6 => ?_)
        refine w_bipush gz_106_57 (by decide) ?_
        refine w_icge (t := 82) gz_106_59 rfl (fun u7 => ?_) (fun u7 => ?_)
        ·
          refine w_iconst gz_106_82 (by decide) ?_
          exact w_bret gz_106_83 gm_106 (by omega) (by omega) (k0 h2_0 (gh_2_0))
        ·
          refine w_aload_n gz_106_62 rfl ?_
          refine w_getX (v := 95) gz_106_63 is_94 rd_2 rfl (by decide) rfl ?_
          refine w_aload_n gz_106_66 rfl ?_
          refine v_getI (j := 2) gz_106_67 rfl t1 rd_4 rfl (fun v9 ev9 pv9 qv9 => ?_)
          have zv9 := ev9.trans ev5.symm
          refine w_aload_n gz_106_70 rfl ?_
          refine w_getX (v := 110) gz_106_71 is_94 rd_2 rfl (by decide) rfl ?_
          refine w_iconst gz_106_74 (by decide) ?_
          refine w_iald gz_106_75 is_110 rd_41 (by omega) (by omega) (fun v11 ev11 pv11 qv11 => ?_)
          refine w_inv (k := 0) (as := [(0, v11), (0, v9)]) (r := []) (x := 95) (ls0 := [(2, 95), (0, v9), (0, v11)]) gz_106_76 gm_15 rfl is_95 rd_6 rfl rfl rfl rfl rfl ?_
          refine w_iload_n gz_15_0 rfl ?_
          refine w_iflt (t := 31) gz_15_1 rfl (fun u12 => by exfalso; omega) (fun u12 => ?_)
          refine w_iload_n gz_15_4 rfl ?_
          refine w_bipush gz_15_5 (by decide) ?_
          refine w_icge (t := 31) gz_15_7 rfl (fun u13 => by exfalso; omega) (fun u13 => ?_)
          refine w_aload_n gz_15_10 rfl ?_
          refine w_getX (v := 96) gz_15_11 is_95 rd_6 rfl (by decide) rfl ?_
          refine w_iload_n gz_15_14 rfl ?_
          refine w_bipush gz_15_15 (by decide) ?_
          refine w_imul gz_15_17 ⟨by omega, by omega⟩ ?_
          refine w_iload_n gz_15_18 rfl ?_
          refine w_iadd gz_15_19 ⟨by omega, by omega⟩ ?_
          refine w_iconst gz_15_20 (by decide) ?_
          refine w_imul gz_15_21 ⟨by omega, by omega⟩ ?_
          refine w_iald gz_15_22 is_96 rd_30 (by omega) (by omega) (fun v15 ev15 pv15 qv15 => ?_)
          refine w_iconst gz_15_23 (by decide) ?_
          refine w_iceq (t := 31) gz_15_24 rfl (fun u16 => ?_) (fun u16 => ?_)
          ·
            refine w_iconst gz_15_31 (by decide) ?_
            refine w_bret gz_15_32 gm_15 (by omega) (by omega) ?_
            show wp l rho (d + 2) 106 79 [(2, 94), (2, x1), (0, p2_0), (9, 0)] [(0, 0)] h2_0 Q
            refine w_ifeq (t := 84) gz_106_79 rfl (fun u17 => ?_) (fun u17 => by exfalso; omega)
            refine w_aload_n gz_106_84 rfl ?_
            refine w_getX (v := 95) gz_106_85 is_94 rd_2 rfl (by decide) rfl ?_
            refine w_aload_n gz_106_88 rfl ?_
            refine v_getI (j := 2) gz_106_89 rfl t1 rd_4 rfl (fun v19 ev19 pv19 qv19 => ?_)
            have zv19 := ev19.trans ev9.symm
            refine w_aload_n gz_106_92 rfl ?_
            refine w_getX (v := 110) gz_106_93 is_94 rd_2 rfl (by decide) rfl ?_
            refine w_inv (k := 0) (as := [(2, 110), (0, v19)]) (r := []) (x := 95) (ls0 := [(2, 95), (0, v19), (2, 110)]) gz_106_96 gm_16 rfl is_95 rd_6 rfl rfl rfl rfl rfl ?_
            refine w_aload_n gz_16_0 rfl ?_
            refine w_iconst gz_16_1 (by decide) ?_
            refine w_aload_n gz_16_2 rfl ?_
            refine w_getX (v := 96) gz_16_3 is_95 rd_6 rfl (by decide) rfl ?_
            refine w_iload_n gz_16_6 rfl ?_
            refine w_aload_n gz_16_7 rfl ?_
            refine w_iconst gz_16_8 (by decide) ?_
            refine w_iald gz_16_9 is_110 rd_41 (by omega) (by omega) (fun v22 ev22 pv22 qv22 => ?_)
            have zv22 := ev22.trans ev11.symm
            have hi23 : 0 ≤ v22 := by first | omega | (have q := hrow 0 (by decide) (by decide); omega)
            have hi24 : v22 ≤ 19 := by first | omega | (have q := hrow 0 (by decide) (by decide); omega)
            refine w_inS (k := 0) (as := [(0, v22), (0, v19)]) (r := [(2, 96), (0, 0), (2, 110)]) (ls0 := [(0, v19), (0, v22)]) gz_16_10 gm_17 rfl rfl rfl rfl rfl rfl ?_
            refine w_iload_n gz_17_0 rfl ?_
            refine w_bipush gz_17_1 (by decide) ?_
            refine w_imul gz_17_3 ⟨by omega, by omega⟩ ?_
            refine w_iload_n gz_17_4 rfl ?_
            refine w_iadd gz_17_5 ⟨by omega, by omega⟩ ?_
            refine w_iconst gz_17_6 (by decide) ?_
            refine w_imul gz_17_7 ⟨by omega, by omega⟩ ?_
            refine w_iret gz_17_8 gm_17 ?_
            show wp l rho (d + 1) 16 13 [(2, 95), (0, v19), (2, 110)] [(0, (((v19 * 20) + v22) * 4)), (2, 96), (0, 0), (2, 110)] h2_0 _
            refine w_iconst gz_16_13 (by decide) ?_
            refine w_cpU gz_16_14 is_110 rd_41 is_96 rd_30 (by omega) (by omega) (by omega) (by omega) (by omega) rfl (by decide) (by decide) (fun h25 fh25 => ?_)
            have gh25 : my_fr [(30, -1), (31, -1), (41, -1)] h h25 := my_fr.cp gh_2_0 is_96 fh25 rfl
            refine w_aload_n gz_16_17 rfl ?_
            refine w_getX (v := 97) gz_16_18 is_95 rd_6 rfl (by decide) rfl ?_
            refine w_iload_n gz_16_21 rfl ?_
            refine w_dup2 gz_16_22 rfl rfl ?_
            refine w_iald gz_16_23 is_97 rd_31 (by omega) (by omega) (fun v27 ev27 pv27 qv27 => ?_)
            have wv27 : v19 = v5 := by omega
            rw [wv27] at ev27
            have zv27 := ev27.trans ((my_cp_role fh25 is_97 is_96 rfl).trans ev6.symm)
            refine w_iconst gz_16_24 (by decide) ?_
            refine w_iaddB gz_16_25 (fun _ _ _ _ => ⟨by omega, by omega⟩) ?_
            refine w_iastA gz_16_26 is_97 rd_31 (by omega) (by omega) (fun h28 fh28 => ?_)
            have gh28 : my_fr [(30, -1), (31, -1), (41, -1)] h h28 := my_fr.up gh25 is_97 fh28 rfl
            refine w_vret gz_16_27 gm_16 ?_
            show wp l rho (d + 2) 106 99 [(2, 94), (2, x1), (0, p2_0), (9, 0)] [] h28 Q
            refine w_iconst gz_106_99 (by decide) ?_
            exact w_bret gz_106_100 gm_106 (by omega) (by omega) (k1 h28 (gh28))
          ·
            refine w_iconst gz_15_27 (by decide) ?_
            refine w_goto (t := 32) gz_15_28 rfl ?_
            refine w_bret gz_15_32 gm_15 (by omega) (by omega) ?_
            show wp l rho (d + 2) 106 79 [(2, 94), (2, x1), (0, p2_0), (9, 0)] [(0, 1)] h2_0 Q
            refine w_ifeq (t := 84) gz_106_79 rfl (fun u29 => by exfalso; omega) (fun u29 => ?_)
            refine w_iconst gz_106_82 (by decide) ?_
            exact w_bret gz_106_83 gm_106 (by omega) (by omega) (k0 h2_0 (gh_2_0))
      ·
        refine w_aload_n gz_106_7 rfl ?_
        refine w_iload_n gz_106_8 rfl ?_
        refine w_inv (k := 1) (as := [(0, p2_0)]) (r := []) (x := x1) (ls0 := [(2, x1), (0, p2_0), (9, 0)]) gz_106_9 gm_107 rfl t1 rd_4 rfl rfl rfl rfl rfl (c_Lens_columnShowing (d := d) (x0 := x1) (x1 := p2_0) t1 (by omega) (by omega) ?_ (fun v30 w31 w32 w33 w34 => ?_))
        ·
          show wp l rho (d + 2) 106 12 [(2, 94), (2, x1), (0, p2_0), (9, 0)] [(0, (-1))] h2_0 Q
          refine w_istore_n (ls' := [(2, 94), (2, x1), (0, p2_0), (0, (-1))]) gz_106_12 gm_106 rfl rfl rfl ?_
          refine w_aload_n gz_106_13 rfl ?_
          refine w_getX (v := 110) gz_106_14 is_94 rd_2 rfl (by decide) rfl ?_
          refine w_iload_n gz_106_17 rfl ?_
          refine w_iload_n gz_106_18 rfl ?_
          refine w_iconst gz_106_19 (by decide) ?_
          refine w_iceq (t := 32) gz_106_20 rfl (fun u36 => ?_) (fun u36 => by exfalso; omega)
          refine w_aload_n gz_106_32 rfl ?_
          refine w_getX (v := (x1 + 7)) gz_106_33 t1 rd_4 rfl (by decide) rfl ?_
          refine w_iload_n gz_106_36 rfl ?_
          refine w_iald gz_106_37 (ix_4_7 t1) rd_38 (by omega) (by omega) (fun v38 ev38 pv38 qv38 => ?_)
          exact J38_0 ((-1)) (v38) h2_0 (gh_2_0) (by omega) (by omega) (by omega) (by omega) (by omega)
        ·
          show wp l rho (d + 2) 106 12 [(2, 94), (2, x1), (0, p2_0), (9, 0)] [(0, v30)] h2_0 Q
          refine w_istore_n (ls' := [(2, 94), (2, x1), (0, p2_0), (0, v30)]) gz_106_12 gm_106 rfl rfl rfl ?_
          refine w_aload_n gz_106_13 rfl ?_
          refine w_getX (v := 110) gz_106_14 is_94 rd_2 rfl (by decide) rfl ?_
          refine w_iload_n gz_106_17 rfl ?_
          refine w_iload_n gz_106_18 rfl ?_
          refine w_iconst gz_106_19 (by decide) ?_
          refine w_iceq (t := 32) gz_106_20 rfl (fun u40 => by exfalso; omega) (fun u40 => ?_)
          refine w_aload_n gz_106_23 rfl ?_
          refine w_getX (v := 93) gz_106_24 is_94 rd_2 rfl (by decide) rfl ?_
          refine w_iload_n gz_106_27 rfl ?_
          refine w_iald gz_106_28 is_93 rd_23 (by omega) (by omega) (fun v42 ev42 pv42 qv42 => ?_)
          refine w_goto (t := 38) gz_106_29 rfl ?_
          exact J38_0 (v30) (v42) h2_0 (gh_2_0) (by omega) (by omega) (by omega) (by omega) (by omega)
  refine w_iconst gz_106_0 (by decide) ?_
  refine w_istore_n (ls' := [(2, 94), (2, x1), (0, 0), (9, 0)]) gz_106_1 gm_106 rfl rfl rfl ?_
  exact J2_0 5 (0) h (my_fr.rf) (by omega) (by omega) (by omega)
theorem c_View_countShared {l : Launch} {rho : Nat → Int32} {d : Nat} {h : my_H} {Q : my_H → my_V → Prop} {x0 x1 : Int} (t0 : my_is 8 x0) (t1 : my_is 8 x1) (k0 : Q h (0, 0)) (k1 : ∀ (y : Int), 0 ≤ y → y ≤ 11 → Q h (0, y)) : wp l rho (d + 1) 134 0 [(2, x0), (2, x1), (9, 0), (9, 0), (9, 0)] [] h Q := by
  have J7_0 : ∀ (n : Nat) (p7_0 p7_1 p7_2 : Int), 0 ≤ p7_0 → p7_0 ≤ 11 → 0 ≤ p7_1 → p7_1 ≤ 11 → 0 ≤ p7_2 → p7_2 ≤ 11 → p7_0 ≤ p7_1 → p7_0 ≤ p7_2 → p7_1 ≤ (p7_2 + 10) → 12 - p7_2 ≤ (n : Int) → wp l rho (d + 1) 134 7 [(2, x0), (2, x1), (0, p7_0), (0, p7_1), (0, p7_2)] [] h Q := by
    intro n
    induction n with
    | zero => intro p7_0 p7_1 p7_2 q0_7_0 q1_7_0 q2_7_0 q3_7_0 q4_7_0 q5_7_0 q6_7_0 q7_7_0 q8_7_0 hm_7_0; exfalso; omega
    | succ n ih_7_0 =>
      intro p7_0 p7_1 p7_2 q0_7_0 q1_7_0 q2_7_0 q3_7_0 q4_7_0 q5_7_0 q6_7_0 q7_7_0 q8_7_0 hm_7_0
      have J66_0 : ∀ (p66_0 p66_1 p66_2 p66_3 : Int), 0 ≤ p66_0 → p66_0 ≤ 11 → 0 ≤ p66_1 → p66_1 ≤ 11 → p7_2 ≤ 10 → 1 ≤ p66_2 → p66_2 ≤ 11 → 0 ≤ p66_3 → p66_3 ≤ 11 → p7_0 ≤ 10 → p66_0 ≤ p66_1 → p66_0 ≤ p66_2 → p66_0 ≤ (p66_3 + 10) → p66_0 ≤ (p7_2 + 1) → p66_0 ≤ (p7_0 + 1) → p66_0 ≤ (p7_1 + 1) → p7_2 ≤ (p66_2 - 1) → p7_0 ≤ p66_0 → p7_0 ≤ p66_1 → p7_0 ≤ (p66_2 - 1) → p7_0 ≤ p7_2 → p7_0 ≤ p7_1 → p7_1 ≤ p66_1 → p7_1 ≤ (p66_2 + 9) → p7_1 ≤ (p7_2 + 10) → h x0 0 = p66_2 → h x1 0 = p66_3 → wp l rho (d + 1) 134 66 [(2, x0), (2, x1), (0, p66_0), (0, p66_1), (0, p7_2)] [] h Q := by
        intro p66_0 p66_1 p66_2 p66_3 q0_66_0 q1_66_0 q2_66_0 q3_66_0 q4_66_0 q5_66_0 q6_66_0 q7_66_0 q8_66_0 q9_66_0 q10_66_0 q11_66_0 q12_66_0 q13_66_0 q14_66_0 q15_66_0 q16_66_0 q17_66_0 q18_66_0 q19_66_0 q20_66_0 q21_66_0 q22_66_0 q23_66_0 q24_66_0 ca0_0_66_0 ca1_0_66_0
        refine w_iinc (ls' := [(2, x0), (2, x1), (0, p66_0), (0, p66_1), (0, (p7_2 + 1))]) gz_134_66 rfl gm_134 rfl rfl rfl ⟨by omega, by omega⟩ ?_
        refine w_goto (t := 7) gz_134_69 rfl ?_
        exact ih_7_0 (p66_0) (p66_1) ((p7_2 + 1)) (by omega) (by omega) (by omega) (by omega) (by omega) (by omega) (by omega) (by omega) (by omega) (by omega)
      have J41_0 : ∀ (p41_0 p41_1 p41_2 : Int), p7_0 ≤ 10 → 0 ≤ p41_0 → p41_0 ≤ 11 → p7_2 ≤ 10 → 1 ≤ p41_1 → p41_1 ≤ 11 → 0 ≤ p41_2 → p41_2 ≤ 11 → p7_0 ≤ p41_0 → p7_0 ≤ (p41_1 - 1) → p7_0 ≤ p7_2 → p7_0 ≤ p7_1 → p7_2 ≤ (p41_1 - 1) → p7_1 ≤ p41_0 → p7_1 ≤ (p41_1 + 9) → p7_1 ≤ (p7_2 + 10) → h x0 0 = p41_1 → h x1 0 = p41_2 → wp l rho (d + 1) 134 41 [(2, x0), (2, x1), (0, p7_0), (0, p41_0), (0, p7_2)] [] h Q := by
        intro p41_0 p41_1 p41_2 q0_41_0 q1_41_0 q2_41_0 q3_41_0 q4_41_0 q5_41_0 q6_41_0 q7_41_0 q8_41_0 q9_41_0 q10_41_0 q11_41_0 q12_41_0 q13_41_0 q14_41_0 q15_41_0 ca0_0_41_0 ca1_0_41_0
        refine w_iload_n gz_134_41 rfl ?_
        refine w_aload_n gz_134_42 rfl ?_
        refine v_getI (j := 0) gz_134_43 rfl t1 rd_8 rfl (fun v1 ev1 pv1 qv1 => ?_)
        have zv1 := ev1.trans ca1_0_41_0
        refine w_icge (t := 66) gz_134_46 rfl (fun u2 => ?_) (fun u2 => ?_)
        ·
          exact J66_0 (p7_0) (p41_0) (p41_1) (v1) (by omega) (by omega) (by omega) (by omega) (by omega) (by omega) (by omega) (by omega) (by omega) (by omega) (by omega) (by omega) (by omega) (by omega) (by omega) (by omega) (by omega) (by omega) (by omega) (by omega) (by omega) (by omega) (by omega) (by omega) (by omega) (ca0_0_41_0.trans (by omega)) (ev1.symm.trans (by omega))
        ·
          refine w_aload_n gz_134_49 rfl ?_
          refine w_iload gz_134_50 rfl ?_
          refine w_aload_n gz_134_52 rfl ?_
          refine w_iload_n gz_134_53 rfl ?_
          refine w_inv (k := 2) (as := [(0, p41_0), (2, x1), (0, p7_2)]) (r := []) (x := x0) (ls0 := [(2, x0), (0, p7_2), (2, x1), (0, p41_0), (9, 0), (9, 0)]) gz_134_54 gm_80 rfl t0 rd_8 rfl rfl rfl rfl rfl (c_View_compare (d := d) (x0 := x0) (x1 := p7_2) (x2 := x1) (x3 := p41_0) t0 (by omega) (by omega) (by omega) (by omega) t1 (by omega) (by omega) (by omega) (by omega) ?_ (fun v3 w4 w5 => ?_))
          ·
            show wp l rho (d + 1) 134 57 [(2, x0), (2, x1), (0, p7_0), (0, p41_0), (0, p7_2)] [(0, 0)] h Q
            refine w_ifne (t := 66) gz_134_57 rfl (fun u6 => by exfalso; omega) (fun u6 => ?_)
            refine w_iinc (ls' := [(2, x0), (2, x1), (0, (p7_0 + 1)), (0, p41_0), (0, p7_2)]) gz_134_60 rfl gm_134 rfl rfl rfl ⟨by omega, by omega⟩ ?_
            refine w_iinc (ls' := [(2, x0), (2, x1), (0, (p7_0 + 1)), (0, (p41_0 + 1)), (0, p7_2)]) gz_134_63 rfl gm_134 rfl rfl rfl ⟨by omega, by omega⟩ ?_
            exact J66_0 ((p7_0 + 1)) ((p41_0 + 1)) (p41_1) (v1) (by omega) (by omega) (by omega) (by omega) (by omega) (by omega) (by omega) (by omega) (by omega) (by omega) (by omega) (by omega) (by omega) (by omega) (by omega) (by omega) (by omega) (by omega) (by omega) (by omega) (by omega) (by omega) (by omega) (by omega) (by omega) (ca0_0_41_0.trans (by omega)) (ev1.symm.trans (by omega))
          ·
            show wp l rho (d + 1) 134 57 [(2, x0), (2, x1), (0, p7_0), (0, p41_0), (0, p7_2)] [(0, v3)] h Q
            refine w_ifne (t := 66) gz_134_57 rfl (fun u7 => ?_) (fun u7 => ?_)
            ·
              exact J66_0 (p7_0) (p41_0) (p41_1) (v1) (by omega) (by omega) (by omega) (by omega) (by omega) (by omega) (by omega) (by omega) (by omega) (by omega) (by omega) (by omega) (by omega) (by omega) (by omega) (by omega) (by omega) (by omega) (by omega) (by omega) (by omega) (by omega) (by omega) (by omega) (by omega) (ca0_0_41_0.trans (by omega)) (ev1.symm.trans (by omega))
            ·
              refine w_iinc (ls' := [(2, x0), (2, x1), (0, (p7_0 + 1)), (0, p41_0), (0, p7_2)]) gz_134_60 rfl gm_134 rfl rfl rfl ⟨by omega, by omega⟩ ?_
              refine w_iinc (ls' := [(2, x0), (2, x1), (0, (p7_0 + 1)), (0, (p41_0 + 1)), (0, p7_2)]) gz_134_63 rfl gm_134 rfl rfl rfl ⟨by omega, by omega⟩ ?_
              exact J66_0 ((p7_0 + 1)) ((p41_0 + 1)) (p41_1) (v1) (by omega) (by omega) (by omega) (by omega) (by omega) (by omega) (by omega) (by omega) (by omega) (by omega) (by omega) (by omega) (by omega) (by omega) (by omega) (by omega) (by omega) (by omega) (by omega) (by omega) (by omega) (by omega) (by omega) (by omega) (by omega) (ca0_0_41_0.trans (by omega)) (ev1.symm.trans (by omega))
      have J16_0 : ∀ (n : Nat) (p16_0 p16_1 : Int), p7_0 ≤ 10 → 0 ≤ p16_0 → p16_0 ≤ 11 → p7_2 ≤ 10 → 1 ≤ p16_1 → p16_1 ≤ 11 → p7_0 ≤ p16_0 → p7_0 ≤ (p16_1 - 1) → p7_0 ≤ p7_2 → p7_0 ≤ p7_1 → p7_2 ≤ (p16_1 - 1) → p7_1 ≤ p16_0 → p7_1 ≤ (p16_1 + 9) → p7_1 ≤ (p7_2 + 10) → h x0 0 = p16_1 → 12 - p16_0 ≤ (n : Int) → wp l rho (d + 1) 134 16 [(2, x0), (2, x1), (0, p7_0), (0, p16_0), (0, p7_2)] [] h Q := by
        intro n
        induction n with
        | zero => intro p16_0 p16_1 q0_16_0 q1_16_0 q2_16_0 q3_16_0 q4_16_0 q5_16_0 q6_16_0 q7_16_0 q8_16_0 q9_16_0 q10_16_0 q11_16_0 q12_16_0 q13_16_0 ca0_0_16_0 hm_16_0; exfalso; omega
        | succ n ih_16_0 =>
          intro p16_0 p16_1 q0_16_0 q1_16_0 q2_16_0 q3_16_0 q4_16_0 q5_16_0 q6_16_0 q7_16_0 q8_16_0 q9_16_0 q10_16_0 q11_16_0 q12_16_0 q13_16_0 ca0_0_16_0 hm_16_0
          refine w_iload_n gz_134_16 rfl ?_
          refine w_aload_n gz_134_17 rfl ?_
          refine v_getI (j := 0) gz_134_18 rfl t1 rd_8 rfl (fun v8 ev8 pv8 qv8 => ?_)
          refine w_icge (t := 41) gz_134_21 rfl (fun u9 => ?_) (fun u9 => ?_)
          ·
            exact J41_0 (p16_0) (p16_1) (v8) (by omega) (by omega) (by omega) (by omega) (by omega) (by omega) (by omega) (by omega) (by omega) (by omega) (by omega) (by omega) (by omega) (by omega) (by omega) (by omega) (ca0_0_16_0.trans (by omega)) (ev8.symm.trans (by omega))
          ·
            refine w_aload_n gz_134_24 rfl ?_
            refine w_iload gz_134_25 rfl ?_
            refine w_aload_n gz_134_27 rfl ?_
            refine w_iload_n gz_134_28 rfl ?_
            refine w_inv (k := 2) (as := [(0, p16_0), (2, x1), (0, p7_2)]) (r := []) (x := x0) (ls0 := [(2, x0), (0, p7_2), (2, x1), (0, p16_0), (9, 0), (9, 0)]) gz_134_29 gm_80 rfl t0 rd_8 rfl rfl rfl rfl rfl (c_View_compare (d := d) (x0 := x0) (x1 := p7_2) (x2 := x1) (x3 := p16_0) t0 (by omega) (by omega) (by omega) (by omega) t1 (by omega) (by omega) (by omega) (by omega) ?_ (fun v10 w11 w12 => ?_))
            ·
              show wp l rho (d + 1) 134 32 [(2, x0), (2, x1), (0, p7_0), (0, p16_0), (0, p7_2)] [(0, 0)] h Q
              refine w_ifle (t := 41) gz_134_32 rfl (fun u13 => ?_) (fun u13 => by exfalso; omega)
              exact J41_0 (p16_0) (p16_1) (v8) (by omega) (by omega) (by omega) (by omega) (by omega) (by omega) (by omega) (by omega) (by omega) (by omega) (by omega) (by omega) (by omega) (by omega) (by omega) (by omega) (ca0_0_16_0.trans (by omega)) (ev8.symm.trans (by omega))
            ·
              show wp l rho (d + 1) 134 32 [(2, x0), (2, x1), (0, p7_0), (0, p16_0), (0, p7_2)] [(0, v10)] h Q
              refine w_ifle (t := 41) gz_134_32 rfl (fun u14 => ?_) (fun u14 => ?_)
              ·
                exact J41_0 (p16_0) (p16_1) (v8) (by omega) (by omega) (by omega) (by omega) (by omega) (by omega) (by omega) (by omega) (by omega) (by omega) (by omega) (by omega) (by omega) (by omega) (by omega) (by omega) (ca0_0_16_0.trans (by omega)) (ev8.symm.trans (by omega))
              ·
                refine w_iinc (ls' := [(2, x0), (2, x1), (0, p7_0), (0, (p16_0 + 1)), (0, p7_2)]) gz_134_35 rfl gm_134 rfl rfl rfl ⟨by omega, by omega⟩ ?_
                refine w_goto (t := 16) gz_134_38 rfl ?_
                exact ih_16_0 ((p16_0 + 1)) (p16_1) (by omega) (by omega) (by omega) (by omega) (by omega) (by omega) (by omega) (by omega) (by omega) (by omega) (by omega) (by omega) (by omega) (by omega) (ca0_0_16_0.trans (by omega)) (by omega)
      refine w_iload gz_134_7 rfl ?_
      refine w_aload_n gz_134_9 rfl ?_
      refine v_getI (j := 0) gz_134_10 rfl t0 rd_8 rfl (fun v15 ev15 pv15 qv15 => ?_)
      refine w_icge (t := 72) gz_134_13 rfl (fun u16 => ?_) (fun u16 => ?_)
      ·
        refine w_iload_n gz_134_72 rfl ?_
        exact w_iret gz_134_73 gm_134 (k1 (p7_0) (by omega) (by omega))
      ·
        exact J16_0 12 (p7_1) (v15) (by omega) (by omega) (by omega) (by omega) (by omega) (by omega) (by omega) (by omega) (by omega) (by omega) (by omega) (by omega) (by omega) (by omega) (ev15.symm.trans (by omega)) (by omega)
  refine w_iconst gz_134_0 (by decide) ?_
  refine w_istore_n (ls' := [(2, x0), (2, x1), (0, 0), (9, 0), (9, 0)]) gz_134_1 gm_134 rfl rfl rfl ?_
  refine w_iconst gz_134_2 (by decide) ?_
  refine w_istore_n (ls' := [(2, x0), (2, x1), (0, 0), (0, 0), (9, 0)]) gz_134_3 gm_134 rfl rfl rfl ?_
  refine w_iconst gz_134_4 (by decide) ?_
  refine w_istore (ls' := [(2, x0), (2, x1), (0, 0), (0, 0), (0, 0)]) gz_134_5 gm_134 rfl rfl rfl ?_
  exact J7_0 12 (0) (0) (0) (by omega) (by omega) (by omega) (by omega) (by omega) (by omega) (by omega) (by omega) (by omega) (by omega)
theorem c_ThroughWindow_cuts {l : Launch} {rho : Nat → Int32} {d : Nat} {h : my_H} {Q : my_H → my_V → Prop} {x1 x2 x3 : Int} (k0 : ∀ (h' : my_H), my_fr [(1, 3), (1, 4), (1, 5), (1, 6)] h h' → Q h' (0, (-1))) (k1 : ∀ (h' : my_H), my_fr [(1, 3), (1, 4), (1, 5), (1, 6)] h h' → 0 ≤ x1 → x1 ≤ 2 → 0 ≤ x2 → x2 ≤ 2147483646 → 0 ≤ x3 → x3 ≤ 0 → Q h' (0, 0)) (k2 : ∀ (h' : my_H) (y : Int), my_fr [(1, 3), (1, 4), (1, 5), (1, 6)] h h' → 0 ≤ x1 → x1 ≤ 2 → 0 ≤ x2 → x2 ≤ 2147483646 → 0 ≤ x3 → x3 ≤ 3 → Q h' (0, y)) : wp l rho (d + 3) 135 0 [(2, 0), (0, x1), (0, x2), (0, x3)] [] h Q := by
  refine w_aload_n gz_135_0 rfl ?_
  refine w_getX (v := 1) gz_135_1 is_0 rd_9 rfl (by decide) rfl ?_
  refine w_iload_n gz_135_4 rfl ?_
  refine w_inv (k := 0) (as := [(0, x1)]) (r := []) (x := 1) (ls0 := [(2, 1), (0, x1)]) gz_135_5 gm_13 rfl is_1 rd_3 rfl rfl rfl rfl rfl ?_
  refine w_iload_n gz_13_0 rfl ?_
  refine w_iflt (t := 22) gz_13_1 rfl (fun u2 => ?_) (fun u2 => ?_)
  ·
    refine w_iconst gz_13_22 (by decide) ?_
    refine w_bret gz_13_23 gm_13 (by omega) (by omega) ?_
    show wp l rho (d + 3) 135 8 [(2, 0), (0, x1), (0, x2), (0, x3)] [(0, 0)] h Q
    refine w_ifeq (t := 39) gz_135_8 rfl (fun u3 => ?_) (fun u3 => by exfalso; omega)
    refine w_iconst gz_135_39 (by decide) ?_
    exact w_iret gz_135_40 gm_135 (k0 h (my_fr.rf))
  ·
    refine w_iload_n gz_13_4 rfl ?_
    refine w_iconst gz_13_5 (by decide) ?_
    refine w_icge (t := 22) gz_13_6 rfl (fun u4 => ?_) (fun u4 => ?_)
    ·
      refine w_iconst gz_13_22 (by decide) ?_
      refine w_bret gz_13_23 gm_13 (by omega) (by omega) ?_
      show wp l rho (d + 3) 135 8 [(2, 0), (0, x1), (0, x2), (0, x3)] [(0, 0)] h Q
      refine w_ifeq (t := 39) gz_135_8 rfl (fun u5 => ?_) (fun u5 => by exfalso; omega)
      refine w_iconst gz_135_39 (by decide) ?_
      exact w_iret gz_135_40 gm_135 (k0 h (my_fr.rf))
    ·
      refine w_aload_n gz_13_9 rfl ?_
      refine w_getX (v := 2) gz_13_10 is_1 rd_3 rfl (by decide) rfl ?_
      refine w_iload_n gz_13_13 rfl ?_
      refine w_iald gz_13_14 is_2 rd_25 (by omega) (by omega) (fun v7 ev7 pv7 qv7 => ?_)
      refine w_ifle (t := 22) gz_13_15 rfl (fun u8 => ?_) (fun u8 => ?_)
      ·
        refine w_iconst gz_13_22 (by decide) ?_
        refine w_bret gz_13_23 gm_13 (by omega) (by omega) ?_
        show wp l rho (d + 3) 135 8 [(2, 0), (0, x1), (0, x2), (0, x3)] [(0, 0)] h Q
        refine w_ifeq (t := 39) gz_135_8 rfl (fun u9 => ?_) (fun u9 => by exfalso; omega)
        refine w_iconst gz_135_39 (by decide) ?_
        exact w_iret gz_135_40 gm_135 (k0 h (my_fr.rf))
      ·
        refine w_iconst gz_13_18 (by decide) ?_
        refine w_goto (t := 23) gz_13_19 rfl ?_
        refine w_bret gz_13_23 gm_13 (by omega) (by omega) ?_
        show wp l rho (d + 3) 135 8 [(2, 0), (0, x1), (0, x2), (0, x3)] [(0, 1)] h Q
        refine w_ifeq (t := 39) gz_135_8 rfl (fun u10 => by exfalso; omega) (fun u10 => ?_)
        refine w_iload_n gz_135_11 rfl ?_
        refine w_iflt (t := 39) gz_135_12 rfl (fun u11 => ?_) (fun u11 => ?_)
        ·
          refine w_iconst gz_135_39 (by decide) ?_
          exact w_iret gz_135_40 gm_135 (k0 h (my_fr.rf))
        ·
          refine w_iload_n gz_135_15 rfl ?_
          refine w_iconst gz_135_16 (by decide) ?_
          refine w_aload_n gz_135_17 rfl ?_
          refine w_getX (v := 7) gz_135_18 is_0 rd_9 rfl (by decide) rfl ?_
          refine w_getX (v := 9) gz_135_21 is_7 rd_6 rfl (by decide) rfl ?_
          refine w_iload_n gz_135_24 rfl ?_
          refine w_iald gz_135_25 is_9 rd_31 (by omega) (by omega) (fun v14 ev14 pv14 qv14 => ?_)
          refine w_ianyL gz_135_26 (fun v15 pv15 qv15 => ?_)
          refine w_icge (t := 39) gz_135_27 rfl (fun u16 => ?_) (fun u16 => ?_)
          ·
            refine w_iconst gz_135_39 (by decide) ?_
            exact w_iret gz_135_40 gm_135 (k0 h (my_fr.rf))
          ·
            refine w_iload_n gz_135_30 rfl ?_
            refine w_iflt (t := 39) gz_135_31 rfl (fun u17 => ?_) (fun u17 => ?_)
            ·
              refine w_iconst gz_135_39 (by decide) ?_
              exact w_iret gz_135_40 gm_135 (k0 h (my_fr.rf))
            ·
              refine w_iload_n gz_135_34 rfl ?_
              refine w_iconst gz_135_35 (by decide) ?_
              refine w_icle (t := 41) gz_135_36 rfl (fun u18 => ?_) (fun u18 => ?_)
              ·
                refine w_aload_n gz_135_41 rfl ?_
                refine w_getX (v := 114) gz_135_42 is_0 rd_9 rfl (by decide) rfl ?_
                refine w_aload_n gz_135_45 rfl ?_
                refine w_getX (v := 7) gz_135_46 is_0 rd_9 rfl (by decide) rfl ?_
                refine w_iload_n gz_135_49 rfl ?_
                refine w_aload_n gz_135_50 rfl ?_
                refine w_getX (v := 7) gz_135_51 is_0 rd_9 rfl (by decide) rfl ?_
                refine w_iload_n gz_135_54 rfl ?_
                refine w_iload_n gz_135_55 rfl ?_
                refine w_inv (k := 3) (as := [(0, x2), (0, x1)]) (r := [(0, x1), (2, 7), (2, 114)]) (x := 7) (ls0 := [(2, 7), (0, x1), (0, x2), (9, 0), (9, 0), (9, 0)]) gz_135_56 gm_121 rfl is_7 rd_6 rfl rfl rfl rfl rfl (c_Rows_keysOf (d := (d + 1)) (x0 := 7) (x1 := x1) (x2 := x2) is_7 (by omega) (by omega) (by omega) (by omega) (fun v22 => ?_))
                show wp l rho (d + 3) 135 59 [(2, 0), (0, x1), (0, x2), (0, x3)] [(0, v22), (0, x1), (2, 7), (2, 114)] h Q
                refine w_inv (k := 3) (as := [(0, v22), (0, x1), (2, 7)]) (r := []) (x := 114) (ls0 := [(2, 114), (2, 7), (0, x1), (0, v22), (9, 0), (9, 0), (9, 0)]) gz_135_59 gm_136 rfl is_114 rd_1 rfl rfl rfl rfl rfl (c_Cutter_findCuts (d := d) (x1 := 7) (x2 := x1) (x3 := v22) is_7 (by omega) (by omega) (fun h23 frh23 w24 w25 w26 w27 w28 w29 => ?_))
                have gh23 : my_fr [(1, 3), (1, 4), (1, 5), (1, 6)] h h23 := my_fr.tr my_fr.rf (frh23.mo rfl)
                show wp l rho (d + 3) 135 62 [(2, 0), (0, x1), (0, x2), (0, x3)] [] h23 Q
                refine w_iload_n gz_135_62 rfl ?_
                by_cases u30 : x3 = 0
                ·
                  refine w_tswE (t := 88) gz_135_63 u30 (by decide) (by decide) rfl rfl ?_
                  refine w_aload_n gz_135_88 rfl ?_
                  refine w_getX (v := 114) gz_135_89 is_0 rd_9 rfl (by decide) rfl ?_
                  refine v_getI (j := 3) gz_135_92 rfl is_114 rd_1 rfl (fun v32 ev32 pv32 qv32 => ?_)
                  exact w_iret gz_135_95 gm_135 (k2 h23 (v32) (gh23) (by omega) (by omega) (by omega) (by omega) (by omega) (by omega))
                ·
                  by_cases u33 : x3 = 1
                  ·
                    refine w_tswE (t := 96) gz_135_63 u33 (by decide) (by decide) rfl rfl ?_
                    refine w_aload_n gz_135_96 rfl ?_
                    refine w_getX (v := 114) gz_135_97 is_0 rd_9 rfl (by decide) rfl ?_
                    refine v_getI (j := 4) gz_135_100 rfl is_114 rd_1 rfl (fun v35 ev35 pv35 qv35 => ?_)
                    have zv35 := ev35.trans (rfl : h23 114 4 = h23 114 4)
                    exact w_iret gz_135_103 gm_135 (k2 h23 (v35) (gh23) (by omega) (by omega) (by omega) (by omega) (by omega) (by omega))
                  ·
                    by_cases u36 : x3 = 2
                    ·
                      refine w_tswE (t := 104) gz_135_63 u36 (by decide) (by decide) rfl rfl ?_
                      refine w_aload_n gz_135_104 rfl ?_
                      refine w_getX (v := 114) gz_135_105 is_0 rd_9 rfl (by decide) rfl ?_
                      refine v_getI (j := 5) gz_135_108 rfl is_114 rd_1 rfl (fun v38 ev38 pv38 qv38 => ?_)
                      have zv38 := ev38.trans (rfl : h23 114 5 = h23 114 5)
                      exact w_iret gz_135_111 gm_135 (k2 h23 (v38) (gh23) (by omega) (by omega) (by omega) (by omega) (by omega) (by omega))
                    ·
                      refine w_tswD (t := 112) gz_135_63 (by omega) rfl ?_
                      refine w_aload_n gz_135_112 rfl ?_
                      refine w_getX (v := 114) gz_135_113 is_0 rd_9 rfl (by decide) rfl ?_
                      refine v_getI (j := 6) gz_135_116 rfl is_114 rd_1 rfl (fun v40 ev40 pv40 qv40 => ?_)
                      have zv40 := ev40.trans (rfl : h23 114 6 = h23 114 6)
                      exact w_iret gz_135_119 gm_135 (k2 h23 (v40) (gh23) (by omega) (by omega) (by omega) (by omega) (by omega) (by omega))
              ·
                refine w_iconst gz_135_39 (by decide) ?_
                exact w_iret gz_135_40 gm_135 (k0 h (my_fr.rf))
theorem c_ThroughWindow_moves {l : Launch} {rho : Nat → Int32} {d : Nat} {h : my_H} {Q : my_H → my_V → Prop} {x1 x2 x3 x4 : Int} (k0 : Q h (0, (-1))) (k1 : ∀ (y : Int), 0 ≤ y → y ≤ 20 → 0 ≤ x1 → x1 ≤ 2 → 0 ≤ x2 → x2 ≤ 3 → 0 ≤ x3 → x3 ≤ 19 → 0 ≤ x4 → x4 ≤ 19 → Q h (0, y)) : wp l rho (d + 2) 137 0 [(2, 0), (0, x1), (0, x2), (0, x3), (0, x4)] [] h Q := by
  refine w_aload_n gz_137_0 rfl ?_
  refine w_getX (v := 1) gz_137_1 is_0 rd_9 rfl (by decide) rfl ?_
  refine w_iload_n gz_137_4 rfl ?_
  refine w_iload_n gz_137_5 rfl ?_
  refine w_inv (k := 0) (as := [(0, x2), (0, x1)]) (r := []) (x := 1) (ls0 := [(2, 1), (0, x1), (0, x2)]) gz_137_6 gm_27 rfl is_1 rd_3 rfl rfl rfl rfl rfl ?_
  refine w_aload_n gz_27_0 rfl ?_
  refine w_iload_n gz_27_1 rfl ?_
  refine w_inv (k := 0) (as := [(0, x1)]) (r := []) (x := 1) (ls0 := [(2, 1), (0, x1)]) gz_27_2 gm_13 rfl is_1 rd_3 rfl rfl rfl rfl rfl ?_
  refine w_iload_n gz_13_0 rfl ?_
  refine w_iflt (t := 22) gz_13_1 rfl (fun u2 => ?_) (fun u2 => ?_)
  ·
    refine w_iconst gz_13_22 (by decide) ?_
    refine w_bret gz_13_23 gm_13 (by omega) (by omega) ?_
    show wp l rho (d + 1) 27 5 [(2, 1), (0, x1), (0, x2)] [(0, 0)] h _
    refine w_ifeq (t := 26) gz_27_5 rfl (fun u3 => ?_) (fun u3 => by exfalso; omega)
    refine w_iconst gz_27_26 (by decide) ?_
    refine w_bret gz_27_27 gm_27 (by omega) (by omega) ?_
    show wp l rho (d + 2) 137 9 [(2, 0), (0, x1), (0, x2), (0, x3), (0, x4)] [(0, 0)] h Q
    refine w_ifeq (t := 21) gz_137_9 rfl (fun u4 => ?_) (fun u4 => by exfalso; omega)
    refine w_iconst gz_137_21 (by decide) ?_
    exact w_iret gz_137_22 gm_137 (k0 )
  ·
    refine w_iload_n gz_13_4 rfl ?_
    refine w_iconst gz_13_5 (by decide) ?_
    refine w_icge (t := 22) gz_13_6 rfl (fun u5 => ?_) (fun u5 => ?_)
    ·
      refine w_iconst gz_13_22 (by decide) ?_
      refine w_bret gz_13_23 gm_13 (by omega) (by omega) ?_
      show wp l rho (d + 1) 27 5 [(2, 1), (0, x1), (0, x2)] [(0, 0)] h _
      refine w_ifeq (t := 26) gz_27_5 rfl (fun u6 => ?_) (fun u6 => by exfalso; omega)
      refine w_iconst gz_27_26 (by decide) ?_
      refine w_bret gz_27_27 gm_27 (by omega) (by omega) ?_
      show wp l rho (d + 2) 137 9 [(2, 0), (0, x1), (0, x2), (0, x3), (0, x4)] [(0, 0)] h Q
      refine w_ifeq (t := 21) gz_137_9 rfl (fun u7 => ?_) (fun u7 => by exfalso; omega)
      refine w_iconst gz_137_21 (by decide) ?_
      exact w_iret gz_137_22 gm_137 (k0 )
    ·
      refine w_aload_n gz_13_9 rfl ?_
      refine w_getX (v := 2) gz_13_10 is_1 rd_3 rfl (by decide) rfl ?_
      refine w_iload_n gz_13_13 rfl ?_
      refine w_iald gz_13_14 is_2 rd_25 (by omega) (by omega) (fun v9 ev9 pv9 qv9 => ?_)
      refine w_ifle (t := 22) gz_13_15 rfl (fun u10 => ?_) (fun u10 => ?_)
      ·
        refine w_iconst gz_13_22 (by decide) ?_
        refine w_bret gz_13_23 gm_13 (by omega) (by omega) ?_
        show wp l rho (d + 1) 27 5 [(2, 1), (0, x1), (0, x2)] [(0, 0)] h _
        refine w_ifeq (t := 26) gz_27_5 rfl (fun u11 => ?_) (fun u11 => by exfalso; omega)
        refine w_iconst gz_27_26 (by decide) ?_
        refine w_bret gz_27_27 gm_27 (by omega) (by omega) ?_
        show wp l rho (d + 2) 137 9 [(2, 0), (0, x1), (0, x2), (0, x3), (0, x4)] [(0, 0)] h Q
        refine w_ifeq (t := 21) gz_137_9 rfl (fun u12 => ?_) (fun u12 => by exfalso; omega)
        refine w_iconst gz_137_21 (by decide) ?_
        exact w_iret gz_137_22 gm_137 (k0 )
      ·
        refine w_iconst gz_13_18 (by decide) ?_
        refine w_goto (t := 23) gz_13_19 rfl ?_
        refine w_bret gz_13_23 gm_13 (by omega) (by omega) ?_
        show wp l rho (d + 1) 27 5 [(2, 1), (0, x1), (0, x2)] [(0, 1)] h _
        refine w_ifeq (t := 26) gz_27_5 rfl (fun u13 => by exfalso; omega) (fun u13 => ?_)
        refine w_iload_n gz_27_8 rfl ?_
        refine w_iflt (t := 26) gz_27_9 rfl (fun u14 => ?_) (fun u14 => ?_)
        ·
          refine w_iconst gz_27_26 (by decide) ?_
          refine w_bret gz_27_27 gm_27 (by omega) (by omega) ?_
          show wp l rho (d + 2) 137 9 [(2, 0), (0, x1), (0, x2), (0, x3), (0, x4)] [(0, 0)] h Q
          refine w_ifeq (t := 21) gz_137_9 rfl (fun u15 => ?_) (fun u15 => by exfalso; omega)
          refine w_iconst gz_137_21 (by decide) ?_
          exact w_iret gz_137_22 gm_137 (k0 )
        ·
          refine w_iload_n gz_27_12 rfl ?_
          refine w_aload_n gz_27_13 rfl ?_
          refine w_getX (v := 2) gz_27_14 is_1 rd_3 rfl (by decide) rfl ?_
          refine w_iload_n gz_27_17 rfl ?_
          refine w_iald gz_27_18 is_2 rd_25 (by omega) (by omega) (fun v17 ev17 pv17 qv17 => ?_)
          have zv17 := ev17.trans ev9.symm
          refine w_icge (t := 26) gz_27_19 rfl (fun u18 => ?_) (fun u18 => ?_)
          ·
            refine w_iconst gz_27_26 (by decide) ?_
            refine w_bret gz_27_27 gm_27 (by omega) (by omega) ?_
            show wp l rho (d + 2) 137 9 [(2, 0), (0, x1), (0, x2), (0, x3), (0, x4)] [(0, 0)] h Q
            refine w_ifeq (t := 21) gz_137_9 rfl (fun u19 => ?_) (fun u19 => by exfalso; omega)
            refine w_iconst gz_137_21 (by decide) ?_
            exact w_iret gz_137_22 gm_137 (k0 )
          ·
            refine w_iconst gz_27_22 (by decide) ?_
            refine w_goto (t := 27) gz_27_23 rfl ?_
            refine w_bret gz_27_27 gm_27 (by omega) (by omega) ?_
            show wp l rho (d + 2) 137 9 [(2, 0), (0, x1), (0, x2), (0, x3), (0, x4)] [(0, 1)] h Q
            refine w_ifeq (t := 21) gz_137_9 rfl (fun u20 => by exfalso; omega) (fun u20 => ?_)
            refine w_iload_n gz_137_12 rfl ?_
            refine w_iload gz_137_13 rfl ?_
            refine w_inS (k := 0) (as := [(0, x4), (0, x3)]) (r := []) (ls0 := [(0, x3), (0, x4)]) gz_137_15 gm_28 rfl rfl rfl rfl rfl rfl ?_
            refine w_iload_n gz_28_0 rfl ?_
            refine w_iflt (t := 19) gz_28_1 rfl (fun u21 => ?_) (fun u21 => ?_)
            ·
              refine w_iconst gz_28_19 (by decide) ?_
              refine w_bret gz_28_20 gm_28 (by omega) (by omega) ?_
              show wp l rho (d + 2) 137 18 [(2, 0), (0, x1), (0, x2), (0, x3), (0, x4)] [(0, 0)] h Q
              refine w_ifne (t := 23) gz_137_18 rfl (fun u22 => by exfalso; omega) (fun u22 => ?_)
              refine w_iconst gz_137_21 (by decide) ?_
              exact w_iret gz_137_22 gm_137 (k0 )
            ·
              refine w_iload_n gz_28_4 rfl ?_
              refine w_iload_n gz_28_5 rfl ?_
              refine w_icgt (t := 19) gz_28_6 rfl (fun u23 => ?_) (fun u23 => ?_)
              ·
                refine w_iconst gz_28_19 (by decide) ?_
                refine w_bret gz_28_20 gm_28 (by omega) (by omega) ?_
                show wp l rho (d + 2) 137 18 [(2, 0), (0, x1), (0, x2), (0, x3), (0, x4)] [(0, 0)] h Q
                refine w_ifne (t := 23) gz_137_18 rfl (fun u24 => by exfalso; omega) (fun u24 => ?_)
                refine w_iconst gz_137_21 (by decide) ?_
                exact w_iret gz_137_22 gm_137 (k0 )
              ·
                refine w_iload_n gz_28_9 rfl ?_
                refine w_bipush gz_28_10 (by decide) ?_
                refine w_icge (t := 19) gz_28_12 rfl (fun u25 => ?_) (fun u25 => ?_)
                ·
                  refine w_iconst gz_28_19 (by decide) ?_
                  refine w_bret gz_28_20 gm_28 (by omega) (by omega) ?_
                  show wp l rho (d + 2) 137 18 [(2, 0), (0, x1), (0, x2), (0, x3), (0, x4)] [(0, 0)] h Q
                  refine w_ifne (t := 23) gz_137_18 rfl (fun u26 => by exfalso; omega) (fun u26 => ?_)
                  refine w_iconst gz_137_21 (by decide) ?_
                  exact w_iret gz_137_22 gm_137 (k0 )
                ·
                  refine w_iconst gz_28_15 (by decide) ?_
                  refine w_goto (t := 20) gz_28_16 rfl ?_
                  refine w_bret gz_28_20 gm_28 (by omega) (by omega) ?_
                  show wp l rho (d + 2) 137 18 [(2, 0), (0, x1), (0, x2), (0, x3), (0, x4)] [(0, 1)] h Q
                  refine w_ifne (t := 23) gz_137_18 rfl (fun u27 => ?_) (fun u27 => by exfalso; omega)
                  refine w_aload_n gz_137_23 rfl ?_
                  refine w_getX (v := 7) gz_137_24 is_0 rd_9 rfl (by decide) rfl ?_
                  refine w_iload_n gz_137_27 rfl ?_
                  refine w_iload_n gz_137_28 rfl ?_
                  refine w_iload_n gz_137_29 rfl ?_
                  refine w_iload gz_137_30 rfl ?_
                  refine w_inv (k := 3) (as := [(0, x4), (0, x3), (0, x2), (0, x1)]) (r := []) (x := 7) (ls0 := [(2, 7), (0, x1), (0, x2), (0, x3), (0, x4), (9, 0), (9, 0), (9, 0)]) gz_137_32 gm_20 rfl is_7 rd_6 rfl rfl rfl rfl rfl (c_Rows_outside (d := d) (x0 := 7) (x1 := x1) (x2 := x2) (x3 := x3) (x4 := x4) is_7 (by omega) (by omega) (by omega) (by omega) (by omega) (by omega) (by omega) (by omega) (fun v29 w30 w31 => ?_))
                  show wp l rho (d + 2) 137 35 [(2, 0), (0, x1), (0, x2), (0, x3), (0, x4)] [(0, v29)] h Q
                  exact w_iret gz_137_35 gm_137 (k1 (v29) (by omega) (by omega) (by omega) (by omega) (by omega) (by omega) (by omega) (by omega) (by omega) (by omega))
theorem c_ThroughWindow_count {l : Launch} {rho : Nat → Int32} {d : Nat} {h : my_H} {Q : my_H → my_V → Prop} {x1 : Int} (k0 : Q h (0, (-1))) (k1 : ∀ (y : Int), 0 ≤ x1 → x1 ≤ 5 → Q h (0, y)) : wp l rho (d + 1) 139 0 [(2, 0), (0, x1)] [] h Q := by
  have J34_0 : wp l rho (d + 1) 139 34 [(2, 0), (0, x1)] [] h Q := by
    refine w_iload_n gz_139_34 rfl ?_
    by_cases u1 : x1 = 3
    ·
      refine w_tswE (t := 60) gz_139_35 u1 (by decide) (by decide) rfl rfl ?_
      refine w_aload_n gz_139_60 rfl ?_
      refine w_inv (k := 2) (as := []) (r := []) (x := 0) (ls0 := [(2, 0), (9, 0), (9, 0)]) gz_139_61 gm_140 rfl is_0 rd_9 rfl rfl rfl rfl rfl (c_ThroughWindow_countTold (d := d)   (fun v2 w3 w4 => ?_))
      show wp l rho (d + 1) 139 64 [(2, 0), (0, x1)] [(0, v2)] h Q
      exact w_iret gz_139_64 gm_139 (k1 (v2) (by omega) (by omega))
    ·
      by_cases u5 : x1 = 4
      ·
        refine w_tswE (t := 65) gz_139_35 u5 (by decide) (by decide) rfl rfl ?_
        refine w_aload_n gz_139_65 rfl ?_
        refine w_getX (v := 82) gz_139_66 is_0 rd_9 rfl (by decide) rfl ?_
        refine v_getI (j := 4) gz_139_69 rfl is_82 rd_5 rfl (fun v7 ev7 pv7 qv7 => ?_)
        exact w_iret gz_139_72 gm_139 (k1 (v7) (by omega) (by omega))
      ·
        by_cases u8 : x1 = 5
        ·
          refine w_tswE (t := 73) gz_139_35 u8 (by decide) (by decide) rfl rfl ?_
          refine w_aload_n gz_139_73 rfl ?_
          refine w_getX (v := 7) gz_139_74 is_0 rd_9 rfl (by decide) rfl ?_
          refine w_inv (k := 2) (as := []) (r := []) (x := 7) (ls0 := [(2, 7), (9, 0), (9, 0)]) gz_139_77 gm_141 rfl is_7 rd_6 rfl rfl rfl rfl rfl (c_Rows_sumOfValues (d := d) (x0 := 7) is_7 (fun v10 => ?_))
          show wp l rho (d + 1) 139 80 [(2, 0), (0, x1)] [(0, v10)] h Q
          exact w_iret gz_139_80 gm_139 (k1 (v10) (by omega) (by omega))
        ·
          refine w_tswD (t := 81) gz_139_35 (by omega) rfl ?_
          refine w_iconst gz_139_81 (by decide) ?_
          exact w_iret gz_139_82 gm_139 (k0 )
  refine w_iload_n gz_139_0 rfl ?_
  refine w_iflt (t := 34) gz_139_1 rfl (fun u11 => ?_) (fun u11 => ?_)
  ·
    exact J34_0 
  ·
    refine w_iload_n gz_139_4 rfl ?_
    refine w_iconst gz_139_5 (by decide) ?_
    refine w_icge (t := 34) gz_139_6 rfl (fun u12 => ?_) (fun u12 => ?_)
    ·
      exact J34_0 
    ·
      refine w_aload_n gz_139_9 rfl ?_
      refine w_getX (v := 1) gz_139_10 is_0 rd_9 rfl (by decide) rfl ?_
      refine w_iload_n gz_139_13 rfl ?_
      refine w_inv (k := 0) (as := [(0, x1)]) (r := []) (x := 1) (ls0 := [(2, 1), (0, x1)]) gz_139_14 gm_13 rfl is_1 rd_3 rfl rfl rfl rfl rfl ?_
      refine w_iload_n gz_13_0 rfl ?_
      refine w_iflt (t := 22) gz_13_1 rfl (fun u14 => by exfalso; omega) (fun u14 => ?_)
      refine w_iload_n gz_13_4 rfl ?_
      refine w_iconst gz_13_5 (by decide) ?_
      refine w_icge (t := 22) gz_13_6 rfl (fun u15 => by exfalso; omega) (fun u15 => ?_)
      refine w_aload_n gz_13_9 rfl ?_
      refine w_getX (v := 2) gz_13_10 is_1 rd_3 rfl (by decide) rfl ?_
      refine w_iload_n gz_13_13 rfl ?_
      refine w_iald gz_13_14 is_2 rd_25 (by omega) (by omega) (fun v17 ev17 pv17 qv17 => ?_)
      refine w_ifle (t := 22) gz_13_15 rfl (fun u18 => ?_) (fun u18 => ?_)
      ·
        refine w_iconst gz_13_22 (by decide) ?_
        refine w_bret gz_13_23 gm_13 (by omega) (by omega) ?_
        show wp l rho (d + 1) 139 17 [(2, 0), (0, x1)] [(0, 0)] h Q
        refine w_ifeq (t := 32) gz_139_17 rfl (fun u19 => ?_) (fun u19 => by exfalso; omega)
        refine w_iconst gz_139_32 (by decide) ?_
        exact w_iret gz_139_33 gm_139 (k0 )
      ·
        refine w_iconst gz_13_18 (by decide) ?_
        refine w_goto (t := 23) gz_13_19 rfl ?_
        refine w_bret gz_13_23 gm_13 (by omega) (by omega) ?_
        show wp l rho (d + 1) 139 17 [(2, 0), (0, x1)] [(0, 1)] h Q
        refine w_ifeq (t := 32) gz_139_17 rfl (fun u20 => by exfalso; omega) (fun u20 => ?_)
        refine w_aload_n gz_139_20 rfl ?_
        refine w_getX (v := 7) gz_139_21 is_0 rd_9 rfl (by decide) rfl ?_
        refine w_getX (v := 9) gz_139_24 is_7 rd_6 rfl (by decide) rfl ?_
        refine w_iload_n gz_139_27 rfl ?_
        refine w_iald gz_139_28 is_9 rd_31 (by omega) (by omega) (fun v23 ev23 pv23 qv23 => ?_)
        refine w_goto (t := 33) gz_139_29 rfl ?_
        exact w_iret gz_139_33 gm_139 (k1 (v23) (by omega) (by omega))
theorem c_Model_feed {l : Launch} {rho : Nat → Int32} {d : Nat} {h : my_H} {Q : my_H → my_V → Prop} {x1 x2 x3 : Int} (k0 : ∀ (h' : my_H) (y : Int), my_fr [(10, 0), (10, 2), (51, -1)] h h' → 0 ≤ y → y ≤ 1000 → h' 151 0 = 0 → Q h' (0, y)) : wp l rho (d + 1) 143 0 [(2, 151), (1, x1), (9, 0), (1, x2), (9, 0), (1, x3), (9, 0)] [] h Q := by
  refine w_aload_n gz_143_0 rfl ?_
  refine w_iconst gz_143_1 (by decide) ?_
  refine v_putI (j := 0) gz_143_2 rfl is_151 rd_10 rfl (by omega) (by omega) rfl (fun h1 fh1 => ?_)
  have gh1 : my_fr [(10, 0), (10, 2), (51, -1)] h h1 := my_fr.up my_fr.rf is_151 fh1 rfl
  refine w_aload_n gz_143_5 rfl ?_
  refine w_lload_n gz_143_6 rfl ?_
  refine w_inv (k := 2) (as := [(1, x1)]) (r := []) (x := 151) (ls0 := [(2, 151), (1, x1), (9, 0), (9, 0), (9, 0)]) gz_143_7 gm_144 rfl is_151 rd_10 rfl rfl rfl rfl rfl (c_Model_lay (d := d) (x1 := x1)  (fun h2 frh2 => ?_))
  have gh2 : my_fr [(10, 0), (10, 2), (51, -1)] h h2 := my_fr.tr gh1 (frh2.mo rfl)
  show wp l rho (d + 1) 143 10 [(2, 151), (1, x1), (9, 0), (1, x2), (9, 0), (1, x3), (9, 0)] [] h2 Q
  refine w_aload_n gz_143_10 rfl ?_
  refine w_lload_n gz_143_11 rfl ?_
  refine w_inv (k := 2) (as := [(1, x2)]) (r := []) (x := 151) (ls0 := [(2, 151), (1, x2), (9, 0), (9, 0), (9, 0)]) gz_143_12 gm_144 rfl is_151 rd_10 rfl rfl rfl rfl rfl (c_Model_lay (d := d) (x1 := x2)  (fun h3 frh3 => ?_))
  have gh3 : my_fr [(10, 0), (10, 2), (51, -1)] h h3 := my_fr.tr gh2 (frh3.mo rfl)
  show wp l rho (d + 1) 143 15 [(2, 151), (1, x1), (9, 0), (1, x2), (9, 0), (1, x3), (9, 0)] [] h3 Q
  refine w_aload_n gz_143_15 rfl ?_
  refine w_lload gz_143_16 rfl ?_
  refine w_inv (k := 2) (as := [(1, x3)]) (r := []) (x := 151) (ls0 := [(2, 151), (1, x3), (9, 0), (9, 0), (9, 0)]) gz_143_18 gm_144 rfl is_151 rd_10 rfl rfl rfl rfl rfl (c_Model_lay (d := d) (x1 := x3)  (fun h4 frh4 => ?_))
  have gh4 : my_fr [(10, 0), (10, 2), (51, -1)] h h4 := my_fr.tr gh3 (frh4.mo rfl)
  show wp l rho (d + 1) 143 21 [(2, 151), (1, x1), (9, 0), (1, x2), (9, 0), (1, x3), (9, 0)] [] h4 Q
  refine w_aload_n gz_143_21 rfl ?_
  refine v_getI (j := 2) gz_143_22 rfl is_151 rd_10 rfl (fun v5 ev5 pv5 qv5 => ?_)
  have c6 := ((my_fr.at frh4 is_151 rfl).trans ((my_fr.at frh3 is_151 rfl).trans ((my_fr.at frh2 is_151 rfl).trans (my_up_self fh1))))
  exact w_iret gz_143_25 gm_143 (k0 h4 (v5) (gh4) (by omega) (by omega) (by omega))
theorem c_Model_isLawful {l : Launch} {rho : Nat → Int32} {d : Nat} {h : my_H} {Q : my_H → my_V → Prop} {x1 : Int} (a1 : 0 ≤ x1) (b1 : x1 ≤ 15) (k0 : Q h (0, 0)) (k1 : Q h (0, 1)) : wp l rho (d + 3) 155 0 [(2, 151), (0, x1), (9, 0), (9, 0)] [] h Q := by
  have J2_0 : ∀ (n : Nat) (p2_0 : Int), 0 ≤ p2_0 → p2_0 ≤ 3 → 4 - p2_0 ≤ (n : Int) → wp l rho (d + 3) 155 2 [(2, 151), (0, x1), (0, p2_0), (9, 0)] [] h Q := by
    intro n
    induction n with
    | zero => intro p2_0 q0_2_0 q1_2_0 hm_2_0; exfalso; omega
    | succ n ih_2_0 =>
      intro p2_0 q0_2_0 q1_2_0 hm_2_0
      have J9_0 : ∀ (n : Nat) (p9_0 : Int), p2_0 ≤ 2 → 0 ≤ p9_0 → p9_0 ≤ 20 → 21 - p9_0 ≤ (n : Int) → wp l rho (d + 3) 155 9 [(2, 151), (0, x1), (0, p2_0), (0, p9_0)] [] h Q := by
        intro n
        induction n with
        | zero => intro p9_0 q0_9_0 q1_9_0 q2_9_0 hm_9_0; exfalso; omega
        | succ n ih_9_0 =>
          intro p9_0 q0_9_0 q1_9_0 q2_9_0 hm_9_0
          have J41_0 : p9_0 ≤ 19 → wp l rho (d + 3) 155 41 [(2, 151), (0, x1), (0, p2_0), (0, p9_0)] [] h Q := by
            intro q0_41_0
            refine w_iinc (ls' := [(2, 151), (0, x1), (0, p2_0), (0, (p9_0 + 1))]) gz_155_41 rfl gm_155 rfl rfl rfl ⟨by omega, by omega⟩ ?_
            refine w_goto (t := 9) gz_155_44 rfl ?_
            exact ih_9_0 ((p9_0 + 1)) (by omega) (by omega) (by omega) (by omega)
          refine w_iload_n gz_155_9 rfl ?_
          refine w_bipush gz_155_10 (by decide) ?_
          refine w_icge (t := 47) gz_155_12 rfl (fun u1 => ?_) (fun u1 => ?_)
          ·
            refine w_iinc (ls' := [(2, 151), (0, x1), (0, (p2_0 + 1)), (0, p9_0)]) gz_155_47 rfl gm_155 rfl rfl rfl ⟨by omega, by omega⟩ ?_
            refine w_goto (t := 2) gz_155_50 rfl ?_
            refine w_weak (ls' := [(2, 151), (0, x1), (0, (p2_0 + 1)), (9, 0)]) (wk_e (wk_e (wk_e (wk_9 wk_n)))) ?_
            exact ih_2_0 ((p2_0 + 1)) (by omega) (by omega) (by omega)
          ·
            refine w_aload_n gz_155_15 rfl ?_
            refine w_getX (v := 162) gz_155_16 is_151 rd_10 rfl (by decide) rfl ?_
            refine w_iload_n gz_155_19 rfl ?_
            refine w_iload_n gz_155_20 rfl ?_
            refine w_iload_n gz_155_21 rfl ?_
            refine w_inS (k := 0) (as := [(0, p9_0), (0, p2_0), (0, x1)]) (r := [(2, 162)]) (ls0 := [(0, x1), (0, p2_0), (0, p9_0)]) gz_155_22 gm_150 rfl rfl rfl rfl rfl rfl ?_
            refine w_bipush gz_150_0 (by decide) ?_
            refine w_iload_n gz_150_2 rfl ?_
            refine w_imul gz_150_3 ⟨by omega, by omega⟩ ?_
            refine w_bipush gz_150_4 (by decide) ?_
            refine w_iload_n gz_150_6 rfl ?_
            refine w_imul gz_150_7 ⟨by omega, by omega⟩ ?_
            refine w_iadd gz_150_8 ⟨by omega, by omega⟩ ?_
            refine w_iload_n gz_150_9 rfl ?_
            refine w_iadd gz_150_10 ⟨by omega, by omega⟩ ?_
            refine w_iret gz_150_11 gm_150 ?_
            show wp l rho (d + 3) 155 25 [(2, 151), (0, x1), (0, p2_0), (0, p9_0)] [(0, (((60 * x1) + (20 * p2_0)) + p9_0)), (2, 162)] h Q
            refine w_bald gz_155_25 is_162 rd_61 (by omega) (by omega) (fun v3 ev3 pv3 qv3 => ?_)
            refine w_ifeq (t := 41) gz_155_26 rfl (fun u4 => ?_) (fun u4 => ?_)
            ·
              exact J41_0 (by omega)
            ·
              refine w_aload_n gz_155_29 rfl ?_
              refine w_iload_n gz_155_30 rfl ?_
              refine w_iload_n gz_155_31 rfl ?_
              refine w_iload_n gz_155_32 rfl ?_
              refine w_inv (k := 4) (as := [(0, p9_0), (0, p2_0), (0, x1)]) (r := []) (x := 151) (ls0 := [(2, 151), (0, x1), (0, p2_0), (0, p9_0), (9, 0), (9, 0), (9, 0), (9, 0)]) gz_155_33 gm_156 rfl is_151 rd_10 rfl rfl rfl rfl rfl (c_Model_isLawfulRow (d := d) (x1 := x1) (x2 := p2_0) (x3 := p9_0) (by omega) (by omega) (by omega) (by omega) (by omega) (by omega) ?_ ?_)
              ·
                show wp l rho (d + 3) 155 36 [(2, 151), (0, x1), (0, p2_0), (0, p9_0)] [(0, 0)] h Q
                refine w_ifne (t := 41) gz_155_36 rfl (fun u5 => by exfalso; omega) (fun u5 => ?_)
                refine w_iconst gz_155_39 (by decide) ?_
                exact w_bret gz_155_40 gm_155 (by omega) (by omega) (k0 )
              ·
                show wp l rho (d + 3) 155 36 [(2, 151), (0, x1), (0, p2_0), (0, p9_0)] [(0, 1)] h Q
                refine w_ifne (t := 41) gz_155_36 rfl (fun u6 => ?_) (fun u6 => by exfalso; omega)
                exact J41_0 (by omega)
      refine w_iload_n gz_155_2 rfl ?_
      refine w_iconst gz_155_3 (by decide) ?_
      refine w_icge (t := 53) gz_155_4 rfl (fun u7 => ?_) (fun u7 => ?_)
      ·
        refine w_iconst gz_155_53 (by decide) ?_
        exact w_bret gz_155_54 gm_155 (by omega) (by omega) (k1 )
      ·
        refine w_iconst gz_155_7 (by decide) ?_
        refine w_istore_n (ls' := [(2, 151), (0, x1), (0, p2_0), (0, 0)]) gz_155_8 gm_155 rfl rfl rfl ?_
        exact J9_0 21 (0) (by omega) (by omega) (by omega) (by omega)
  refine w_iconst gz_155_0 (by decide) ?_
  refine w_istore_n (ls' := [(2, 151), (0, x1), (0, 0), (9, 0)]) gz_155_1 gm_155 rfl rfl rfl ?_
  exact J2_0 4 (0) (by omega) (by omega) (by omega)
theorem c_Model_span {l : Launch} {rho : Nat → Int32} {d : Nat} {h : my_H} {Q : my_H → my_V → Prop} {x1 x2 x3 x4 : Int} (k0 : ∀ (h' : my_H), my_fr [(10, 0), (57, -1), (58, -1)] h h' → h' 151 0 = 0 → Q h' (0, 0)) (k1 : ∀ (h' : my_H), my_fr [(10, 0), (57, -1), (58, -1)] h h' → 0 ≤ x1 → x1 ≤ 2 → 0 ≤ x2 → x2 ≤ 3 → 0 ≤ x3 → x3 ≤ 19 → 0 ≤ x4 → x4 ≤ 19 → h' 151 0 = 0 → Q h' (0, 1)) : wp l rho (d + 3) 160 0 [(2, 151), (0, x1), (0, x2), (0, x3), (0, x4)] [] h Q := by
  refine w_aload_n gz_160_0 rfl ?_
  refine w_iconst gz_160_1 (by decide) ?_
  refine v_putI (j := 0) gz_160_2 rfl is_151 rd_10 rfl (by omega) (by omega) rfl (fun h1 fh1 => ?_)
  have gh1 : my_fr [(10, 0), (57, -1), (58, -1)] h h1 := my_fr.up my_fr.rf is_151 fh1 rfl
  refine w_aload_n gz_160_5 rfl ?_
  refine w_iload_n gz_160_6 rfl ?_
  refine w_iload_n gz_160_7 rfl ?_
  refine w_iload_n gz_160_8 rfl ?_
  refine w_iload gz_160_9 rfl ?_
  refine w_inv (k := 0) (as := [(0, x4), (0, x3), (0, x2), (0, x1)]) (r := []) (x := 151) (ls0 := [(2, 151), (0, x1), (0, x2), (0, x3), (0, x4)]) gz_160_11 gm_161 rfl is_151 rd_10 rfl rfl rfl rfl rfl (c_Model_isSpan (d := d) (x1 := x1) (x2 := x2) (x3 := x3) (x4 := x4)  ?_ (fun w2 w3 w4 w5 w6 w7 w8 w9 => ?_))
  ·
    show wp l rho (d + 3) 160 14 [(2, 151), (0, x1), (0, x2), (0, x3), (0, x4)] [(0, 0)] h1 Q
    refine w_ifeq (t := 29) gz_160_14 rfl (fun u10 => ?_) (fun u10 => by exfalso; omega)
    refine w_iconst gz_160_29 (by decide) ?_
    have c11 := (my_up_self fh1)
    exact w_bret gz_160_30 gm_160 (by omega) (by omega) (k0 h1 (gh1) (by omega))
  ·
    show wp l rho (d + 3) 160 14 [(2, 151), (0, x1), (0, x2), (0, x3), (0, x4)] [(0, 1)] h1 Q
    refine w_ifeq (t := 29) gz_160_14 rfl (fun u12 => by exfalso; omega) (fun u12 => ?_)
    refine w_aload_n gz_160_17 rfl ?_
    refine w_iload_n gz_160_18 rfl ?_
    refine w_iload_n gz_160_19 rfl ?_
    refine w_iload_n gz_160_20 rfl ?_
    refine w_iload gz_160_21 rfl ?_
    refine w_inv (k := 2) (as := [(0, x4), (0, x3), (0, x2), (0, x1)]) (r := []) (x := 151) (ls0 := [(2, 151), (0, x1), (0, x2), (0, x3), (0, x4), (9, 0), (9, 0)]) gz_160_23 gm_163 rfl is_151 rd_10 rfl rfl rfl rfl rfl (c_Model_outside (d := d) (x1 := x1) (x2 := x2) (x3 := x3) (x4 := x4) (by omega) (by omega) (by omega) (by omega) (by omega) (by omega) (by omega) (by omega) (fun v13 w14 w15 => ?_))
    show wp l rho (d + 3) 160 26 [(2, 151), (0, x1), (0, x2), (0, x3), (0, x4)] [(0, v13)] h1 Q
    refine w_ifle (t := 31) gz_160_26 rfl (fun u16 => ?_) (fun u16 => ?_)
    ·
      refine w_aload_n gz_160_31 rfl ?_
      refine w_getX (v := 158) gz_160_32 is_151 rd_10 rfl (by decide) rfl ?_
      refine w_iconst gz_160_35 (by decide) ?_
      refine w_iload_n gz_160_36 rfl ?_
      refine w_imul gz_160_37 ⟨by omega, by omega⟩ ?_
      refine w_iload_n gz_160_38 rfl ?_
      refine w_iadd gz_160_39 ⟨by omega, by omega⟩ ?_
      refine w_iload_n gz_160_40 rfl ?_
      refine w_iast gz_160_41 is_158 rd_57 (by omega) (by omega) (by omega) (by omega) (fun h18 fh18 => ?_)
      have gh18 : my_fr [(10, 0), (57, -1), (58, -1)] h h18 := my_fr.up gh1 is_158 fh18 rfl
      refine w_aload_n gz_160_42 rfl ?_
      refine w_getX (v := 159) gz_160_43 is_151 rd_10 rfl (by decide) rfl ?_
      refine w_iconst gz_160_46 (by decide) ?_
      refine w_iload_n gz_160_47 rfl ?_
      refine w_imul gz_160_48 ⟨by omega, by omega⟩ ?_
      refine w_iload_n gz_160_49 rfl ?_
      refine w_iadd gz_160_50 ⟨by omega, by omega⟩ ?_
      refine w_iload gz_160_51 rfl ?_
      refine w_iast gz_160_53 is_159 rd_58 (by omega) (by omega) (by omega) (by omega) (fun h20 fh20 => ?_)
      have gh20 : my_fr [(10, 0), (57, -1), (58, -1)] h h20 := my_fr.up gh18 is_159 fh20 rfl
      refine w_iconst gz_160_54 (by decide) ?_
      have c21 := ((my_up_role fh20 is_151 is_159 rfl).trans ((my_up_role fh18 is_151 is_158 rfl).trans (my_up_self fh1)))
      exact w_bret gz_160_55 gm_160 (by omega) (by omega) (k1 h20 (gh20) (by omega) (by omega) (by omega) (by omega) (by omega) (by omega) (by omega) (by omega) (by omega))
    ·
      refine w_iconst gz_160_29 (by decide) ?_
      have c22 := (my_up_self fh1)
      exact w_bret gz_160_30 gm_160 (by omega) (by omega) (k0 h1 (gh1) (by omega))
theorem c_Model_names {l : Launch} {rho : Nat → Int32} {d : Nat} {h : my_H} {Q : my_H → my_V → Prop} {x1 x2 x3 : Int} (k0 : ∀ (h' : my_H), my_fr [(10, 0), (59, -1)] h h' → h' 151 0 = 0 → Q h' (0, 0)) (k1 : ∀ (h' : my_H), my_fr [(10, 0), (59, -1)] h h' → 0 ≤ x1 → x1 ≤ 2 → 1 ≤ x2 → x2 ≤ 3 → (-1) ≤ x3 → x3 ≤ 2 → h' 151 0 = 0 → Q h' (0, 1)) : wp l rho (d + 4) 165 0 [(2, 151), (0, x1), (0, x2), (0, x3), (9, 0)] [] h Q := by
  have J38_0 : ∀ (h38_0 : my_H), my_fr [(10, 0), (59, -1)] h h38_0 → 0 ≤ x1 → x1 ≤ 2 → 1 ≤ x2 → x2 ≤ 3 → (-1) ≤ x3 → x3 ≤ 2 → h38_0 151 0 = 0 → wp l rho (d + 4) 165 38 [(2, 151), (0, x1), (0, x2), (0, x3), (9, 0)] [] h38_0 Q := by
    intro h38_0 gh_38_0 q0_38_0 q1_38_0 q2_38_0 q3_38_0 q4_38_0 q5_38_0 c151_0_38_0
    refine w_aload_n gz_165_38 rfl ?_
    refine w_getX (v := 160) gz_165_39 is_151 rd_10 rfl (by decide) rfl ?_
    refine w_iconst gz_165_42 (by decide) ?_
    refine w_iload_n gz_165_43 rfl ?_
    refine w_imul gz_165_44 ⟨by omega, by omega⟩ ?_
    refine w_iload_n gz_165_45 rfl ?_
    refine w_iadd gz_165_46 ⟨by omega, by omega⟩ ?_
    refine w_iald gz_165_47 is_160 rd_59 (by omega) (by omega) (fun v2 ev2 pv2 qv2 => ?_)
    refine w_istore (ls' := [(2, 151), (0, x1), (0, x2), (0, x3), (0, v2)]) gz_165_48 gm_165 rfl rfl rfl ?_
    refine w_aload_n gz_165_50 rfl ?_
    refine w_getX (v := 160) gz_165_51 is_151 rd_10 rfl (by decide) rfl ?_
    refine w_iconst gz_165_54 (by decide) ?_
    refine w_iload_n gz_165_55 rfl ?_
    refine w_imul gz_165_56 ⟨by omega, by omega⟩ ?_
    refine w_iload_n gz_165_57 rfl ?_
    refine w_iadd gz_165_58 ⟨by omega, by omega⟩ ?_
    refine w_iload_n gz_165_59 rfl ?_
    refine w_iast gz_165_60 is_160 rd_59 (by omega) (by omega) (by omega) (by omega) (fun h4 fh4 => ?_)
    have gh4 : my_fr [(10, 0), (59, -1)] h h4 := my_fr.up gh_38_0 is_160 fh4 rfl
    refine w_aload_n gz_165_61 rfl ?_
    refine w_iconst gz_165_62 (by decide) ?_
    refine w_inv (k := 2) (as := [(0, 0)]) (r := []) (x := 151) (ls0 := [(2, 151), (0, 0), (9, 0), (9, 0)]) gz_165_63 gm_155 rfl is_151 rd_10 rfl rfl rfl rfl rfl (c_Model_isLawful (d := d) (x1 := 0) (by omega) (by omega) ?_ ?_)
    ·
      show wp l rho (d + 4) 165 66 [(2, 151), (0, x1), (0, x2), (0, x3), (0, v2)] [(0, 0)] h4 Q
      refine w_ifne (t := 83) gz_165_66 rfl (fun u5 => by exfalso; omega) (fun u5 => ?_)
      refine w_aload_n gz_165_69 rfl ?_
      refine w_getX (v := 160) gz_165_70 is_151 rd_10 rfl (by decide) rfl ?_
      refine w_iconst gz_165_73 (by decide) ?_
      refine w_iload_n gz_165_74 rfl ?_
      refine w_imul gz_165_75 ⟨by omega, by omega⟩ ?_
      refine w_iload_n gz_165_76 rfl ?_
      refine w_iadd gz_165_77 ⟨by omega, by omega⟩ ?_
      refine w_iload gz_165_78 rfl ?_
      refine w_iast gz_165_80 is_160 rd_59 (by omega) (by omega) (by omega) (by omega) (fun h7 fh7 => ?_)
      have gh7 : my_fr [(10, 0), (59, -1)] h h7 := my_fr.up gh4 is_160 fh7 rfl
      refine w_iconst gz_165_81 (by decide) ?_
      have c8 := ((my_up_role fh7 is_151 is_160 rfl).trans ((my_up_role fh4 is_151 is_160 rfl).trans c151_0_38_0))
      exact w_bret gz_165_82 gm_165 (by omega) (by omega) (k0 h7 (gh7) (by omega))
    ·
      show wp l rho (d + 4) 165 66 [(2, 151), (0, x1), (0, x2), (0, x3), (0, v2)] [(0, 1)] h4 Q
      refine w_ifne (t := 83) gz_165_66 rfl (fun u9 => ?_) (fun u9 => by exfalso; omega)
      refine w_iconst gz_165_83 (by decide) ?_
      have c10 := ((my_up_role fh4 is_151 is_160 rfl).trans c151_0_38_0)
      exact w_bret gz_165_84 gm_165 (by omega) (by omega) (k1 h4 (gh4) (by omega) (by omega) (by omega) (by omega) (by omega) (by omega) (by omega))
  refine w_aload_n gz_165_0 rfl ?_
  refine w_iconst gz_165_1 (by decide) ?_
  refine v_putI (j := 0) gz_165_2 rfl is_151 rd_10 rfl (by omega) (by omega) rfl (fun h11 fh11 => ?_)
  have gh11 : my_fr [(10, 0), (59, -1)] h h11 := my_fr.up my_fr.rf is_151 fh11 rfl
  refine w_aload_n gz_165_5 rfl ?_
  refine w_iload_n gz_165_6 rfl ?_
  refine w_iload_n gz_165_7 rfl ?_
  refine w_inv (k := 0) (as := [(0, x2), (0, x1)]) (r := []) (x := 151) (ls0 := [(2, 151), (0, x1), (0, x2)]) gz_165_8 gm_162 rfl is_151 rd_10 rfl rfl rfl rfl rfl ?_
  refine w_aload_n gz_162_0 rfl ?_
  refine w_iload_n gz_162_1 rfl ?_
  refine w_inv (k := 0) (as := [(0, x1)]) (r := []) (x := 151) (ls0 := [(2, 151), (0, x1)]) gz_162_2 gm_149 rfl is_151 rd_10 rfl rfl rfl rfl rfl ?_
  refine w_iload_n gz_149_0 rfl ?_
  refine w_iflt (t := 22) gz_149_1 rfl (fun u12 => ?_) (fun u12 => ?_)
  ·
    refine w_iconst gz_149_22 (by decide) ?_
    refine w_bret gz_149_23 gm_149 (by omega) (by omega) ?_
    show wp l rho (d + 3) 162 5 [(2, 151), (0, x1), (0, x2)] [(0, 0)] h11 _
    refine w_ifeq (t := 26) gz_162_5 rfl (fun u13 => ?_) (fun u13 => by exfalso; omega)
    refine w_iconst gz_162_26 (by decide) ?_
    refine w_bret gz_162_27 gm_162 (by omega) (by omega) ?_
    show wp l rho (d + 4) 165 11 [(2, 151), (0, x1), (0, x2), (0, x3), (9, 0)] [(0, 0)] h11 Q
    refine w_ifeq (t := 36) gz_165_11 rfl (fun u14 => ?_) (fun u14 => by exfalso; omega)
    refine w_iconst gz_165_36 (by decide) ?_
    have c15 := (my_up_self fh11)
    exact w_bret gz_165_37 gm_165 (by omega) (by omega) (k0 h11 (gh11) (by omega))
  ·
    refine w_iload_n gz_149_4 rfl ?_
    refine w_iconst gz_149_5 (by decide) ?_
    refine w_icge (t := 22) gz_149_6 rfl (fun u16 => ?_) (fun u16 => ?_)
    ·
      refine w_iconst gz_149_22 (by decide) ?_
      refine w_bret gz_149_23 gm_149 (by omega) (by omega) ?_
      show wp l rho (d + 3) 162 5 [(2, 151), (0, x1), (0, x2)] [(0, 0)] h11 _
      refine w_ifeq (t := 26) gz_162_5 rfl (fun u17 => ?_) (fun u17 => by exfalso; omega)
      refine w_iconst gz_162_26 (by decide) ?_
      refine w_bret gz_162_27 gm_162 (by omega) (by omega) ?_
      show wp l rho (d + 4) 165 11 [(2, 151), (0, x1), (0, x2), (0, x3), (9, 0)] [(0, 0)] h11 Q
      refine w_ifeq (t := 36) gz_165_11 rfl (fun u18 => ?_) (fun u18 => by exfalso; omega)
      refine w_iconst gz_165_36 (by decide) ?_
      have c19 := (my_up_self fh11)
      exact w_bret gz_165_37 gm_165 (by omega) (by omega) (k0 h11 (gh11) (by omega))
    ·
      refine w_aload_n gz_149_9 rfl ?_
      refine w_getX (v := 157) gz_149_10 is_151 rd_10 rfl (by decide) rfl ?_
      refine w_iload_n gz_149_13 rfl ?_
      refine w_iald gz_149_14 is_157 rd_56 (by omega) (by omega) (fun v21 ev21 pv21 qv21 => ?_)
      refine w_ifle (t := 22) gz_149_15 rfl (fun u22 => ?_) (fun u22 => ?_)
      ·
        refine w_iconst gz_149_22 (by decide) ?_
        refine w_bret gz_149_23 gm_149 (by omega) (by omega) ?_
        show wp l rho (d + 3) 162 5 [(2, 151), (0, x1), (0, x2)] [(0, 0)] h11 _
        refine w_ifeq (t := 26) gz_162_5 rfl (fun u23 => ?_) (fun u23 => by exfalso; omega)
        refine w_iconst gz_162_26 (by decide) ?_
        refine w_bret gz_162_27 gm_162 (by omega) (by omega) ?_
        show wp l rho (d + 4) 165 11 [(2, 151), (0, x1), (0, x2), (0, x3), (9, 0)] [(0, 0)] h11 Q
        refine w_ifeq (t := 36) gz_165_11 rfl (fun u24 => ?_) (fun u24 => by exfalso; omega)
        refine w_iconst gz_165_36 (by decide) ?_
        have c25 := (my_up_self fh11)
        exact w_bret gz_165_37 gm_165 (by omega) (by omega) (k0 h11 (gh11) (by omega))
      ·
        refine w_iconst gz_149_18 (by decide) ?_
        refine w_goto (t := 23) gz_149_19 rfl ?_
        refine w_bret gz_149_23 gm_149 (by omega) (by omega) ?_
        show wp l rho (d + 3) 162 5 [(2, 151), (0, x1), (0, x2)] [(0, 1)] h11 _
        refine w_ifeq (t := 26) gz_162_5 rfl (fun u26 => by exfalso; omega) (fun u26 => ?_)
        refine w_iload_n gz_162_8 rfl ?_
        refine w_iflt (t := 26) gz_162_9 rfl (fun u27 => ?_) (fun u27 => ?_)
        ·
          refine w_iconst gz_162_26 (by decide) ?_
          refine w_bret gz_162_27 gm_162 (by omega) (by omega) ?_
          show wp l rho (d + 4) 165 11 [(2, 151), (0, x1), (0, x2), (0, x3), (9, 0)] [(0, 0)] h11 Q
          refine w_ifeq (t := 36) gz_165_11 rfl (fun u28 => ?_) (fun u28 => by exfalso; omega)
          refine w_iconst gz_165_36 (by decide) ?_
          have c29 := (my_up_self fh11)
          exact w_bret gz_165_37 gm_165 (by omega) (by omega) (k0 h11 (gh11) (by omega))
        ·
          refine w_iload_n gz_162_12 rfl ?_
          refine w_aload_n gz_162_13 rfl ?_
          refine w_getX (v := 157) gz_162_14 is_151 rd_10 rfl (by decide) rfl ?_
          refine w_iload_n gz_162_17 rfl ?_
          refine w_iald gz_162_18 is_157 rd_56 (by omega) (by omega) (fun v31 ev31 pv31 qv31 => ?_)
          have zv31 := ev31.trans ev21.symm
          refine w_icge (t := 26) gz_162_19 rfl (fun u32 => ?_) (fun u32 => ?_)
          ·
            refine w_iconst gz_162_26 (by decide) ?_
            refine w_bret gz_162_27 gm_162 (by omega) (by omega) ?_
            show wp l rho (d + 4) 165 11 [(2, 151), (0, x1), (0, x2), (0, x3), (9, 0)] [(0, 0)] h11 Q
            refine w_ifeq (t := 36) gz_165_11 rfl (fun u33 => ?_) (fun u33 => by exfalso; omega)
            refine w_iconst gz_165_36 (by decide) ?_
            have c34 := (my_up_self fh11)
            exact w_bret gz_165_37 gm_165 (by omega) (by omega) (k0 h11 (gh11) (by omega))
          ·
            refine w_iconst gz_162_22 (by decide) ?_
            refine w_goto (t := 27) gz_162_23 rfl ?_
            refine w_bret gz_162_27 gm_162 (by omega) (by omega) ?_
            show wp l rho (d + 4) 165 11 [(2, 151), (0, x1), (0, x2), (0, x3), (9, 0)] [(0, 1)] h11 Q
            refine w_ifeq (t := 36) gz_165_11 rfl (fun u35 => by exfalso; omega) (fun u35 => ?_)
            refine w_iload_n gz_165_14 rfl ?_
            refine w_ifeq (t := 36) gz_165_15 rfl (fun u36 => ?_) (fun u36 => ?_)
            ·
              refine w_iconst gz_165_36 (by decide) ?_
              have c37 := (my_up_self fh11)
              exact w_bret gz_165_37 gm_165 (by omega) (by omega) (k0 h11 (gh11) (by omega))
            ·
              refine w_iload_n gz_165_18 rfl ?_
              refine w_iconst gz_165_19 (by decide) ?_
              refine w_iceq (t := 38) gz_165_20 rfl (fun u38 => ?_) (fun u38 => ?_)
              ·
                exact J38_0 h11 (gh11) (by omega) (by omega) (by omega) (by omega) (by omega) (by omega) ((my_up_self fh11).trans (by omega))
              ·
                refine w_aload_n gz_165_23 rfl ?_
                refine w_iload_n gz_165_24 rfl ?_
                refine w_inv (k := 0) (as := [(0, x3)]) (r := []) (x := 151) (ls0 := [(2, 151), (0, x3)]) gz_165_25 gm_149 rfl is_151 rd_10 rfl rfl rfl rfl rfl ?_
                refine w_iload_n gz_149_0 rfl ?_
                refine w_iflt (t := 22) gz_149_1 rfl (fun u39 => ?_) (fun u39 => ?_)
                ·
                  refine w_iconst gz_149_22 (by decide) ?_
                  refine w_bret gz_149_23 gm_149 (by omega) (by omega) ?_
                  show wp l rho (d + 4) 165 28 [(2, 151), (0, x1), (0, x2), (0, x3), (9, 0)] [(0, 0)] h11 Q
                  refine w_ifeq (t := 36) gz_165_28 rfl (fun u40 => ?_) (fun u40 => by exfalso; omega)
                  refine w_iconst gz_165_36 (by decide) ?_
                  have c41 := (my_up_self fh11)
                  exact w_bret gz_165_37 gm_165 (by omega) (by omega) (k0 h11 (gh11) (by omega))
                ·
                  refine w_iload_n gz_149_4 rfl ?_
                  refine w_iconst gz_149_5 (by decide) ?_
                  refine w_icge (t := 22) gz_149_6 rfl (fun u42 => ?_) (fun u42 => ?_)
                  ·
                    refine w_iconst gz_149_22 (by decide) ?_
                    refine w_bret gz_149_23 gm_149 (by omega) (by omega) ?_
                    show wp l rho (d + 4) 165 28 [(2, 151), (0, x1), (0, x2), (0, x3), (9, 0)] [(0, 0)] h11 Q
                    refine w_ifeq (t := 36) gz_165_28 rfl (fun u43 => ?_) (fun u43 => by exfalso; omega)
                    refine w_iconst gz_165_36 (by decide) ?_
                    have c44 := (my_up_self fh11)
                    exact w_bret gz_165_37 gm_165 (by omega) (by omega) (k0 h11 (gh11) (by omega))
                  ·
                    refine w_aload_n gz_149_9 rfl ?_
                    refine w_getX (v := 157) gz_149_10 is_151 rd_10 rfl (by decide) rfl ?_
                    refine w_iload_n gz_149_13 rfl ?_
                    refine w_iald gz_149_14 is_157 rd_56 (by omega) (by omega) (fun v46 ev46 pv46 qv46 => ?_)
                    refine w_ifle (t := 22) gz_149_15 rfl (fun u47 => ?_) (fun u47 => ?_)
                    ·
                      refine w_iconst gz_149_22 (by decide) ?_
                      refine w_bret gz_149_23 gm_149 (by omega) (by omega) ?_
                      show wp l rho (d + 4) 165 28 [(2, 151), (0, x1), (0, x2), (0, x3), (9, 0)] [(0, 0)] h11 Q
                      refine w_ifeq (t := 36) gz_165_28 rfl (fun u48 => ?_) (fun u48 => by exfalso; omega)
                      refine w_iconst gz_165_36 (by decide) ?_
                      have c49 := (my_up_self fh11)
                      exact w_bret gz_165_37 gm_165 (by omega) (by omega) (k0 h11 (gh11) (by omega))
                    ·
                      refine w_iconst gz_149_18 (by decide) ?_
                      refine w_goto (t := 23) gz_149_19 rfl ?_
                      refine w_bret gz_149_23 gm_149 (by omega) (by omega) ?_
                      show wp l rho (d + 4) 165 28 [(2, 151), (0, x1), (0, x2), (0, x3), (9, 0)] [(0, 1)] h11 Q
                      refine w_ifeq (t := 36) gz_165_28 rfl (fun u50 => by exfalso; omega) (fun u50 => ?_)
                      refine w_iload_n gz_165_31 rfl ?_
                      refine w_iload_n gz_165_32 rfl ?_
                      refine w_icne (t := 38) gz_165_33 rfl (fun u51 => ?_) (fun u51 => ?_)
                      ·
                        exact J38_0 h11 (gh11) (by omega) (by omega) (by omega) (by omega) (by omega) (by omega) ((my_up_self fh11).trans (by omega))
                      ·
                        refine w_iconst gz_165_36 (by decide) ?_
                        have c52 := (my_up_self fh11)
                        exact w_bret gz_165_37 gm_165 (by omega) (by omega) (k0 h11 (gh11) (by omega))
theorem c_Model_once {l : Launch} {rho : Nat → Int32} {d : Nat} {h : my_H} {Q : my_H → my_V → Prop} {x1 x2 x3 : Int} (a3 : 0 ≤ x3) (b3 : x3 ≤ 1) (k0 : ∀ (h' : my_H), my_fr [(10, 0), (60, -1)] h h' → h' 151 0 = 0 → Q h' (0, 0)) (k1 : ∀ (h' : my_H), my_fr [(10, 0), (60, -1)] h h' → 0 ≤ x1 → x1 ≤ 2 → 1 ≤ x2 → x2 ≤ 3 → h' 151 0 = 0 → Q h' (0, 1)) : wp l rho (d + 4) 166 0 [(2, 151), (0, x1), (0, x2), (0, x3), (9, 0)] [] h Q := by
  refine w_aload_n gz_166_0 rfl ?_
  refine w_iconst gz_166_1 (by decide) ?_
  refine v_putI (j := 0) gz_166_2 rfl is_151 rd_10 rfl (by omega) (by omega) rfl (fun h1 fh1 => ?_)
  have gh1 : my_fr [(10, 0), (60, -1)] h h1 := my_fr.up my_fr.rf is_151 fh1 rfl
  refine w_aload_n gz_166_5 rfl ?_
  refine w_iload_n gz_166_6 rfl ?_
  refine w_iload_n gz_166_7 rfl ?_
  refine w_inv (k := 0) (as := [(0, x2), (0, x1)]) (r := []) (x := 151) (ls0 := [(2, 151), (0, x1), (0, x2)]) gz_166_8 gm_162 rfl is_151 rd_10 rfl rfl rfl rfl rfl ?_
  refine w_aload_n gz_162_0 rfl ?_
  refine w_iload_n gz_162_1 rfl ?_
  refine w_inv (k := 0) (as := [(0, x1)]) (r := []) (x := 151) (ls0 := [(2, 151), (0, x1)]) gz_162_2 gm_149 rfl is_151 rd_10 rfl rfl rfl rfl rfl ?_
  refine w_iload_n gz_149_0 rfl ?_
  refine w_iflt (t := 22) gz_149_1 rfl (fun u2 => ?_) (fun u2 => ?_)
  ·
    refine w_iconst gz_149_22 (by decide) ?_
    refine w_bret gz_149_23 gm_149 (by omega) (by omega) ?_
    show wp l rho (d + 3) 162 5 [(2, 151), (0, x1), (0, x2)] [(0, 0)] h1 _
    refine w_ifeq (t := 26) gz_162_5 rfl (fun u3 => ?_) (fun u3 => by exfalso; omega)
    refine w_iconst gz_162_26 (by decide) ?_
    refine w_bret gz_162_27 gm_162 (by omega) (by omega) ?_
    show wp l rho (d + 4) 166 11 [(2, 151), (0, x1), (0, x2), (0, x3), (9, 0)] [(0, 0)] h1 Q
    refine w_ifeq (t := 18) gz_166_11 rfl (fun u4 => ?_) (fun u4 => by exfalso; omega)
    refine w_iconst gz_166_18 (by decide) ?_
    have c5 := (my_up_self fh1)
    exact w_bret gz_166_19 gm_166 (by omega) (by omega) (k0 h1 (gh1) (by omega))
  ·
    refine w_iload_n gz_149_4 rfl ?_
    refine w_iconst gz_149_5 (by decide) ?_
    refine w_icge (t := 22) gz_149_6 rfl (fun u6 => ?_) (fun u6 => ?_)
    ·
      refine w_iconst gz_149_22 (by decide) ?_
      refine w_bret gz_149_23 gm_149 (by omega) (by omega) ?_
      show wp l rho (d + 3) 162 5 [(2, 151), (0, x1), (0, x2)] [(0, 0)] h1 _
      refine w_ifeq (t := 26) gz_162_5 rfl (fun u7 => ?_) (fun u7 => by exfalso; omega)
      refine w_iconst gz_162_26 (by decide) ?_
      refine w_bret gz_162_27 gm_162 (by omega) (by omega) ?_
      show wp l rho (d + 4) 166 11 [(2, 151), (0, x1), (0, x2), (0, x3), (9, 0)] [(0, 0)] h1 Q
      refine w_ifeq (t := 18) gz_166_11 rfl (fun u8 => ?_) (fun u8 => by exfalso; omega)
      refine w_iconst gz_166_18 (by decide) ?_
      have c9 := (my_up_self fh1)
      exact w_bret gz_166_19 gm_166 (by omega) (by omega) (k0 h1 (gh1) (by omega))
    ·
      refine w_aload_n gz_149_9 rfl ?_
      refine w_getX (v := 157) gz_149_10 is_151 rd_10 rfl (by decide) rfl ?_
      refine w_iload_n gz_149_13 rfl ?_
      refine w_iald gz_149_14 is_157 rd_56 (by omega) (by omega) (fun v11 ev11 pv11 qv11 => ?_)
      refine w_ifle (t := 22) gz_149_15 rfl (fun u12 => ?_) (fun u12 => ?_)
      ·
        refine w_iconst gz_149_22 (by decide) ?_
        refine w_bret gz_149_23 gm_149 (by omega) (by omega) ?_
        show wp l rho (d + 3) 162 5 [(2, 151), (0, x1), (0, x2)] [(0, 0)] h1 _
        refine w_ifeq (t := 26) gz_162_5 rfl (fun u13 => ?_) (fun u13 => by exfalso; omega)
        refine w_iconst gz_162_26 (by decide) ?_
        refine w_bret gz_162_27 gm_162 (by omega) (by omega) ?_
        show wp l rho (d + 4) 166 11 [(2, 151), (0, x1), (0, x2), (0, x3), (9, 0)] [(0, 0)] h1 Q
        refine w_ifeq (t := 18) gz_166_11 rfl (fun u14 => ?_) (fun u14 => by exfalso; omega)
        refine w_iconst gz_166_18 (by decide) ?_
        have c15 := (my_up_self fh1)
        exact w_bret gz_166_19 gm_166 (by omega) (by omega) (k0 h1 (gh1) (by omega))
      ·
        refine w_iconst gz_149_18 (by decide) ?_
        refine w_goto (t := 23) gz_149_19 rfl ?_
        refine w_bret gz_149_23 gm_149 (by omega) (by omega) ?_
        show wp l rho (d + 3) 162 5 [(2, 151), (0, x1), (0, x2)] [(0, 1)] h1 _
        refine w_ifeq (t := 26) gz_162_5 rfl (fun u16 => by exfalso; omega) (fun u16 => ?_)
        refine w_iload_n gz_162_8 rfl ?_
        refine w_iflt (t := 26) gz_162_9 rfl (fun u17 => ?_) (fun u17 => ?_)
        ·
          refine w_iconst gz_162_26 (by decide) ?_
          refine w_bret gz_162_27 gm_162 (by omega) (by omega) ?_
          show wp l rho (d + 4) 166 11 [(2, 151), (0, x1), (0, x2), (0, x3), (9, 0)] [(0, 0)] h1 Q
          refine w_ifeq (t := 18) gz_166_11 rfl (fun u18 => ?_) (fun u18 => by exfalso; omega)
          refine w_iconst gz_166_18 (by decide) ?_
          have c19 := (my_up_self fh1)
          exact w_bret gz_166_19 gm_166 (by omega) (by omega) (k0 h1 (gh1) (by omega))
        ·
          refine w_iload_n gz_162_12 rfl ?_
          refine w_aload_n gz_162_13 rfl ?_
          refine w_getX (v := 157) gz_162_14 is_151 rd_10 rfl (by decide) rfl ?_
          refine w_iload_n gz_162_17 rfl ?_
          refine w_iald gz_162_18 is_157 rd_56 (by omega) (by omega) (fun v21 ev21 pv21 qv21 => ?_)
          have zv21 := ev21.trans ev11.symm
          refine w_icge (t := 26) gz_162_19 rfl (fun u22 => ?_) (fun u22 => ?_)
          ·
            refine w_iconst gz_162_26 (by decide) ?_
            refine w_bret gz_162_27 gm_162 (by omega) (by omega) ?_
            show wp l rho (d + 4) 166 11 [(2, 151), (0, x1), (0, x2), (0, x3), (9, 0)] [(0, 0)] h1 Q
            refine w_ifeq (t := 18) gz_166_11 rfl (fun u23 => ?_) (fun u23 => by exfalso; omega)
            refine w_iconst gz_166_18 (by decide) ?_
            have c24 := (my_up_self fh1)
            exact w_bret gz_166_19 gm_166 (by omega) (by omega) (k0 h1 (gh1) (by omega))
          ·
            refine w_iconst gz_162_22 (by decide) ?_
            refine w_goto (t := 27) gz_162_23 rfl ?_
            refine w_bret gz_162_27 gm_162 (by omega) (by omega) ?_
            show wp l rho (d + 4) 166 11 [(2, 151), (0, x1), (0, x2), (0, x3), (9, 0)] [(0, 1)] h1 Q
            refine w_ifeq (t := 18) gz_166_11 rfl (fun u25 => by exfalso; omega) (fun u25 => ?_)
            refine w_iload_n gz_166_14 rfl ?_
            refine w_ifne (t := 20) gz_166_15 rfl (fun u26 => ?_) (fun u26 => ?_)
            ·
              refine w_aload_n gz_166_20 rfl ?_
              refine w_getX (v := 161) gz_166_21 is_151 rd_10 rfl (by decide) rfl ?_
              refine w_iconst gz_166_24 (by decide) ?_
              refine w_iload_n gz_166_25 rfl ?_
              refine w_imul gz_166_26 ⟨by omega, by omega⟩ ?_
              refine w_iload_n gz_166_27 rfl ?_
              refine w_iadd gz_166_28 ⟨by omega, by omega⟩ ?_
              refine w_bald gz_166_29 is_161 rd_60 (by omega) (by omega) (fun v28 ev28 pv28 qv28 => ?_)
              refine w_istore (ls' := [(2, 151), (0, x1), (0, x2), (0, x3), (0, v28)]) gz_166_30 gm_166 rfl rfl rfl ?_
              refine w_aload_n gz_166_32 rfl ?_
              refine w_getX (v := 161) gz_166_33 is_151 rd_10 rfl (by decide) rfl ?_
              refine w_iconst gz_166_36 (by decide) ?_
              refine w_iload_n gz_166_37 rfl ?_
              refine w_imul gz_166_38 ⟨by omega, by omega⟩ ?_
              refine w_iload_n gz_166_39 rfl ?_
              refine w_iadd gz_166_40 ⟨by omega, by omega⟩ ?_
              refine w_iload_n gz_166_41 rfl ?_
              refine w_bast gz_166_42 is_161 rd_60 (by omega) (by omega) (by omega) (by omega) (fun h30 fh30 => ?_)
              have gh30 : my_fr [(10, 0), (60, -1)] h h30 := my_fr.up gh1 is_161 fh30 rfl
              refine w_aload_n gz_166_43 rfl ?_
              refine w_iconst gz_166_44 (by decide) ?_
              refine w_inv (k := 2) (as := [(0, 0)]) (r := []) (x := 151) (ls0 := [(2, 151), (0, 0), (9, 0), (9, 0)]) gz_166_45 gm_155 rfl is_151 rd_10 rfl rfl rfl rfl rfl (c_Model_isLawful (d := d) (x1 := 0) (by omega) (by omega) ?_ ?_)
              ·
                show wp l rho (d + 4) 166 48 [(2, 151), (0, x1), (0, x2), (0, x3), (0, v28)] [(0, 0)] h30 Q
                refine w_ifne (t := 65) gz_166_48 rfl (fun u31 => by exfalso; omega) (fun u31 => ?_)
                refine w_aload_n gz_166_51 rfl ?_
                refine w_getX (v := 161) gz_166_52 is_151 rd_10 rfl (by decide) rfl ?_
                refine w_iconst gz_166_55 (by decide) ?_
                refine w_iload_n gz_166_56 rfl ?_
                refine w_imul gz_166_57 ⟨by omega, by omega⟩ ?_
                refine w_iload_n gz_166_58 rfl ?_
                refine w_iadd gz_166_59 ⟨by omega, by omega⟩ ?_
                refine w_iload gz_166_60 rfl ?_
                refine w_bast gz_166_62 is_161 rd_60 (by omega) (by omega) (by omega) (by omega) (fun h33 fh33 => ?_)
                have gh33 : my_fr [(10, 0), (60, -1)] h h33 := my_fr.up gh30 is_161 fh33 rfl
                refine w_iconst gz_166_63 (by decide) ?_
                have c34 := ((my_up_role fh33 is_151 is_161 rfl).trans ((my_up_role fh30 is_151 is_161 rfl).trans (my_up_self fh1)))
                exact w_bret gz_166_64 gm_166 (by omega) (by omega) (k0 h33 (gh33) (by omega))
              ·
                show wp l rho (d + 4) 166 48 [(2, 151), (0, x1), (0, x2), (0, x3), (0, v28)] [(0, 1)] h30 Q
                refine w_ifne (t := 65) gz_166_48 rfl (fun u35 => ?_) (fun u35 => by exfalso; omega)
                refine w_iconst gz_166_65 (by decide) ?_
                have c36 := ((my_up_role fh30 is_151 is_161 rfl).trans (my_up_self fh1))
                exact w_bret gz_166_66 gm_166 (by omega) (by omega) (k1 h30 (gh30) (by omega) (by omega) (by omega) (by omega) (by omega))
            ·
              refine w_iconst gz_166_18 (by decide) ?_
              have c37 := (my_up_self fh1)
              exact w_bret gz_166_19 gm_166 (by omega) (by omega) (k0 h1 (gh1) (by omega))
theorem c_Laws_firstBroken {l : Launch} {rho : Nat → Int32} {d : Nat} {h : my_H} {Q : my_H → my_V → Prop} {x1 : Int} (t1 : my_is 6 x1) (k0 : Q h (0, (-1))) (k1 : ∀ (y : Int), 1 ≤ y → y ≤ 47 → Q h (0, y)) : wp l rho (d + 2) 19 0 [(2, 1), (2, x1), (9, 0), (9, 0), (9, 0), (9, 0)] [] h Q := by
  have J2_0 : ∀ (n : Nat) (p2_0 : Int), 0 ≤ p2_0 → p2_0 ≤ 12 → 13 - p2_0 ≤ (n : Int) → wp l rho (d + 2) 19 2 [(2, 1), (2, x1), (0, p2_0), (9, 0), (9, 0), (9, 0)] [] h Q := by
    intro n
    induction n with
    | zero => intro p2_0 q0_2_0 q1_2_0 hm_2_0; exfalso; omega
    | succ n ih_2_0 =>
      intro p2_0 q0_2_0 q1_2_0 hm_2_0
      have J105_2 : ∀ (p105_0 p105_1 p105_2 : Int), p2_0 ≤ 11 → 0 ≤ p105_0 → p105_0 ≤ 2 → 0 ≤ p105_1 → p105_1 ≤ 3 → 2 ≤ p105_2 → p105_2 ≤ 3 → wp l rho (d + 2) 19 105 [(2, 1), (2, x1), (0, p2_0), (0, p105_0), (0, p105_1), (0, p105_2)] [] h Q := by
        intro p105_0 p105_1 p105_2 q0_105_2 q1_105_2 q2_105_2 q3_105_2 q4_105_2 q5_105_2 q6_105_2
        refine w_iload gz_19_105 rfl ?_
        refine w_ifeq (t := 117) gz_19_107 rfl (fun u1 => by exfalso; omega) (fun u1 => ?_)
        refine w_iconst gz_19_110 (by decide) ?_
        refine w_iload_n gz_19_111 rfl ?_
        refine w_imul gz_19_112 ⟨by omega, by omega⟩ ?_
        refine w_iload gz_19_113 rfl ?_
        refine w_iadd gz_19_115 ⟨by omega, by omega⟩ ?_
        exact w_iret gz_19_116 gm_19 (k1 (((4 * p2_0) + p105_2)) (by omega) (by omega))
      have J105_0 : ∀ (p105_0 p105_1 : Int), p2_0 ≤ 11 → 0 ≤ p105_0 → p105_0 ≤ 2 → 0 ≤ p105_1 → p105_1 ≤ 3 → wp l rho (d + 2) 19 105 [(2, 1), (2, x1), (0, p2_0), (0, p105_0), (0, p105_1), (0, 0)] [] h Q := by
        intro p105_0 p105_1 q0_105_0 q1_105_0 q2_105_0 q3_105_0 q4_105_0
        refine w_iload gz_19_105 rfl ?_
        refine w_ifeq (t := 117) gz_19_107 rfl (fun u2 => ?_) (fun u2 => by exfalso; omega)
        refine w_iinc (ls' := [(2, 1), (2, x1), (0, (p2_0 + 1)), (0, p105_0), (0, p105_1), (0, 0)]) gz_19_117 rfl gm_19 rfl rfl rfl ⟨by omega, by omega⟩ ?_
        refine w_goto (t := 2) gz_19_120 rfl ?_
        refine w_weak (ls' := [(2, 1), (2, x1), (0, (p2_0 + 1)), (9, 0), (9, 0), (9, 0)]) (wk_e (wk_e (wk_e (wk_9 (wk_9 (wk_9 wk_n)))))) ?_
        exact ih_2_0 ((p2_0 + 1)) (by omega) (by omega) (by omega)
      have J83_0 : ∀ (p83_0 p83_1 : Int), p2_0 ≤ 11 → 0 ≤ p83_0 → p83_0 ≤ 2 → 0 ≤ p83_1 → p83_1 ≤ 3 → wp l rho (d + 2) 19 83 [(2, 1), (2, x1), (0, p2_0), (0, p83_0), (0, p83_1), (0, 0)] [] h Q := by
        intro p83_0 p83_1 q0_83_0 q1_83_0 q2_83_0 q3_83_0 q4_83_0
        refine w_aload_n gz_19_83 rfl ?_
        refine w_getX (v := 6) gz_19_84 is_1 rd_3 rfl (by decide) rfl ?_
        refine w_iload_n gz_19_87 rfl ?_
        refine w_bald gz_19_88 is_6 rd_29 (by omega) (by omega) (fun v4 ev4 pv4 qv4 => ?_)
        refine w_ifeq (t := 105) gz_19_89 rfl (fun u5 => ?_) (fun u5 => ?_)
        ·
          exact J105_0 (p83_0) (p83_1) (by omega) (by omega) (by omega) (by omega) (by omega)
        ·
          refine w_aload_n gz_19_92 rfl ?_
          refine w_iload_n gz_19_93 rfl ?_
          refine w_iload gz_19_94 rfl ?_
          refine w_inS (k := 4) (as := [(0, p83_1), (0, p83_0), (2, x1)]) (r := []) (ls0 := [(2, x1), (0, p83_0), (0, p83_1), (9, 0), (9, 0), (9, 0), (9, 0)]) gz_19_96 gm_22 rfl rfl rfl rfl rfl rfl (c_Laws_isSingle (d := d) (x0 := x1) (x1 := p83_0) (x2 := p83_1) t1 (by omega) (by omega) (by omega) (by omega) ?_ ?_)
          ·
            show wp l rho (d + 2) 19 99 [(2, 1), (2, x1), (0, p2_0), (0, p83_0), (0, p83_1), (0, 0)] [(0, 0)] h Q
            refine w_ifne (t := 105) gz_19_99 rfl (fun u6 => by exfalso; omega) (fun u6 => ?_)
            refine w_iconst gz_19_102 (by decide) ?_
            refine w_istore (ls' := [(2, 1), (2, x1), (0, p2_0), (0, p83_0), (0, p83_1), (0, 3)]) gz_19_103 gm_19 rfl rfl rfl ?_
            exact J105_2 (p83_0) (p83_1) (3) (by omega) (by omega) (by omega) (by omega) (by omega) (by omega) (by omega)
          ·
            show wp l rho (d + 2) 19 99 [(2, 1), (2, x1), (0, p2_0), (0, p83_0), (0, p83_1), (0, 0)] [(0, 1)] h Q
            refine w_ifne (t := 105) gz_19_99 rfl (fun u7 => ?_) (fun u7 => by exfalso; omega)
            exact J105_0 (p83_0) (p83_1) (by omega) (by omega) (by omega) (by omega) (by omega)
      refine w_iload_n gz_19_2 rfl ?_
      refine w_aload_n gz_19_3 rfl ?_
      refine w_getX (v := 5) gz_19_4 is_1 rd_3 rfl (by decide) rfl ?_
      refine v_alen (j := 12) gz_19_7 rfl is_5 rd_28 (by decide) ?_
      refine w_icge (t := 123) gz_19_8 rfl (fun u9 => ?_) (fun u9 => ?_)
      ·
        refine w_iconst gz_19_123 (by decide) ?_
        exact w_iret gz_19_124 gm_19 (k0 )
      ·
        refine w_iload_n gz_19_11 rfl ?_
        refine w_iconst gz_19_12 (by decide) ?_
        refine w_idiv gz_19_13 (by omega) (by decide) ?_
        refine w_istore_n (ls' := [(2, 1), (2, x1), (0, p2_0), (0, (p2_0 / 4)), (9, 0), (9, 0)]) gz_19_14 gm_19 rfl rfl rfl ?_
        refine w_iload_n gz_19_15 rfl ?_
        refine w_iconst gz_19_16 (by decide) ?_
        refine w_irem gz_19_17 (by omega) (by decide) ?_
        refine w_istore (ls' := [(2, 1), (2, x1), (0, p2_0), (0, (p2_0 / 4)), (0, (p2_0 % 4)), (9, 0)]) gz_19_18 gm_19 rfl rfl rfl ?_
        refine w_iconst gz_19_20 (by decide) ?_
        refine w_istore (ls' := [(2, 1), (2, x1), (0, p2_0), (0, (p2_0 / 4)), (0, (p2_0 % 4)), (0, 0)]) gz_19_21 gm_19 rfl rfl rfl ?_
        refine w_aload_n gz_19_23 rfl ?_
        refine w_iload_n gz_19_24 rfl ?_
        refine w_iload gz_19_25 rfl ?_
        refine w_aload_n gz_19_27 rfl ?_
        refine w_getX (v := 3) gz_19_28 is_1 rd_3 rfl (by decide) rfl ?_
        refine w_iload_n gz_19_31 rfl ?_
        refine w_iald gz_19_32 is_3 rd_26 (by omega) (by omega) (fun v11 ev11 pv11 qv11 => ?_)
        refine w_aload_n gz_19_33 rfl ?_
        refine w_getX (v := 4) gz_19_34 is_1 rd_3 rfl (by decide) rfl ?_
        refine w_iload_n gz_19_37 rfl ?_
        refine w_iald gz_19_38 is_4 rd_27 (by omega) (by omega) (fun v13 ev13 pv13 qv13 => ?_)
        refine w_inv (k := 3) (as := [(0, v13), (0, v11), (0, (p2_0 % 4)), (0, (p2_0 / 4))]) (r := []) (x := x1) (ls0 := [(2, x1), (0, (p2_0 / 4)), (0, (p2_0 % 4)), (0, v11), (0, v13), (9, 0), (9, 0), (9, 0)]) gz_19_39 gm_20 rfl t1 rd_6 rfl rfl rfl rfl rfl (c_Rows_outside (d := d) (x0 := x1) (x1 := (p2_0 / 4)) (x2 := (p2_0 % 4)) (x3 := v11) (x4 := v13) t1 (by omega) (by omega) (by omega) (by omega) (by omega) (by omega) (by omega) (by omega) (fun v14 w15 w16 => ?_))
        show wp l rho (d + 2) 19 42 [(2, 1), (2, x1), (0, p2_0), (0, (p2_0 / 4)), (0, (p2_0 % 4)), (0, 0)] [(0, v14)] h Q
        refine w_ifle (t := 51) gz_19_42 rfl (fun u17 => ?_) (fun u17 => ?_)
        ·
          refine w_aload_n gz_19_51 rfl ?_
          refine w_getX (v := 5) gz_19_52 is_1 rd_3 rfl (by decide) rfl ?_
          refine w_iload_n gz_19_55 rfl ?_
          refine w_iald gz_19_56 is_5 rd_28 (by omega) (by omega) (fun v19 ev19 pv19 qv19 => ?_)
          refine w_iconst gz_19_57 (by decide) ?_
          refine w_iceq (t := 83) gz_19_58 rfl (fun u20 => ?_) (fun u20 => ?_)
          ·
            exact J83_0 ((p2_0 / 4)) ((p2_0 % 4)) (by omega) (by omega) (by omega) (by omega) (by omega)
          ·
            refine w_aload_n gz_19_61 rfl ?_
            refine w_iload_n gz_19_62 rfl ?_
            refine w_iload gz_19_63 rfl ?_
            refine w_aload_n gz_19_65 rfl ?_
            refine w_getX (v := 5) gz_19_66 is_1 rd_3 rfl (by decide) rfl ?_
            refine w_iload_n gz_19_69 rfl ?_
            refine w_iald gz_19_70 is_5 rd_28 (by omega) (by omega) (fun v22 ev22 pv22 qv22 => ?_)
            have zv22 := ev22.trans ev19.symm
            refine w_inS (k := 2) (as := [(0, v22), (0, (p2_0 % 4)), (0, (p2_0 / 4)), (2, x1)]) (r := []) (ls0 := [(2, x1), (0, (p2_0 / 4)), (0, (p2_0 % 4)), (0, v22), (9, 0), (9, 0)]) gz_19_71 gm_21 rfl rfl rfl rfl rfl rfl (c_Laws_namesKeys (d := d) (x0 := x1) (x1 := (p2_0 / 4)) (x2 := (p2_0 % 4)) (x3 := v22) t1 (by omega) (by omega) (by omega) (by omega) (by omega) (by omega) ?_ ?_)
            ·
              show wp l rho (d + 2) 19 74 [(2, 1), (2, x1), (0, p2_0), (0, (p2_0 / 4)), (0, (p2_0 % 4)), (0, 0)] [(0, 0)] h Q
              refine w_ifne (t := 83) gz_19_74 rfl (fun u23 => by exfalso; omega) (fun u23 => ?_)
              refine w_iconst gz_19_77 (by decide) ?_
              refine w_istore (ls' := [(2, 1), (2, x1), (0, p2_0), (0, (p2_0 / 4)), (0, (p2_0 % 4)), (0, 2)]) gz_19_78 gm_19 rfl rfl rfl ?_
              refine w_goto (t := 105) gz_19_80 rfl ?_
              exact J105_2 ((p2_0 / 4)) ((p2_0 % 4)) (2) (by omega) (by omega) (by omega) (by omega) (by omega) (by omega) (by omega)
            ·
              show wp l rho (d + 2) 19 74 [(2, 1), (2, x1), (0, p2_0), (0, (p2_0 / 4)), (0, (p2_0 % 4)), (0, 0)] [(0, 1)] h Q
              refine w_ifne (t := 83) gz_19_74 rfl (fun u24 => ?_) (fun u24 => by exfalso; omega)
              exact J83_0 ((p2_0 / 4)) ((p2_0 % 4)) (by omega) (by omega) (by omega) (by omega) (by omega)
        ·
          refine w_iconst gz_19_45 (by decide) ?_
          refine w_istore (ls' := [(2, 1), (2, x1), (0, p2_0), (0, (p2_0 / 4)), (0, (p2_0 % 4)), (0, 1)]) gz_19_46 gm_19 rfl rfl rfl ?_
          refine w_goto (t := 105) gz_19_48 rfl ?_
          refine w_iload gz_19_105 rfl ?_
          refine w_ifeq (t := 117) gz_19_107 rfl (fun u25 => by exfalso; omega) (fun u25 => ?_)
          refine w_iconst gz_19_110 (by decide) ?_
          refine w_iload_n gz_19_111 rfl ?_
          refine w_imul gz_19_112 ⟨by omega, by omega⟩ ?_
          refine w_iload gz_19_113 rfl ?_
          refine w_iadd gz_19_115 ⟨by omega, by omega⟩ ?_
          exact w_iret gz_19_116 gm_19 (k1 (((4 * p2_0) + 1)) (by omega) (by omega))
  refine w_iconst gz_19_0 (by decide) ?_
  refine w_istore_n (ls' := [(2, 1), (2, x1), (0, 0), (9, 0), (9, 0), (9, 0)]) gz_19_1 gm_19 rfl rfl rfl ?_
  exact J2_0 13 (0) (by omega) (by omega) (by omega)
theorem c_Model_cuts {l : Launch} {rho : Nat → Int32} {d : Nat} {h : my_H} {Q : my_H → my_V → Prop} {x1 x2 x3 : Int} (k0 : ∀ (h' : my_H), my_fr [(10, 0)] h h' → h' 151 0 = 0 → Q h' (0, (-1))) (k1 : ∀ (h' : my_H), my_fr [(10, 0)] h h' → 0 ≤ x1 → x1 ≤ 2 → 0 ≤ x2 → x2 ≤ 2147483646 → 0 ≤ x3 → x3 ≤ 0 → h' 151 0 = 0 → Q h' (0, 0)) (k2 : ∀ (h' : my_H) (y : Int), my_fr [(10, 0)] h h' → 0 ≤ x1 → x1 ≤ 2 → 0 ≤ x2 → x2 ≤ 2147483646 → 0 ≤ x3 → x3 ≤ 3 → h' 151 0 = 0 → Q h' (0, y)) : wp l rho (d + 3) 234 0 [(2, 151), (0, x1), (0, x2), (0, x3), (9, 0), (9, 0), (9, 0)] [] h Q := by
  have J49_0 : ∀ (n : Nat) (p49_0 p49_1 p49_2 : Int) (h49_0 : my_H), my_fr [(10, 0)] h h49_0 → 0 ≤ x1 → x1 ≤ 2 → 0 ≤ x2 → x2 ≤ 2147483646 → 0 ≤ x3 → x3 ≤ 3 → 0 ≤ p49_0 → p49_0 ≤ 16005 → (-1) ≤ p49_1 → p49_1 ≤ 16005 → 0 ≤ p49_2 → p49_2 ≤ 16005 → p49_0 ≤ p49_2 → p49_1 ≤ (p49_2 - 1) → h49_0 151 0 = 0 → 16006 - p49_2 ≤ (n : Int) → wp l rho (d + 3) 234 49 [(2, 151), (0, x1), (0, x2), (0, x3), (0, p49_0), (0, p49_1), (0, p49_2)] [] h49_0 Q := by
    intro n
    induction n with
    | zero => intro p49_0 p49_1 p49_2 h49_0 gh_49_0 q0_49_0 q1_49_0 q2_49_0 q3_49_0 q4_49_0 q5_49_0 q6_49_0 q7_49_0 q8_49_0 q9_49_0 q10_49_0 q11_49_0 q12_49_0 q13_49_0 c151_0_49_0 hm_49_0; exfalso; omega
    | succ n ih_49_0 =>
      intro p49_0 p49_1 p49_2 h49_0 gh_49_0 q0_49_0 q1_49_0 q2_49_0 q3_49_0 q4_49_0 q5_49_0 q6_49_0 q7_49_0 q8_49_0 q9_49_0 q10_49_0 q11_49_0 q12_49_0 q13_49_0 c151_0_49_0 hm_49_0
      have J110_0 : ∀ (p110_0 p110_1 : Int) (h110_0 : my_H), my_fr [(10, 0)] h h110_0 → 0 ≤ p110_0 → p110_0 ≤ 2400 → (-1) ≤ p110_1 → p110_1 ≤ 2399 → p49_2 ≤ 2399 → p49_1 ≤ 2398 → p49_0 ≤ 2399 → p110_0 ≤ (p49_2 + 1) → p110_0 ≤ (p49_0 + 1) → p110_1 ≤ p49_2 → p49_1 ≤ p110_1 → p49_1 ≤ (p49_2 - 1) → p49_0 ≤ p110_0 → p49_0 ≤ p49_2 → h110_0 151 0 = 0 → wp l rho (d + 3) 234 110 [(2, 151), (0, x1), (0, x2), (0, x3), (0, p110_0), (0, p110_1), (0, p49_2)] [] h110_0 Q := by
        intro p110_0 p110_1 h110_0 gh_110_0 q0_110_0 q1_110_0 q2_110_0 q3_110_0 q4_110_0 q5_110_0 q6_110_0 q7_110_0 q8_110_0 q9_110_0 q10_110_0 q11_110_0 q12_110_0 q13_110_0 c151_0_110_0
        refine w_iinc (ls' := [(2, 151), (0, x1), (0, x2), (0, x3), (0, p110_0), (0, p110_1), (0, (p49_2 + 1))]) gz_234_110 rfl gm_234 rfl rfl rfl ⟨by omega, by omega⟩ ?_
        refine w_goto (t := 49) gz_234_113 rfl ?_
        exact ih_49_0 (p110_0) (p110_1) ((p49_2 + 1)) h110_0 (gh_110_0) (by omega) (by omega) (by omega) (by omega) (by omega) (by omega) (by omega) (by omega) (by omega) (by omega) (by omega) (by omega) (by omega) (by omega) (c151_0_110_0.trans (by omega)) (by omega)
      have J105_0 : ∀ (p105_0 p105_1 : Int) (h105_0 : my_H), my_fr [(10, 0)] h h105_0 → 0 ≤ p105_0 → p105_0 ≤ 2399 → p49_1 ≤ 2398 → p49_2 ≤ 2399 → (-1) ≤ p105_1 → p105_1 ≤ 2399 → p49_0 ≤ 2399 → p105_0 ≤ p49_2 → p105_0 ≤ p49_0 → p105_1 ≤ p49_2 → p49_1 ≤ p105_1 → p49_1 ≤ (p49_2 - 1) → p49_0 ≤ p105_0 → p49_0 ≤ p49_2 → h105_0 151 0 = 0 → wp l rho (d + 3) 234 105 [(2, 151), (0, x1), (0, x2), (0, x3), (0, p105_0), (0, p49_1), (0, p49_2)] [(0, p105_1)] h105_0 Q := by
        intro p105_0 p105_1 h105_0 gh_105_0 q0_105_0 q1_105_0 q2_105_0 q3_105_0 q4_105_0 q5_105_0 q6_105_0 q7_105_0 q8_105_0 q9_105_0 q10_105_0 q11_105_0 q12_105_0 q13_105_0 c151_0_105_0
        refine w_istore (ls' := [(2, 151), (0, x1), (0, x2), (0, x3), (0, p105_0), (0, p105_1), (0, p49_2)]) gz_234_105 gm_234 rfl rfl rfl ?_
        refine w_iinc (ls' := [(2, 151), (0, x1), (0, x2), (0, x3), (0, (p105_0 + 1)), (0, p105_1), (0, p49_2)]) gz_234_107 rfl gm_234 rfl rfl rfl ⟨by omega, by omega⟩ ?_
        exact J110_0 ((p105_0 + 1)) (p105_1) h105_0 (gh_105_0) (by omega) (by omega) (by omega) (by omega) (by omega) (by omega) (by omega) (by omega) (by omega) (by omega) (by omega) (by omega) (by omega) (by omega) (c151_0_105_0.trans (by omega))
      refine w_iload gz_234_49 rfl ?_
      refine w_sipush gz_234_51 (by decide) ?_
      refine w_aload_n gz_234_54 rfl ?_
      refine w_getX (v := 157) gz_234_55 is_151 rd_10 rfl (by decide) rfl ?_
      refine w_iload_n gz_234_58 rfl ?_
      refine w_iald gz_234_59 is_157 rd_56 (by omega) (by omega) (fun v2 ev2 pv2 qv2 => ?_)
      refine w_imul gz_234_60 ⟨by omega, by omega⟩ ?_
      refine w_icge (t := 116) gz_234_61 rfl (fun u3 => ?_) (fun u3 => ?_)
      ·
        refine w_iload_n gz_234_116 rfl ?_
        refine w_ifne (t := 125) gz_234_117 rfl (fun u4 => ?_) (fun u4 => ?_)
        ·
          refine w_iload gz_234_125 rfl ?_
          refine w_ifne (t := 134) gz_234_127 rfl (fun u5 => ?_) (fun u5 => ?_)
          ·
            refine w_iload_n gz_234_134 rfl ?_
            refine w_iconst gz_234_135 (by decide) ?_
            refine w_icne (t := 148) gz_234_136 rfl (fun u6 => ?_) (fun u6 => ?_)
            ·
              refine w_iload_n gz_234_148 rfl ?_
              refine w_iconst gz_234_149 (by decide) ?_
              refine w_icne (t := 164) gz_234_150 rfl (fun u7 => ?_) (fun u7 => ?_)
              ·
                refine w_iload gz_234_164 rfl ?_
                refine w_sipush gz_234_166 (by decide) ?_
                refine w_ianyQ gz_234_169 (by decide) (fun v8 pv8 qv8 => ?_)
                have c9 := c151_0_49_0
                exact w_iret gz_234_170 gm_234 (k2 h49_0 (v8) (gh_49_0) (by omega) (by omega) (by omega) (by omega) (by omega) (by omega) (by omega))
              ·
                refine w_iload gz_234_153 rfl ?_
                refine w_sipush gz_234_155 (by decide) ?_
                refine w_ianyD gz_234_158 (by decide) (fun v10 pv10 qv10 => ?_)
                refine w_iconst gz_234_159 (by decide) ?_
                refine w_ianyQ gz_234_160 (by decide) (fun v11 pv11 qv11 => ?_)
                refine w_goto (t := 170) gz_234_161 rfl ?_
                have c12 := c151_0_49_0
                exact w_iret gz_234_170 gm_234 (k2 h49_0 (v11) (gh_49_0) (by omega) (by omega) (by omega) (by omega) (by omega) (by omega) (by omega))
            ·
              refine w_iload gz_234_139 rfl ?_
              refine w_sipush gz_234_141 (by decide) ?_
              refine w_ianyD gz_234_144 (by decide) (fun v13 pv13 qv13 => ?_)
              refine w_goto (t := 170) gz_234_145 rfl ?_
              have c14 := c151_0_49_0
              exact w_iret gz_234_170 gm_234 (k2 h49_0 (v13) (gh_49_0) (by omega) (by omega) (by omega) (by omega) (by omega) (by omega) (by omega))
          ·
            refine w_iconst gz_234_130 (by decide) ?_
            refine w_goto (t := 170) gz_234_131 rfl ?_
            have c15 := c151_0_49_0
            exact w_iret gz_234_170 gm_234 (k0 h49_0 (gh_49_0) (by omega))
        ·
          refine w_iload gz_234_120 rfl ?_
          refine w_goto (t := 170) gz_234_122 rfl ?_
          have c16 := c151_0_49_0
          exact w_iret gz_234_170 gm_234 (k2 h49_0 (p49_0) (gh_49_0) (by omega) (by omega) (by omega) (by omega) (by omega) (by omega) (by omega))
      ·
        refine w_aload_n gz_234_64 rfl ?_
        refine w_iload_n gz_234_65 rfl ?_
        refine w_iload_n gz_234_66 rfl ?_
        refine w_iload gz_234_67 rfl ?_
        refine w_sipush gz_234_69 (by decide) ?_
        refine w_idiv gz_234_72 (by omega) (by decide) ?_
        refine w_iload gz_234_73 rfl ?_
        refine w_sipush gz_234_75 (by decide) ?_
        refine w_idiv gz_234_78 (by omega) (by decide) ?_
        refine w_iconst gz_234_79 (by decide) ?_
        refine w_irem gz_234_80 (by omega) (by decide) ?_
        refine w_iload gz_234_81 rfl ?_
        refine w_sipush gz_234_83 (by decide) ?_
        refine w_irem gz_234_86 (by omega) (by decide) ?_
        refine w_inv (k := 4) (as := [(0, (p49_2 % 200)), (0, ((p49_2 / 200) % 3)), (0, (p49_2 / 600)), (0, x2), (0, x1)]) (r := []) (x := 151) (ls0 := [(2, 151), (0, x1), (0, x2), (0, (p49_2 / 600)), (0, ((p49_2 / 200) % 3)), (0, (p49_2 % 200)), (9, 0), (9, 0), (9, 0), (9, 0)]) gz_234_87 gm_235 rfl is_151 rd_10 rfl rfl rfl rfl rfl (c_Model_isCut (d := d) (x1 := x1) (x2 := x2) (x3 := (p49_2 / 600)) (x4 := ((p49_2 / 200) % 3)) (x5 := (p49_2 % 200)) (by omega) (by omega) (by omega) (by omega) (by omega) (by omega) (by omega) (by omega) (by omega) (by omega) ?_ ?_)
        ·
          show wp l rho (d + 3) 234 90 [(2, 151), (0, x1), (0, x2), (0, x3), (0, p49_0), (0, p49_1), (0, p49_2)] [(0, 0)] h49_0 Q
          refine w_ifeq (t := 110) gz_234_90 rfl (fun u17 => ?_) (fun u17 => by exfalso; omega)
          exact J110_0 (p49_0) (p49_1) h49_0 (gh_49_0) (by omega) (by omega) (by omega) (by omega) (by omega) (by omega) (by omega) (by omega) (by omega) (by omega) (by omega) (by omega) (by omega) (by omega) (c151_0_49_0.trans (by omega))
        ·
          show wp l rho (d + 3) 234 90 [(2, 151), (0, x1), (0, x2), (0, x3), (0, p49_0), (0, p49_1), (0, p49_2)] [(0, 1)] h49_0 Q
          refine w_ifeq (t := 110) gz_234_90 rfl (fun u18 => by exfalso; omega) (fun u18 => ?_)
          refine w_iload gz_234_93 rfl ?_
          refine w_ifne (t := 103) gz_234_95 rfl (fun u19 => ?_) (fun u19 => ?_)
          ·
            refine w_iload gz_234_103 rfl ?_
            exact J105_0 (p49_0) (p49_1) h49_0 (gh_49_0) (by omega) (by omega) (by omega) (by omega) (by omega) (by omega) (by omega) (by omega) (by omega) (by omega) (by omega) (by omega) (by omega) (by omega) (c151_0_49_0.trans (by omega))
          ·
            refine w_iload gz_234_98 rfl ?_
            refine w_goto (t := 105) gz_234_100 rfl ?_
            exact J105_0 (p49_0) (p49_2) h49_0 (gh_49_0) (by omega) (by omega) (by omega) (by omega) (by omega) (by omega) (by omega) (by omega) (by omega) (by omega) (by omega) (by omega) (by omega) (by omega) (c151_0_49_0.trans (by omega))
  refine w_aload_n gz_234_0 rfl ?_
  refine w_iconst gz_234_1 (by decide) ?_
  refine v_putI (j := 0) gz_234_2 rfl is_151 rd_10 rfl (by omega) (by omega) rfl (fun h20 fh20 => ?_)
  have gh20 : my_fr [(10, 0)] h h20 := my_fr.up my_fr.rf is_151 fh20 rfl
  refine w_aload_n gz_234_5 rfl ?_
  refine w_iload_n gz_234_6 rfl ?_
  refine w_inv (k := 0) (as := [(0, x1)]) (r := []) (x := 151) (ls0 := [(2, 151), (0, x1)]) gz_234_7 gm_149 rfl is_151 rd_10 rfl rfl rfl rfl rfl ?_
  refine w_iload_n gz_149_0 rfl ?_
  refine w_iflt (t := 22) gz_149_1 rfl (fun u21 => ?_) (fun u21 => ?_)
  ·
    refine w_iconst gz_149_22 (by decide) ?_
    refine w_bret gz_149_23 gm_149 (by omega) (by omega) ?_
    show wp l rho (d + 3) 234 10 [(2, 151), (0, x1), (0, x2), (0, x3), (9, 0), (9, 0), (9, 0)] [(0, 0)] h20 Q
    refine w_ifeq (t := 38) gz_234_10 rfl (fun u22 => ?_) (fun u22 => by exfalso; omega)
    refine w_iconst gz_234_38 (by decide) ?_
    have c23 := (my_up_self fh20)
    exact w_iret gz_234_39 gm_234 (k0 h20 (gh20) (by omega))
  ·
    refine w_iload_n gz_149_4 rfl ?_
    refine w_iconst gz_149_5 (by decide) ?_
    refine w_icge (t := 22) gz_149_6 rfl (fun u24 => ?_) (fun u24 => ?_)
    ·
      refine w_iconst gz_149_22 (by decide) ?_
      refine w_bret gz_149_23 gm_149 (by omega) (by omega) ?_
      show wp l rho (d + 3) 234 10 [(2, 151), (0, x1), (0, x2), (0, x3), (9, 0), (9, 0), (9, 0)] [(0, 0)] h20 Q
      refine w_ifeq (t := 38) gz_234_10 rfl (fun u25 => ?_) (fun u25 => by exfalso; omega)
      refine w_iconst gz_234_38 (by decide) ?_
      have c26 := (my_up_self fh20)
      exact w_iret gz_234_39 gm_234 (k0 h20 (gh20) (by omega))
    ·
      refine w_aload_n gz_149_9 rfl ?_
      refine w_getX (v := 157) gz_149_10 is_151 rd_10 rfl (by decide) rfl ?_
      refine w_iload_n gz_149_13 rfl ?_
      refine w_iald gz_149_14 is_157 rd_56 (by omega) (by omega) (fun v28 ev28 pv28 qv28 => ?_)
      refine w_ifle (t := 22) gz_149_15 rfl (fun u29 => ?_) (fun u29 => ?_)
      ·
        refine w_iconst gz_149_22 (by decide) ?_
        refine w_bret gz_149_23 gm_149 (by omega) (by omega) ?_
        show wp l rho (d + 3) 234 10 [(2, 151), (0, x1), (0, x2), (0, x3), (9, 0), (9, 0), (9, 0)] [(0, 0)] h20 Q
        refine w_ifeq (t := 38) gz_234_10 rfl (fun u30 => ?_) (fun u30 => by exfalso; omega)
        refine w_iconst gz_234_38 (by decide) ?_
        have c31 := (my_up_self fh20)
        exact w_iret gz_234_39 gm_234 (k0 h20 (gh20) (by omega))
      ·
        refine w_iconst gz_149_18 (by decide) ?_
        refine w_goto (t := 23) gz_149_19 rfl ?_
        refine w_bret gz_149_23 gm_149 (by omega) (by omega) ?_
        show wp l rho (d + 3) 234 10 [(2, 151), (0, x1), (0, x2), (0, x3), (9, 0), (9, 0), (9, 0)] [(0, 1)] h20 Q
        refine w_ifeq (t := 38) gz_234_10 rfl (fun u32 => by exfalso; omega) (fun u32 => ?_)
        refine w_iload_n gz_234_13 rfl ?_
        refine w_iflt (t := 38) gz_234_14 rfl (fun u33 => ?_) (fun u33 => ?_)
        ·
          refine w_iconst gz_234_38 (by decide) ?_
          have c34 := (my_up_self fh20)
          exact w_iret gz_234_39 gm_234 (k0 h20 (gh20) (by omega))
        ·
          refine w_iload_n gz_234_17 rfl ?_
          refine w_iconst gz_234_18 (by decide) ?_
          refine w_aload_n gz_234_19 rfl ?_
          refine w_iconst gz_234_20 (by decide) ?_
          refine w_iload_n gz_234_21 rfl ?_
          refine w_inv (k := 2) (as := [(0, x1), (0, 0)]) (r := [(0, 1), (0, x2)]) (x := 151) (ls0 := [(2, 151), (0, 0), (0, x1), (9, 0), (9, 0)]) gz_234_22 gm_151 rfl is_151 rd_10 rfl rfl rfl rfl rfl (c_Model_rowsOf (d := (d + 1)) (x1 := 0) (x2 := x1) (by omega) (by omega) (by omega) (by omega) (fun v35 w36 w37 => ?_))
          show wp l rho (d + 3) 234 25 [(2, 151), (0, x1), (0, x2), (0, x3), (9, 0), (9, 0), (9, 0)] [(0, v35), (0, 1), (0, x2)] h20 Q
          refine w_ianyL gz_234_25 (fun v38 pv38 qv38 => ?_)
          refine w_icge (t := 38) gz_234_26 rfl (fun u39 => ?_) (fun u39 => ?_)
          ·
            refine w_iconst gz_234_38 (by decide) ?_
            have c40 := (my_up_self fh20)
            exact w_iret gz_234_39 gm_234 (k0 h20 (gh20) (by omega))
          ·
            refine w_iload_n gz_234_29 rfl ?_
            refine w_iconst gz_234_30 (by decide) ?_
            refine w_iconst gz_234_31 (by decide) ?_
            refine w_inS (k := 0) (as := [(0, 3), (0, 0), (0, x3)]) (r := []) (ls0 := [(0, x3), (0, 0), (0, 3)]) gz_234_32 gm_147 rfl rfl rfl rfl rfl rfl ?_
            refine w_iload_n gz_147_0 rfl ?_
            refine w_iload_n gz_147_1 rfl ?_
            refine w_iclt (t := 14) gz_147_2 rfl (fun u41 => ?_) (fun u41 => ?_)
            ·
              refine w_iconst gz_147_14 (by decide) ?_
              refine w_bret gz_147_15 gm_147 (by omega) (by omega) ?_
              show wp l rho (d + 3) 234 35 [(2, 151), (0, x1), (0, x2), (0, x3), (9, 0), (9, 0), (9, 0)] [(0, 0)] h20 Q
              refine w_ifne (t := 40) gz_234_35 rfl (fun u42 => by exfalso; omega) (fun u42 => ?_)
              refine w_iconst gz_234_38 (by decide) ?_
              have c43 := (my_up_self fh20)
              exact w_iret gz_234_39 gm_234 (k0 h20 (gh20) (by omega))
            ·
              refine w_iload_n gz_147_5 rfl ?_
              refine w_iload_n gz_147_6 rfl ?_
              refine w_icgt (t := 14) gz_147_7 rfl (fun u44 => ?_) (fun u44 => ?_)
              ·
                refine w_iconst gz_147_14 (by decide) ?_
                refine w_bret gz_147_15 gm_147 (by omega) (by omega) ?_
                show wp l rho (d + 3) 234 35 [(2, 151), (0, x1), (0, x2), (0, x3), (9, 0), (9, 0), (9, 0)] [(0, 0)] h20 Q
                refine w_ifne (t := 40) gz_234_35 rfl (fun u45 => by exfalso; omega) (fun u45 => ?_)
                refine w_iconst gz_234_38 (by decide) ?_
                have c46 := (my_up_self fh20)
                exact w_iret gz_234_39 gm_234 (k0 h20 (gh20) (by omega))
              ·
                refine w_iconst gz_147_10 (by decide) ?_
                refine w_goto (t := 15) gz_147_11 rfl ?_
                refine w_bret gz_147_15 gm_147 (by omega) (by omega) ?_
                show wp l rho (d + 3) 234 35 [(2, 151), (0, x1), (0, x2), (0, x3), (9, 0), (9, 0), (9, 0)] [(0, 1)] h20 Q
                refine w_ifne (t := 40) gz_234_35 rfl (fun u47 => ?_) (fun u47 => by exfalso; omega)
                refine w_iconst gz_234_40 (by decide) ?_
                refine w_istore (ls' := [(2, 151), (0, x1), (0, x2), (0, x3), (0, 0), (9, 0), (9, 0)]) gz_234_41 gm_234 rfl rfl rfl ?_
                refine w_iconst gz_234_43 (by decide) ?_
                refine w_istore (ls' := [(2, 151), (0, x1), (0, x2), (0, x3), (0, 0), (0, (-1)), (9, 0)]) gz_234_44 gm_234 rfl rfl rfl ?_
                refine w_iconst gz_234_46 (by decide) ?_
                refine w_istore (ls' := [(2, 151), (0, x1), (0, x2), (0, x3), (0, 0), (0, (-1)), (0, 0)]) gz_234_47 gm_234 rfl rfl rfl ?_
                exact J49_0 16006 (0) ((-1)) (0) h20 (gh20) (by omega) (by omega) (by omega) (by omega) (by omega) (by omega) (by omega) (by omega) (by omega) (by omega) (by omega) (by omega) (by omega) (by omega) ((my_up_self fh20).trans (by omega)) (by omega)
theorem c_Model_mark {l : Launch} {rho : Nat → Int32} {d : Nat} {h : my_H} {Q : my_H → my_V → Prop} {x1 x2 : Int} (a2 : 0 ≤ x2) (b2 : x2 ≤ 1) (k0 : ∀ (h' : my_H), my_fr [(10, 0), (61, -1), (62, -1), (101, -1)] h h' → h' 151 0 = 0 → Q h' (0, 0)) (k1 : ∀ (h' : my_H), my_fr [(10, 0), (61, -1), (62, -1), (101, -1)] h h' → 0 ≤ x1 → x1 ≤ 3 → h' 151 0 = 0 → Q h' (0, 1)) : wp l rho (d + 4) 248 0 [(2, 151), (0, x1), (0, x2)] [] h Q := by
  have J39_0 : ∀ (p39_0 : Int) (h39_0 : my_H), my_fr [(10, 0), (61, -1), (62, -1), (101, -1)] h h39_0 → 0 ≤ x1 → x1 ≤ 3 → 0 ≤ p39_0 → p39_0 ≤ 1 → p39_0 ≤ x2 → x2 ≤ p39_0 → h39_0 151 0 = 0 → wp l rho (d + 4) 248 39 [(2, 151), (0, x1), (0, p39_0)] [] h39_0 Q := by
    intro p39_0 h39_0 gh_39_0 q0_39_0 q1_39_0 q2_39_0 q3_39_0 q4_39_0 q5_39_0 c151_0_39_0
    refine w_aload_n gz_248_39 rfl ?_
    refine w_iload_n gz_248_40 rfl ?_
    refine w_ifeq (t := 50) gz_248_41 rfl (fun u1 => ?_) (fun u1 => ?_)
    ·
      refine w_iconst gz_248_50 (by decide) ?_
      refine w_iload_n gz_248_51 rfl ?_
      refine w_ifeq (t := 59) gz_248_52 rfl (fun u2 => ?_) (fun u2 => by exfalso; omega)
      refine w_iconst gz_248_59 (by decide) ?_
      refine w_iload_n gz_248_60 rfl ?_
      refine w_iadd gz_248_61 ⟨by omega, by omega⟩ ?_
      refine w_inv (k := 1) (as := [(0, (1 + x1)), (0, 0)]) (r := []) (x := 151) (ls0 := [(2, 151), (0, 0), (0, (1 + x1)), (9, 0)]) gz_248_62 gm_152 rfl is_151 rd_10 rfl rfl rfl rfl rfl (c_Model_copies (d := (d + 3)) (x1 := 0) (x2 := (1 + x1)) (by omega) (by omega) (by omega) (by omega) (fun h3 frh3 => ?_))
      have gh3 : my_fr [(10, 0), (61, -1), (62, -1), (101, -1)] h h3 := my_fr.tr gh_39_0 (frh3.mo rfl)
      show wp l rho (d + 4) 248 65 [(2, 151), (0, x1), (0, p39_0)] [] h3 Q
      refine w_aload_n gz_248_65 rfl ?_
      refine w_getX (v := 202) gz_248_66 is_151 rd_10 rfl (by decide) rfl ?_
      refine w_iload_n gz_248_69 rfl ?_
      refine w_iconst gz_248_70 (by decide) ?_
      refine w_bast gz_248_71 is_202 rd_101 (by omega) (by omega) (by omega) (by omega) (fun h5 fh5 => ?_)
      have gh5 : my_fr [(10, 0), (61, -1), (62, -1), (101, -1)] h h5 := my_fr.up gh3 is_202 fh5 rfl
      refine w_iconst gz_248_72 (by decide) ?_
      have c6 := ((my_up_role fh5 is_151 is_202 rfl).trans ((my_fr.at frh3 is_151 rfl).trans c151_0_39_0))
      exact w_bret gz_248_73 gm_248 (by omega) (by omega) (k1 h5 (gh5) (by omega) (by omega) (by omega))
    ·
      refine w_iconst gz_248_44 (by decide) ?_
      refine w_iload_n gz_248_45 rfl ?_
      refine w_iadd gz_248_46 ⟨by omega, by omega⟩ ?_
      refine w_goto (t := 51) gz_248_47 rfl ?_
      refine w_iload_n gz_248_51 rfl ?_
      refine w_ifeq (t := 59) gz_248_52 rfl (fun u7 => by exfalso; omega) (fun u7 => ?_)
      refine w_iconst gz_248_55 (by decide) ?_
      refine w_goto (t := 62) gz_248_56 rfl ?_
      refine w_inv (k := 1) (as := [(0, 0), (0, (1 + x1))]) (r := []) (x := 151) (ls0 := [(2, 151), (0, (1 + x1)), (0, 0), (9, 0)]) gz_248_62 gm_152 rfl is_151 rd_10 rfl rfl rfl rfl rfl (c_Model_copies (d := (d + 3)) (x1 := (1 + x1)) (x2 := 0) (by omega) (by omega) (by omega) (by omega) (fun h8 frh8 => ?_))
      have gh8 : my_fr [(10, 0), (61, -1), (62, -1), (101, -1)] h h8 := my_fr.tr gh_39_0 (frh8.mo rfl)
      show wp l rho (d + 4) 248 65 [(2, 151), (0, x1), (0, p39_0)] [] h8 Q
      refine w_aload_n gz_248_65 rfl ?_
      refine w_getX (v := 202) gz_248_66 is_151 rd_10 rfl (by decide) rfl ?_
      refine w_iload_n gz_248_69 rfl ?_
      refine w_iconst gz_248_70 (by decide) ?_
      refine w_bast gz_248_71 is_202 rd_101 (by omega) (by omega) (by omega) (by omega) (fun h10 fh10 => ?_)
      have gh10 : my_fr [(10, 0), (61, -1), (62, -1), (101, -1)] h h10 := my_fr.up gh8 is_202 fh10 rfl
      refine w_iconst gz_248_72 (by decide) ?_
      have c11 := ((my_up_role fh10 is_151 is_202 rfl).trans ((my_fr.at frh8 is_151 rfl).trans c151_0_39_0))
      exact w_bret gz_248_73 gm_248 (by omega) (by omega) (k1 h10 (gh10) (by omega) (by omega) (by omega))
  refine w_aload_n gz_248_0 rfl ?_
  refine w_iconst gz_248_1 (by decide) ?_
  refine v_putI (j := 0) gz_248_2 rfl is_151 rd_10 rfl (by omega) (by omega) rfl (fun h12 fh12 => ?_)
  have gh12 : my_fr [(10, 0), (61, -1), (62, -1), (101, -1)] h h12 := my_fr.up my_fr.rf is_151 fh12 rfl
  refine w_iload_n gz_248_5 rfl ?_
  refine w_iconst gz_248_6 (by decide) ?_
  refine w_iconst gz_248_7 (by decide) ?_
  refine w_inS (k := 0) (as := [(0, 3), (0, 0), (0, x1)]) (r := []) (ls0 := [(0, x1), (0, 0), (0, 3)]) gz_248_8 gm_147 rfl rfl rfl rfl rfl rfl ?_
  refine w_iload_n gz_147_0 rfl ?_
  refine w_iload_n gz_147_1 rfl ?_
  refine w_iclt (t := 14) gz_147_2 rfl (fun u13 => ?_) (fun u13 => ?_)
  ·
    refine w_iconst gz_147_14 (by decide) ?_
    refine w_bret gz_147_15 gm_147 (by omega) (by omega) ?_
    show wp l rho (d + 4) 248 11 [(2, 151), (0, x1), (0, x2)] [(0, 0)] h12 Q
    refine w_ifeq (t := 37) gz_248_11 rfl (fun u14 => ?_) (fun u14 => by exfalso; omega)
    refine w_iconst gz_248_37 (by decide) ?_
    have c15 := (my_up_self fh12)
    exact w_bret gz_248_38 gm_248 (by omega) (by omega) (k0 h12 (gh12) (by omega))
  ·
    refine w_iload_n gz_147_5 rfl ?_
    refine w_iload_n gz_147_6 rfl ?_
    refine w_icgt (t := 14) gz_147_7 rfl (fun u16 => ?_) (fun u16 => ?_)
    ·
      refine w_iconst gz_147_14 (by decide) ?_
      refine w_bret gz_147_15 gm_147 (by omega) (by omega) ?_
      show wp l rho (d + 4) 248 11 [(2, 151), (0, x1), (0, x2)] [(0, 0)] h12 Q
      refine w_ifeq (t := 37) gz_248_11 rfl (fun u17 => ?_) (fun u17 => by exfalso; omega)
      refine w_iconst gz_248_37 (by decide) ?_
      have c18 := (my_up_self fh12)
      exact w_bret gz_248_38 gm_248 (by omega) (by omega) (k0 h12 (gh12) (by omega))
    ·
      refine w_iconst gz_147_10 (by decide) ?_
      refine w_goto (t := 15) gz_147_11 rfl ?_
      refine w_bret gz_147_15 gm_147 (by omega) (by omega) ?_
      show wp l rho (d + 4) 248 11 [(2, 151), (0, x1), (0, x2)] [(0, 1)] h12 Q
      refine w_ifeq (t := 37) gz_248_11 rfl (fun u19 => by exfalso; omega) (fun u19 => ?_)
      refine w_iload_n gz_248_14 rfl ?_
      refine w_ifeq (t := 39) gz_248_15 rfl (fun u20 => ?_) (fun u20 => ?_)
      ·
        exact J39_0 (x2) h12 (gh12) (by omega) (by omega) (by omega) (by omega) (by omega) (by omega) ((my_up_self fh12).trans (by omega))
      ·
        refine w_aload_n gz_248_18 rfl ?_
        refine w_getX (v := 202) gz_248_19 is_151 rd_10 rfl (by decide) rfl ?_
        refine w_iload_n gz_248_22 rfl ?_
        refine w_bald gz_248_23 is_202 rd_101 (by omega) (by omega) (fun v22 ev22 pv22 qv22 => ?_)
        refine w_ifeq (t := 37) gz_248_24 rfl (fun u23 => ?_) (fun u23 => ?_)
        ·
          refine w_iconst gz_248_37 (by decide) ?_
          have c24 := (my_up_self fh12)
          exact w_bret gz_248_38 gm_248 (by omega) (by omega) (k0 h12 (gh12) (by omega))
        ·
          refine w_aload_n gz_248_27 rfl ?_
          refine w_iconst gz_248_28 (by decide) ?_
          refine w_iload_n gz_248_29 rfl ?_
          refine w_iadd gz_248_30 ⟨by omega, by omega⟩ ?_
          refine w_inv (k := 2) (as := [(0, (1 + x1))]) (r := []) (x := 151) (ls0 := [(2, 151), (0, (1 + x1)), (9, 0), (9, 0)]) gz_248_31 gm_155 rfl is_151 rd_10 rfl rfl rfl rfl rfl (c_Model_isLawful (d := d) (x1 := (1 + x1)) (by omega) (by omega) ?_ ?_)
          ·
            show wp l rho (d + 4) 248 34 [(2, 151), (0, x1), (0, x2)] [(0, 0)] h12 Q
            refine w_ifne (t := 39) gz_248_34 rfl (fun u25 => by exfalso; omega) (fun u25 => ?_)
            refine w_iconst gz_248_37 (by decide) ?_
            have c26 := (my_up_self fh12)
            exact w_bret gz_248_38 gm_248 (by omega) (by omega) (k0 h12 (gh12) (by omega))
          ·
            show wp l rho (d + 4) 248 34 [(2, 151), (0, x1), (0, x2)] [(0, 1)] h12 Q
            refine w_ifne (t := 39) gz_248_34 rfl (fun u27 => ?_) (fun u27 => by exfalso; omega)
            exact J39_0 (x2) h12 (gh12) (by omega) (by omega) (by omega) (by omega) (by omega) (by omega) ((my_up_self fh12).trans (by omega))
theorem c_ThroughWindow_feed {l : Launch} {rho : Nat → Int32} {d : Nat} {h : my_H} {Q : my_H → my_V → Prop} {x1 x2 x3 : Int} (k0 : ∀ (h' : my_H) (y : Int), my_fr [(5, 4), (40, -1)] h h' → 0 ≤ y → y ≤ 1000 → Q h' (0, y)) : wp l rho (d + 1) 32 0 [(2, 0), (1, x1), (9, 0), (1, x2), (9, 0), (1, x3), (9, 0)] [] h Q := by
  refine w_aload_n gz_32_0 rfl ?_
  refine w_getX (v := 82) gz_32_1 is_0 rd_9 rfl (by decide) rfl ?_
  refine w_lload_n gz_32_4 rfl ?_
  refine w_inv (k := 2) (as := [(1, x1)]) (r := []) (x := 82) (ls0 := [(2, 82), (1, x1), (9, 0), (9, 0), (9, 0)]) gz_32_5 gm_33 rfl is_82 rd_5 rfl rfl rfl rfl rfl (c_Reader_take (d := d) (x1 := x1)  (fun h2 frh2 => ?_))
  have gh2 : my_fr [(5, 4), (40, -1)] h h2 := my_fr.tr my_fr.rf (frh2.mo rfl)
  show wp l rho (d + 1) 32 8 [(2, 0), (1, x1), (9, 0), (1, x2), (9, 0), (1, x3), (9, 0)] [] h2 Q
  refine w_aload_n gz_32_8 rfl ?_
  refine w_getX (v := 82) gz_32_9 is_0 rd_9 rfl (by decide) rfl ?_
  refine w_lload_n gz_32_12 rfl ?_
  refine w_inv (k := 2) (as := [(1, x2)]) (r := []) (x := 82) (ls0 := [(2, 82), (1, x2), (9, 0), (9, 0), (9, 0)]) gz_32_13 gm_33 rfl is_82 rd_5 rfl rfl rfl rfl rfl (c_Reader_take (d := d) (x1 := x2)  (fun h4 frh4 => ?_))
  have gh4 : my_fr [(5, 4), (40, -1)] h h4 := my_fr.tr gh2 (frh4.mo rfl)
  show wp l rho (d + 1) 32 16 [(2, 0), (1, x1), (9, 0), (1, x2), (9, 0), (1, x3), (9, 0)] [] h4 Q
  refine w_aload_n gz_32_16 rfl ?_
  refine w_getX (v := 82) gz_32_17 is_0 rd_9 rfl (by decide) rfl ?_
  refine w_lload gz_32_20 rfl ?_
  refine w_inv (k := 2) (as := [(1, x3)]) (r := []) (x := 82) (ls0 := [(2, 82), (1, x3), (9, 0), (9, 0), (9, 0)]) gz_32_22 gm_33 rfl is_82 rd_5 rfl rfl rfl rfl rfl (c_Reader_take (d := d) (x1 := x3)  (fun h6 frh6 => ?_))
  have gh6 : my_fr [(5, 4), (40, -1)] h h6 := my_fr.tr gh4 (frh6.mo rfl)
  show wp l rho (d + 1) 32 25 [(2, 0), (1, x1), (9, 0), (1, x2), (9, 0), (1, x3), (9, 0)] [] h6 Q
  refine w_aload_n gz_32_25 rfl ?_
  refine w_getX (v := 82) gz_32_26 is_0 rd_9 rfl (by decide) rfl ?_
  refine v_getI (j := 4) gz_32_29 rfl is_82 rd_5 rfl (fun v8 ev8 pv8 qv8 => ?_)
  exact w_iret gz_32_32 gm_32 (k0 h6 (v8) (gh6) (by omega) (by omega))
theorem c_Model_takes {l : Launch} {rho : Nat → Int32} {d : Nat} {h : my_H} {Q : my_H → my_V → Prop} (k0 : ∀ (h' : my_H), my_fr [(61, -1), (62, -1)] h h' → Q h' (0, 0)) (k1 : ∀ (h' : my_H), my_fr [(61, -1), (62, -1)] h h' → Q h' (0, 1)) : wp l rho (d + 4) 154 0 [(2, 151)] [] h Q := by
  refine w_aload_n gz_154_0 rfl ?_
  refine w_iconst gz_154_1 (by decide) ?_
  refine w_inv (k := 2) (as := [(0, 5)]) (r := []) (x := 151) (ls0 := [(2, 151), (0, 5), (9, 0), (9, 0)]) gz_154_2 gm_155 rfl is_151 rd_10 rfl rfl rfl rfl rfl (c_Model_isLawful (d := d) (x1 := 5) (by omega) (by omega) ?_ ?_)
  ·
    show wp l rho (d + 4) 154 5 [(2, 151)] [(0, 0)] h Q
    refine w_ifne (t := 10) gz_154_5 rfl (fun u1 => by exfalso; omega) (fun u1 => ?_)
    refine w_iconst gz_154_8 (by decide) ?_
    exact w_bret gz_154_9 gm_154 (by omega) (by omega) (k0 h (my_fr.rf))
  ·
    show wp l rho (d + 4) 154 5 [(2, 151)] [(0, 1)] h Q
    refine w_ifne (t := 10) gz_154_5 rfl (fun u2 => ?_) (fun u2 => by exfalso; omega)
    refine w_aload_n gz_154_10 rfl ?_
    refine w_iconst gz_154_11 (by decide) ?_
    refine w_iconst gz_154_12 (by decide) ?_
    refine w_inv (k := 1) (as := [(0, 0), (0, 5)]) (r := []) (x := 151) (ls0 := [(2, 151), (0, 5), (0, 0), (9, 0)]) gz_154_13 gm_152 rfl is_151 rd_10 rfl rfl rfl rfl rfl (c_Model_copies (d := (d + 3)) (x1 := 5) (x2 := 0) (by omega) (by omega) (by omega) (by omega) (fun h3 frh3 => ?_))
    have gh3 : my_fr [(61, -1), (62, -1)] h h3 := my_fr.tr my_fr.rf (frh3.mo rfl)
    show wp l rho (d + 4) 154 16 [(2, 151)] [] h3 Q
    refine w_iconst gz_154_16 (by decide) ?_
    exact w_bret gz_154_17 gm_154 (by omega) (by omega) (k1 h3 (gh3))
theorem c_Model_out {l : Launch} {rho : Nat → Int32} {d : Nat} {h : my_H} {Q : my_H → my_V → Prop} {x1 x2 : Int} (k0 : ∀ (h' : my_H), my_fr [(10, 0), (61, -1), (62, -1)] h h' → h' 151 0 = 0 → Q h' (0, 0)) (k1 : ∀ (h' : my_H), my_fr [(10, 0), (61, -1), (62, -1)] h h' → 0 ≤ x1 → x1 ≤ 2 → 0 ≤ x2 → x2 ≤ 19 → h' 151 0 = 0 → Q h' (0, 1)) : wp l rho (d + 5) 158 0 [(2, 151), (0, x1), (0, x2)] [] h Q := by
  refine w_aload_n gz_158_0 rfl ?_
  refine w_iconst gz_158_1 (by decide) ?_
  refine v_putI (j := 0) gz_158_2 rfl is_151 rd_10 rfl (by omega) (by omega) rfl (fun h1 fh1 => ?_)
  have gh1 : my_fr [(10, 0), (61, -1), (62, -1)] h h1 := my_fr.up my_fr.rf is_151 fh1 rfl
  refine w_aload_n gz_158_5 rfl ?_
  refine w_iload_n gz_158_6 rfl ?_
  refine w_iload_n gz_158_7 rfl ?_
  refine w_inv (k := 0) (as := [(0, x2), (0, x1)]) (r := []) (x := 151) (ls0 := [(2, 151), (0, x1), (0, x2)]) gz_158_8 gm_159 rfl is_151 rd_10 rfl rfl rfl rfl rfl (c_Model_isRow (d := (d + 3)) (x1 := x1) (x2 := x2)  ?_ (fun w2 w3 w4 w5 => ?_))
  ·
    show wp l rho (d + 5) 158 11 [(2, 151), (0, x1), (0, x2)] [(0, 0)] h1 Q
    refine w_ifne (t := 16) gz_158_11 rfl (fun u6 => by exfalso; omega) (fun u6 => ?_)
    refine w_iconst gz_158_14 (by decide) ?_
    have c7 := (my_up_self fh1)
    exact w_bret gz_158_15 gm_158 (by omega) (by omega) (k0 h1 (gh1) (by omega))
  ·
    show wp l rho (d + 5) 158 11 [(2, 151), (0, x1), (0, x2)] [(0, 1)] h1 Q
    refine w_ifne (t := 16) gz_158_11 rfl (fun u8 => ?_) (fun u8 => by exfalso; omega)
    refine w_aload_n gz_158_16 rfl ?_
    refine w_iconst gz_158_17 (by decide) ?_
    refine w_iconst gz_158_18 (by decide) ?_
    refine w_inv (k := 1) (as := [(0, 5), (0, 0)]) (r := []) (x := 151) (ls0 := [(2, 151), (0, 0), (0, 5), (9, 0)]) gz_158_19 gm_152 rfl is_151 rd_10 rfl rfl rfl rfl rfl (c_Model_copies (d := (d + 4)) (x1 := 0) (x2 := 5) (by omega) (by omega) (by omega) (by omega) (fun h9 frh9 => ?_))
    have gh9 : my_fr [(10, 0), (61, -1), (62, -1)] h h9 := my_fr.tr gh1 (frh9.mo rfl)
    show wp l rho (d + 5) 158 22 [(2, 151), (0, x1), (0, x2)] [] h9 Q
    refine w_aload_n gz_158_22 rfl ?_
    refine w_getX (v := 162) gz_158_23 is_151 rd_10 rfl (by decide) rfl ?_
    refine w_iconst gz_158_26 (by decide) ?_
    refine w_iload_n gz_158_27 rfl ?_
    refine w_iload_n gz_158_28 rfl ?_
    refine w_inS (k := 0) (as := [(0, x2), (0, x1), (0, 5)]) (r := [(2, 162)]) (ls0 := [(0, 5), (0, x1), (0, x2)]) gz_158_29 gm_150 rfl rfl rfl rfl rfl rfl ?_
    refine w_bipush gz_150_0 (by decide) ?_
    refine w_iload_n gz_150_2 rfl ?_
    refine w_imul gz_150_3 ⟨by omega, by omega⟩ ?_
    refine w_bipush gz_150_4 (by decide) ?_
    refine w_iload_n gz_150_6 rfl ?_
    refine w_imul gz_150_7 ⟨by omega, by omega⟩ ?_
    refine w_iadd gz_150_8 ⟨by omega, by omega⟩ ?_
    refine w_iload_n gz_150_9 rfl ?_
    refine w_iadd gz_150_10 ⟨by omega, by omega⟩ ?_
    refine w_iret gz_150_11 gm_150 ?_
    show wp l rho (d + 5) 158 32 [(2, 151), (0, x1), (0, x2)] [(0, (((60 * 5) + (20 * x1)) + x2)), (2, 162)] h9 Q
    refine w_iconst gz_158_32 (by decide) ?_
    refine w_bast gz_158_33 is_162 rd_61 (by omega) (by omega) (by omega) (by omega) (fun h11 fh11 => ?_)
    have gh11 : my_fr [(10, 0), (61, -1), (62, -1)] h h11 := my_fr.up gh9 is_162 fh11 rfl
    refine w_aload_n gz_158_34 rfl ?_
    refine w_inv (k := 0) (as := []) (r := []) (x := 151) (ls0 := [(2, 151)]) gz_158_35 gm_154 rfl is_151 rd_10 rfl rfl rfl rfl rfl (c_Model_takes (d := d)   (fun h12 frh12 => ?_) (fun h13 frh13 => ?_))
    ·
      have gh12 : my_fr [(10, 0), (61, -1), (62, -1)] h h12 := my_fr.tr gh11 (frh12.mo rfl)
      show wp l rho (d + 5) 158 38 [(2, 151), (0, x1), (0, x2)] [(0, 0)] h12 Q
      have c14 := ((my_fr.at frh12 is_151 rfl).trans ((my_up_role fh11 is_151 is_162 rfl).trans ((my_fr.at frh9 is_151 rfl).trans (my_up_self fh1))))
      exact w_bret gz_158_38 gm_158 (by omega) (by omega) (k0 h12 (gh12) (by omega))
    ·
      have gh13 : my_fr [(10, 0), (61, -1), (62, -1)] h h13 := my_fr.tr gh11 (frh13.mo rfl)
      show wp l rho (d + 5) 158 38 [(2, 151), (0, x1), (0, x2)] [(0, 1)] h13 Q
      have c15 := ((my_fr.at frh13 is_151 rfl).trans ((my_up_role fh11 is_151 is_162 rfl).trans ((my_fr.at frh9 is_151 rfl).trans (my_up_self fh1))))
      exact w_bret gz_158_38 gm_158 (by omega) (by omega) (k1 h13 (gh13) (by omega) (by omega) (by omega) (by omega) (by omega))
theorem c_Laws_hold {l : Launch} {rho : Nat → Int32} {d : Nat} {h : my_H} {Q : my_H → my_V → Prop} {x1 : Int} (t1 : my_is 6 x1) (k0 : Q h (0, 0)) (k1 : Q h (0, 1)) : wp l rho (d + 3) 18 0 [(2, 1), (2, x1)] [] h Q := by
  refine w_aload_n gz_18_0 rfl ?_
  refine w_aload_n gz_18_1 rfl ?_
  refine w_inv (k := 4) (as := [(2, x1)]) (r := []) (x := 1) (ls0 := [(2, 1), (2, x1), (9, 0), (9, 0), (9, 0), (9, 0)]) gz_18_2 gm_19 rfl is_1 rd_3 rfl rfl rfl rfl rfl (c_Laws_firstBroken (d := d) (x1 := x1) t1 ?_ (fun v1 w2 w3 => ?_))
  ·
    show wp l rho (d + 3) 18 5 [(2, 1), (2, x1)] [(0, (-1))] h Q
    refine w_iconst gz_18_5 (by decide) ?_
    refine w_icne (t := 13) gz_18_6 rfl (fun u4 => by exfalso; omega) (fun u4 => ?_)
    refine w_iconst gz_18_9 (by decide) ?_
    refine w_goto (t := 14) gz_18_10 rfl ?_
    exact w_bret gz_18_14 gm_18 (by omega) (by omega) (k1 )
  ·
    show wp l rho (d + 3) 18 5 [(2, 1), (2, x1)] [(0, v1)] h Q
    refine w_iconst gz_18_5 (by decide) ?_
    refine w_icne (t := 13) gz_18_6 rfl (fun u5 => ?_) (fun u5 => by exfalso; omega)
    refine w_iconst gz_18_13 (by decide) ?_
    exact w_bret gz_18_14 gm_18 (by omega) (by omega) (k0 )
theorem c_ThroughWindow_out {l : Launch} {rho : Nat → Int32} {d : Nat} {h : my_H} {Q : my_H → my_V → Prop} {x1 x2 : Int} (k0 : ∀ (h' : my_H), my_fr [(30, -1), (31, -1)] h h' → Q h' (0, 0)) (k1 : ∀ (h' : my_H), my_fr [(30, -1), (31, -1)] h h' → 0 ≤ x1 → x1 ≤ 2 → 0 ≤ x2 → x2 ≤ 19 → Q h' (0, 1)) : wp l rho (d + 4) 24 0 [(2, 0), (0, x1), (0, x2)] [] h Q := by
  refine w_aload_n gz_24_0 rfl ?_
  refine w_getX (v := 1) gz_24_1 is_0 rd_9 rfl (by decide) rfl ?_
  refine w_iload_n gz_24_4 rfl ?_
  refine w_inv (k := 0) (as := [(0, x1)]) (r := []) (x := 1) (ls0 := [(2, 1), (0, x1)]) gz_24_5 gm_13 rfl is_1 rd_3 rfl rfl rfl rfl rfl ?_
  refine w_iload_n gz_13_0 rfl ?_
  refine w_iflt (t := 22) gz_13_1 rfl (fun u2 => ?_) (fun u2 => ?_)
  ·
    refine w_iconst gz_13_22 (by decide) ?_
    refine w_bret gz_13_23 gm_13 (by omega) (by omega) ?_
    show wp l rho (d + 4) 24 8 [(2, 0), (0, x1), (0, x2)] [(0, 0)] h Q
    refine w_ifeq (t := 23) gz_24_8 rfl (fun u3 => ?_) (fun u3 => by exfalso; omega)
    refine w_iconst gz_24_23 (by decide) ?_
    exact w_bret gz_24_24 gm_24 (by omega) (by omega) (k0 h (my_fr.rf))
  ·
    refine w_iload_n gz_13_4 rfl ?_
    refine w_iconst gz_13_5 (by decide) ?_
    refine w_icge (t := 22) gz_13_6 rfl (fun u4 => ?_) (fun u4 => ?_)
    ·
      refine w_iconst gz_13_22 (by decide) ?_
      refine w_bret gz_13_23 gm_13 (by omega) (by omega) ?_
      show wp l rho (d + 4) 24 8 [(2, 0), (0, x1), (0, x2)] [(0, 0)] h Q
      refine w_ifeq (t := 23) gz_24_8 rfl (fun u5 => ?_) (fun u5 => by exfalso; omega)
      refine w_iconst gz_24_23 (by decide) ?_
      exact w_bret gz_24_24 gm_24 (by omega) (by omega) (k0 h (my_fr.rf))
    ·
      refine w_aload_n gz_13_9 rfl ?_
      refine w_getX (v := 2) gz_13_10 is_1 rd_3 rfl (by decide) rfl ?_
      refine w_iload_n gz_13_13 rfl ?_
      refine w_iald gz_13_14 is_2 rd_25 (by omega) (by omega) (fun v7 ev7 pv7 qv7 => ?_)
      refine w_ifle (t := 22) gz_13_15 rfl (fun u8 => ?_) (fun u8 => ?_)
      ·
        refine w_iconst gz_13_22 (by decide) ?_
        refine w_bret gz_13_23 gm_13 (by omega) (by omega) ?_
        show wp l rho (d + 4) 24 8 [(2, 0), (0, x1), (0, x2)] [(0, 0)] h Q
        refine w_ifeq (t := 23) gz_24_8 rfl (fun u9 => ?_) (fun u9 => by exfalso; omega)
        refine w_iconst gz_24_23 (by decide) ?_
        exact w_bret gz_24_24 gm_24 (by omega) (by omega) (k0 h (my_fr.rf))
      ·
        refine w_iconst gz_13_18 (by decide) ?_
        refine w_goto (t := 23) gz_13_19 rfl ?_
        refine w_bret gz_13_23 gm_13 (by omega) (by omega) ?_
        show wp l rho (d + 4) 24 8 [(2, 0), (0, x1), (0, x2)] [(0, 1)] h Q
        refine w_ifeq (t := 23) gz_24_8 rfl (fun u10 => by exfalso; omega) (fun u10 => ?_)
        refine w_aload_n gz_24_11 rfl ?_
        refine w_getX (v := 7) gz_24_12 is_0 rd_9 rfl (by decide) rfl ?_
        refine w_iload_n gz_24_15 rfl ?_
        refine w_iload_n gz_24_16 rfl ?_
        refine w_inv (k := 0) (as := [(0, x2), (0, x1)]) (r := []) (x := 7) (ls0 := [(2, 7), (0, x1), (0, x2)]) gz_24_17 gm_15 rfl is_7 rd_6 rfl rfl rfl rfl rfl ?_
        refine w_iload_n gz_15_0 rfl ?_
        refine w_iflt (t := 31) gz_15_1 rfl (fun u12 => ?_) (fun u12 => ?_)
        ·
          refine w_iconst gz_15_31 (by decide) ?_
          refine w_bret gz_15_32 gm_15 (by omega) (by omega) ?_
          show wp l rho (d + 4) 24 20 [(2, 0), (0, x1), (0, x2)] [(0, 0)] h Q
          refine w_ifne (t := 25) gz_24_20 rfl (fun u13 => by exfalso; omega) (fun u13 => ?_)
          refine w_iconst gz_24_23 (by decide) ?_
          exact w_bret gz_24_24 gm_24 (by omega) (by omega) (k0 h (my_fr.rf))
        ·
          refine w_iload_n gz_15_4 rfl ?_
          refine w_bipush gz_15_5 (by decide) ?_
          refine w_icge (t := 31) gz_15_7 rfl (fun u14 => ?_) (fun u14 => ?_)
          ·
            refine w_iconst gz_15_31 (by decide) ?_
            refine w_bret gz_15_32 gm_15 (by omega) (by omega) ?_
            show wp l rho (d + 4) 24 20 [(2, 0), (0, x1), (0, x2)] [(0, 0)] h Q
            refine w_ifne (t := 25) gz_24_20 rfl (fun u15 => by exfalso; omega) (fun u15 => ?_)
            refine w_iconst gz_24_23 (by decide) ?_
            exact w_bret gz_24_24 gm_24 (by omega) (by omega) (k0 h (my_fr.rf))
          ·
            refine w_aload_n gz_15_10 rfl ?_
            refine w_getX (v := 8) gz_15_11 is_7 rd_6 rfl (by decide) rfl ?_
            refine w_iload_n gz_15_14 rfl ?_
            refine w_bipush gz_15_15 (by decide) ?_
            refine w_imul gz_15_17 ⟨by omega, by omega⟩ ?_
            refine w_iload_n gz_15_18 rfl ?_
            refine w_iadd gz_15_19 ⟨by omega, by omega⟩ ?_
            refine w_iconst gz_15_20 (by decide) ?_
            refine w_imul gz_15_21 ⟨by omega, by omega⟩ ?_
            refine w_iald gz_15_22 is_8 rd_30 (by omega) (by omega) (fun v17 ev17 pv17 qv17 => ?_)
            refine w_iconst gz_15_23 (by decide) ?_
            refine w_iceq (t := 31) gz_15_24 rfl (fun u18 => ?_) (fun u18 => ?_)
            ·
              refine w_iconst gz_15_31 (by decide) ?_
              refine w_bret gz_15_32 gm_15 (by omega) (by omega) ?_
              show wp l rho (d + 4) 24 20 [(2, 0), (0, x1), (0, x2)] [(0, 0)] h Q
              refine w_ifne (t := 25) gz_24_20 rfl (fun u19 => by exfalso; omega) (fun u19 => ?_)
              refine w_iconst gz_24_23 (by decide) ?_
              exact w_bret gz_24_24 gm_24 (by omega) (by omega) (k0 h (my_fr.rf))
            ·
              refine w_iconst gz_15_27 (by decide) ?_
              refine w_goto (t := 32) gz_15_28 rfl ?_
              refine w_bret gz_15_32 gm_15 (by omega) (by omega) ?_
              show wp l rho (d + 4) 24 20 [(2, 0), (0, x1), (0, x2)] [(0, 1)] h Q
              refine w_ifne (t := 25) gz_24_20 rfl (fun u20 => ?_) (fun u20 => by exfalso; omega)
              refine w_aload_n gz_24_25 rfl ?_
              refine w_getX (v := 145) gz_24_26 is_0 rd_9 rfl (by decide) rfl ?_
              refine w_aload_n gz_24_29 rfl ?_
              refine w_getX (v := 7) gz_24_30 is_0 rd_9 rfl (by decide) rfl ?_
              refine w_inv (k := 0) (as := [(2, 7)]) (r := []) (x := 145) (ls0 := [(2, 145), (2, 7)]) gz_24_33 gm_25 rfl is_145 rd_6 rfl rfl rfl rfl rfl ?_
              refine w_aload_n gz_25_0 rfl ?_
              refine w_getX (v := 8) gz_25_1 is_7 rd_6 rfl (by decide) rfl ?_
              refine w_iconst gz_25_4 (by decide) ?_
              refine w_aload_n gz_25_5 rfl ?_
              refine w_getX (v := 146) gz_25_6 is_145 rd_6 rfl (by decide) rfl ?_
              refine w_iconst gz_25_9 (by decide) ?_
              refine w_aload_n gz_25_10 rfl ?_
              refine w_getX (v := 146) gz_25_11 is_145 rd_6 rfl (by decide) rfl ?_
              refine v_alen (j := 240) gz_25_14 rfl is_146 rd_30 (by decide) ?_
              refine w_cpU gz_25_15 is_8 rd_30 is_146 rd_30 (by omega) (by omega) (by omega) (by omega) (by omega) rfl (by decide) (by decide) (fun h26 fh26 => ?_)
              have gh26 : my_fr [(30, -1), (31, -1)] h h26 := my_fr.cp my_fr.rf is_146 fh26 rfl
              refine w_aload_n gz_25_18 rfl ?_
              refine w_getX (v := 9) gz_25_19 is_7 rd_6 rfl (by decide) rfl ?_
              refine w_iconst gz_25_22 (by decide) ?_
              refine w_aload_n gz_25_23 rfl ?_
              refine w_getX (v := 147) gz_25_24 is_145 rd_6 rfl (by decide) rfl ?_
              refine w_iconst gz_25_27 (by decide) ?_
              refine w_aload_n gz_25_28 rfl ?_
              refine w_getX (v := 147) gz_25_29 is_145 rd_6 rfl (by decide) rfl ?_
              refine v_alen (j := 3) gz_25_32 rfl is_147 rd_31 (by decide) ?_
              refine w_cpU gz_25_33 is_9 rd_31 is_147 rd_31 (by omega) (by omega) (by omega) (by omega) (by omega) rfl (by decide) (by decide) (fun h30 fh30 => ?_)
              have gh30 : my_fr [(30, -1), (31, -1)] h h30 := my_fr.cp gh26 is_147 fh30 rfl
              refine w_vret gz_25_36 gm_25 ?_
              show wp l rho (d + 4) 24 36 [(2, 0), (0, x1), (0, x2)] [] h30 Q
              refine w_aload_n gz_24_36 rfl ?_
              refine w_getX (v := 145) gz_24_37 is_0 rd_9 rfl (by decide) rfl ?_
              refine w_iload_n gz_24_40 rfl ?_
              refine w_iload_n gz_24_41 rfl ?_
              refine w_inv (k := 2) (as := [(0, x2), (0, x1)]) (r := []) (x := 145) (ls0 := [(2, 145), (0, x1), (0, x2), (9, 0), (9, 0)]) gz_24_42 gm_23 rfl is_145 rd_6 rfl rfl rfl rfl rfl (c_Rows_drop (d := (d + 2)) (x0 := 145) (x1 := x1) (x2 := x2) is_145 (by omega) (by omega) (by omega) (by omega) (fun h32 frh32 fxh32 => ?_))
              have gh32 : my_fr [(30, -1), (31, -1)] h h32 := my_fr.tr gh30 (frh32.mo rfl)
              show wp l rho (d + 4) 24 45 [(2, 0), (0, x1), (0, x2)] [] h32 Q
              refine w_aload_n gz_24_45 rfl ?_
              refine w_getX (v := 1) gz_24_46 is_0 rd_9 rfl (by decide) rfl ?_
              refine w_aload_n gz_24_49 rfl ?_
              refine w_getX (v := 145) gz_24_50 is_0 rd_9 rfl (by decide) rfl ?_
              refine w_inv (k := 0) (as := [(2, 145)]) (r := []) (x := 1) (ls0 := [(2, 1), (2, 145)]) gz_24_53 gm_18 rfl is_1 rd_3 rfl rfl rfl rfl rfl (c_Laws_hold (d := d) (x1 := 145) is_145 ?_ ?_)
              ·
                show wp l rho (d + 4) 24 56 [(2, 0), (0, x1), (0, x2)] [(0, 0)] h32 Q
                refine w_ifne (t := 61) gz_24_56 rfl (fun u35 => by exfalso; omega) (fun u35 => ?_)
                refine w_iconst gz_24_59 (by decide) ?_
                exact w_bret gz_24_60 gm_24 (by omega) (by omega) (k0 h32 (gh32))
              ·
                show wp l rho (d + 4) 24 56 [(2, 0), (0, x1), (0, x2)] [(0, 1)] h32 Q
                refine w_ifne (t := 61) gz_24_56 rfl (fun u36 => ?_) (fun u36 => by exfalso; omega)
                refine w_aload_n gz_24_61 rfl ?_
                refine w_getX (v := 7) gz_24_62 is_0 rd_9 rfl (by decide) rfl ?_
                refine w_aload_n gz_24_65 rfl ?_
                refine w_getX (v := 145) gz_24_66 is_0 rd_9 rfl (by decide) rfl ?_
                refine w_inv (k := 0) (as := [(2, 145)]) (r := []) (x := 7) (ls0 := [(2, 7), (2, 145)]) gz_24_69 gm_25 rfl is_7 rd_6 rfl rfl rfl rfl rfl ?_
                refine w_aload_n gz_25_0 rfl ?_
                refine w_getX (v := 146) gz_25_1 is_145 rd_6 rfl (by decide) rfl ?_
                refine w_iconst gz_25_4 (by decide) ?_
                refine w_aload_n gz_25_5 rfl ?_
                refine w_getX (v := 8) gz_25_6 is_7 rd_6 rfl (by decide) rfl ?_
                refine w_iconst gz_25_9 (by decide) ?_
                refine w_aload_n gz_25_10 rfl ?_
                refine w_getX (v := 8) gz_25_11 is_7 rd_6 rfl (by decide) rfl ?_
                refine v_alen (j := 240) gz_25_14 rfl is_8 rd_30 (by decide) ?_
                refine w_cpU gz_25_15 is_146 rd_30 is_8 rd_30 (by omega) (by omega) (by omega) (by omega) (by omega) rfl (by decide) (by decide) (fun h42 fh42 => ?_)
                have gh42 : my_fr [(30, -1), (31, -1)] h h42 := my_fr.cp gh32 is_8 fh42 rfl
                refine w_aload_n gz_25_18 rfl ?_
                refine w_getX (v := 147) gz_25_19 is_145 rd_6 rfl (by decide) rfl ?_
                refine w_iconst gz_25_22 (by decide) ?_
                refine w_aload_n gz_25_23 rfl ?_
                refine w_getX (v := 9) gz_25_24 is_7 rd_6 rfl (by decide) rfl ?_
                refine w_iconst gz_25_27 (by decide) ?_
                refine w_aload_n gz_25_28 rfl ?_
                refine w_getX (v := 9) gz_25_29 is_7 rd_6 rfl (by decide) rfl ?_
                refine v_alen (j := 3) gz_25_32 rfl is_9 rd_31 (by decide) ?_
                refine w_cpU gz_25_33 is_147 rd_31 is_9 rd_31 (by omega) (by omega) (by omega) (by omega) (by omega) rfl (by decide) (by decide) (fun h46 fh46 => ?_)
                have gh46 : my_fr [(30, -1), (31, -1)] h h46 := my_fr.cp gh42 is_9 fh46 rfl
                refine w_vret gz_25_36 gm_25 ?_
                show wp l rho (d + 4) 24 72 [(2, 0), (0, x1), (0, x2)] [] h46 Q
                refine w_iconst gz_24_72 (by decide) ?_
                exact w_bret gz_24_73 gm_24 (by omega) (by omega) (k1 h46 (gh46) (by omega) (by omega) (by omega) (by omega))
theorem c_ThroughWindow_names {l : Launch} {rho : Nat → Int32} {d : Nat} {h : my_H} {Q : my_H → my_V → Prop} {x1 x2 x3 : Int} (k0 : ∀ (h' : my_H), my_fr [(28, -1)] h h' → Q h' (0, 0)) (k1 : ∀ (h' : my_H), my_fr [(28, -1)] h h' → 0 ≤ x1 → x1 ≤ 2 → 1 ≤ x2 → x2 ≤ 3 → (-1) ≤ x3 → x3 ≤ 2 → Q h' (0, 1)) : wp l rho (d + 4) 30 0 [(2, 0), (0, x1), (0, x2), (0, x3), (9, 0), (9, 0)] [] h Q := by
  have J41_0 : ∀ (h41_0 : my_H), my_fr [(28, -1)] h h41_0 → 0 ≤ x1 → x1 ≤ 2 → 1 ≤ x2 → x2 ≤ 3 → (-1) ≤ x3 → x3 ≤ 2 → wp l rho (d + 4) 30 41 [(2, 0), (0, x1), (0, x2), (0, x3), (9, 0), (9, 0)] [] h41_0 Q := by
    intro h41_0 gh_41_0 q0_41_0 q1_41_0 q2_41_0 q3_41_0 q4_41_0 q5_41_0
    refine w_iload_n gz_30_41 rfl ?_
    refine w_iload_n gz_30_42 rfl ?_
    refine w_inS (k := 0) (as := [(0, x2), (0, x1)]) (r := []) (ls0 := [(0, x1), (0, x2)]) gz_30_43 gm_29 rfl rfl rfl rfl rfl rfl ?_
    refine w_iload_n gz_29_0 rfl ?_
    refine w_iconst gz_29_1 (by decide) ?_
    refine w_imul gz_29_2 ⟨by omega, by omega⟩ ?_
    refine w_iload_n gz_29_3 rfl ?_
    refine w_iadd gz_29_4 ⟨by omega, by omega⟩ ?_
    refine w_iret gz_29_5 gm_29 ?_
    show wp l rho (d + 4) 30 46 [(2, 0), (0, x1), (0, x2), (0, x3), (9, 0), (9, 0)] [(0, ((x1 * 4) + x2))] h41_0 Q
    refine w_istore (ls' := [(2, 0), (0, x1), (0, x2), (0, x3), (0, ((x1 * 4) + x2)), (9, 0)]) gz_30_46 gm_30 rfl rfl rfl ?_
    refine w_aload_n gz_30_48 rfl ?_
    refine w_getX (v := 1) gz_30_49 is_0 rd_9 rfl (by decide) rfl ?_
    refine w_getX (v := 5) gz_30_52 is_1 rd_3 rfl (by decide) rfl ?_
    refine w_iload gz_30_55 rfl ?_
    refine w_iald gz_30_57 is_5 rd_28 (by omega) (by omega) (fun v3 ev3 pv3 qv3 => ?_)
    refine w_istore (ls' := [(2, 0), (0, x1), (0, x2), (0, x3), (0, ((x1 * 4) + x2)), (0, v3)]) gz_30_58 gm_30 rfl rfl rfl ?_
    refine w_aload_n gz_30_60 rfl ?_
    refine w_getX (v := 1) gz_30_61 is_0 rd_9 rfl (by decide) rfl ?_
    refine w_getX (v := 5) gz_30_64 is_1 rd_3 rfl (by decide) rfl ?_
    refine w_iload gz_30_67 rfl ?_
    refine w_iload_n gz_30_69 rfl ?_
    refine w_iast gz_30_70 is_5 rd_28 (by omega) (by omega) (by omega) (by omega) (fun h6 fh6 => ?_)
    have gh6 : my_fr [(28, -1)] h h6 := my_fr.up gh_41_0 is_5 fh6 rfl
    refine w_aload_n gz_30_71 rfl ?_
    refine w_getX (v := 1) gz_30_72 is_0 rd_9 rfl (by decide) rfl ?_
    refine w_aload_n gz_30_75 rfl ?_
    refine w_getX (v := 7) gz_30_76 is_0 rd_9 rfl (by decide) rfl ?_
    refine w_inv (k := 0) (as := [(2, 7)]) (r := []) (x := 1) (ls0 := [(2, 1), (2, 7)]) gz_30_79 gm_18 rfl is_1 rd_3 rfl rfl rfl rfl rfl (c_Laws_hold (d := d) (x1 := 7) is_7 ?_ ?_)
    ·
      show wp l rho (d + 4) 30 82 [(2, 0), (0, x1), (0, x2), (0, x3), (0, ((x1 * 4) + x2)), (0, v3)] [(0, 0)] h6 Q
      refine w_ifeq (t := 87) gz_30_82 rfl (fun u9 => ?_) (fun u9 => by exfalso; omega)
      refine w_aload_n gz_30_87 rfl ?_
      refine w_getX (v := 1) gz_30_88 is_0 rd_9 rfl (by decide) rfl ?_
      refine w_getX (v := 5) gz_30_91 is_1 rd_3 rfl (by decide) rfl ?_
      refine w_iload gz_30_94 rfl ?_
      refine w_iload gz_30_96 rfl ?_
      refine w_iast gz_30_98 is_5 rd_28 (by omega) (by omega) (by omega) (by omega) (fun h12 fh12 => ?_)
      have gh12 : my_fr [(28, -1)] h h12 := my_fr.up gh6 is_5 fh12 rfl
      refine w_iconst gz_30_99 (by decide) ?_
      exact w_bret gz_30_100 gm_30 (by omega) (by omega) (k0 h12 (gh12))
    ·
      show wp l rho (d + 4) 30 82 [(2, 0), (0, x1), (0, x2), (0, x3), (0, ((x1 * 4) + x2)), (0, v3)] [(0, 1)] h6 Q
      refine w_ifeq (t := 87) gz_30_82 rfl (fun u13 => by exfalso; omega) (fun u13 => ?_)
      refine w_iconst gz_30_85 (by decide) ?_
      exact w_bret gz_30_86 gm_30 (by omega) (by omega) (k1 h6 (gh6) (by omega) (by omega) (by omega) (by omega) (by omega) (by omega))
  refine w_aload_n gz_30_0 rfl ?_
  refine w_getX (v := 1) gz_30_1 is_0 rd_9 rfl (by decide) rfl ?_
  refine w_iload_n gz_30_4 rfl ?_
  refine w_iload_n gz_30_5 rfl ?_
  refine w_inv (k := 0) (as := [(0, x2), (0, x1)]) (r := []) (x := 1) (ls0 := [(2, 1), (0, x1), (0, x2)]) gz_30_6 gm_27 rfl is_1 rd_3 rfl rfl rfl rfl rfl ?_
  refine w_aload_n gz_27_0 rfl ?_
  refine w_iload_n gz_27_1 rfl ?_
  refine w_inv (k := 0) (as := [(0, x1)]) (r := []) (x := 1) (ls0 := [(2, 1), (0, x1)]) gz_27_2 gm_13 rfl is_1 rd_3 rfl rfl rfl rfl rfl ?_
  refine w_iload_n gz_13_0 rfl ?_
  refine w_iflt (t := 22) gz_13_1 rfl (fun u15 => ?_) (fun u15 => ?_)
  ·
    refine w_iconst gz_13_22 (by decide) ?_
    refine w_bret gz_13_23 gm_13 (by omega) (by omega) ?_
    show wp l rho (d + 3) 27 5 [(2, 1), (0, x1), (0, x2)] [(0, 0)] h _
    refine w_ifeq (t := 26) gz_27_5 rfl (fun u16 => ?_) (fun u16 => by exfalso; omega)
    refine w_iconst gz_27_26 (by decide) ?_
    refine w_bret gz_27_27 gm_27 (by omega) (by omega) ?_
    show wp l rho (d + 4) 30 9 [(2, 0), (0, x1), (0, x2), (0, x3), (9, 0), (9, 0)] [(0, 0)] h Q
    refine w_ifeq (t := 21) gz_30_9 rfl (fun u17 => ?_) (fun u17 => by exfalso; omega)
    refine w_iconst gz_30_21 (by decide) ?_
    exact w_bret gz_30_22 gm_30 (by omega) (by omega) (k0 h (my_fr.rf))
  ·
    refine w_iload_n gz_13_4 rfl ?_
    refine w_iconst gz_13_5 (by decide) ?_
    refine w_icge (t := 22) gz_13_6 rfl (fun u18 => ?_) (fun u18 => ?_)
    ·
      refine w_iconst gz_13_22 (by decide) ?_
      refine w_bret gz_13_23 gm_13 (by omega) (by omega) ?_
      show wp l rho (d + 3) 27 5 [(2, 1), (0, x1), (0, x2)] [(0, 0)] h _
      refine w_ifeq (t := 26) gz_27_5 rfl (fun u19 => ?_) (fun u19 => by exfalso; omega)
      refine w_iconst gz_27_26 (by decide) ?_
      refine w_bret gz_27_27 gm_27 (by omega) (by omega) ?_
      show wp l rho (d + 4) 30 9 [(2, 0), (0, x1), (0, x2), (0, x3), (9, 0), (9, 0)] [(0, 0)] h Q
      refine w_ifeq (t := 21) gz_30_9 rfl (fun u20 => ?_) (fun u20 => by exfalso; omega)
      refine w_iconst gz_30_21 (by decide) ?_
      exact w_bret gz_30_22 gm_30 (by omega) (by omega) (k0 h (my_fr.rf))
    ·
      refine w_aload_n gz_13_9 rfl ?_
      refine w_getX (v := 2) gz_13_10 is_1 rd_3 rfl (by decide) rfl ?_
      refine w_iload_n gz_13_13 rfl ?_
      refine w_iald gz_13_14 is_2 rd_25 (by omega) (by omega) (fun v22 ev22 pv22 qv22 => ?_)
      refine w_ifle (t := 22) gz_13_15 rfl (fun u23 => ?_) (fun u23 => ?_)
      ·
        refine w_iconst gz_13_22 (by decide) ?_
        refine w_bret gz_13_23 gm_13 (by omega) (by omega) ?_
        show wp l rho (d + 3) 27 5 [(2, 1), (0, x1), (0, x2)] [(0, 0)] h _
        refine w_ifeq (t := 26) gz_27_5 rfl (fun u24 => ?_) (fun u24 => by exfalso; omega)
        refine w_iconst gz_27_26 (by decide) ?_
        refine w_bret gz_27_27 gm_27 (by omega) (by omega) ?_
        show wp l rho (d + 4) 30 9 [(2, 0), (0, x1), (0, x2), (0, x3), (9, 0), (9, 0)] [(0, 0)] h Q
        refine w_ifeq (t := 21) gz_30_9 rfl (fun u25 => ?_) (fun u25 => by exfalso; omega)
        refine w_iconst gz_30_21 (by decide) ?_
        exact w_bret gz_30_22 gm_30 (by omega) (by omega) (k0 h (my_fr.rf))
      ·
        refine w_iconst gz_13_18 (by decide) ?_
        refine w_goto (t := 23) gz_13_19 rfl ?_
        refine w_bret gz_13_23 gm_13 (by omega) (by omega) ?_
        show wp l rho (d + 3) 27 5 [(2, 1), (0, x1), (0, x2)] [(0, 1)] h _
        refine w_ifeq (t := 26) gz_27_5 rfl (fun u26 => by exfalso; omega) (fun u26 => ?_)
        refine w_iload_n gz_27_8 rfl ?_
        refine w_iflt (t := 26) gz_27_9 rfl (fun u27 => ?_) (fun u27 => ?_)
        ·
          refine w_iconst gz_27_26 (by decide) ?_
          refine w_bret gz_27_27 gm_27 (by omega) (by omega) ?_
          show wp l rho (d + 4) 30 9 [(2, 0), (0, x1), (0, x2), (0, x3), (9, 0), (9, 0)] [(0, 0)] h Q
          refine w_ifeq (t := 21) gz_30_9 rfl (fun u28 => ?_) (fun u28 => by exfalso; omega)
          refine w_iconst gz_30_21 (by decide) ?_
          exact w_bret gz_30_22 gm_30 (by omega) (by omega) (k0 h (my_fr.rf))
        ·
          refine w_iload_n gz_27_12 rfl ?_
          refine w_aload_n gz_27_13 rfl ?_
          refine w_getX (v := 2) gz_27_14 is_1 rd_3 rfl (by decide) rfl ?_
          refine w_iload_n gz_27_17 rfl ?_
          refine w_iald gz_27_18 is_2 rd_25 (by omega) (by omega) (fun v30 ev30 pv30 qv30 => ?_)
          have zv30 := ev30.trans ev22.symm
          refine w_icge (t := 26) gz_27_19 rfl (fun u31 => ?_) (fun u31 => ?_)
          ·
            refine w_iconst gz_27_26 (by decide) ?_
            refine w_bret gz_27_27 gm_27 (by omega) (by omega) ?_
            show wp l rho (d + 4) 30 9 [(2, 0), (0, x1), (0, x2), (0, x3), (9, 0), (9, 0)] [(0, 0)] h Q
            refine w_ifeq (t := 21) gz_30_9 rfl (fun u32 => ?_) (fun u32 => by exfalso; omega)
            refine w_iconst gz_30_21 (by decide) ?_
            exact w_bret gz_30_22 gm_30 (by omega) (by omega) (k0 h (my_fr.rf))
          ·
            refine w_iconst gz_27_22 (by decide) ?_
            refine w_goto (t := 27) gz_27_23 rfl ?_
            refine w_bret gz_27_27 gm_27 (by omega) (by omega) ?_
            show wp l rho (d + 4) 30 9 [(2, 0), (0, x1), (0, x2), (0, x3), (9, 0), (9, 0)] [(0, 1)] h Q
            refine w_ifeq (t := 21) gz_30_9 rfl (fun u33 => by exfalso; omega) (fun u33 => ?_)
            refine w_iload_n gz_30_12 rfl ?_
            refine w_ifeq (t := 21) gz_30_13 rfl (fun u34 => ?_) (fun u34 => ?_)
            ·
              refine w_iconst gz_30_21 (by decide) ?_
              exact w_bret gz_30_22 gm_30 (by omega) (by omega) (k0 h (my_fr.rf))
            ·
              refine w_iload_n gz_30_16 rfl ?_
              refine w_iload_n gz_30_17 rfl ?_
              refine w_icne (t := 23) gz_30_18 rfl (fun u35 => ?_) (fun u35 => ?_)
              ·
                refine w_iload_n gz_30_23 rfl ?_
                refine w_iconst gz_30_24 (by decide) ?_
                refine w_iceq (t := 41) gz_30_25 rfl (fun u36 => ?_) (fun u36 => ?_)
                ·
                  exact J41_0 h (my_fr.rf) (by omega) (by omega) (by omega) (by omega) (by omega) (by omega)
                ·
                  refine w_aload_n gz_30_28 rfl ?_
                  refine w_getX (v := 1) gz_30_29 is_0 rd_9 rfl (by decide) rfl ?_
                  refine w_iload_n gz_30_32 rfl ?_
                  refine w_inv (k := 0) (as := [(0, x3)]) (r := []) (x := 1) (ls0 := [(2, 1), (0, x3)]) gz_30_33 gm_13 rfl is_1 rd_3 rfl rfl rfl rfl rfl ?_
                  refine w_iload_n gz_13_0 rfl ?_
                  refine w_iflt (t := 22) gz_13_1 rfl (fun u38 => ?_) (fun u38 => ?_)
                  ·
                    refine w_iconst gz_13_22 (by decide) ?_
                    refine w_bret gz_13_23 gm_13 (by omega) (by omega) ?_
                    show wp l rho (d + 4) 30 36 [(2, 0), (0, x1), (0, x2), (0, x3), (9, 0), (9, 0)] [(0, 0)] h Q
                    refine w_ifne (t := 41) gz_30_36 rfl (fun u39 => by exfalso; omega) (fun u39 => ?_)
                    refine w_iconst gz_30_39 (by decide) ?_
                    exact w_bret gz_30_40 gm_30 (by omega) (by omega) (k0 h (my_fr.rf))
                  ·
                    refine w_iload_n gz_13_4 rfl ?_
                    refine w_iconst gz_13_5 (by decide) ?_
                    refine w_icge (t := 22) gz_13_6 rfl (fun u40 => ?_) (fun u40 => ?_)
                    ·
                      refine w_iconst gz_13_22 (by decide) ?_
                      refine w_bret gz_13_23 gm_13 (by omega) (by omega) ?_
                      show wp l rho (d + 4) 30 36 [(2, 0), (0, x1), (0, x2), (0, x3), (9, 0), (9, 0)] [(0, 0)] h Q
                      refine w_ifne (t := 41) gz_30_36 rfl (fun u41 => by exfalso; omega) (fun u41 => ?_)
                      refine w_iconst gz_30_39 (by decide) ?_
                      exact w_bret gz_30_40 gm_30 (by omega) (by omega) (k0 h (my_fr.rf))
                    ·
                      refine w_aload_n gz_13_9 rfl ?_
                      refine w_getX (v := 2) gz_13_10 is_1 rd_3 rfl (by decide) rfl ?_
                      refine w_iload_n gz_13_13 rfl ?_
                      refine w_iald gz_13_14 is_2 rd_25 (by omega) (by omega) (fun v43 ev43 pv43 qv43 => ?_)
                      refine w_ifle (t := 22) gz_13_15 rfl (fun u44 => ?_) (fun u44 => ?_)
                      ·
                        refine w_iconst gz_13_22 (by decide) ?_
                        refine w_bret gz_13_23 gm_13 (by omega) (by omega) ?_
                        show wp l rho (d + 4) 30 36 [(2, 0), (0, x1), (0, x2), (0, x3), (9, 0), (9, 0)] [(0, 0)] h Q
                        refine w_ifne (t := 41) gz_30_36 rfl (fun u45 => by exfalso; omega) (fun u45 => ?_)
                        refine w_iconst gz_30_39 (by decide) ?_
                        exact w_bret gz_30_40 gm_30 (by omega) (by omega) (k0 h (my_fr.rf))
                      ·
                        refine w_iconst gz_13_18 (by decide) ?_
                        refine w_goto (t := 23) gz_13_19 rfl ?_
                        refine w_bret gz_13_23 gm_13 (by omega) (by omega) ?_
                        show wp l rho (d + 4) 30 36 [(2, 0), (0, x1), (0, x2), (0, x3), (9, 0), (9, 0)] [(0, 1)] h Q
                        refine w_ifne (t := 41) gz_30_36 rfl (fun u46 => ?_) (fun u46 => by exfalso; omega)
                        exact J41_0 h (my_fr.rf) (by omega) (by omega) (by omega) (by omega) (by omega) (by omega)
              ·
                refine w_iconst gz_30_21 (by decide) ?_
                exact w_bret gz_30_22 gm_30 (by omega) (by omega) (k0 h (my_fr.rf))
theorem c_ThroughWindow_once {l : Launch} {rho : Nat → Int32} {d : Nat} {h : my_H} {Q : my_H → my_V → Prop} {x1 x2 x3 : Int} (a3 : 0 ≤ x3) (b3 : x3 ≤ 1) (k0 : ∀ (h' : my_H), my_fr [(29, -1)] h h' → Q h' (0, 0)) (k1 : ∀ (h' : my_H), my_fr [(29, -1)] h h' → 0 ≤ x1 → x1 ≤ 2 → 1 ≤ x2 → x2 ≤ 3 → Q h' (0, 1)) : wp l rho (d + 4) 31 0 [(2, 0), (0, x1), (0, x2), (0, x3), (9, 0), (9, 0)] [] h Q := by
  refine w_aload_n gz_31_0 rfl ?_
  refine w_getX (v := 1) gz_31_1 is_0 rd_9 rfl (by decide) rfl ?_
  refine w_iload_n gz_31_4 rfl ?_
  refine w_iload_n gz_31_5 rfl ?_
  refine w_inv (k := 0) (as := [(0, x2), (0, x1)]) (r := []) (x := 1) (ls0 := [(2, 1), (0, x1), (0, x2)]) gz_31_6 gm_27 rfl is_1 rd_3 rfl rfl rfl rfl rfl ?_
  refine w_aload_n gz_27_0 rfl ?_
  refine w_iload_n gz_27_1 rfl ?_
  refine w_inv (k := 0) (as := [(0, x1)]) (r := []) (x := 1) (ls0 := [(2, 1), (0, x1)]) gz_27_2 gm_13 rfl is_1 rd_3 rfl rfl rfl rfl rfl ?_
  refine w_iload_n gz_13_0 rfl ?_
  refine w_iflt (t := 22) gz_13_1 rfl (fun u2 => ?_) (fun u2 => ?_)
  ·
    refine w_iconst gz_13_22 (by decide) ?_
    refine w_bret gz_13_23 gm_13 (by omega) (by omega) ?_
    show wp l rho (d + 3) 27 5 [(2, 1), (0, x1), (0, x2)] [(0, 0)] h _
    refine w_ifeq (t := 26) gz_27_5 rfl (fun u3 => ?_) (fun u3 => by exfalso; omega)
    refine w_iconst gz_27_26 (by decide) ?_
    refine w_bret gz_27_27 gm_27 (by omega) (by omega) ?_
    show wp l rho (d + 4) 31 9 [(2, 0), (0, x1), (0, x2), (0, x3), (9, 0), (9, 0)] [(0, 0)] h Q
    refine w_ifeq (t := 16) gz_31_9 rfl (fun u4 => ?_) (fun u4 => by exfalso; omega)
    refine w_iconst gz_31_16 (by decide) ?_
    exact w_bret gz_31_17 gm_31 (by omega) (by omega) (k0 h (my_fr.rf))
  ·
    refine w_iload_n gz_13_4 rfl ?_
    refine w_iconst gz_13_5 (by decide) ?_
    refine w_icge (t := 22) gz_13_6 rfl (fun u5 => ?_) (fun u5 => ?_)
    ·
      refine w_iconst gz_13_22 (by decide) ?_
      refine w_bret gz_13_23 gm_13 (by omega) (by omega) ?_
      show wp l rho (d + 3) 27 5 [(2, 1), (0, x1), (0, x2)] [(0, 0)] h _
      refine w_ifeq (t := 26) gz_27_5 rfl (fun u6 => ?_) (fun u6 => by exfalso; omega)
      refine w_iconst gz_27_26 (by decide) ?_
      refine w_bret gz_27_27 gm_27 (by omega) (by omega) ?_
      show wp l rho (d + 4) 31 9 [(2, 0), (0, x1), (0, x2), (0, x3), (9, 0), (9, 0)] [(0, 0)] h Q
      refine w_ifeq (t := 16) gz_31_9 rfl (fun u7 => ?_) (fun u7 => by exfalso; omega)
      refine w_iconst gz_31_16 (by decide) ?_
      exact w_bret gz_31_17 gm_31 (by omega) (by omega) (k0 h (my_fr.rf))
    ·
      refine w_aload_n gz_13_9 rfl ?_
      refine w_getX (v := 2) gz_13_10 is_1 rd_3 rfl (by decide) rfl ?_
      refine w_iload_n gz_13_13 rfl ?_
      refine w_iald gz_13_14 is_2 rd_25 (by omega) (by omega) (fun v9 ev9 pv9 qv9 => ?_)
      refine w_ifle (t := 22) gz_13_15 rfl (fun u10 => ?_) (fun u10 => ?_)
      ·
        refine w_iconst gz_13_22 (by decide) ?_
        refine w_bret gz_13_23 gm_13 (by omega) (by omega) ?_
        show wp l rho (d + 3) 27 5 [(2, 1), (0, x1), (0, x2)] [(0, 0)] h _
        refine w_ifeq (t := 26) gz_27_5 rfl (fun u11 => ?_) (fun u11 => by exfalso; omega)
        refine w_iconst gz_27_26 (by decide) ?_
        refine w_bret gz_27_27 gm_27 (by omega) (by omega) ?_
        show wp l rho (d + 4) 31 9 [(2, 0), (0, x1), (0, x2), (0, x3), (9, 0), (9, 0)] [(0, 0)] h Q
        refine w_ifeq (t := 16) gz_31_9 rfl (fun u12 => ?_) (fun u12 => by exfalso; omega)
        refine w_iconst gz_31_16 (by decide) ?_
        exact w_bret gz_31_17 gm_31 (by omega) (by omega) (k0 h (my_fr.rf))
      ·
        refine w_iconst gz_13_18 (by decide) ?_
        refine w_goto (t := 23) gz_13_19 rfl ?_
        refine w_bret gz_13_23 gm_13 (by omega) (by omega) ?_
        show wp l rho (d + 3) 27 5 [(2, 1), (0, x1), (0, x2)] [(0, 1)] h _
        refine w_ifeq (t := 26) gz_27_5 rfl (fun u13 => by exfalso; omega) (fun u13 => ?_)
        refine w_iload_n gz_27_8 rfl ?_
        refine w_iflt (t := 26) gz_27_9 rfl (fun u14 => ?_) (fun u14 => ?_)
        ·
          refine w_iconst gz_27_26 (by decide) ?_
          refine w_bret gz_27_27 gm_27 (by omega) (by omega) ?_
          show wp l rho (d + 4) 31 9 [(2, 0), (0, x1), (0, x2), (0, x3), (9, 0), (9, 0)] [(0, 0)] h Q
          refine w_ifeq (t := 16) gz_31_9 rfl (fun u15 => ?_) (fun u15 => by exfalso; omega)
          refine w_iconst gz_31_16 (by decide) ?_
          exact w_bret gz_31_17 gm_31 (by omega) (by omega) (k0 h (my_fr.rf))
        ·
          refine w_iload_n gz_27_12 rfl ?_
          refine w_aload_n gz_27_13 rfl ?_
          refine w_getX (v := 2) gz_27_14 is_1 rd_3 rfl (by decide) rfl ?_
          refine w_iload_n gz_27_17 rfl ?_
          refine w_iald gz_27_18 is_2 rd_25 (by omega) (by omega) (fun v17 ev17 pv17 qv17 => ?_)
          have zv17 := ev17.trans ev9.symm
          refine w_icge (t := 26) gz_27_19 rfl (fun u18 => ?_) (fun u18 => ?_)
          ·
            refine w_iconst gz_27_26 (by decide) ?_
            refine w_bret gz_27_27 gm_27 (by omega) (by omega) ?_
            show wp l rho (d + 4) 31 9 [(2, 0), (0, x1), (0, x2), (0, x3), (9, 0), (9, 0)] [(0, 0)] h Q
            refine w_ifeq (t := 16) gz_31_9 rfl (fun u19 => ?_) (fun u19 => by exfalso; omega)
            refine w_iconst gz_31_16 (by decide) ?_
            exact w_bret gz_31_17 gm_31 (by omega) (by omega) (k0 h (my_fr.rf))
          ·
            refine w_iconst gz_27_22 (by decide) ?_
            refine w_goto (t := 27) gz_27_23 rfl ?_
            refine w_bret gz_27_27 gm_27 (by omega) (by omega) ?_
            show wp l rho (d + 4) 31 9 [(2, 0), (0, x1), (0, x2), (0, x3), (9, 0), (9, 0)] [(0, 1)] h Q
            refine w_ifeq (t := 16) gz_31_9 rfl (fun u20 => by exfalso; omega) (fun u20 => ?_)
            refine w_iload_n gz_31_12 rfl ?_
            refine w_ifne (t := 18) gz_31_13 rfl (fun u21 => ?_) (fun u21 => ?_)
            ·
              refine w_iload_n gz_31_18 rfl ?_
              refine w_iload_n gz_31_19 rfl ?_
              refine w_inS (k := 0) (as := [(0, x2), (0, x1)]) (r := []) (ls0 := [(0, x1), (0, x2)]) gz_31_20 gm_29 rfl rfl rfl rfl rfl rfl ?_
              refine w_iload_n gz_29_0 rfl ?_
              refine w_iconst gz_29_1 (by decide) ?_
              refine w_imul gz_29_2 ⟨by omega, by omega⟩ ?_
              refine w_iload_n gz_29_3 rfl ?_
              refine w_iadd gz_29_4 ⟨by omega, by omega⟩ ?_
              refine w_iret gz_29_5 gm_29 ?_
              show wp l rho (d + 4) 31 23 [(2, 0), (0, x1), (0, x2), (0, x3), (9, 0), (9, 0)] [(0, ((x1 * 4) + x2))] h Q
              refine w_istore (ls' := [(2, 0), (0, x1), (0, x2), (0, x3), (0, ((x1 * 4) + x2)), (9, 0)]) gz_31_23 gm_31 rfl rfl rfl ?_
              refine w_aload_n gz_31_25 rfl ?_
              refine w_getX (v := 1) gz_31_26 is_0 rd_9 rfl (by decide) rfl ?_
              refine w_getX (v := 6) gz_31_29 is_1 rd_3 rfl (by decide) rfl ?_
              refine w_iload gz_31_32 rfl ?_
              refine w_bald gz_31_34 is_6 rd_29 (by omega) (by omega) (fun v24 ev24 pv24 qv24 => ?_)
              refine w_istore (ls' := [(2, 0), (0, x1), (0, x2), (0, x3), (0, ((x1 * 4) + x2)), (0, v24)]) gz_31_35 gm_31 rfl rfl rfl ?_
              refine w_aload_n gz_31_37 rfl ?_
              refine w_getX (v := 1) gz_31_38 is_0 rd_9 rfl (by decide) rfl ?_
              refine w_getX (v := 6) gz_31_41 is_1 rd_3 rfl (by decide) rfl ?_
              refine w_iload gz_31_44 rfl ?_
              refine w_iload_n gz_31_46 rfl ?_
              refine w_bast gz_31_47 is_6 rd_29 (by omega) (by omega) (by omega) (by omega) (fun h27 fh27 => ?_)
              have gh27 : my_fr [(29, -1)] h h27 := my_fr.up my_fr.rf is_6 fh27 rfl
              refine w_aload_n gz_31_48 rfl ?_
              refine w_getX (v := 1) gz_31_49 is_0 rd_9 rfl (by decide) rfl ?_
              refine w_aload_n gz_31_52 rfl ?_
              refine w_getX (v := 7) gz_31_53 is_0 rd_9 rfl (by decide) rfl ?_
              refine w_inv (k := 0) (as := [(2, 7)]) (r := []) (x := 1) (ls0 := [(2, 1), (2, 7)]) gz_31_56 gm_18 rfl is_1 rd_3 rfl rfl rfl rfl rfl (c_Laws_hold (d := d) (x1 := 7) is_7 ?_ ?_)
              ·
                show wp l rho (d + 4) 31 59 [(2, 0), (0, x1), (0, x2), (0, x3), (0, ((x1 * 4) + x2)), (0, v24)] [(0, 0)] h27 Q
                refine w_ifeq (t := 64) gz_31_59 rfl (fun u30 => ?_) (fun u30 => by exfalso; omega)
                refine w_aload_n gz_31_64 rfl ?_
                refine w_getX (v := 1) gz_31_65 is_0 rd_9 rfl (by decide) rfl ?_
                refine w_getX (v := 6) gz_31_68 is_1 rd_3 rfl (by decide) rfl ?_
                refine w_iload gz_31_71 rfl ?_
                refine w_iload gz_31_73 rfl ?_
                refine w_bast gz_31_75 is_6 rd_29 (by omega) (by omega) (by omega) (by omega) (fun h33 fh33 => ?_)
                have gh33 : my_fr [(29, -1)] h h33 := my_fr.up gh27 is_6 fh33 rfl
                refine w_iconst gz_31_76 (by decide) ?_
                exact w_bret gz_31_77 gm_31 (by omega) (by omega) (k0 h33 (gh33))
              ·
                show wp l rho (d + 4) 31 59 [(2, 0), (0, x1), (0, x2), (0, x3), (0, ((x1 * 4) + x2)), (0, v24)] [(0, 1)] h27 Q
                refine w_ifeq (t := 64) gz_31_59 rfl (fun u34 => by exfalso; omega) (fun u34 => ?_)
                refine w_iconst gz_31_62 (by decide) ?_
                exact w_bret gz_31_63 gm_31 (by omega) (by omega) (k1 h27 (gh27) (by omega) (by omega) (by omega) (by omega))
            ·
              refine w_iconst gz_31_16 (by decide) ?_
              exact w_bret gz_31_17 gm_31 (by omega) (by omega) (k0 h (my_fr.rf))
theorem c_ThroughWindow_mark {l : Launch} {rho : Nat → Int32} {d : Nat} {h : my_H} {Q : my_H → my_V → Prop} {x1 x2 : Int} (a2 : 0 ≤ x2) (b2 : x2 ≤ 1) (k0 : ∀ (h' : my_H), my_fr [(21, -1), (30, -1), (31, -1)] h h' → Q h' (0, 0)) (k1 : ∀ (h' : my_H), my_fr [(21, -1), (30, -1), (31, -1)] h h' → 0 ≤ x1 → x1 ≤ 3 → Q h' (0, 1)) : wp l rho (d + 4) 138 0 [(2, 0), (0, x1), (0, x2)] [] h Q := by
  refine w_iload_n gz_138_0 rfl ?_
  refine w_iflt (t := 9) gz_138_1 rfl (fun u1 => ?_) (fun u1 => ?_)
  ·
    refine w_iconst gz_138_9 (by decide) ?_
    exact w_bret gz_138_10 gm_138 (by omega) (by omega) (k0 h (my_fr.rf))
  ·
    refine w_iload_n gz_138_4 rfl ?_
    refine w_iconst gz_138_5 (by decide) ?_
    refine w_iclt (t := 11) gz_138_6 rfl (fun u2 => ?_) (fun u2 => ?_)
    ·
      refine w_iload_n gz_138_11 rfl ?_
      refine w_ifne (t := 37) gz_138_12 rfl (fun u3 => ?_) (fun u3 => ?_)
      ·
        refine w_aload_n gz_138_37 rfl ?_
        refine w_getX (v := 26) gz_138_38 is_0 rd_9 rfl (by decide) rfl ?_
        refine w_iload_n gz_138_41 rfl ?_
        refine w_bald gz_138_42 is_26 rd_21 (by omega) (by omega) (fun v5 ev5 pv5 qv5 => ?_)
        refine w_ifeq (t := 62) gz_138_43 rfl (fun u6 => ?_) (fun u6 => ?_)
        ·
          refine w_iconst gz_138_62 (by decide) ?_
          exact w_bret gz_138_63 gm_138 (by omega) (by omega) (k0 h (my_fr.rf))
        ·
          refine w_aload_n gz_138_46 rfl ?_
          refine w_getX (v := 1) gz_138_47 is_0 rd_9 rfl (by decide) rfl ?_
          refine w_aload_n gz_138_50 rfl ?_
          refine w_getX (v := 13) gz_138_51 is_0 rd_9 rfl (by decide) rfl ?_
          refine w_iload_n gz_138_54 rfl ?_
          refine w_aald gz_138_55 is_13 rd_20 rfl (by omega) (by omega) (fun v9 ev9 tv9 => ?_)
          refine w_inv (k := 0) (as := [(2, v9)]) (r := []) (x := 1) (ls0 := [(2, 1), (2, v9)]) gz_138_56 gm_18 rfl is_1 rd_3 rfl rfl rfl rfl rfl (c_Laws_hold (d := d) (x1 := v9) tv9 ?_ ?_)
          ·
            show wp l rho (d + 4) 138 59 [(2, 0), (0, x1), (0, x2)] [(0, 0)] h Q
            refine w_ifne (t := 64) gz_138_59 rfl (fun u10 => by exfalso; omega) (fun u10 => ?_)
            refine w_iconst gz_138_62 (by decide) ?_
            exact w_bret gz_138_63 gm_138 (by omega) (by omega) (k0 h (my_fr.rf))
          ·
            show wp l rho (d + 4) 138 59 [(2, 0), (0, x1), (0, x2)] [(0, 1)] h Q
            refine w_ifne (t := 64) gz_138_59 rfl (fun u11 => ?_) (fun u11 => by exfalso; omega)
            refine w_aload_n gz_138_64 rfl ?_
            refine w_getX (v := 7) gz_138_65 is_0 rd_9 rfl (by decide) rfl ?_
            refine w_aload_n gz_138_68 rfl ?_
            refine w_getX (v := 13) gz_138_69 is_0 rd_9 rfl (by decide) rfl ?_
            refine w_iload_n gz_138_72 rfl ?_
            refine w_aald gz_138_73 is_13 rd_20 rfl (by omega) (by omega) (fun v14 ev14 tv14 => ?_)
            have zv14 : v9 = v14 := (ev14.trans ev9.symm).symm
            subst zv14
            refine w_inv (k := 0) (as := [(2, v9)]) (r := []) (x := 7) (ls0 := [(2, 7), (2, v9)]) gz_138_74 gm_25 rfl is_7 rd_6 rfl rfl rfl rfl rfl ?_
            refine w_aload_n gz_25_0 rfl ?_
            refine w_getX (v := (v9 + 1)) gz_25_1 tv9 rd_6 rfl (by decide) rfl ?_
            refine w_iconst gz_25_4 (by decide) ?_
            refine w_aload_n gz_25_5 rfl ?_
            refine w_getX (v := 8) gz_25_6 is_7 rd_6 rfl (by decide) rfl ?_
            refine w_iconst gz_25_9 (by decide) ?_
            refine w_aload_n gz_25_10 rfl ?_
            refine w_getX (v := 8) gz_25_11 is_7 rd_6 rfl (by decide) rfl ?_
            refine v_alen (j := 240) gz_25_14 rfl is_8 rd_30 (by decide) ?_
            refine w_cpU gz_25_15 (ix_6_1 tv9) rd_30 is_8 rd_30 (by omega) (by omega) (by omega) (by omega) (by omega) rfl (by decide) (by decide) (fun h18 fh18 => ?_)
            have gh18 : my_fr [(21, -1), (30, -1), (31, -1)] h h18 := my_fr.cp my_fr.rf is_8 fh18 rfl
            refine w_aload_n gz_25_18 rfl ?_
            refine w_getX (v := (v9 + 2)) gz_25_19 tv9 rd_6 rfl (by decide) rfl ?_
            refine w_iconst gz_25_22 (by decide) ?_
            refine w_aload_n gz_25_23 rfl ?_
            refine w_getX (v := 9) gz_25_24 is_7 rd_6 rfl (by decide) rfl ?_
            refine w_iconst gz_25_27 (by decide) ?_
            refine w_aload_n gz_25_28 rfl ?_
            refine w_getX (v := 9) gz_25_29 is_7 rd_6 rfl (by decide) rfl ?_
            refine v_alen (j := 3) gz_25_32 rfl is_9 rd_31 (by decide) ?_
            refine w_cpU gz_25_33 (ix_6_2 tv9) rd_31 is_9 rd_31 (by omega) (by omega) (by omega) (by omega) (by omega) rfl (by decide) (by decide) (fun h22 fh22 => ?_)
            have gh22 : my_fr [(21, -1), (30, -1), (31, -1)] h h22 := my_fr.cp gh18 is_9 fh22 rfl
            refine w_vret gz_25_36 gm_25 ?_
            show wp l rho (d + 4) 138 77 [(2, 0), (0, x1), (0, x2)] [] h22 Q
            refine w_iconst gz_138_77 (by decide) ?_
            exact w_bret gz_138_78 gm_138 (by omega) (by omega) (k1 h22 (gh22) (by omega) (by omega))
      ·
        refine w_aload_n gz_138_15 rfl ?_
        refine w_getX (v := 13) gz_138_16 is_0 rd_9 rfl (by decide) rfl ?_
        refine w_iload_n gz_138_19 rfl ?_
        refine w_aald gz_138_20 is_13 rd_20 rfl (by omega) (by omega) (fun v24 ev24 tv24 => ?_)
        refine w_aload_n gz_138_21 rfl ?_
        refine w_getX (v := 7) gz_138_22 is_0 rd_9 rfl (by decide) rfl ?_
        refine w_inv (k := 0) (as := [(2, 7)]) (r := []) (x := v24) (ls0 := [(2, v24), (2, 7)]) gz_138_25 gm_25 rfl tv24 rd_6 rfl rfl rfl rfl rfl ?_
        refine w_aload_n gz_25_0 rfl ?_
        refine w_getX (v := 8) gz_25_1 is_7 rd_6 rfl (by decide) rfl ?_
        refine w_iconst gz_25_4 (by decide) ?_
        refine w_aload_n gz_25_5 rfl ?_
        refine w_getX (v := (v24 + 1)) gz_25_6 tv24 rd_6 rfl (by decide) rfl ?_
        refine w_iconst gz_25_9 (by decide) ?_
        refine w_aload_n gz_25_10 rfl ?_
        refine w_getX (v := (v24 + 1)) gz_25_11 tv24 rd_6 rfl (by decide) rfl ?_
        refine v_alen (j := 240) gz_25_14 rfl (ix_6_1 tv24) rd_30 (by decide) ?_
        refine w_cpU gz_25_15 is_8 rd_30 (ix_6_1 tv24) rd_30 (by omega) (by omega) (by omega) (by omega) (by omega) rfl (by decide) (by decide) (fun h29 fh29 => ?_)
        have gh29 : my_fr [(21, -1), (30, -1), (31, -1)] h h29 := my_fr.cp my_fr.rf (ix_6_1 tv24) fh29 rfl
        refine w_aload_n gz_25_18 rfl ?_
        refine w_getX (v := 9) gz_25_19 is_7 rd_6 rfl (by decide) rfl ?_
        refine w_iconst gz_25_22 (by decide) ?_
        refine w_aload_n gz_25_23 rfl ?_
        refine w_getX (v := (v24 + 2)) gz_25_24 tv24 rd_6 rfl (by decide) rfl ?_
        refine w_iconst gz_25_27 (by decide) ?_
        refine w_aload_n gz_25_28 rfl ?_
        refine w_getX (v := (v24 + 2)) gz_25_29 tv24 rd_6 rfl (by decide) rfl ?_
        refine v_alen (j := 3) gz_25_32 rfl (ix_6_2 tv24) rd_31 (by decide) ?_
        refine w_cpU gz_25_33 is_9 rd_31 (ix_6_2 tv24) rd_31 (by omega) (by omega) (by omega) (by omega) (by omega) rfl (by decide) (by decide) (fun h33 fh33 => ?_)
        have gh33 : my_fr [(21, -1), (30, -1), (31, -1)] h h33 := my_fr.cp gh29 (ix_6_2 tv24) fh33 rfl
        refine w_vret gz_25_36 gm_25 ?_
        show wp l rho (d + 4) 138 28 [(2, 0), (0, x1), (0, x2)] [] h33 Q
        refine w_aload_n gz_138_28 rfl ?_
        refine w_getX (v := 26) gz_138_29 is_0 rd_9 rfl (by decide) rfl ?_
        refine w_iload_n gz_138_32 rfl ?_
        refine w_iconst gz_138_33 (by decide) ?_
        refine w_bast gz_138_34 is_26 rd_21 (by omega) (by omega) (by omega) (by omega) (fun h35 fh35 => ?_)
        have gh35 : my_fr [(21, -1), (30, -1), (31, -1)] h h35 := my_fr.up gh33 is_26 fh35 rfl
        refine w_iconst gz_138_35 (by decide) ?_
        exact w_bret gz_138_36 gm_138 (by omega) (by omega) (k1 h35 (gh35) (by omega) (by omega))
    ·
      refine w_iconst gz_138_9 (by decide) ?_
      exact w_bret gz_138_10 gm_138 (by omega) (by omega) (k0 h (my_fr.rf))
end MYG2
