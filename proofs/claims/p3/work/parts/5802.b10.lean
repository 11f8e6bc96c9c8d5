/-! contracts, printed by wip/gen/gy.py -/
section MYNDesk_tryRowsThatGo
theorem c_Desk_tryRowsThatGo {l : Launch} {rho : Nat → Int32} {d : Nat} {h : my_H} {Q : my_H → my_V → Prop} {x1 x2 x3 : Int} (t1 : my_is 6 x1) (a2 : 0 ≤ x2) (b2 : x2 ≤ 5) (n_Lst : Lst h) (n_Ln : Ln h) (n_Td : Td h x2) (k0 : ∀ (h' : my_H), my_fr [(2, 11), (7, 0), (7, 1), (7, 2), (7, 3), (7, 4), (7, 5), (8, 0), (8, 1), (30, -1), (31, -1), (42, -1), (43, -1), (44, -1)] h h' → Lst h' → Q h' (9, 0)) : wp l rho (d + 4) 104 0 [(2, 94), (2, x1), (0, x2), (1, x3), (9, 0), (9, 0), (9, 0), (9, 0), (9, 0)] [] h Q := by
  have J10_0 : ∀ (n : Nat) (z10_l3 p10_0 : Int) (h10_0 : my_H), my_fr [(2, 11), (7, 0), (7, 1), (7, 2), (7, 3), (7, 4), (7, 5), (8, 0), (8, 1), (30, -1), (31, -1), (42, -1), (43, -1), (44, -1)] h h10_0 → 0 ≤ p10_0 → p10_0 ≤ 3 → Lst h10_0 → Ln h10_0 → Td h10_0 x2 → 4 - p10_0 ≤ (n : Int) → wp l rho (d + 4) 104 10 [(2, 94), (2, x1), (0, x2), (1, z10_l3), (9, 0), (0, p10_0), (9, 0), (9, 0), (9, 0)] [] h10_0 Q := by
    intro n
    induction n with
    | zero => intro z10_l3 p10_0 h10_0 gh_10_0 q0_10_0 q1_10_0 n_Lst_10_0 n_Ln_10_0 n_Td_10_0 hm_10_0; exfalso; omega
    | succ n ih_10_0 =>
      intro z10_l3 p10_0 h10_0 gh_10_0 q0_10_0 q1_10_0 n_Lst_10_0 n_Ln_10_0 n_Td_10_0 hm_10_0
      have J199_0 : ∀ (z199_l3 p199_0 p199_1 : Int) (h199_0 : my_H), my_fr [(2, 11), (7, 0), (7, 1), (7, 2), (7, 3), (7, 4), (7, 5), (8, 0), (8, 1), (30, -1), (31, -1), (42, -1), (43, -1), (44, -1)] h h199_0 → p10_0 ≤ 2 → 0 ≤ p199_0 → p199_0 ≤ 1 → 0 ≤ p199_1 → p199_1 ≤ 20 → Lst h199_0 → Ln h199_0 → Td h199_0 x2 → wp l rho (d + 4) 104 199 [(2, 94), (2, x1), (0, x2), (1, z199_l3), (9, 0), (0, p10_0), (0, p199_0), (0, p199_1), (9, 0)] [] h199_0 Q := by
        intro z199_l3 p199_0 p199_1 h199_0 gh_199_0 q0_199_0 q1_199_0 q2_199_0 q3_199_0 q4_199_0 n_Lst_199_0 n_Ln_199_0 n_Td_199_0
        refine w_iinc (ls' := [(2, 94), (2, x1), (0, x2), (1, z199_l3), (9, 0), (0, (p10_0 + 1)), (0, p199_0), (0, p199_1), (9, 0)]) gz_104_199 rfl gm_104 rfl rfl rfl ⟨by omega, by omega⟩ ?_
        refine w_goto (t := 10) gz_104_202 rfl ?_
        refine w_weak (ls' := [(2, 94), (2, x1), (0, x2), (1, z199_l3), (9, 0), (0, (p10_0 + 1)), (9, 0), (9, 0), (9, 0)]) (wk_e (wk_e (wk_e (wk_e (wk_9 (wk_e (wk_9 (wk_9 (wk_9 wk_n))))))))) ?_
        exact ih_10_0 (z199_l3) ((p10_0 + 1)) h199_0 (gh_199_0) (by omega) (by omega) n_Lst_199_0 n_Ln_199_0 n_Td_199_0 (by omega)
      have J36_0 : ∀ (n : Nat) (z36_l3 p36_0 p36_1 : Int) (h36_0 : my_H), my_fr [(2, 11), (7, 0), (7, 1), (7, 2), (7, 3), (7, 4), (7, 5), (8, 0), (8, 1), (30, -1), (31, -1), (42, -1), (43, -1), (44, -1)] h h36_0 → p10_0 ≤ 2 → 0 ≤ p36_0 → p36_0 ≤ 1 → 0 ≤ p36_1 → p36_1 ≤ 20 → Lst h36_0 → Ln h36_0 → Td h36_0 x2 → 21 - p36_1 ≤ (n : Int) → wp l rho (d + 4) 104 36 [(2, 94), (2, x1), (0, x2), (1, z36_l3), (9, 0), (0, p10_0), (0, p36_0), (0, p36_1), (9, 0)] [] h36_0 Q := by
        intro n
        induction n with
        | zero => intro z36_l3 p36_0 p36_1 h36_0 gh_36_0 q0_36_0 q1_36_0 q2_36_0 q3_36_0 q4_36_0 n_Lst_36_0 n_Ln_36_0 n_Td_36_0 hm_36_0; exfalso; omega
        | succ n ih_36_0 =>
          intro z36_l3 p36_0 p36_1 h36_0 gh_36_0 q0_36_0 q1_36_0 q2_36_0 q3_36_0 q4_36_0 n_Lst_36_0 n_Ln_36_0 n_Td_36_0 hm_36_0
          have J193_1 : ∀ (z193_l3 p193_0 : Int) (h193_1 : my_H), my_fr [(2, 11), (7, 0), (7, 1), (7, 2), (7, 3), (7, 4), (7, 5), (8, 0), (8, 1), (30, -1), (31, -1), (42, -1), (43, -1), (44, -1)] h h193_1 → p36_1 ≤ 19 → 0 ≤ p193_0 → p193_0 ≤ 1 → 1 ≤ p36_0 → h193_1 94 13 = p193_0 → Lst h193_1 → Ln h193_1 → Td h193_1 x2 → wp l rho (d + 4) 104 193 [(2, 94), (2, x1), (0, x2), (1, z193_l3), (9, 0), (0, p10_0), (0, 1), (0, p36_1), (0, 1)] [] h193_1 Q := by
            intro z193_l3 p193_0 h193_1 gh_193_1 q0_193_1 q1_193_1 q2_193_1 q3_193_1 c94_13_193_1 n_Lst_193_1 n_Ln_193_1 n_Td_193_1
            refine w_iinc (ls' := [(2, 94), (2, x1), (0, x2), (1, z193_l3), (9, 0), (0, p10_0), (0, 1), (0, (p36_1 + 1)), (0, 1)]) gz_104_193 rfl gm_104 rfl rfl rfl ⟨by omega, by omega⟩ ?_
            refine w_goto (t := 36) gz_104_196 rfl ?_
            refine w_weak (ls' := [(2, 94), (2, x1), (0, x2), (1, z193_l3), (9, 0), (0, p10_0), (0, 1), (0, (p36_1 + 1)), (9, 0)]) (wk_e (wk_e (wk_e (wk_e (wk_9 (wk_e (wk_e (wk_e (wk_9 wk_n))))))))) ?_
            exact ih_36_0 (z193_l3) (1) ((p36_1 + 1)) h193_1 (gh_193_1) (by omega) (by omega) (by omega) (by omega) (by omega) n_Lst_193_1 n_Ln_193_1 n_Td_193_1 (by omega)
          have J193_0 : ∀ (z193_l3 p193_0 : Int) (h193_0 : my_H), my_fr [(2, 11), (7, 0), (7, 1), (7, 2), (7, 3), (7, 4), (7, 5), (8, 0), (8, 1), (30, -1), (31, -1), (42, -1), (43, -1), (44, -1)] h h193_0 → p36_1 ≤ 19 → 0 ≤ p193_0 → p193_0 ≤ 1 → 1 ≤ p36_0 → h193_0 94 13 = p193_0 → Lst h193_0 → Ln h193_0 → Td h193_0 x2 → wp l rho (d + 4) 104 193 [(2, 94), (2, x1), (0, x2), (1, z193_l3), (9, 0), (0, p10_0), (0, 1), (0, p36_1), (0, 0)] [] h193_0 Q := by
            intro z193_l3 p193_0 h193_0 gh_193_0 q0_193_0 q1_193_0 q2_193_0 q3_193_0 c94_13_193_0 n_Lst_193_0 n_Ln_193_0 n_Td_193_0
            refine w_iinc (ls' := [(2, 94), (2, x1), (0, x2), (1, z193_l3), (9, 0), (0, p10_0), (0, 1), (0, (p36_1 + 1)), (0, 0)]) gz_104_193 rfl gm_104 rfl rfl rfl ⟨by omega, by omega⟩ ?_
            refine w_goto (t := 36) gz_104_196 rfl ?_
            refine w_weak (ls' := [(2, 94), (2, x1), (0, x2), (1, z193_l3), (9, 0), (0, p10_0), (0, 1), (0, (p36_1 + 1)), (9, 0)]) (wk_e (wk_e (wk_e (wk_e (wk_9 (wk_e (wk_e (wk_e (wk_9 wk_n))))))))) ?_
            exact ih_36_0 (z193_l3) (1) ((p36_1 + 1)) h193_0 (gh_193_0) (by omega) (by omega) (by omega) (by omega) (by omega) n_Lst_193_0 n_Ln_193_0 n_Td_193_0 (by omega)
          refine w_iload gz_104_36 rfl ?_
          refine w_bipush gz_104_38 (by decide) ?_
          refine w_icge (t := 199) gz_104_40 rfl (fun u1 => ?_) (fun u1 => ?_)
          ·
            exact J199_0 (z36_l3) (p36_0) (p36_1) h36_0 (gh_36_0) (by omega) (by omega) (by omega) (by omega) (by omega) n_Lst_36_0 n_Ln_36_0 n_Td_36_0
          ·
            refine w_iload gz_104_43 rfl ?_
            refine w_ifeq (t := 199) gz_104_45 rfl (fun u2 => ?_) (fun u2 => ?_)
            ·
              exact J199_0 (z36_l3) (p36_0) (p36_1) h36_0 (gh_36_0) (by omega) (by omega) (by omega) (by omega) (by omega) n_Lst_36_0 n_Ln_36_0 n_Td_36_0
            ·
              refine w_aload_n gz_104_48 rfl ?_
              refine w_inv (k := 0) (as := []) (r := []) (x := 94) (ls0 := [(2, 94)]) gz_104_49 gm_100 rfl is_94 rd_2 rfl rfl rfl rfl rfl ?_
              refine w_aload_n gz_100_0 rfl ?_
              refine v_getI (j := 13) gz_100_1 rfl is_94 rd_2 rfl (fun v3 ev3 pv3 qv3 => ?_)
              refine w_ifeq (t := 33) gz_100_4 rfl (fun u4 => ?_) (fun u4 => ?_)
              ·
                refine w_iconst gz_100_33 (by decide) ?_
                refine w_bret gz_100_34 gm_100 (by omega) (by omega) ?_
                show wp l rho (d + 4) 104 52 [(2, 94), (2, x1), (0, x2), (1, z36_l3), (9, 0), (0, p10_0), (0, p36_0), (0, p36_1), (9, 0)] [(0, 0)] h36_0 Q
                refine w_ifne (t := 199) gz_104_52 rfl (fun u5 => by exfalso; omega) (fun u5 => ?_)
                refine w_lload_n gz_104_55 rfl ?_
                refine w_iload gz_104_56 rfl ?_
                refine w_bipush gz_104_58 (by decide) ?_
                refine w_imul gz_104_60 ⟨by omega, by omega⟩ ?_
                refine w_iload gz_104_61 rfl ?_
                refine w_iadd gz_104_63 ⟨by omega, by omega⟩ ?_
                refine w_inS (k := 0) (as := [(0, ((p10_0 * 20) + p36_1)), (1, z36_l3)]) (r := []) (ls0 := [(1, z36_l3), (9, 0), (0, ((p10_0 * 20) + p36_1))]) gz_104_64 gm_69 rfl rfl rfl rfl rfl rfl ?_
                refine w_lload_n gz_69_0 rfl ?_
                refine w_iload_n gz_69_1 rfl ?_
                refine w_jshf gz_69_2 (fun _ => rfl) rfl (fun v6 pv6 => ?_)
                refine w_lconst gz_69_3 ?_
                refine w_jany2 gz_69_4 (fun _ => rfl) rfl (fun v7 pv7 => ?_)
                refine w_lconst gz_69_5 ?_
                refine w_lcmp gz_69_6 (fun v8 pv8 qv8 => ?_)
                refine w_ifeq (t := 14) gz_69_7 rfl (fun u9 => ?_) (fun u9 => ?_)
                ·
                  refine w_iconst gz_69_14 (by decide) ?_
                  refine w_bret gz_69_15 gm_69 (by omega) (by omega) ?_
                  show wp l rho (d + 4) 104 67 [(2, 94), (2, x1), (0, x2), (1, z36_l3), (9, 0), (0, p10_0), (0, p36_0), (0, p36_1), (9, 0)] [(0, 0)] h36_0 Q
                  refine w_istore (ls' := [(2, 94), (2, x1), (0, x2), (1, z36_l3), (9, 0), (0, p10_0), (0, p36_0), (0, p36_1), (0, 0)]) gz_104_67 gm_104 rfl rfl rfl ?_
                  refine w_aload_n gz_104_69 rfl ?_
                  refine w_iload gz_104_70 rfl ?_
                  refine w_iload gz_104_72 rfl ?_
                  refine w_inv (k := 0) (as := [(0, p36_1), (0, p10_0)]) (r := []) (x := x1) (ls0 := [(2, x1), (0, p10_0), (0, p36_1)]) gz_104_74 gm_15 rfl t1 rd_6 rfl rfl rfl rfl rfl ?_
                  refine w_iload_n gz_15_0 rfl ?_
                  refine w_iflt (t := 31) gz_15_1 rfl (fun u10 => by exfalso; omega) (fun u10 => ?_)
                  refine w_iload_n gz_15_4 rfl ?_
                  refine w_bipush gz_15_5 (by decide) ?_
                  refine w_icge (t := 31) gz_15_7 rfl (fun u11 => by exfalso; omega) (fun u11 => ?_)
                  refine w_aload_n gz_15_10 rfl ?_
                  refine w_getX (v := (x1 + 1)) gz_15_11 t1 rd_6 rfl (by decide) rfl ?_
                  refine w_iload_n gz_15_14 rfl ?_
                  refine w_bipush gz_15_15 (by decide) ?_
                  refine w_imul gz_15_17 ⟨by omega, by omega⟩ ?_
                  refine w_iload_n gz_15_18 rfl ?_
                  refine w_iadd gz_15_19 ⟨by omega, by omega⟩ ?_
                  refine w_iconst gz_15_20 (by decide) ?_
                  refine w_imul gz_15_21 ⟨by omega, by omega⟩ ?_
                  refine w_iald gz_15_22 (ix_6_1 t1) rd_30 (by omega) (by omega) (fun v13 ev13 pv13 qv13 => ?_)
                  refine w_iconst gz_15_23 (by decide) ?_
                  refine w_iceq (t := 31) gz_15_24 rfl (fun u14 => ?_) (fun u14 => ?_)
                  ·
                    refine w_iconst gz_15_31 (by decide) ?_
                    refine w_bret gz_15_32 gm_15 (by omega) (by omega) ?_
                    show wp l rho (d + 4) 104 77 [(2, 94), (2, x1), (0, x2), (1, z36_l3), (9, 0), (0, p10_0), (0, p36_0), (0, p36_1), (0, 0)] [(0, 0)] h36_0 Q
                    refine w_ifeq (t := 193) gz_104_77 rfl (fun u15 => ?_) (fun u15 => by exfalso; omega)
                    rw [show (p36_0 : Int) = 1 from by omega]
                    exact J193_0 (z36_l3) (v3) h36_0 (gh_36_0) (by omega) (by omega) (by omega) (by omega) (ev3.symm.trans (by omega)) n_Lst_36_0 n_Ln_36_0 n_Td_36_0
                  ·
                    refine w_iconst gz_15_27 (by decide) ?_
                    refine w_goto (t := 32) gz_15_28 rfl ?_
                    refine w_bret gz_15_32 gm_15 (by omega) (by omega) ?_
                    show wp l rho (d + 4) 104 77 [(2, 94), (2, x1), (0, x2), (1, z36_l3), (9, 0), (0, p10_0), (0, p36_0), (0, p36_1), (0, 0)] [(0, 1)] h36_0 Q
                    refine w_ifeq (t := 193) gz_104_77 rfl (fun u16 => by exfalso; omega) (fun u16 => ?_)
                    refine w_iload gz_104_80 rfl ?_
                    refine w_ifne (t := 95) gz_104_82 rfl (fun u17 => by exfalso; omega) (fun u17 => ?_)
                    refine w_aload_n gz_104_85 rfl ?_
                    refine v_getI (j := 14) gz_104_86 rfl is_94 rd_2 rfl (fun v18 ev18 pv18 qv18 => ?_)
                    refine w_ifne (t := 95) gz_104_89 rfl (fun u19 => ?_) (fun u19 => ?_)
                    ·
                      refine w_aload_n gz_104_95 rfl ?_
                      refine w_getX (v := 95) gz_104_96 is_94 rd_2 rfl (by decide) rfl ?_
                      refine w_iload gz_104_99 rfl ?_
                      refine w_iload gz_104_101 rfl ?_
                      refine w_inv (k := 2) (as := [(0, p36_1), (0, p10_0)]) (r := []) (x := 95) (ls0 := [(2, 95), (0, p10_0), (0, p36_1), (9, 0), (9, 0)]) gz_104_103 gm_23 rfl is_95 rd_6 rfl rfl rfl rfl rfl (c_Rows_drop (d := (d + 2)) (x0 := 95) (x1 := p10_0) (x2 := p36_1) is_95 (by omega) (by omega) (by omega) (by omega) (fun h21 frh21 fxh21 => ?_))
                      have gh21 : my_fr [(2, 11), (7, 0), (7, 1), (7, 2), (7, 3), (7, 4), (7, 5), (8, 0), (8, 1), (30, -1), (31, -1), (42, -1), (43, -1), (44, -1)] h h21 := my_fr.tr gh_36_0 (frh21.mo rfl)
                      have Lst_h21 : Lst h21 := Lst_ag (my_ag.fr frh21 rfl) n_Lst_36_0
                      have Ln_h21 : Ln h21 := Ln_ag (my_ag.fr frh21 rfl) n_Ln_36_0
                      have Td_h21 : Td h21 x2 := Td_ag (my_ag.fr frh21 rfl) n_Ln_36_0 n_Td_36_0
                      show wp l rho (d + 4) 104 106 [(2, 94), (2, x1), (0, x2), (1, z36_l3), (9, 0), (0, p10_0), (0, p36_0), (0, p36_1), (0, 0)] [] h21 Q
                      refine w_aload_n gz_104_106 rfl ?_
                      refine w_getX (v := 1) gz_104_107 is_94 rd_2 rfl (by decide) rfl ?_
                      refine w_aload_n gz_104_110 rfl ?_
                      refine w_getX (v := 95) gz_104_111 is_94 rd_2 rfl (by decide) rfl ?_
                      refine w_inv (k := 4) (as := [(2, 95)]) (r := []) (x := 1) (ls0 := [(2, 1), (2, 95), (9, 0), (9, 0), (9, 0), (9, 0)]) gz_104_114 gm_19 rfl is_1 rd_3 rfl rfl rfl rfl rfl (c_Laws_firstBroken (d := (d + 1)) (x1 := 95) is_95 ?_ (fun v24 w25 w26 => ?_))
                      ·
                        show wp l rho (d + 4) 104 117 [(2, 94), (2, x1), (0, x2), (1, z36_l3), (9, 0), (0, p10_0), (0, p36_0), (0, p36_1), (0, 0)] [(0, (-1))] h21 Q
                        refine w_iconst gz_104_117 (by decide) ?_
                        refine w_icne (t := 185) gz_104_118 rfl (fun u27 => by exfalso; omega) (fun u27 => ?_)
                        refine w_iload gz_104_121 rfl ?_
                        refine w_ifeq (t := 152) gz_104_123 rfl (fun u28 => ?_) (fun u28 => by exfalso; omega)
                        refine w_aload_n gz_104_152 rfl ?_
                        refine w_getX (v := 111) gz_104_153 is_94 rd_2 rfl (by decide) rfl ?_
                        refine w_iload gz_104_156 rfl ?_
                        refine v_putI (j := 2) gz_104_158 rfl is_111 rd_7 rfl (by omega) (by omega) rfl (fun h30 fh30 => ?_)
                        have gh30 : my_fr [(2, 11), (7, 0), (7, 1), (7, 2), (7, 3), (7, 4), (7, 5), (8, 0), (8, 1), (30, -1), (31, -1), (42, -1), (43, -1), (44, -1)] h h30 := my_fr.up gh21 is_111 fh30 rfl
                        have Lst_h30 : Lst h30 := Lst_ne fh30 (by decide) Lst_h21
                        have Ln_h30 : Ln h30 := Ln_ag (my_ag.up fh30 is_111 rfl) Ln_h21
                        have Td_h30 : Td h30 x2 := Td_ag (my_ag.up fh30 is_111 rfl) Ln_h21 Td_h21
                        refine w_aload_n gz_104_161 rfl ?_
                        refine w_getX (v := 111) gz_104_162 is_94 rd_2 rfl (by decide) rfl ?_
                        refine w_iload gz_104_165 rfl ?_
                        refine v_putI (j := 3) gz_104_167 rfl is_111 rd_7 rfl (by omega) (by omega) rfl (fun h32 fh32 => ?_)
                        have gh32 : my_fr [(2, 11), (7, 0), (7, 1), (7, 2), (7, 3), (7, 4), (7, 5), (8, 0), (8, 1), (30, -1), (31, -1), (42, -1), (43, -1), (44, -1)] h h32 := my_fr.up gh30 is_111 fh32 rfl
                        have Lst_h32 : Lst h32 := Lst_ne fh32 (by decide) Lst_h30
                        have Ln_h32 : Ln h32 := Ln_ag (my_ag.up fh32 is_111 rfl) Ln_h30
                        have Td_h32 : Td h32 x2 := Td_ag (my_ag.up fh32 is_111 rfl) Ln_h30 Td_h30
                        refine w_aload_n gz_104_170 rfl ?_
                        refine w_iconst gz_104_171 (by decide) ?_
                        refine w_aload_n gz_104_172 rfl ?_
                        refine w_getX (v := 1) gz_104_173 is_94 rd_2 rfl (by decide) rfl ?_
                        refine w_getX (v := 2) gz_104_176 is_1 rd_3 rfl (by decide) rfl ?_
                        refine w_iload gz_104_179 rfl ?_
                        refine w_iald gz_104_181 is_2 rd_25 (by omega) (by omega) (fun v35 ev35 pv35 qv35 => ?_)
                        have ce36 : h32 111 2 = p10_0 := ((my_up_fld fh32 (by decide)).trans (my_up_self fh30))
                        have ce37 : h32 111 3 = p36_1 := (my_up_self fh32)
                        have ce38 : h32 111 4 = h36_0 111 4 := ((my_up_fld fh32 (by decide)).trans ((my_up_fld fh30 (by decide)).trans ((my_fr.at frh21 is_111 rfl).trans (rfl : h36_0 111 4 = h36_0 111 4))))
                        have ce39 : h32 111 5 = h36_0 111 5 := ((my_up_fld fh32 (by decide)).trans ((my_up_fld fh30 (by decide)).trans ((my_fr.at frh21 is_111 rfl).trans (rfl : h36_0 111 5 = h36_0 111 5))))
                        refine w_inv (k := 0) (as := [(0, v35), (0, 2)]) (r := []) (x := 94) (ls0 := [(2, 94), (0, 2), (0, v35)]) gz_104_182 gm_94 rfl is_94 rd_2 rfl rfl rfl rfl rfl (c_Desk_keep (d := (d + 2)) (x1 := 2) (x2 := v35) (by omega) (by omega) (by omega) (by omega) Lst_h32 (by first | assumption | omega | (subst_vars; omega)) (by first | assumption | omega | (subst_vars; omega)) (by first | assumption | omega | (subst_vars; omega)) (fun h40 frh40 xp41 xp42 xp43 Lst_h40t44 => ?_))
                        have gh40 : my_fr [(2, 11), (7, 0), (7, 1), (7, 2), (7, 3), (7, 4), (7, 5), (8, 0), (8, 1), (30, -1), (31, -1), (42, -1), (43, -1), (44, -1)] h h40 := my_fr.tr gh32 (frh40.mo rfl)
                        have Ln_h40 : Ln h40 := Ln_ag (my_ag.fr frh40 rfl) Ln_h32
                        have Td_h40 : Td h40 x2 := Td_ag (my_ag.fr frh40 rfl) Ln_h32 Td_h32
                        show wp l rho (d + 4) 104 185 [(2, 94), (2, x1), (0, x2), (1, z36_l3), (9, 0), (0, p10_0), (0, p36_0), (0, p36_1), (0, 0)] [] h40 Q
                        refine w_aload_n gz_104_185 rfl ?_
                        refine w_getX (v := 95) gz_104_186 is_94 rd_2 rfl (by decide) rfl ?_
                        refine w_aload_n gz_104_189 rfl ?_
                        refine w_inv (k := 0) (as := [(2, x1)]) (r := []) (x := 95) (ls0 := [(2, 95), (2, x1)]) gz_104_190 gm_25 rfl is_95 rd_6 rfl rfl rfl rfl rfl ?_
                        refine w_aload_n gz_25_0 rfl ?_
                        refine w_getX (v := (x1 + 1)) gz_25_1 t1 rd_6 rfl (by decide) rfl ?_
                        refine w_iconst gz_25_4 (by decide) ?_
                        refine w_aload_n gz_25_5 rfl ?_
                        refine w_getX (v := 96) gz_25_6 is_95 rd_6 rfl (by decide) rfl ?_
                        refine w_iconst gz_25_9 (by decide) ?_
                        refine w_aload_n gz_25_10 rfl ?_
                        refine w_getX (v := 96) gz_25_11 is_95 rd_6 rfl (by decide) rfl ?_
                        refine v_alen (j := 240) gz_25_14 rfl is_96 rd_30 (by decide) ?_
                        refine w_cpU gz_25_15 (ix_6_1 t1) rd_30 is_96 rd_30 (by omega) (by omega) (by omega) (by omega) (by omega) rfl (by decide) (by decide) (fun h49 fh49 => ?_)
                        have gh49 : my_fr [(2, 11), (7, 0), (7, 1), (7, 2), (7, 3), (7, 4), (7, 5), (8, 0), (8, 1), (30, -1), (31, -1), (42, -1), (43, -1), (44, -1)] h h49 := my_fr.cp gh40 is_96 fh49 rfl
                        have Ln_h49 : Ln h49 := Ln_ag (my_ag.cp fh49 is_96 rfl) Ln_h40
                        have Td_h49 : Td h49 x2 := Td_ag (my_ag.cp fh49 is_96 rfl) Ln_h40 Td_h40
                        have Lst_h49 : Lst h49 := Lst_ag (my_ag.cp fh49 is_96 rfl) Lst_h40t44
                        refine w_aload_n gz_25_18 rfl ?_
                        refine w_getX (v := (x1 + 2)) gz_25_19 t1 rd_6 rfl (by decide) rfl ?_
                        refine w_iconst gz_25_22 (by decide) ?_
                        refine w_aload_n gz_25_23 rfl ?_
                        refine w_getX (v := 97) gz_25_24 is_95 rd_6 rfl (by decide) rfl ?_
                        refine w_iconst gz_25_27 (by decide) ?_
                        refine w_aload_n gz_25_28 rfl ?_
                        refine w_getX (v := 97) gz_25_29 is_95 rd_6 rfl (by decide) rfl ?_
                        refine v_alen (j := 3) gz_25_32 rfl is_97 rd_31 (by decide) ?_
                        refine w_cpU gz_25_33 (ix_6_2 t1) rd_31 is_97 rd_31 (by omega) (by omega) (by omega) (by omega) (by omega) rfl (by decide) (by decide) (fun h53 fh53 => ?_)
                        have gh53 : my_fr [(2, 11), (7, 0), (7, 1), (7, 2), (7, 3), (7, 4), (7, 5), (8, 0), (8, 1), (30, -1), (31, -1), (42, -1), (43, -1), (44, -1)] h h53 := my_fr.cp gh49 is_97 fh53 rfl
                        have Ln_h53 : Ln h53 := Ln_ag (my_ag.cp fh53 is_97 rfl) Ln_h49
                        have Td_h53 : Td h53 x2 := Td_ag (my_ag.cp fh53 is_97 rfl) Ln_h49 Td_h49
                        have Lst_h53 : Lst h53 := Lst_ag (my_ag.cp fh53 is_97 rfl) Lst_h49
                        refine w_vret gz_25_36 gm_25 ?_
                        show wp l rho (d + 4) 104 193 [(2, 94), (2, x1), (0, x2), (1, z36_l3), (9, 0), (0, p10_0), (0, p36_0), (0, p36_1), (0, 0)] [] h53 Q
                        rw [show (p36_0 : Int) = 1 from by omega]
                        exact J193_0 (z36_l3) (v3) h53 (gh53) (by omega) (by omega) (by omega) (by omega) (((my_cp_role fh53 is_94 is_97 rfl).trans ((my_cp_role fh49 is_94 is_96 rfl).trans ((my_fr.at frh40 is_94 rfl).trans ((my_up_role fh32 is_94 is_111 rfl).trans ((my_up_role fh30 is_94 is_111 rfl).trans ((my_fr.at frh21 is_94 rfl).trans ev3.symm)))))).trans (by omega)) Lst_h53 Ln_h53 Td_h53
                      ·
                        show wp l rho (d + 4) 104 117 [(2, 94), (2, x1), (0, x2), (1, z36_l3), (9, 0), (0, p10_0), (0, p36_0), (0, p36_1), (0, 0)] [(0, v24)] h21 Q
                        refine w_iconst gz_104_117 (by decide) ?_
                        refine w_icne (t := 185) gz_104_118 rfl (fun u54 => ?_) (fun u54 => by exfalso; omega)
                        refine w_aload_n gz_104_185 rfl ?_
                        refine w_getX (v := 95) gz_104_186 is_94 rd_2 rfl (by decide) rfl ?_
                        refine w_aload_n gz_104_189 rfl ?_
                        refine w_inv (k := 0) (as := [(2, x1)]) (r := []) (x := 95) (ls0 := [(2, 95), (2, x1)]) gz_104_190 gm_25 rfl is_95 rd_6 rfl rfl rfl rfl rfl ?_
                        refine w_aload_n gz_25_0 rfl ?_
                        refine w_getX (v := (x1 + 1)) gz_25_1 t1 rd_6 rfl (by decide) rfl ?_
                        refine w_iconst gz_25_4 (by decide) ?_
                        refine w_aload_n gz_25_5 rfl ?_
                        refine w_getX (v := 96) gz_25_6 is_95 rd_6 rfl (by decide) rfl ?_
                        refine w_iconst gz_25_9 (by decide) ?_
                        refine w_aload_n gz_25_10 rfl ?_
                        refine w_getX (v := 96) gz_25_11 is_95 rd_6 rfl (by decide) rfl ?_
                        refine v_alen (j := 240) gz_25_14 rfl is_96 rd_30 (by decide) ?_
                        refine w_cpU gz_25_15 (ix_6_1 t1) rd_30 is_96 rd_30 (by omega) (by omega) (by omega) (by omega) (by omega) rfl (by decide) (by decide) (fun h59 fh59 => ?_)
                        have gh59 : my_fr [(2, 11), (7, 0), (7, 1), (7, 2), (7, 3), (7, 4), (7, 5), (8, 0), (8, 1), (30, -1), (31, -1), (42, -1), (43, -1), (44, -1)] h h59 := my_fr.cp gh21 is_96 fh59 rfl
                        have Lst_h59 : Lst h59 := Lst_ag (my_ag.cp fh59 is_96 rfl) Lst_h21
                        have Ln_h59 : Ln h59 := Ln_ag (my_ag.cp fh59 is_96 rfl) Ln_h21
                        have Td_h59 : Td h59 x2 := Td_ag (my_ag.cp fh59 is_96 rfl) Ln_h21 Td_h21
                        refine w_aload_n gz_25_18 rfl ?_
                        refine w_getX (v := (x1 + 2)) gz_25_19 t1 rd_6 rfl (by decide) rfl ?_
                        refine w_iconst gz_25_22 (by decide) ?_
                        refine w_aload_n gz_25_23 rfl ?_
                        refine w_getX (v := 97) gz_25_24 is_95 rd_6 rfl (by decide) rfl ?_
                        refine w_iconst gz_25_27 (by decide) ?_
                        refine w_aload_n gz_25_28 rfl ?_
                        refine w_getX (v := 97) gz_25_29 is_95 rd_6 rfl (by decide) rfl ?_
                        refine v_alen (j := 3) gz_25_32 rfl is_97 rd_31 (by decide) ?_
                        refine w_cpU gz_25_33 (ix_6_2 t1) rd_31 is_97 rd_31 (by omega) (by omega) (by omega) (by omega) (by omega) rfl (by decide) (by decide) (fun h63 fh63 => ?_)
                        have gh63 : my_fr [(2, 11), (7, 0), (7, 1), (7, 2), (7, 3), (7, 4), (7, 5), (8, 0), (8, 1), (30, -1), (31, -1), (42, -1), (43, -1), (44, -1)] h h63 := my_fr.cp gh59 is_97 fh63 rfl
                        have Lst_h63 : Lst h63 := Lst_ag (my_ag.cp fh63 is_97 rfl) Lst_h59
                        have Ln_h63 : Ln h63 := Ln_ag (my_ag.cp fh63 is_97 rfl) Ln_h59
                        have Td_h63 : Td h63 x2 := Td_ag (my_ag.cp fh63 is_97 rfl) Ln_h59 Td_h59
                        refine w_vret gz_25_36 gm_25 ?_
                        show wp l rho (d + 4) 104 193 [(2, 94), (2, x1), (0, x2), (1, z36_l3), (9, 0), (0, p10_0), (0, p36_0), (0, p36_1), (0, 0)] [] h63 Q
                        rw [show (p36_0 : Int) = 1 from by omega]
                        exact J193_0 (z36_l3) (v3) h63 (gh63) (by omega) (by omega) (by omega) (by omega) (((my_cp_role fh63 is_94 is_97 rfl).trans ((my_cp_role fh59 is_94 is_96 rfl).trans ((my_fr.at frh21 is_94 rfl).trans ev3.symm))).trans (by omega)) Lst_h63 Ln_h63 Td_h63
                    ·
                      refine w_goto (t := 193) gz_104_92 rfl ?_
                      rw [show (p36_0 : Int) = 1 from by omega]
                      exact J193_0 (z36_l3) (v3) h36_0 (gh_36_0) (by omega) (by omega) (by omega) (by omega) (ev3.symm.trans (by omega)) n_Lst_36_0 n_Ln_36_0 n_Td_36_0
                ·
                  refine w_iconst gz_69_10 (by decide) ?_
                  refine w_goto (t := 15) gz_69_11 rfl ?_
                  refine w_bret gz_69_15 gm_69 (by omega) (by omega) ?_
                  show wp l rho (d + 4) 104 67 [(2, 94), (2, x1), (0, x2), (1, z36_l3), (9, 0), (0, p10_0), (0, p36_0), (0, p36_1), (9, 0)] [(0, 1)] h36_0 Q
                  refine w_istore (ls' := [(2, 94), (2, x1), (0, x2), (1, z36_l3), (9, 0), (0, p10_0), (0, p36_0), (0, p36_1), (0, 1)]) gz_104_67 gm_104 rfl rfl rfl ?_
                  refine w_aload_n gz_104_69 rfl ?_
                  refine w_iload gz_104_70 rfl ?_
                  refine w_iload gz_104_72 rfl ?_
                  refine w_inv (k := 0) (as := [(0, p36_1), (0, p10_0)]) (r := []) (x := x1) (ls0 := [(2, x1), (0, p10_0), (0, p36_1)]) gz_104_74 gm_15 rfl t1 rd_6 rfl rfl rfl rfl rfl ?_
                  refine w_iload_n gz_15_0 rfl ?_
                  refine w_iflt (t := 31) gz_15_1 rfl (fun u64 => by exfalso; omega) (fun u64 => ?_)
                  refine w_iload_n gz_15_4 rfl ?_
                  refine w_bipush gz_15_5 (by decide) ?_
                  refine w_icge (t := 31) gz_15_7 rfl (fun u65 => by exfalso; omega) (fun u65 => ?_)
                  refine w_aload_n gz_15_10 rfl ?_
                  refine w_getX (v := (x1 + 1)) gz_15_11 t1 rd_6 rfl (by decide) rfl ?_
                  refine w_iload_n gz_15_14 rfl ?_
                  refine w_bipush gz_15_15 (by decide) ?_
                  refine w_imul gz_15_17 ⟨by omega, by omega⟩ ?_
                  refine w_iload_n gz_15_18 rfl ?_
                  refine w_iadd gz_15_19 ⟨by omega, by omega⟩ ?_
                  refine w_iconst gz_15_20 (by decide) ?_
                  refine w_imul gz_15_21 ⟨by omega, by omega⟩ ?_
                  refine w_iald gz_15_22 (ix_6_1 t1) rd_30 (by omega) (by omega) (fun v67 ev67 pv67 qv67 => ?_)
                  refine w_iconst gz_15_23 (by decide) ?_
                  refine w_iceq (t := 31) gz_15_24 rfl (fun u68 => ?_) (fun u68 => ?_)
                  ·
                    refine w_iconst gz_15_31 (by decide) ?_
                    refine w_bret gz_15_32 gm_15 (by omega) (by omega) ?_
                    show wp l rho (d + 4) 104 77 [(2, 94), (2, x1), (0, x2), (1, z36_l3), (9, 0), (0, p10_0), (0, p36_0), (0, p36_1), (0, 1)] [(0, 0)] h36_0 Q
                    refine w_ifeq (t := 193) gz_104_77 rfl (fun u69 => ?_) (fun u69 => by exfalso; omega)
                    rw [show (p36_0 : Int) = 1 from by omega]
                    exact J193_1 (z36_l3) (v3) h36_0 (gh_36_0) (by omega) (by omega) (by omega) (by omega) (ev3.symm.trans (by omega)) n_Lst_36_0 n_Ln_36_0 n_Td_36_0
                  ·
                    refine w_iconst gz_15_27 (by decide) ?_
                    refine w_goto (t := 32) gz_15_28 rfl ?_
                    refine w_bret gz_15_32 gm_15 (by omega) (by omega) ?_
                    show wp l rho (d + 4) 104 77 [(2, 94), (2, x1), (0, x2), (1, z36_l3), (9, 0), (0, p10_0), (0, p36_0), (0, p36_1), (0, 1)] [(0, 1)] h36_0 Q
                    refine w_ifeq (t := 193) gz_104_77 rfl (fun u70 => by exfalso; omega) (fun u70 => ?_)
                    refine w_iload gz_104_80 rfl ?_
                    refine w_ifne (t := 95) gz_104_82 rfl (fun u71 => ?_) (fun u71 => by exfalso; omega)
                    refine w_aload_n gz_104_95 rfl ?_
                    refine w_getX (v := 95) gz_104_96 is_94 rd_2 rfl (by decide) rfl ?_
                    refine w_iload gz_104_99 rfl ?_
                    refine w_iload gz_104_101 rfl ?_
                    refine w_inv (k := 2) (as := [(0, p36_1), (0, p10_0)]) (r := []) (x := 95) (ls0 := [(2, 95), (0, p10_0), (0, p36_1), (9, 0), (9, 0)]) gz_104_103 gm_23 rfl is_95 rd_6 rfl rfl rfl rfl rfl (c_Rows_drop (d := (d + 2)) (x0 := 95) (x1 := p10_0) (x2 := p36_1) is_95 (by omega) (by omega) (by omega) (by omega) (fun h73 frh73 fxh73 => ?_))
                    have gh73 : my_fr [(2, 11), (7, 0), (7, 1), (7, 2), (7, 3), (7, 4), (7, 5), (8, 0), (8, 1), (30, -1), (31, -1), (42, -1), (43, -1), (44, -1)] h h73 := my_fr.tr gh_36_0 (frh73.mo rfl)
                    have Lst_h73 : Lst h73 := Lst_ag (my_ag.fr frh73 rfl) n_Lst_36_0
                    have Ln_h73 : Ln h73 := Ln_ag (my_ag.fr frh73 rfl) n_Ln_36_0
                    have Td_h73 : Td h73 x2 := Td_ag (my_ag.fr frh73 rfl) n_Ln_36_0 n_Td_36_0
                    show wp l rho (d + 4) 104 106 [(2, 94), (2, x1), (0, x2), (1, z36_l3), (9, 0), (0, p10_0), (0, p36_0), (0, p36_1), (0, 1)] [] h73 Q
                    refine w_aload_n gz_104_106 rfl ?_
                    refine w_getX (v := 1) gz_104_107 is_94 rd_2 rfl (by decide) rfl ?_
                    refine w_aload_n gz_104_110 rfl ?_
                    refine w_getX (v := 95) gz_104_111 is_94 rd_2 rfl (by decide) rfl ?_
                    refine w_inv (k := 4) (as := [(2, 95)]) (r := []) (x := 1) (ls0 := [(2, 1), (2, 95), (9, 0), (9, 0), (9, 0), (9, 0)]) gz_104_114 gm_19 rfl is_1 rd_3 rfl rfl rfl rfl rfl (c_Laws_firstBroken (d := (d + 1)) (x1 := 95) is_95 ?_ (fun v76 w77 w78 => ?_))
                    ·
                      show wp l rho (d + 4) 104 117 [(2, 94), (2, x1), (0, x2), (1, z36_l3), (9, 0), (0, p10_0), (0, p36_0), (0, p36_1), (0, 1)] [(0, (-1))] h73 Q
                      refine w_iconst gz_104_117 (by decide) ?_
                      refine w_icne (t := 185) gz_104_118 rfl (fun u79 => by exfalso; omega) (fun u79 => ?_)
                      refine w_iload gz_104_121 rfl ?_
                      refine w_ifeq (t := 152) gz_104_123 rfl (fun u80 => by exfalso; omega) (fun u80 => ?_)
                      refine w_aload_n gz_104_126 rfl ?_
                      refine w_getX (v := 106) gz_104_127 is_94 rd_2 rfl (by decide) rfl ?_
                      refine w_aload_n gz_104_130 rfl ?_
                      refine w_getX (v := 27) gz_104_131 is_94 rd_2 rfl (by decide) rfl ?_
                      refine w_iload_n gz_104_134 rfl ?_
                      refine w_aload_n gz_104_135 rfl ?_
                      refine w_getX (v := 95) gz_104_136 is_94 rd_2 rfl (by decide) rfl ?_
                      refine w_inv (k := 4) (as := [(2, 95), (0, x2), (2, 27)]) (r := []) (x := 106) (ls0 := [(2, 106), (2, 27), (0, x2), (2, 95), (9, 0), (9, 0), (9, 0), (9, 0)]) gz_104_139 gm_67 rfl is_106 rd_8 rfl rfl rfl rfl rfl (c_View_show (d := d) (x0 := 106) (x2 := x2) (x3 := 95) is_106 (by omega) (by omega) (by omega) (by omega) is_95 Ln_h73 Td_h73 (fun h84 v85 frh84 fxh84 w86 xp87 => ?_))
                      have gh84 : my_fr [(2, 11), (7, 0), (7, 1), (7, 2), (7, 3), (7, 4), (7, 5), (8, 0), (8, 1), (30, -1), (31, -1), (42, -1), (43, -1), (44, -1)] h h84 := my_fr.tr gh73 (frh84.mo rfl)
                      have Lst_h84 : Lst h84 := Lst_ag (my_ag.fr frh84 rfl) Lst_h73
                      have Ln_h84 : Ln h84 := Ln_ag (my_ag.fr frh84 rfl) Ln_h73
                      have Td_h84 : Td h84 x2 := Td_ag (my_ag.fr frh84 rfl) Ln_h73 Td_h73
                      show wp l rho (d + 4) 104 142 [(2, 94), (2, x1), (0, x2), (1, z36_l3), (9, 0), (0, p10_0), (0, p36_0), (0, p36_1), (0, 1)] [(2, v85)] h84 Q
                      refine w_aload_n gz_104_142 rfl ?_
                      refine w_getX (v := 102) gz_104_143 is_94 rd_2 rfl (by decide) rfl ?_
                      refine w_inv (k := 1) (as := [(2, 102)]) (r := []) (x := v85) (ls0 := [(2, v85), (2, 102), (9, 0)]) gz_104_146 gm_93 rfl w86 rd_8 rfl rfl rfl rfl rfl (c_View_same (d := (d + 2)) (x0 := v85) (x1 := 102) w86 is_102 ?_ ?_)
                      ·
                        show wp l rho (d + 4) 104 149 [(2, 94), (2, x1), (0, x2), (1, z36_l3), (9, 0), (0, p10_0), (0, p36_0), (0, p36_1), (0, 1)] [(0, 0)] h84 Q
                        refine w_ifeq (t := 185) gz_104_149 rfl (fun u89 => ?_) (fun u89 => by exfalso; omega)
                        refine w_aload_n gz_104_185 rfl ?_
                        refine w_getX (v := 95) gz_104_186 is_94 rd_2 rfl (by decide) rfl ?_
                        refine w_aload_n gz_104_189 rfl ?_
                        refine w_inv (k := 0) (as := [(2, x1)]) (r := []) (x := 95) (ls0 := [(2, 95), (2, x1)]) gz_104_190 gm_25 rfl is_95 rd_6 rfl rfl rfl rfl rfl ?_
                        refine w_aload_n gz_25_0 rfl ?_
                        refine w_getX (v := (x1 + 1)) gz_25_1 t1 rd_6 rfl (by decide) rfl ?_
                        refine w_iconst gz_25_4 (by decide) ?_
                        refine w_aload_n gz_25_5 rfl ?_
                        refine w_getX (v := 96) gz_25_6 is_95 rd_6 rfl (by decide) rfl ?_
                        refine w_iconst gz_25_9 (by decide) ?_
                        refine w_aload_n gz_25_10 rfl ?_
                        refine w_getX (v := 96) gz_25_11 is_95 rd_6 rfl (by decide) rfl ?_
                        refine v_alen (j := 240) gz_25_14 rfl is_96 rd_30 (by decide) ?_
                        refine w_cpU gz_25_15 (ix_6_1 t1) rd_30 is_96 rd_30 (by omega) (by omega) (by omega) (by omega) (by omega) rfl (by decide) (by decide) (fun h94 fh94 => ?_)
                        have gh94 : my_fr [(2, 11), (7, 0), (7, 1), (7, 2), (7, 3), (7, 4), (7, 5), (8, 0), (8, 1), (30, -1), (31, -1), (42, -1), (43, -1), (44, -1)] h h94 := my_fr.cp gh84 is_96 fh94 rfl
                        have Lst_h94 : Lst h94 := Lst_ag (my_ag.cp fh94 is_96 rfl) Lst_h84
                        have Ln_h94 : Ln h94 := Ln_ag (my_ag.cp fh94 is_96 rfl) Ln_h84
                        have Td_h94 : Td h94 x2 := Td_ag (my_ag.cp fh94 is_96 rfl) Ln_h84 Td_h84
                        refine w_aload_n gz_25_18 rfl ?_
                        refine w_getX (v := (x1 + 2)) gz_25_19 t1 rd_6 rfl (by decide) rfl ?_
                        refine w_iconst gz_25_22 (by decide) ?_
                        refine w_aload_n gz_25_23 rfl ?_
                        refine w_getX (v := 97) gz_25_24 is_95 rd_6 rfl (by decide) rfl ?_
                        refine w_iconst gz_25_27 (by decide) ?_
                        refine w_aload_n gz_25_28 rfl ?_
                        refine w_getX (v := 97) gz_25_29 is_95 rd_6 rfl (by decide) rfl ?_
                        refine v_alen (j := 3) gz_25_32 rfl is_97 rd_31 (by decide) ?_
                        refine w_cpU gz_25_33 (ix_6_2 t1) rd_31 is_97 rd_31 (by omega) (by omega) (by omega) (by omega) (by omega) rfl (by decide) (by decide) (fun h98 fh98 => ?_)
                        have gh98 : my_fr [(2, 11), (7, 0), (7, 1), (7, 2), (7, 3), (7, 4), (7, 5), (8, 0), (8, 1), (30, -1), (31, -1), (42, -1), (43, -1), (44, -1)] h h98 := my_fr.cp gh94 is_97 fh98 rfl
                        have Lst_h98 : Lst h98 := Lst_ag (my_ag.cp fh98 is_97 rfl) Lst_h94
                        have Ln_h98 : Ln h98 := Ln_ag (my_ag.cp fh98 is_97 rfl) Ln_h94
                        have Td_h98 : Td h98 x2 := Td_ag (my_ag.cp fh98 is_97 rfl) Ln_h94 Td_h94
                        refine w_vret gz_25_36 gm_25 ?_
                        show wp l rho (d + 4) 104 193 [(2, 94), (2, x1), (0, x2), (1, z36_l3), (9, 0), (0, p10_0), (0, p36_0), (0, p36_1), (0, 1)] [] h98 Q
                        rw [show (p36_0 : Int) = 1 from by omega]
                        exact J193_1 (z36_l3) (v3) h98 (gh98) (by omega) (by omega) (by omega) (by omega) (((my_cp_role fh98 is_94 is_97 rfl).trans ((my_cp_role fh94 is_94 is_96 rfl).trans ((my_fr.at frh84 is_94 rfl).trans ((my_fr.at frh73 is_94 rfl).trans ev3.symm)))).trans (by omega)) Lst_h98 Ln_h98 Td_h98
                      ·
                        show wp l rho (d + 4) 104 149 [(2, 94), (2, x1), (0, x2), (1, z36_l3), (9, 0), (0, p10_0), (0, p36_0), (0, p36_1), (0, 1)] [(0, 1)] h84 Q
                        refine w_ifeq (t := 185) gz_104_149 rfl (fun u99 => by exfalso; omega) (fun u99 => ?_)
                        refine w_aload_n gz_104_152 rfl ?_
                        refine w_getX (v := 111) gz_104_153 is_94 rd_2 rfl (by decide) rfl ?_
                        refine w_iload gz_104_156 rfl ?_
                        refine v_putI (j := 2) gz_104_158 rfl is_111 rd_7 rfl (by omega) (by omega) rfl (fun h101 fh101 => ?_)
                        have gh101 : my_fr [(2, 11), (7, 0), (7, 1), (7, 2), (7, 3), (7, 4), (7, 5), (8, 0), (8, 1), (30, -1), (31, -1), (42, -1), (43, -1), (44, -1)] h h101 := my_fr.up gh84 is_111 fh101 rfl
                        have Lst_h101 : Lst h101 := Lst_ne fh101 (by decide) Lst_h84
                        have Ln_h101 : Ln h101 := Ln_ag (my_ag.up fh101 is_111 rfl) Ln_h84
                        have Td_h101 : Td h101 x2 := Td_ag (my_ag.up fh101 is_111 rfl) Ln_h84 Td_h84
                        refine w_aload_n gz_104_161 rfl ?_
                        refine w_getX (v := 111) gz_104_162 is_94 rd_2 rfl (by decide) rfl ?_
                        refine w_iload gz_104_165 rfl ?_
                        refine v_putI (j := 3) gz_104_167 rfl is_111 rd_7 rfl (by omega) (by omega) rfl (fun h103 fh103 => ?_)
                        have gh103 : my_fr [(2, 11), (7, 0), (7, 1), (7, 2), (7, 3), (7, 4), (7, 5), (8, 0), (8, 1), (30, -1), (31, -1), (42, -1), (43, -1), (44, -1)] h h103 := my_fr.up gh101 is_111 fh103 rfl
                        have Lst_h103 : Lst h103 := Lst_ne fh103 (by decide) Lst_h101
                        have Ln_h103 : Ln h103 := Ln_ag (my_ag.up fh103 is_111 rfl) Ln_h101
                        have Td_h103 : Td h103 x2 := Td_ag (my_ag.up fh103 is_111 rfl) Ln_h101 Td_h101
                        refine w_aload_n gz_104_170 rfl ?_
                        refine w_iconst gz_104_171 (by decide) ?_
                        refine w_aload_n gz_104_172 rfl ?_
                        refine w_getX (v := 1) gz_104_173 is_94 rd_2 rfl (by decide) rfl ?_
                        refine w_getX (v := 2) gz_104_176 is_1 rd_3 rfl (by decide) rfl ?_
                        refine w_iload gz_104_179 rfl ?_
                        refine w_iald gz_104_181 is_2 rd_25 (by omega) (by omega) (fun v106 ev106 pv106 qv106 => ?_)
                        have ce107 : h103 111 2 = p10_0 := ((my_up_fld fh103 (by decide)).trans (my_up_self fh101))
                        have ce108 : h103 111 3 = p36_1 := (my_up_self fh103)
                        have ce109 : h103 111 4 = h36_0 111 4 := ((my_up_fld fh103 (by decide)).trans ((my_up_fld fh101 (by decide)).trans ((my_fr.at frh84 is_111 rfl).trans ((my_fr.at frh73 is_111 rfl).trans (rfl : h36_0 111 4 = h36_0 111 4)))))
                        have ce110 : h103 111 5 = h36_0 111 5 := ((my_up_fld fh103 (by decide)).trans ((my_up_fld fh101 (by decide)).trans ((my_fr.at frh84 is_111 rfl).trans ((my_fr.at frh73 is_111 rfl).trans (rfl : h36_0 111 5 = h36_0 111 5)))))
                        refine w_inv (k := 0) (as := [(0, v106), (0, 2)]) (r := []) (x := 94) (ls0 := [(2, 94), (0, 2), (0, v106)]) gz_104_182 gm_94 rfl is_94 rd_2 rfl rfl rfl rfl rfl (c_Desk_keep (d := (d + 2)) (x1 := 2) (x2 := v106) (by omega) (by omega) (by omega) (by omega) Lst_h103 (by first | assumption | omega | (subst_vars; omega)) (by first | assumption | omega | (subst_vars; omega)) (by first | assumption | omega | (subst_vars; omega)) (fun h111 frh111 xp112 xp113 xp114 Lst_h111t115 => ?_))
                        have gh111 : my_fr [(2, 11), (7, 0), (7, 1), (7, 2), (7, 3), (7, 4), (7, 5), (8, 0), (8, 1), (30, -1), (31, -1), (42, -1), (43, -1), (44, -1)] h h111 := my_fr.tr gh103 (frh111.mo rfl)
                        have Ln_h111 : Ln h111 := Ln_ag (my_ag.fr frh111 rfl) Ln_h103
                        have Td_h111 : Td h111 x2 := Td_ag (my_ag.fr frh111 rfl) Ln_h103 Td_h103
                        show wp l rho (d + 4) 104 185 [(2, 94), (2, x1), (0, x2), (1, z36_l3), (9, 0), (0, p10_0), (0, p36_0), (0, p36_1), (0, 1)] [] h111 Q
                        refine w_aload_n gz_104_185 rfl ?_
                        refine w_getX (v := 95) gz_104_186 is_94 rd_2 rfl (by decide) rfl ?_
                        refine w_aload_n gz_104_189 rfl ?_
                        refine w_inv (k := 0) (as := [(2, x1)]) (r := []) (x := 95) (ls0 := [(2, 95), (2, x1)]) gz_104_190 gm_25 rfl is_95 rd_6 rfl rfl rfl rfl rfl ?_
                        refine w_aload_n gz_25_0 rfl ?_
                        refine w_getX (v := (x1 + 1)) gz_25_1 t1 rd_6 rfl (by decide) rfl ?_
                        refine w_iconst gz_25_4 (by decide) ?_
                        refine w_aload_n gz_25_5 rfl ?_
                        refine w_getX (v := 96) gz_25_6 is_95 rd_6 rfl (by decide) rfl ?_
                        refine w_iconst gz_25_9 (by decide) ?_
                        refine w_aload_n gz_25_10 rfl ?_
                        refine w_getX (v := 96) gz_25_11 is_95 rd_6 rfl (by decide) rfl ?_
                        refine v_alen (j := 240) gz_25_14 rfl is_96 rd_30 (by decide) ?_
                        refine w_cpU gz_25_15 (ix_6_1 t1) rd_30 is_96 rd_30 (by omega) (by omega) (by omega) (by omega) (by omega) rfl (by decide) (by decide) (fun h120 fh120 => ?_)
                        have gh120 : my_fr [(2, 11), (7, 0), (7, 1), (7, 2), (7, 3), (7, 4), (7, 5), (8, 0), (8, 1), (30, -1), (31, -1), (42, -1), (43, -1), (44, -1)] h h120 := my_fr.cp gh111 is_96 fh120 rfl
                        have Ln_h120 : Ln h120 := Ln_ag (my_ag.cp fh120 is_96 rfl) Ln_h111
                        have Td_h120 : Td h120 x2 := Td_ag (my_ag.cp fh120 is_96 rfl) Ln_h111 Td_h111
                        have Lst_h120 : Lst h120 := Lst_ag (my_ag.cp fh120 is_96 rfl) Lst_h111t115
                        refine w_aload_n gz_25_18 rfl ?_
                        refine w_getX (v := (x1 + 2)) gz_25_19 t1 rd_6 rfl (by decide) rfl ?_
                        refine w_iconst gz_25_22 (by decide) ?_
                        refine w_aload_n gz_25_23 rfl ?_
                        refine w_getX (v := 97) gz_25_24 is_95 rd_6 rfl (by decide) rfl ?_
                        refine w_iconst gz_25_27 (by decide) ?_
                        refine w_aload_n gz_25_28 rfl ?_
                        refine w_getX (v := 97) gz_25_29 is_95 rd_6 rfl (by decide) rfl ?_
                        refine v_alen (j := 3) gz_25_32 rfl is_97 rd_31 (by decide) ?_
                        refine w_cpU gz_25_33 (ix_6_2 t1) rd_31 is_97 rd_31 (by omega) (by omega) (by omega) (by omega) (by omega) rfl (by decide) (by decide) (fun h124 fh124 => ?_)
                        have gh124 : my_fr [(2, 11), (7, 0), (7, 1), (7, 2), (7, 3), (7, 4), (7, 5), (8, 0), (8, 1), (30, -1), (31, -1), (42, -1), (43, -1), (44, -1)] h h124 := my_fr.cp gh120 is_97 fh124 rfl
                        have Ln_h124 : Ln h124 := Ln_ag (my_ag.cp fh124 is_97 rfl) Ln_h120
                        have Td_h124 : Td h124 x2 := Td_ag (my_ag.cp fh124 is_97 rfl) Ln_h120 Td_h120
                        have Lst_h124 : Lst h124 := Lst_ag (my_ag.cp fh124 is_97 rfl) Lst_h120
                        refine w_vret gz_25_36 gm_25 ?_
                        show wp l rho (d + 4) 104 193 [(2, 94), (2, x1), (0, x2), (1, z36_l3), (9, 0), (0, p10_0), (0, p36_0), (0, p36_1), (0, 1)] [] h124 Q
                        rw [show (p36_0 : Int) = 1 from by omega]
                        exact J193_1 (z36_l3) (v3) h124 (gh124) (by omega) (by omega) (by omega) (by omega) (((my_cp_role fh124 is_94 is_97 rfl).trans ((my_cp_role fh120 is_94 is_96 rfl).trans ((my_fr.at frh111 is_94 rfl).trans ((my_up_role fh103 is_94 is_111 rfl).trans ((my_up_role fh101 is_94 is_111 rfl).trans ((my_fr.at frh84 is_94 rfl).trans ((my_fr.at frh73 is_94 rfl).trans ev3.symm))))))).trans (by omega)) Lst_h124 Ln_h124 Td_h124
                    ·
                      show wp l rho (d + 4) 104 117 [(2, 94), (2, x1), (0, x2), (1, z36_l3), (9, 0), (0, p10_0), (0, p36_0), (0, p36_1), (0, 1)] [(0, v76)] h73 Q
                      refine w_iconst gz_104_117 (by decide) ?_
                      refine w_icne (t := 185) gz_104_118 rfl (fun u125 => ?_) (fun u125 => by exfalso; omega)
                      refine w_aload_n gz_104_185 rfl ?_
                      refine w_getX (v := 95) gz_104_186 is_94 rd_2 rfl (by decide) rfl ?_
                      refine w_aload_n gz_104_189 rfl ?_
                      refine w_inv (k := 0) (as := [(2, x1)]) (r := []) (x := 95) (ls0 := [(2, 95), (2, x1)]) gz_104_190 gm_25 rfl is_95 rd_6 rfl rfl rfl rfl rfl ?_
                      refine w_aload_n gz_25_0 rfl ?_
                      refine w_getX (v := (x1 + 1)) gz_25_1 t1 rd_6 rfl (by decide) rfl ?_
                      refine w_iconst gz_25_4 (by decide) ?_
                      refine w_aload_n gz_25_5 rfl ?_
                      refine w_getX (v := 96) gz_25_6 is_95 rd_6 rfl (by decide) rfl ?_
                      refine w_iconst gz_25_9 (by decide) ?_
                      refine w_aload_n gz_25_10 rfl ?_
                      refine w_getX (v := 96) gz_25_11 is_95 rd_6 rfl (by decide) rfl ?_
                      refine v_alen (j := 240) gz_25_14 rfl is_96 rd_30 (by decide) ?_
                      refine w_cpU gz_25_15 (ix_6_1 t1) rd_30 is_96 rd_30 (by omega) (by omega) (by omega) (by omega) (by omega) rfl (by decide) (by decide) (fun h130 fh130 => ?_)
                      have gh130 : my_fr [(2, 11), (7, 0), (7, 1), (7, 2), (7, 3), (7, 4), (7, 5), (8, 0), (8, 1), (30, -1), (31, -1), (42, -1), (43, -1), (44, -1)] h h130 := my_fr.cp gh73 is_96 fh130 rfl
                      have Lst_h130 : Lst h130 := Lst_ag (my_ag.cp fh130 is_96 rfl) Lst_h73
                      have Ln_h130 : Ln h130 := Ln_ag (my_ag.cp fh130 is_96 rfl) Ln_h73
                      have Td_h130 : Td h130 x2 := Td_ag (my_ag.cp fh130 is_96 rfl) Ln_h73 Td_h73
                      refine w_aload_n gz_25_18 rfl ?_
                      refine w_getX (v := (x1 + 2)) gz_25_19 t1 rd_6 rfl (by decide) rfl ?_
                      refine w_iconst gz_25_22 (by decide) ?_
                      refine w_aload_n gz_25_23 rfl ?_
                      refine w_getX (v := 97) gz_25_24 is_95 rd_6 rfl (by decide) rfl ?_
                      refine w_iconst gz_25_27 (by decide) ?_
                      refine w_aload_n gz_25_28 rfl ?_
                      refine w_getX (v := 97) gz_25_29 is_95 rd_6 rfl (by decide) rfl ?_
                      refine v_alen (j := 3) gz_25_32 rfl is_97 rd_31 (by decide) ?_
                      refine w_cpU gz_25_33 (ix_6_2 t1) rd_31 is_97 rd_31 (by omega) (by omega) (by omega) (by omega) (by omega) rfl (by decide) (by decide) (fun h134 fh134 => ?_)
                      have gh134 : my_fr [(2, 11), (7, 0), (7, 1), (7, 2), (7, 3), (7, 4), (7, 5), (8, 0), (8, 1), (30, -1), (31, -1), (42, -1), (43, -1), (44, -1)] h h134 := my_fr.cp gh130 is_97 fh134 rfl
                      have Lst_h134 : Lst h134 := Lst_ag (my_ag.cp fh134 is_97 rfl) Lst_h130
                      have Ln_h134 : Ln h134 := Ln_ag (my_ag.cp fh134 is_97 rfl) Ln_h130
                      have Td_h134 : Td h134 x2 := Td_ag (my_ag.cp fh134 is_97 rfl) Ln_h130 Td_h130
                      refine w_vret gz_25_36 gm_25 ?_
                      show wp l rho (d + 4) 104 193 [(2, 94), (2, x1), (0, x2), (1, z36_l3), (9, 0), (0, p10_0), (0, p36_0), (0, p36_1), (0, 1)] [] h134 Q
                      rw [show (p36_0 : Int) = 1 from by omega]
                      exact J193_1 (z36_l3) (v3) h134 (gh134) (by omega) (by omega) (by omega) (by omega) (((my_cp_role fh134 is_94 is_97 rfl).trans ((my_cp_role fh130 is_94 is_96 rfl).trans ((my_fr.at frh73 is_94 rfl).trans ev3.symm))).trans (by omega)) Lst_h134 Ln_h134 Td_h134
              ·
                refine w_aload_n gz_100_7 rfl ?_
                refine w_getX (v := 112) gz_100_8 is_94 rd_2 rfl (by decide) rfl ?_
                refine v_getI (j := 0) gz_100_11 rfl is_112 rd_7 rfl (fun v136 ev136 pv136 qv136 => ?_)
                refine w_iconst gz_100_14 (by decide) ?_
                refine w_iceq (t := 33) gz_100_15 rfl (fun u137 => ?_) (fun u137 => ?_)
                ·
                  refine w_iconst gz_100_33 (by decide) ?_
                  refine w_bret gz_100_34 gm_100 (by omega) (by omega) ?_
                  show wp l rho (d + 4) 104 52 [(2, 94), (2, x1), (0, x2), (1, z36_l3), (9, 0), (0, p10_0), (0, p36_0), (0, p36_1), (9, 0)] [(0, 0)] h36_0 Q
                  refine w_ifne (t := 199) gz_104_52 rfl (fun u138 => by exfalso; omega) (fun u138 => ?_)
                  refine w_lload_n gz_104_55 rfl ?_
                  refine w_iload gz_104_56 rfl ?_
                  refine w_bipush gz_104_58 (by decide) ?_
                  refine w_imul gz_104_60 ⟨by omega, by omega⟩ ?_
                  refine w_iload gz_104_61 rfl ?_
                  refine w_iadd gz_104_63 ⟨by omega, by omega⟩ ?_
                  refine w_inS (k := 0) (as := [(0, ((p10_0 * 20) + p36_1)), (1, z36_l3)]) (r := []) (ls0 := [(1, z36_l3), (9, 0), (0, ((p10_0 * 20) + p36_1))]) gz_104_64 gm_69 rfl rfl rfl rfl rfl rfl ?_
                  refine w_lload_n gz_69_0 rfl ?_
                  refine w_iload_n gz_69_1 rfl ?_
                  refine w_jshf gz_69_2 (fun _ => rfl) rfl (fun v139 pv139 => ?_)
                  refine w_lconst gz_69_3 ?_
                  refine w_jany2 gz_69_4 (fun _ => rfl) rfl (fun v140 pv140 => ?_)
                  refine w_lconst gz_69_5 ?_
                  refine w_lcmp gz_69_6 (fun v141 pv141 qv141 => ?_)
                  refine w_ifeq (t := 14) gz_69_7 rfl (fun u142 => ?_) (fun u142 => ?_)
                  ·
                    refine w_iconst gz_69_14 (by decide) ?_
                    refine w_bret gz_69_15 gm_69 (by omega) (by omega) ?_
                    show wp l rho (d + 4) 104 67 [(2, 94), (2, x1), (0, x2), (1, z36_l3), (9, 0), (0, p10_0), (0, p36_0), (0, p36_1), (9, 0)] [(0, 0)] h36_0 Q
                    refine w_istore (ls' := [(2, 94), (2, x1), (0, x2), (1, z36_l3), (9, 0), (0, p10_0), (0, p36_0), (0, p36_1), (0, 0)]) gz_104_67 gm_104 rfl rfl rfl ?_
                    refine w_aload_n gz_104_69 rfl ?_
                    refine w_iload gz_104_70 rfl ?_
                    refine w_iload gz_104_72 rfl ?_
                    refine w_inv (k := 0) (as := [(0, p36_1), (0, p10_0)]) (r := []) (x := x1) (ls0 := [(2, x1), (0, p10_0), (0, p36_1)]) gz_104_74 gm_15 rfl t1 rd_6 rfl rfl rfl rfl rfl ?_
                    refine w_iload_n gz_15_0 rfl ?_
                    refine w_iflt (t := 31) gz_15_1 rfl (fun u143 => by exfalso; omega) (fun u143 => ?_)
                    refine w_iload_n gz_15_4 rfl ?_
                    refine w_bipush gz_15_5 (by decide) ?_
                    refine w_icge (t := 31) gz_15_7 rfl (fun u144 => by exfalso; omega) (fun u144 => ?_)
                    refine w_aload_n gz_15_10 rfl ?_
                    refine w_getX (v := (x1 + 1)) gz_15_11 t1 rd_6 rfl (by decide) rfl ?_
                    refine w_iload_n gz_15_14 rfl ?_
                    refine w_bipush gz_15_15 (by decide) ?_
                    refine w_imul gz_15_17 ⟨by omega, by omega⟩ ?_
                    refine w_iload_n gz_15_18 rfl ?_
                    refine w_iadd gz_15_19 ⟨by omega, by omega⟩ ?_
                    refine w_iconst gz_15_20 (by decide) ?_
                    refine w_imul gz_15_21 ⟨by omega, by omega⟩ ?_
                    refine w_iald gz_15_22 (ix_6_1 t1) rd_30 (by omega) (by omega) (fun v146 ev146 pv146 qv146 => ?_)
                    refine w_iconst gz_15_23 (by decide) ?_
                    refine w_iceq (t := 31) gz_15_24 rfl (fun u147 => ?_) (fun u147 => ?_)
                    ·
                      refine w_iconst gz_15_31 (by decide) ?_
                      refine w_bret gz_15_32 gm_15 (by omega) (by omega) ?_
                      show wp l rho (d + 4) 104 77 [(2, 94), (2, x1), (0, x2), (1, z36_l3), (9, 0), (0, p10_0), (0, p36_0), (0, p36_1), (0, 0)] [(0, 0)] h36_0 Q
                      refine w_ifeq (t := 193) gz_104_77 rfl (fun u148 => ?_) (fun u148 => by exfalso; omega)
                      rw [show (p36_0 : Int) = 1 from by omega]
                      exact J193_0 (z36_l3) (v3) h36_0 (gh_36_0) (by omega) (by omega) (by omega) (by omega) (ev3.symm.trans (by omega)) n_Lst_36_0 n_Ln_36_0 n_Td_36_0
                    ·
                      refine w_iconst gz_15_27 (by decide) ?_
                      refine w_goto (t := 32) gz_15_28 rfl ?_
                      refine w_bret gz_15_32 gm_15 (by omega) (by omega) ?_
                      show wp l rho (d + 4) 104 77 [(2, 94), (2, x1), (0, x2), (1, z36_l3), (9, 0), (0, p10_0), (0, p36_0), (0, p36_1), (0, 0)] [(0, 1)] h36_0 Q
                      refine w_ifeq (t := 193) gz_104_77 rfl (fun u149 => by exfalso; omega) (fun u149 => ?_)
                      refine w_iload gz_104_80 rfl ?_
                      refine w_ifne (t := 95) gz_104_82 rfl (fun u150 => by exfalso; omega) (fun u150 => ?_)
                      refine w_aload_n gz_104_85 rfl ?_
                      refine v_getI (j := 14) gz_104_86 rfl is_94 rd_2 rfl (fun v151 ev151 pv151 qv151 => ?_)
                      refine w_ifne (t := 95) gz_104_89 rfl (fun u152 => ?_) (fun u152 => ?_)
                      ·
                        refine w_aload_n gz_104_95 rfl ?_
                        refine w_getX (v := 95) gz_104_96 is_94 rd_2 rfl (by decide) rfl ?_
                        refine w_iload gz_104_99 rfl ?_
                        refine w_iload gz_104_101 rfl ?_
                        refine w_inv (k := 2) (as := [(0, p36_1), (0, p10_0)]) (r := []) (x := 95) (ls0 := [(2, 95), (0, p10_0), (0, p36_1), (9, 0), (9, 0)]) gz_104_103 gm_23 rfl is_95 rd_6 rfl rfl rfl rfl rfl (c_Rows_drop (d := (d + 2)) (x0 := 95) (x1 := p10_0) (x2 := p36_1) is_95 (by omega) (by omega) (by omega) (by omega) (fun h154 frh154 fxh154 => ?_))
                        have gh154 : my_fr [(2, 11), (7, 0), (7, 1), (7, 2), (7, 3), (7, 4), (7, 5), (8, 0), (8, 1), (30, -1), (31, -1), (42, -1), (43, -1), (44, -1)] h h154 := my_fr.tr gh_36_0 (frh154.mo rfl)
                        have Lst_h154 : Lst h154 := Lst_ag (my_ag.fr frh154 rfl) n_Lst_36_0
                        have Ln_h154 : Ln h154 := Ln_ag (my_ag.fr frh154 rfl) n_Ln_36_0
                        have Td_h154 : Td h154 x2 := Td_ag (my_ag.fr frh154 rfl) n_Ln_36_0 n_Td_36_0
                        show wp l rho (d + 4) 104 106 [(2, 94), (2, x1), (0, x2), (1, z36_l3), (9, 0), (0, p10_0), (0, p36_0), (0, p36_1), (0, 0)] [] h154 Q
                        refine w_aload_n gz_104_106 rfl ?_
                        refine w_getX (v := 1) gz_104_107 is_94 rd_2 rfl (by decide) rfl ?_
                        refine w_aload_n gz_104_110 rfl ?_
                        refine w_getX (v := 95) gz_104_111 is_94 rd_2 rfl (by decide) rfl ?_
                        refine w_inv (k := 4) (as := [(2, 95)]) (r := []) (x := 1) (ls0 := [(2, 1), (2, 95), (9, 0), (9, 0), (9, 0), (9, 0)]) gz_104_114 gm_19 rfl is_1 rd_3 rfl rfl rfl rfl rfl (c_Laws_firstBroken (d := (d + 1)) (x1 := 95) is_95 ?_ (fun v157 w158 w159 => ?_))
                        ·
                          show wp l rho (d + 4) 104 117 [(2, 94), (2, x1), (0, x2), (1, z36_l3), (9, 0), (0, p10_0), (0, p36_0), (0, p36_1), (0, 0)] [(0, (-1))] h154 Q
                          refine w_iconst gz_104_117 (by decide) ?_
                          refine w_icne (t := 185) gz_104_118 rfl (fun u160 => by exfalso; omega) (fun u160 => ?_)
                          refine w_iload gz_104_121 rfl ?_
                          refine w_ifeq (t := 152) gz_104_123 rfl (fun u161 => ?_) (fun u161 => by exfalso; omega)
                          refine w_aload_n gz_104_152 rfl ?_
                          refine w_getX (v := 111) gz_104_153 is_94 rd_2 rfl (by decide) rfl ?_
                          refine w_iload gz_104_156 rfl ?_
                          refine v_putI (j := 2) gz_104_158 rfl is_111 rd_7 rfl (by omega) (by omega) rfl (fun h163 fh163 => ?_)
                          have gh163 : my_fr [(2, 11), (7, 0), (7, 1), (7, 2), (7, 3), (7, 4), (7, 5), (8, 0), (8, 1), (30, -1), (31, -1), (42, -1), (43, -1), (44, -1)] h h163 := my_fr.up gh154 is_111 fh163 rfl
                          have Lst_h163 : Lst h163 := Lst_ne fh163 (by decide) Lst_h154
                          have Ln_h163 : Ln h163 := Ln_ag (my_ag.up fh163 is_111 rfl) Ln_h154
                          have Td_h163 : Td h163 x2 := Td_ag (my_ag.up fh163 is_111 rfl) Ln_h154 Td_h154
                          refine w_aload_n gz_104_161 rfl ?_
                          refine w_getX (v := 111) gz_104_162 is_94 rd_2 rfl (by decide) rfl ?_
                          refine w_iload gz_104_165 rfl ?_
                          refine v_putI (j := 3) gz_104_167 rfl is_111 rd_7 rfl (by omega) (by omega) rfl (fun h165 fh165 => ?_)
                          have gh165 : my_fr [(2, 11), (7, 0), (7, 1), (7, 2), (7, 3), (7, 4), (7, 5), (8, 0), (8, 1), (30, -1), (31, -1), (42, -1), (43, -1), (44, -1)] h h165 := my_fr.up gh163 is_111 fh165 rfl
                          have Lst_h165 : Lst h165 := Lst_ne fh165 (by decide) Lst_h163
                          have Ln_h165 : Ln h165 := Ln_ag (my_ag.up fh165 is_111 rfl) Ln_h163
                          have Td_h165 : Td h165 x2 := Td_ag (my_ag.up fh165 is_111 rfl) Ln_h163 Td_h163
                          refine w_aload_n gz_104_170 rfl ?_
                          refine w_iconst gz_104_171 (by decide) ?_
                          refine w_aload_n gz_104_172 rfl ?_
                          refine w_getX (v := 1) gz_104_173 is_94 rd_2 rfl (by decide) rfl ?_
                          refine w_getX (v := 2) gz_104_176 is_1 rd_3 rfl (by decide) rfl ?_
                          refine w_iload gz_104_179 rfl ?_
                          refine w_iald gz_104_181 is_2 rd_25 (by omega) (by omega) (fun v168 ev168 pv168 qv168 => ?_)
                          have ce169 : h165 111 2 = p10_0 := ((my_up_fld fh165 (by decide)).trans (my_up_self fh163))
                          have ce170 : h165 111 3 = p36_1 := (my_up_self fh165)
                          have ce171 : h165 111 4 = h36_0 111 4 := ((my_up_fld fh165 (by decide)).trans ((my_up_fld fh163 (by decide)).trans ((my_fr.at frh154 is_111 rfl).trans (rfl : h36_0 111 4 = h36_0 111 4))))
                          have ce172 : h165 111 5 = h36_0 111 5 := ((my_up_fld fh165 (by decide)).trans ((my_up_fld fh163 (by decide)).trans ((my_fr.at frh154 is_111 rfl).trans (rfl : h36_0 111 5 = h36_0 111 5))))
                          refine w_inv (k := 0) (as := [(0, v168), (0, 2)]) (r := []) (x := 94) (ls0 := [(2, 94), (0, 2), (0, v168)]) gz_104_182 gm_94 rfl is_94 rd_2 rfl rfl rfl rfl rfl (c_Desk_keep (d := (d + 2)) (x1 := 2) (x2 := v168) (by omega) (by omega) (by omega) (by omega) Lst_h165 (by first | assumption | omega | (subst_vars; omega)) (by first | assumption | omega | (subst_vars; omega)) (by first | assumption | omega | (subst_vars; omega)) (fun h173 frh173 xp174 xp175 xp176 Lst_h173t177 => ?_))
                          have gh173 : my_fr [(2, 11), (7, 0), (7, 1), (7, 2), (7, 3), (7, 4), (7, 5), (8, 0), (8, 1), (30, -1), (31, -1), (42, -1), (43, -1), (44, -1)] h h173 := my_fr.tr gh165 (frh173.mo rfl)
                          have Ln_h173 : Ln h173 := Ln_ag (my_ag.fr frh173 rfl) Ln_h165
                          have Td_h173 : Td h173 x2 := Td_ag (my_ag.fr frh173 rfl) Ln_h165 Td_h165
                          show wp l rho (d + 4) 104 185 [(2, 94), (2, x1), (0, x2), (1, z36_l3), (9, 0), (0, p10_0), (0, p36_0), (0, p36_1), (0, 0)] [] h173 Q
                          refine w_aload_n gz_104_185 rfl ?_
                          refine w_getX (v := 95) gz_104_186 is_94 rd_2 rfl (by decide) rfl ?_
                          refine w_aload_n gz_104_189 rfl ?_
                          refine w_inv (k := 0) (as := [(2, x1)]) (r := []) (x := 95) (ls0 := [(2, 95), (2, x1)]) gz_104_190 gm_25 rfl is_95 rd_6 rfl rfl rfl rfl rfl ?_
                          refine w_aload_n gz_25_0 rfl ?_
                          refine w_getX (v := (x1 + 1)) gz_25_1 t1 rd_6 rfl (by decide) rfl ?_
                          refine w_iconst gz_25_4 (by decide) ?_
                          refine w_aload_n gz_25_5 rfl ?_
                          refine w_getX (v := 96) gz_25_6 is_95 rd_6 rfl (by decide) rfl ?_
                          refine w_iconst gz_25_9 (by decide) ?_
                          refine w_aload_n gz_25_10 rfl ?_
                          refine w_getX (v := 96) gz_25_11 is_95 rd_6 rfl (by decide) rfl ?_
                          refine v_alen (j := 240) gz_25_14 rfl is_96 rd_30 (by decide) ?_
                          refine w_cpU gz_25_15 (ix_6_1 t1) rd_30 is_96 rd_30 (by omega) (by omega) (by omega) (by omega) (by omega) rfl (by decide) (by decide) (fun h182 fh182 => ?_)
                          have gh182 : my_fr [(2, 11), (7, 0), (7, 1), (7, 2), (7, 3), (7, 4), (7, 5), (8, 0), (8, 1), (30, -1), (31, -1), (42, -1), (43, -1), (44, -1)] h h182 := my_fr.cp gh173 is_96 fh182 rfl
                          have Ln_h182 : Ln h182 := Ln_ag (my_ag.cp fh182 is_96 rfl) Ln_h173
                          have Td_h182 : Td h182 x2 := Td_ag (my_ag.cp fh182 is_96 rfl) Ln_h173 Td_h173
                          have Lst_h182 : Lst h182 := Lst_ag (my_ag.cp fh182 is_96 rfl) Lst_h173t177
                          refine w_aload_n gz_25_18 rfl ?_
                          refine w_getX (v := (x1 + 2)) gz_25_19 t1 rd_6 rfl (by decide) rfl ?_
                          refine w_iconst gz_25_22 (by decide) ?_
                          refine w_aload_n gz_25_23 rfl ?_
                          refine w_getX (v := 97) gz_25_24 is_95 rd_6 rfl (by decide) rfl ?_
                          refine w_iconst gz_25_27 (by decide) ?_
                          refine w_aload_n gz_25_28 rfl ?_
                          refine w_getX (v := 97) gz_25_29 is_95 rd_6 rfl (by decide) rfl ?_
                          refine v_alen (j := 3) gz_25_32 rfl is_97 rd_31 (by decide) ?_
                          refine w_cpU gz_25_33 (ix_6_2 t1) rd_31 is_97 rd_31 (by omega) (by omega) (by omega) (by omega) (by omega) rfl (by decide) (by decide) (fun h186 fh186 => ?_)
                          have gh186 : my_fr [(2, 11), (7, 0), (7, 1), (7, 2), (7, 3), (7, 4), (7, 5), (8, 0), (8, 1), (30, -1), (31, -1), (42, -1), (43, -1), (44, -1)] h h186 := my_fr.cp gh182 is_97 fh186 rfl
                          have Ln_h186 : Ln h186 := Ln_ag (my_ag.cp fh186 is_97 rfl) Ln_h182
                          have Td_h186 : Td h186 x2 := Td_ag (my_ag.cp fh186 is_97 rfl) Ln_h182 Td_h182
                          have Lst_h186 : Lst h186 := Lst_ag (my_ag.cp fh186 is_97 rfl) Lst_h182
                          refine w_vret gz_25_36 gm_25 ?_
                          show wp l rho (d + 4) 104 193 [(2, 94), (2, x1), (0, x2), (1, z36_l3), (9, 0), (0, p10_0), (0, p36_0), (0, p36_1), (0, 0)] [] h186 Q
                          rw [show (p36_0 : Int) = 1 from by omega]
                          exact J193_0 (z36_l3) (v3) h186 (gh186) (by omega) (by omega) (by omega) (by omega) (((my_cp_role fh186 is_94 is_97 rfl).trans ((my_cp_role fh182 is_94 is_96 rfl).trans ((my_fr.at frh173 is_94 rfl).trans ((my_up_role fh165 is_94 is_111 rfl).trans ((my_up_role fh163 is_94 is_111 rfl).trans ((my_fr.at frh154 is_94 rfl).trans ev3.symm)))))).trans (by omega)) Lst_h186 Ln_h186 Td_h186
                        ·
                          show wp l rho (d + 4) 104 117 [(2, 94), (2, x1), (0, x2), (1, z36_l3), (9, 0), (0, p10_0), (0, p36_0), (0, p36_1), (0, 0)] [(0, v157)] h154 Q
                          refine w_iconst gz_104_117 (by decide) ?_
                          refine w_icne (t := 185) gz_104_118 rfl (fun u187 => ?_) (fun u187 => by exfalso; omega)
                          refine w_aload_n gz_104_185 rfl ?_
                          refine w_getX (v := 95) gz_104_186 is_94 rd_2 rfl (by decide) rfl ?_
                          refine w_aload_n gz_104_189 rfl ?_
                          refine w_inv (k := 0) (as := [(2, x1)]) (r := []) (x := 95) (ls0 := [(2, 95), (2, x1)]) gz_104_190 gm_25 rfl is_95 rd_6 rfl rfl rfl rfl rfl ?_
                          refine w_aload_n gz_25_0 rfl ?_
                          refine w_getX (v := (x1 + 1)) gz_25_1 t1 rd_6 rfl (by decide) rfl ?_
                          refine w_iconst gz_25_4 (by decide) ?_
                          refine w_aload_n gz_25_5 rfl ?_
                          refine w_getX (v := 96) gz_25_6 is_95 rd_6 rfl (by decide) rfl ?_
                          refine w_iconst gz_25_9 (by decide) ?_
                          refine w_aload_n gz_25_10 rfl ?_
                          refine w_getX (v := 96) gz_25_11 is_95 rd_6 rfl (by decide) rfl ?_
                          refine v_alen (j := 240) gz_25_14 rfl is_96 rd_30 (by decide) ?_
                          refine w_cpU gz_25_15 (ix_6_1 t1) rd_30 is_96 rd_30 (by omega) (by omega) (by omega) (by omega) (by omega) rfl (by decide) (by decide) (fun h192 fh192 => ?_)
                          have gh192 : my_fr [(2, 11), (7, 0), (7, 1), (7, 2), (7, 3), (7, 4), (7, 5), (8, 0), (8, 1), (30, -1), (31, -1), (42, -1), (43, -1), (44, -1)] h h192 := my_fr.cp gh154 is_96 fh192 rfl
                          have Lst_h192 : Lst h192 := Lst_ag (my_ag.cp fh192 is_96 rfl) Lst_h154
                          have Ln_h192 : Ln h192 := Ln_ag (my_ag.cp fh192 is_96 rfl) Ln_h154
                          have Td_h192 : Td h192 x2 := Td_ag (my_ag.cp fh192 is_96 rfl) Ln_h154 Td_h154
                          refine w_aload_n gz_25_18 rfl ?_
                          refine w_getX (v := (x1 + 2)) gz_25_19 t1 rd_6 rfl (by decide) rfl ?_
                          refine w_iconst gz_25_22 (by decide) ?_
                          refine w_aload_n gz_25_23 rfl ?_
                          refine w_getX (v := 97) gz_25_24 is_95 rd_6 rfl (by decide) rfl ?_
                          refine w_iconst gz_25_27 (by decide) ?_
                          refine w_aload_n gz_25_28 rfl ?_
                          refine w_getX (v := 97) gz_25_29 is_95 rd_6 rfl (by decide) rfl ?_
                          refine v_alen (j := 3) gz_25_32 rfl is_97 rd_31 (by decide) ?_
                          refine w_cpU gz_25_33 (ix_6_2 t1) rd_31 is_97 rd_31 (by omega) (by omega) (by omega) (by omega) (by omega) rfl (by decide) (by decide) (fun h196 fh196 => ?_)
                          have gh196 : my_fr [(2, 11), (7, 0), (7, 1), (7, 2), (7, 3), (7, 4), (7, 5), (8, 0), (8, 1), (30, -1), (31, -1), (42, -1), (43, -1), (44, -1)] h h196 := my_fr.cp gh192 is_97 fh196 rfl
                          have Lst_h196 : Lst h196 := Lst_ag (my_ag.cp fh196 is_97 rfl) Lst_h192
                          have Ln_h196 : Ln h196 := Ln_ag (my_ag.cp fh196 is_97 rfl) Ln_h192
                          have Td_h196 : Td h196 x2 := Td_ag (my_ag.cp fh196 is_97 rfl) Ln_h192 Td_h192
                          refine w_vret gz_25_36 gm_25 ?_
                          show wp l rho (d + 4) 104 193 [(2, 94), (2, x1), (0, x2), (1, z36_l3), (9, 0), (0, p10_0), (0, p36_0), (0, p36_1), (0, 0)] [] h196 Q
                          rw [show (p36_0 : Int) = 1 from by omega]
                          exact J193_0 (z36_l3) (v3) h196 (gh196) (by omega) (by omega) (by omega) (by omega) (((my_cp_role fh196 is_94 is_97 rfl).trans ((my_cp_role fh192 is_94 is_96 rfl).trans ((my_fr.at frh154 is_94 rfl).trans ev3.symm))).trans (by omega)) Lst_h196 Ln_h196 Td_h196
                      ·
                        refine w_goto (t := 193) gz_104_92 rfl ?_
                        rw [show (p36_0 : Int) = 1 from by omega]
                        exact J193_0 (z36_l3) (v3) h36_0 (gh_36_0) (by omega) (by omega) (by omega) (by omega) (ev3.symm.trans (by omega)) n_Lst_36_0 n_Ln_36_0 n_Td_36_0
                  ·
                    refine w_iconst gz_69_10 (by decide) ?_
                    refine w_goto (t := 15) gz_69_11 rfl ?_
                    refine w_bret gz_69_15 gm_69 (by omega) (by omega) ?_
                    show wp l rho (d + 4) 104 67 [(2, 94), (2, x1), (0, x2), (1, z36_l3), (9, 0), (0, p10_0), (0, p36_0), (0, p36_1), (9, 0)] [(0, 1)] h36_0 Q
                    refine w_istore (ls' := [(2, 94), (2, x1), (0, x2), (1, z36_l3), (9, 0), (0, p10_0), (0, p36_0), (0, p36_1), (0, 1)]) gz_104_67 gm_104 rfl rfl rfl ?_
                    refine w_aload_n gz_104_69 rfl ?_
                    refine w_iload gz_104_70 rfl ?_
                    refine w_iload gz_104_72 rfl ?_
                    refine w_inv (k := 0) (as := [(0, p36_1), (0, p10_0)]) (r := []) (x := x1) (ls0 := [(2, x1), (0, p10_0), (0, p36_1)]) gz_104_74 gm_15 rfl t1 rd_6 rfl rfl rfl rfl rfl ?_
                    refine w_iload_n gz_15_0 rfl ?_
                    refine w_iflt (t := 31) gz_15_1 rfl (fun u197 => by exfalso; omega) (fun u197 => ?_)
                    refine w_iload_n gz_15_4 rfl ?_
                    refine w_bipush gz_15_5 (by decide) ?_
                    refine w_icge (t := 31) gz_15_7 rfl (fun u198 => by exfalso; omega) (fun u198 => ?_)
                    refine w_aload_n gz_15_10 rfl ?_
                    refine w_getX (v := (x1 + 1)) gz_15_11 t1 rd_6 rfl (by decide) rfl ?_
                    refine w_iload_n gz_15_14 rfl ?_
                    refine w_bipush gz_15_15 (by decide) ?_
                    refine w_imul gz_15_17 ⟨by omega, by omega⟩ ?_
                    refine w_iload_n gz_15_18 rfl ?_
                    refine w_iadd gz_15_19 ⟨by omega, by omega⟩ ?_
                    refine w_iconst gz_15_20 (by decide) ?_
                    refine w_imul gz_15_21 ⟨by omega, by omega⟩ ?_
                    refine w_iald gz_15_22 (ix_6_1 t1) rd_30 (by omega) (by omega) (fun v200 ev200 pv200 qv200 => ?_)
                    refine w_iconst gz_15_23 (by decide) ?_
                    refine w_iceq (t := 31) gz_15_24 rfl (fun u201 => ?_) (fun u201 => ?_)
                    ·
                      refine w_iconst gz_15_31 (by decide) ?_
                      refine w_bret gz_15_32 gm_15 (by omega) (by omega) ?_
                      show wp l rho (d + 4) 104 77 [(2, 94), (2, x1), (0, x2), (1, z36_l3), (9, 0), (0, p10_0), (0, p36_0), (0, p36_1), (0, 1)] [(0, 0)] h36_0 Q
                      refine w_ifeq (t := 193) gz_104_77 rfl (fun u202 => ?_) (fun u202 => by exfalso; omega)
                      rw [show (p36_0 : Int) = 1 from by omega]
                      exact J193_1 (z36_l3) (v3) h36_0 (gh_36_0) (by omega) (by omega) (by omega) (by omega) (ev3.symm.trans (by omega)) n_Lst_36_0 n_Ln_36_0 n_Td_36_0
                    ·
                      refine w_iconst gz_15_27 (by decide) ?_
                      refine w_goto (t := 32) gz_15_28 rfl ?_
                      refine w_bret gz_15_32 gm_15 (by omega) (by omega) ?_
                      show wp l rho (d + 4) 104 77 [(2, 94), (2, x1), (0, x2), (1, z36_l3), (9, 0), (0, p10_0), (0, p36_0), (0, p36_1), (0, 1)] [(0, 1)] h36_0 Q
                      refine w_ifeq (t := 193) gz_104_77 rfl (fun u203 => by exfalso; omega) (fun u203 => ?_)
                      refine w_iload gz_104_80 rfl ?_
                      refine w_ifne (t := 95) gz_104_82 rfl (fun u204 => ?_) (fun u204 => by exfalso; omega)
                      refine w_aload_n gz_104_95 rfl ?_
                      refine w_getX (v := 95) gz_104_96 is_94 rd_2 rfl (by decide) rfl ?_
                      refine w_iload gz_104_99 rfl ?_
                      refine w_iload gz_104_101 rfl ?_
                      refine w_inv (k := 2) (as := [(0, p36_1), (0, p10_0)]) (r := []) (x := 95) (ls0 := [(2, 95), (0, p10_0), (0, p36_1), (9, 0), (9, 0)]) gz_104_103 gm_23 rfl is_95 rd_6 rfl rfl rfl rfl rfl (c_Rows_drop (d := (d + 2)) (x0 := 95) (x1 := p10_0) (x2 := p36_1) is_95 (by omega) (by omega) (by omega) (by omega) (fun h206 frh206 fxh206 => ?_))
                      have gh206 : my_fr [(2, 11), (7, 0), (7, 1), (7, 2), (7, 3), (7, 4), (7, 5), (8, 0), (8, 1), (30, -1), (31, -1), (42, -1), (43, -1), (44, -1)] h h206 := my_fr.tr gh_36_0 (frh206.mo rfl)
                      have Lst_h206 : Lst h206 := Lst_ag (my_ag.fr frh206 rfl) n_Lst_36_0
                      have Ln_h206 : Ln h206 := Ln_ag (my_ag.fr frh206 rfl) n_Ln_36_0
                      have Td_h206 : Td h206 x2 := Td_ag (my_ag.fr frh206 rfl) n_Ln_36_0 n_Td_36_0
                      show wp l rho (d + 4) 104 106 [(2, 94), (2, x1), (0, x2), (1, z36_l3), (9, 0), (0, p10_0), (0, p36_0), (0, p36_1), (0, 1)] [] h206 Q
                      refine w_aload_n gz_104_106 rfl ?_
                      refine w_getX (v := 1) gz_104_107 is_94 rd_2 rfl (by decide) rfl ?_
                      refine w_aload_n gz_104_110 rfl ?_
                      refine w_getX (v := 95) gz_104_111 is_94 rd_2 rfl (by decide) rfl ?_
                      refine w_inv (k := 4) (as := [(2, 95)]) (r := []) (x := 1) (ls0 := [(2, 1), (2, 95), (9, 0), (9, 0), (9, 0), (9, 0)]) gz_104_114 gm_19 rfl is_1 rd_3 rfl rfl rfl rfl rfl (c_Laws_firstBroken (d := (d + 1)) (x1 := 95) is_95 ?_ (fun v209 w210 w211 => ?_))
                      ·
                        show wp l rho (d + 4) 104 117 [(2, 94), (2, x1), (0, x2), (1, z36_l3), (9, 0), (0, p10_0), (0, p36_0), (0, p36_1), (0, 1)] [(0, (-1))] h206 Q
                        refine w_iconst gz_104_117 (by decide) ?_
                        refine w_icne (t := 185) gz_104_118 rfl (fun u212 => by exfalso; omega) (fun u212 => ?_)
                        refine w_iload gz_104_121 rfl ?_
                        refine w_ifeq (t := 152) gz_104_123 rfl (fun u213 => by exfalso; omega) (fun u213 => ?_)
                        refine w_aload_n gz_104_126 rfl ?_
                        refine w_getX (v := 106) gz_104_127 is_94 rd_2 rfl (by decide) rfl ?_
                        refine w_aload_n gz_104_130 rfl ?_
                        refine w_getX (v := 27) gz_104_131 is_94 rd_2 rfl (by decide) rfl ?_
                        refine w_iload_n gz_104_134 rfl ?_
                        refine w_aload_n gz_104_135 rfl ?_
                        refine w_getX (v := 95) gz_104_136 is_94 rd_2 rfl (by decide) rfl ?_
                        refine w_inv (k := 4) (as := [(2, 95), (0, x2), (2, 27)]) (r := []) (x := 106) (ls0 := [(2, 106), (2, 27), (0, x2), (2, 95), (9, 0), (9, 0), (9, 0), (9, 0)]) gz_104_139 gm_67 rfl is_106 rd_8 rfl rfl rfl rfl rfl (c_View_show (d := d) (x0 := 106) (x2 := x2) (x3 := 95) is_106 (by omega) (by omega) (by omega) (by omega) is_95 Ln_h206 Td_h206 (fun h217 v218 frh217 fxh217 w219 xp220 => ?_))
                        have gh217 : my_fr [(2, 11), (7, 0), (7, 1), (7, 2), (7, 3), (7, 4), (7, 5), (8, 0), (8, 1), (30, -1), (31, -1), (42, -1), (43, -1), (44, -1)] h h217 := my_fr.tr gh206 (frh217.mo rfl)
                        have Lst_h217 : Lst h217 := Lst_ag (my_ag.fr frh217 rfl) Lst_h206
                        have Ln_h217 : Ln h217 := Ln_ag (my_ag.fr frh217 rfl) Ln_h206
                        have Td_h217 : Td h217 x2 := Td_ag (my_ag.fr frh217 rfl) Ln_h206 Td_h206
                        show wp l rho (d + 4) 104 142 [(2, 94), (2, x1), (0, x2), (1, z36_l3), (9, 0), (0, p10_0), (0, p36_0), (0, p36_1), (0, 1)] [(2, v218)] h217 Q
                        refine w_aload_n gz_104_142 rfl ?_
                        refine w_getX (v := 102) gz_104_143 is_94 rd_2 rfl (by decide) rfl ?_
                        refine w_inv (k := 1) (as := [(2, 102)]) (r := []) (x := v218) (ls0 := [(2, v218), (2, 102), (9, 0)]) gz_104_146 gm_93 rfl w219 rd_8 rfl rfl rfl rfl rfl (c_View_same (d := (d + 2)) (x0 := v218) (x1 := 102) w219 is_102 ?_ ?_)
                        ·
                          show wp l rho (d + 4) 104 149 [(2, 94), (2, x1), (0, x2), (1, z36_l3), (9, 0), (0, p10_0), (0, p36_0), (0, p36_1), (0, 1)] [(0, 0)] h217 Q
                          refine w_ifeq (t := 185) gz_104_149 rfl (fun u222 => ?_) (fun u222 => by exfalso; omega)
                          refine w_aload_n gz_104_185 rfl ?_
                          refine w_getX (v := 95) gz_104_186 is_94 rd_2 rfl (by decide) rfl ?_
                          refine w_aload_n gz_104_189 rfl ?_
                          refine w_inv (k := 0) (as := [(2, x1)]) (r := []) (x := 95) (ls0 := [(2, 95), (2, x1)]) gz_104_190 gm_25 rfl is_95 rd_6 rfl rfl rfl rfl rfl ?_
                          refine w_aload_n gz_25_0 rfl ?_
                          refine w_getX (v := (x1 + 1)) gz_25_1 t1 rd_6 rfl (by decide) rfl ?_
                          refine w_iconst gz_25_4 (by decide) ?_
                          refine w_aload_n gz_25_5 rfl ?_
                          refine w_getX (v := 96) gz_25_6 is_95 rd_6 rfl (by decide) rfl ?_
                          refine w_iconst gz_25_9 (by decide) ?_
                          refine w_aload_n gz_25_10 rfl ?_
                          refine w_getX (v := 96) gz_25_11 is_95 rd_6 rfl (by decide) rfl ?_
                          refine v_alen (j := 240) gz_25_14 rfl is_96 rd_30 (by decide) ?_
                          refine w_cpU gz_25_15 (ix_6_1 t1) rd_30 is_96 rd_30 (by omega) (by omega) (by omega) (by omega) (by omega) rfl (by decide) (by decide) (fun h227 fh227 => ?_)
                          have gh227 : my_fr [(2, 11), (7, 0), (7, 1), (7, 2), (7, 3), (7, 4), (7, 5), (8, 0), (8, 1), (30, -1), (31, -1), (42, -1), (43, -1), (44, -1)] h h227 := my_fr.cp gh217 is_96 fh227 rfl
                          have Lst_h227 : Lst h227 := Lst_ag (my_ag.cp fh227 is_96 rfl) Lst_h217
                          have Ln_h227 : Ln h227 := Ln_ag (my_ag.cp fh227 is_96 rfl) Ln_h217
                          have Td_h227 : Td h227 x2 := Td_ag (my_ag.cp fh227 is_96 rfl) Ln_h217 Td_h217
                          refine w_aload_n gz_25_18 rfl ?_
                          refine w_getX (v := (x1 + 2)) gz_25_19 t1 rd_6 rfl (by decide) rfl ?_
                          refine w_iconst gz_25_22 (by decide) ?_
                          refine w_aload_n gz_25_23 rfl ?_
                          refine w_getX (v := 97) gz_25_24 is_95 rd_6 rfl (by decide) rfl ?_
                          refine w_iconst gz_25_27 (by decide) ?_
                          refine w_aload_n gz_25_28 rfl ?_
                          refine w_getX (v := 97) gz_25_29 is_95 rd_6 rfl (by decide) rfl ?_
                          refine v_alen (j := 3) gz_25_32 rfl is_97 rd_31 (by decide) ?_
                          refine w_cpU gz_25_33 (ix_6_2 t1) rd_31 is_97 rd_31 (by omega) (by omega) (by omega) (by omega) (by omega) rfl (by decide) (by decide) (fun h231 fh231 => ?_)
                          have gh231 : my_fr [(2, 11), (7, 0), (7, 1), (7, 2), (7, 3), (7, 4), (7, 5), (8, 0), (8, 1), (30, -1), (31, -1), (42, -1), (43, -1), (44, -1)] h h231 := my_fr.cp gh227 is_97 fh231 rfl
                          have Lst_h231 : Lst h231 := Lst_ag (my_ag.cp fh231 is_97 rfl) Lst_h227
                          have Ln_h231 : Ln h231 := Ln_ag (my_ag.cp fh231 is_97 rfl) Ln_h227
                          have Td_h231 : Td h231 x2 := Td_ag (my_ag.cp fh231 is_97 rfl) Ln_h227 Td_h227
                          refine w_vret gz_25_36 gm_25 ?_
                          show wp l rho (d + 4) 104 193 [(2, 94), (2, x1), (0, x2), (1, z36_l3), (9, 0), (0, p10_0), (0, p36_0), (0, p36_1), (0, 1)] [] h231 Q
                          rw [show (p36_0 : Int) = 1 from by omega]
                          exact J193_1 (z36_l3) (v3) h231 (gh231) (by omega) (by omega) (by omega) (by omega) (((my_cp_role fh231 is_94 is_97 rfl).trans ((my_cp_role fh227 is_94 is_96 rfl).trans ((my_fr.at frh217 is_94 rfl).trans ((my_fr.at frh206 is_94 rfl).trans ev3.symm)))).trans (by omega)) Lst_h231 Ln_h231 Td_h231
                        ·
                          show wp l rho (d + 4) 104 149 [(2, 94), (2, x1), (0, x2), (1, z36_l3), (9, 0), (0, p10_0), (0, p36_0), (0, p36_1), (0, 1)] [(0, 1)] h217 Q
                          refine w_ifeq (t := 185) gz_104_149 rfl (fun u232 => by exfalso; omega) (fun u232 => ?_)
                          refine w_aload_n gz_104_152 rfl ?_
                          refine w_getX (v := 111) gz_104_153 is_94 rd_2 rfl (by decide) rfl ?_
                          refine w_iload gz_104_156 rfl ?_
                          refine v_putI (j := 2) gz_104_158 rfl is_111 rd_7 rfl (by omega) (by omega) rfl (fun h234 fh234 => ?_)
                          have gh234 : my_fr [(2, 11), (7, 0), (7, 1), (7, 2), (7, 3), (7, 4), (7, 5), (8, 0), (8, 1), (30, -1), (31, -1), (42, -1), (43, -1), (44, -1)] h h234 := my_fr.up gh217 is_111 fh234 rfl
                          have Lst_h234 : Lst h234 := Lst_ne fh234 (by decide) Lst_h217
                          have Ln_h234 : Ln h234 := Ln_ag (my_ag.up fh234 is_111 rfl) Ln_h217
                          have Td_h234 : Td h234 x2 := Td_ag (my_ag.up fh234 is_111 rfl) Ln_h217 Td_h217
                          refine w_aload_n gz_104_161 rfl ?_
                          refine w_getX (v := 111) gz_104_162 is_94 rd_2 rfl (by decide) rfl ?_
                          refine w_iload gz_104_165 rfl ?_
                          refine v_putI (j := 3) gz_104_167 rfl is_111 rd_7 rfl (by omega) (by omega) rfl (fun h236 fh236 => ?_)
                          have gh236 : my_fr [(2, 11), (7, 0), (7, 1), (7, 2), (7, 3), (7, 4), (7, 5), (8, 0), (8, 1), (30, -1), (31, -1), (42, -1), (43, -1), (44, -1)] h h236 := my_fr.up gh234 is_111 fh236 rfl
                          have Lst_h236 : Lst h236 := Lst_ne fh236 (by decide) Lst_h234
                          have Ln_h236 : Ln h236 := Ln_ag (my_ag.up fh236 is_111 rfl) Ln_h234
                          have Td_h236 : Td h236 x2 := Td_ag (my_ag.up fh236 is_111 rfl) Ln_h234 Td_h234
                          refine w_aload_n gz_104_170 rfl ?_
                          refine w_iconst gz_104_171 (by decide) ?_
                          refine w_aload_n gz_104_172 rfl ?_
                          refine w_getX (v := 1) gz_104_173 is_94 rd_2 rfl (by decide) rfl ?_
                          refine w_getX (v := 2) gz_104_176 is_1 rd_3 rfl (by decide) rfl ?_
                          refine w_iload gz_104_179 rfl ?_
                          refine w_iald gz_104_181 is_2 rd_25 (by omega) (by omega) (fun v239 ev239 pv239 qv239 => ?_)
                          have ce240 : h236 111 2 = p10_0 := ((my_up_fld fh236 (by decide)).trans (my_up_self fh234))
                          have ce241 : h236 111 3 = p36_1 := (my_up_self fh236)
                          have ce242 : h236 111 4 = h36_0 111 4 := ((my_up_fld fh236 (by decide)).trans ((my_up_fld fh234 (by decide)).trans ((my_fr.at frh217 is_111 rfl).trans ((my_fr.at frh206 is_111 rfl).trans (rfl : h36_0 111 4 = h36_0 111 4)))))
                          have ce243 : h236 111 5 = h36_0 111 5 := ((my_up_fld fh236 (by decide)).trans ((my_up_fld fh234 (by decide)).trans ((my_fr.at frh217 is_111 rfl).trans ((my_fr.at frh206 is_111 rfl).trans (rfl : h36_0 111 5 = h36_0 111 5)))))
                          refine w_inv (k := 0) (as := [(0, v239), (0, 2)]) (r := []) (x := 94) (ls0 := [(2, 94), (0, 2), (0, v239)]) gz_104_182 gm_94 rfl is_94 rd_2 rfl rfl rfl rfl rfl (c_Desk_keep (d := (d + 2)) (x1 := 2) (x2 := v239) (by omega) (by omega) (by omega) (by omega) Lst_h236 (by first | assumption | omega | (subst_vars; omega)) (by first | assumption | omega | (subst_vars; omega)) (by first | assumption | omega | (subst_vars; omega)) (fun h244 frh244 xp245 xp246 xp247 Lst_h244t248 => ?_))
                          have gh244 : my_fr [(2, 11), (7, 0), (7, 1), (7, 2), (7, 3), (7, 4), (7, 5), (8, 0), (8, 1), (30, -1), (31, -1), (42, -1), (43, -1), (44, -1)] h h244 := my_fr.tr gh236 (frh244.mo rfl)
                          have Ln_h244 : Ln h244 := Ln_ag (my_ag.fr frh244 rfl) Ln_h236
                          have Td_h244 : Td h244 x2 := Td_ag (my_ag.fr frh244 rfl) Ln_h236 Td_h236
                          show wp l rho (d + 4) 104 185 [(2, 94), (2, x1), (0, x2), (1, z36_l3), (9, 0), (0, p10_0), (0, p36_0), (0, p36_1), (0, 1)] [] h244 Q
                          refine w_aload_n gz_104_185 rfl ?_
                          refine w_getX (v := 95) gz_104_186 is_94 rd_2 rfl (by decide) rfl ?_
                          refine w_aload_n gz_104_189 rfl ?_
                          refine w_inv (k := 0) (as := [(2, x1)]) (r := []) (x := 95) (ls0 := [(2, 95), (2, x1)]) gz_104_190 gm_25 rfl is_95 rd_6 rfl rfl rfl rfl rfl ?_
                          refine w_aload_n gz_25_0 rfl ?_
                          refine w_getX (v := (x1 + 1)) gz_25_1 t1 rd_6 rfl (by decide) rfl ?_
                          refine w_iconst gz_25_4 (by decide) ?_
                          refine w_aload_n gz_25_5 rfl ?_
                          refine w_getX (v := 96) gz_25_6 is_95 rd_6 rfl (by decide) rfl ?_
                          refine w_iconst gz_25_9 (by decide) ?_
                          refine w_aload_n gz_25_10 rfl ?_
                          refine w_getX (v := 96) gz_25_11 is_95 rd_6 rfl (by decide) rfl ?_
                          refine v_alen (j := 240) gz_25_14 rfl is_96 rd_30 (by decide) ?_
                          refine w_cpU gz_25_15 (ix_6_1 t1) rd_30 is_96 rd_30 (by omega) (by omega) (by omega) (by omega) (by omega) rfl (by decide) (by decide) (fun h253 fh253 => ?_)
                          have gh253 : my_fr [(2, 11), (7, 0), (7, 1), (7, 2), (7, 3), (7, 4), (7, 5), (8, 0), (8, 1), (30, -1), (31, -1), (42, -1), (43, -1), (44, -1)] h h253 := my_fr.cp gh244 is_96 fh253 rfl
                          have Ln_h253 : Ln h253 := Ln_ag (my_ag.cp fh253 is_96 rfl) Ln_h244
                          have Td_h253 : Td h253 x2 := Td_ag (my_ag.cp fh253 is_96 rfl) Ln_h244 Td_h244
                          have Lst_h253 : Lst h253 := Lst_ag (my_ag.cp fh253 is_96 rfl) Lst_h244t248
                          refine w_aload_n gz_25_18 rfl ?_
                          refine w_getX (v := (x1 + 2)) gz_25_19 t1 rd_6 rfl (by decide) rfl ?_
                          refine w_iconst gz_25_22 (by decide) ?_
                          refine w_aload_n gz_25_23 rfl ?_
                          refine w_getX (v := 97) gz_25_24 is_95 rd_6 rfl (by decide) rfl ?_
                          refine w_iconst gz_25_27 (by decide) ?_
                          refine w_aload_n gz_25_28 rfl ?_
                          refine w_getX (v := 97) gz_25_29 is_95 rd_6 rfl (by decide) rfl ?_
                          refine v_alen (j := 3) gz_25_32 rfl is_97 rd_31 (by decide) ?_
                          refine w_cpU gz_25_33 (ix_6_2 t1) rd_31 is_97 rd_31 (by omega) (by omega) (by omega) (by omega) (by omega) rfl (by decide) (by decide) (fun h257 fh257 => ?_)
                          have gh257 : my_fr [(2, 11), (7, 0), (7, 1), (7, 2), (7, 3), (7, 4), (7, 5), (8, 0), (8, 1), (30, -1), (31, -1), (42, -1), (43, -1), (44, -1)] h h257 := my_fr.cp gh253 is_97 fh257 rfl
                          have Ln_h257 : Ln h257 := Ln_ag (my_ag.cp fh257 is_97 rfl) Ln_h253
                          have Td_h257 : Td h257 x2 := Td_ag (my_ag.cp fh257 is_97 rfl) Ln_h253 Td_h253
                          have Lst_h257 : Lst h257 := Lst_ag (my_ag.cp fh257 is_97 rfl) Lst_h253
                          refine w_vret gz_25_36 gm_25 ?_
                          show wp l rho (d + 4) 104 193 [(2, 94), (2, x1), (0, x2), (1, z36_l3), (9, 0), (0, p10_0), (0, p36_0), (0, p36_1), (0, 1)] [] h257 Q
                          rw [show (p36_0 : Int) = 1 from by omega]
                          exact J193_1 (z36_l3) (v3) h257 (gh257) (by omega) (by omega) (by omega) (by omega) (((my_cp_role fh257 is_94 is_97 rfl).trans ((my_cp_role fh253 is_94 is_96 rfl).trans ((my_fr.at frh244 is_94 rfl).trans ((my_up_role fh236 is_94 is_111 rfl).trans ((my_up_role fh234 is_94 is_111 rfl).trans ((my_fr.at frh217 is_94 rfl).trans ((my_fr.at frh206 is_94 rfl).trans ev3.symm))))))).trans (by omega)) Lst_h257 Ln_h257 Td_h257
                      ·
                        show wp l rho (d + 4) 104 117 [(2, 94), (2, x1), (0, x2), (1, z36_l3), (9, 0), (0, p10_0), (0, p36_0), (0, p36_1), (0, 1)] [(0, v209)] h206 Q
                        refine w_iconst gz_104_117 (by decide) ?_
                        refine w_icne (t := 185) gz_104_118 rfl (fun u258 => ?_) (fun u258 => by exfalso; omega)
                        refine w_aload_n gz_104_185 rfl ?_
                        refine w_getX (v := 95) gz_104_186 is_94 rd_2 rfl (by decide) rfl ?_
                        refine w_aload_n gz_104_189 rfl ?_
                        refine w_inv (k := 0) (as := [(2, x1)]) (r := []) (x := 95) (ls0 := [(2, 95), (2, x1)]) gz_104_190 gm_25 rfl is_95 rd_6 rfl rfl rfl rfl rfl ?_
                        refine w_aload_n gz_25_0 rfl ?_
                        refine w_getX (v := (x1 + 1)) gz_25_1 t1 rd_6 rfl (by decide) rfl ?_
                        refine w_iconst gz_25_4 (by decide) ?_
                        refine w_aload_n gz_25_5 rfl ?_
                        refine w_getX (v := 96) gz_25_6 is_95 rd_6 rfl (by decide) rfl ?_
                        refine w_iconst gz_25_9 (by decide) ?_
                        refine w_aload_n gz_25_10 rfl ?_
                        refine w_getX (v := 96) gz_25_11 is_95 rd_6 rfl (by decide) rfl ?_
                        refine v_alen (j := 240) gz_25_14 rfl is_96 rd_30 (by decide) ?_
                        refine w_cpU gz_25_15 (ix_6_1 t1) rd_30 is_96 rd_30 (by omega) (by omega) (by omega) (by omega) (by omega) rfl (by decide) (by decide) (fun h263 fh263 => ?_)
                        have gh263 : my_fr [(2, 11), (7, 0), (7, 1), (7, 2), (7, 3), (7, 4), (7, 5), (8, 0), (8, 1), (30, -1), (31, -1), (42, -1), (43, -1), (44, -1)] h h263 := my_fr.cp gh206 is_96 fh263 rfl
                        have Lst_h263 : Lst h263 := Lst_ag (my_ag.cp fh263 is_96 rfl) Lst_h206
                        have Ln_h263 : Ln h263 := Ln_ag (my_ag.cp fh263 is_96 rfl) Ln_h206
                        have Td_h263 : Td h263 x2 := Td_ag (my_ag.cp fh263 is_96 rfl) Ln_h206 Td_h206
                        refine w_aload_n gz_25_18 rfl ?_
                        refine w_getX (v := (x1 + 2)) gz_25_19 t1 rd_6 rfl (by decide) rfl ?_
                        refine w_iconst gz_25_22 (by decide) ?_
                        refine w_aload_n gz_25_23 rfl ?_
                        refine w_getX (v := 97) gz_25_24 is_95 rd_6 rfl (by decide) rfl ?_
                        refine w_iconst gz_25_27 (by decide) ?_
                        refine w_aload_n gz_25_28 rfl ?_
                        refine w_getX (v := 97) gz_25_29 is_95 rd_6 rfl (by decide) rfl ?_
                        refine v_alen (j := 3) gz_25_32 rfl is_97 rd_31 (by decide) ?_
                        refine w_cpU gz_25_33 (ix_6_2 t1) rd_31 is_97 rd_31 (by omega) (by omega) (by omega) (by omega) (by omega) rfl (by decide) (by decide) (fun h267 fh267 => ?_)
                        have gh267 : my_fr [(2, 11), (7, 0), (7, 1), (7, 2), (7, 3), (7, 4), (7, 5), (8, 0), (8, 1), (30, -1), (31, -1), (42, -1), (43, -1), (44, -1)] h h267 := my_fr.cp gh263 is_97 fh267 rfl
                        have Lst_h267 : Lst h267 := Lst_ag (my_ag.cp fh267 is_97 rfl) Lst_h263
                        have Ln_h267 : Ln h267 := Ln_ag (my_ag.cp fh267 is_97 rfl) Ln_h263
                        have Td_h267 : Td h267 x2 := Td_ag (my_ag.cp fh267 is_97 rfl) Ln_h263 Td_h263
                        refine w_vret gz_25_36 gm_25 ?_
                        show wp l rho (d + 4) 104 193 [(2, 94), (2, x1), (0, x2), (1, z36_l3), (9, 0), (0, p10_0), (0, p36_0), (0, p36_1), (0, 1)] [] h267 Q
                        rw [show (p36_0 : Int) = 1 from by omega]
                        exact J193_1 (z36_l3) (v3) h267 (gh267) (by omega) (by omega) (by omega) (by omega) (((my_cp_role fh267 is_94 is_97 rfl).trans ((my_cp_role fh263 is_94 is_96 rfl).trans ((my_fr.at frh206 is_94 rfl).trans ev3.symm))).trans (by omega)) Lst_h267 Ln_h267 Td_h267
                ·
                  refine w_aload_n gz_100_18 rfl ?_
                  refine w_getX (v := 112) gz_100_19 is_94 rd_2 rfl (by decide) rfl ?_
                  refine v_getI (j := 0) gz_100_22 rfl is_112 rd_7 rfl (fun v269 ev269 pv269 qv269 => ?_)
                  have zv269 := ev269.trans ev136.symm
                  refine w_iconst gz_100_25 (by decide) ?_
                  refine w_icgt (t := 33) gz_100_26 rfl (fun u270 => ?_) (fun u270 => ?_)
                  ·
                    refine w_iconst gz_100_33 (by decide) ?_
                    refine w_bret gz_100_34 gm_100 (by omega) (by omega) ?_
                    show wp l rho (d + 4) 104 52 [(2, 94), (2, x1), (0, x2), (1, z36_l3), (9, 0), (0, p10_0), (0, p36_0), (0, p36_1), (9, 0)] [(0, 0)] h36_0 Q
                    refine w_ifne (t := 199) gz_104_52 rfl (fun u271 => by exfalso; omega) (fun u271 => ?_)
                    refine w_lload_n gz_104_55 rfl ?_
                    refine w_iload gz_104_56 rfl ?_
                    refine w_bipush gz_104_58 (by decide) ?_
                    refine w_imul gz_104_60 ⟨by omega, by omega⟩ ?_
                    refine w_iload gz_104_61 rfl ?_
                    refine w_iadd gz_104_63 ⟨by omega, by omega⟩ ?_
                    refine w_inS (k := 0) (as := [(0, ((p10_0 * 20) + p36_1)), (1, z36_l3)]) (r := []) (ls0 := [(1, z36_l3), (9, 0), (0, ((p10_0 * 20) + p36_1))]) gz_104_64 gm_69 rfl rfl rfl rfl rfl rfl ?_
                    refine w_lload_n gz_69_0 rfl ?_
                    refine w_iload_n gz_69_1 rfl ?_
                    refine w_jshf gz_69_2 (fun _ => rfl) rfl (fun v272 pv272 => ?_)
                    refine w_lconst gz_69_3 ?_
                    refine w_jany2 gz_69_4 (fun _ => rfl) rfl (fun v273 pv273 => ?_)
                    refine w_lconst gz_69_5 ?_
                    refine w_lcmp gz_69_6 (fun v274 pv274 qv274 => ?_)
                    refine w_ifeq (t := 14) gz_69_7 rfl (fun u275 => ?_) (fun u275 => ?_)
                    ·
                      refine w_iconst gz_69_14 (by decide) ?_
                      refine w_bret gz_69_15 gm_69 (by omega) (by omega) ?_
                      show wp l rho (d + 4) 104 67 [(2, 94), (2, x1), (0, x2), (1, z36_l3), (9, 0), (0, p10_0), (0, p36_0), (0, p36_1), (9, 0)] [(0, 0)] h36_0 Q
                      refine w_istore (ls' := [(2, 94), (2, x1), (0, x2), (1, z36_l3), (9, 0), (0, p10_0), (0, p36_0), (0, p36_1), (0, 0)]) gz_104_67 gm_104 rfl rfl rfl ?_
                      refine w_aload_n gz_104_69 rfl ?_
                      refine w_iload gz_104_70 rfl ?_
                      refine w_iload gz_104_72 rfl ?_
                      refine w_inv (k := 0) (as := [(0, p36_1), (0, p10_0)]) (r := []) (x := x1) (ls0 := [(2, x1), (0, p10_0), (0, p36_1)]) gz_104_74 gm_15 rfl t1 rd_6 rfl rfl rfl rfl rfl ?_
                      refine w_iload_n gz_15_0 rfl ?_
                      refine w_iflt (t := 31) gz_15_1 rfl (fun u276 => by exfalso; omega) (fun u276 => ?_)
                      refine w_iload_n gz_15_4 rfl ?_
                      refine w_bipush gz_15_5 (by decide) ?_
                      refine w_icge (t := 31) gz_15_7 rfl (fun u277 => by exfalso; omega) (fun u277 => ?_)
                      refine w_aload_n gz_15_10 rfl ?_
                      refine w_getX (v := (x1 + 1)) gz_15_11 t1 rd_6 rfl (by decide) rfl ?_
                      refine w_iload_n gz_15_14 rfl ?_
                      refine w_bipush gz_15_15 (by decide) ?_
                      refine w_imul gz_15_17 ⟨by omega, by omega⟩ ?_
                      refine w_iload_n gz_15_18 rfl ?_
                      refine w_iadd gz_15_19 ⟨by omega, by omega⟩ ?_
                      refine w_iconst gz_15_20 (by decide) ?_
                      refine w_imul gz_15_21 ⟨by omega, by omega⟩ ?_
                      refine w_iald gz_15_22 (ix_6_1 t1) rd_30 (by omega) (by omega) (fun v279 ev279 pv279 qv279 => ?_)
                      refine w_iconst gz_15_23 (by decide) ?_
                      refine w_iceq (t := 31) gz_15_24 rfl (fun u280 => ?_) (fun u280 => ?_)
                      ·
                        refine w_iconst gz_15_31 (by decide) ?_
                        refine w_bret gz_15_32 gm_15 (by omega) (by omega) ?_
                        show wp l rho (d + 4) 104 77 [(2, 94), (2, x1), (0, x2), (1, z36_l3), (9, 0), (0, p10_0), (0, p36_0), (0, p36_1), (0, 0)] [(0, 0)] h36_0 Q
                        refine w_ifeq (t := 193) gz_104_77 rfl (fun u281 => ?_) (fun u281 => by exfalso; omega)
                        rw [show (p36_0 : Int) = 1 from by omega]
                        exact J193_0 (z36_l3) (v3) h36_0 (gh_36_0) (by omega) (by omega) (by omega) (by omega) (ev3.symm.trans (by omega)) n_Lst_36_0 n_Ln_36_0 n_Td_36_0
                      ·
                        refine w_iconst gz_15_27 (by decide) ?_
                        refine w_goto (t := 32) gz_15_28 rfl ?_
                        refine w_bret gz_15_32 gm_15 (by omega) (by omega) ?_
                        show wp l rho (d + 4) 104 77 [(2, 94), (2, x1), (0, x2), (1, z36_l3), (9, 0), (0, p10_0), (0, p36_0), (0, p36_1), (0, 0)] [(0, 1)] h36_0 Q
                        refine w_ifeq (t := 193) gz_104_77 rfl (fun u282 => by exfalso; omega) (fun u282 => ?_)
                        refine w_iload gz_104_80 rfl ?_
                        refine w_ifne (t := 95) gz_104_82 rfl (fun u283 => by exfalso; omega) (fun u283 => ?_)
                        refine w_aload_n gz_104_85 rfl ?_
                        refine v_getI (j := 14) gz_104_86 rfl is_94 rd_2 rfl (fun v284 ev284 pv284 qv284 => ?_)
                        refine w_ifne (t := 95) gz_104_89 rfl (fun u285 => ?_) (fun u285 => ?_)
                        ·
                          refine w_aload_n gz_104_95 rfl ?_
                          refine w_getX (v := 95) gz_104_96 is_94 rd_2 rfl (by decide) rfl ?_
                          refine w_iload gz_104_99 rfl ?_
                          refine w_iload gz_104_101 rfl ?_
                          refine w_inv (k := 2) (as := [(0, p36_1), (0, p10_0)]) (r := []) (x := 95) (ls0 := [(2, 95), (0, p10_0), (0, p36_1), (9, 0), (9, 0)]) gz_104_103 gm_23 rfl is_95 rd_6 rfl rfl rfl rfl rfl (c_Rows_drop (d := (d + 2)) (x0 := 95) (x1 := p10_0) (x2 := p36_1) is_95 (by omega) (by omega) (by omega) (by omega) (fun h287 frh287 fxh287 => ?_))
                          have gh287 : my_fr [(2, 11), (7, 0), (7, 1), (7, 2), (7, 3), (7, 4), (7, 5), (8, 0), (8, 1), (30, -1), (31, -1), (42, -1), (43, -1), (44, -1)] h h287 := my_fr.tr gh_36_0 (frh287.mo rfl)
                          have Lst_h287 : Lst h287 := Lst_ag (my_ag.fr frh287 rfl) n_Lst_36_0
                          have Ln_h287 : Ln h287 := Ln_ag (my_ag.fr frh287 rfl) n_Ln_36_0
                          have Td_h287 : Td h287 x2 := Td_ag (my_ag.fr frh287 rfl) n_Ln_36_0 n_Td_36_0
                          show wp l rho (d + 4) 104 106 [(2, 94), (2, x1), (0, x2), (1, z36_l3), (9, 0), (0, p10_0), (0, p36_0), (0, p36_1), (0, 0)] [] h287 Q
                          refine w_aload_n gz_104_106 rfl ?_
                          refine w_getX (v := 1) gz_104_107 is_94 rd_2 rfl (by decide) rfl ?_
                          refine w_aload_n gz_104_110 rfl ?_
                          refine w_getX (v := 95) gz_104_111 is_94 rd_2 rfl (by decide) rfl ?_
                          refine w_inv (k := 4) (as := [(2, 95)]) (r := []) (x := 1) (ls0 := [(2, 1), (2, 95), (9, 0), (9, 0), (9, 0), (9, 0)]) gz_104_114 gm_19 rfl is_1 rd_3 rfl rfl rfl rfl rfl (c_Laws_firstBroken (d := (d + 1)) (x1 := 95) is_95 ?_ (fun v290 w291 w292 => ?_))
                          ·
                            show wp l rho (d + 4) 104 117 [(2, 94), (2, x1), (0, x2), (1, z36_l3), (9, 0), (0, p10_0), (0, p36_0), (0, p36_1), (0, 0)] [(0, (-1))] h287 Q
                            refine w_iconst gz_104_117 (by decide) ?_
                            refine w_icne (t := 185) gz_104_118 rfl (fun u293 => by exfalso; omega) (fun u293 => ?_)
                            refine w_iload gz_104_121 rfl ?_
                            refine w_ifeq (t := 152) gz_104_123 rfl (fun u294 => ?_) (fun u294 => by exfalso; omega)
                            refine w_aload_n gz_104_152 rfl ?_
                            refine w_getX (v := 111) gz_104_153 is_94 rd_2 rfl (by decide) rfl ?_
                            refine w_iload gz_104_156 rfl ?_
                            refine v_putI (j := 2) gz_104_158 rfl is_111 rd_7 rfl (by omega) (by omega) rfl (fun h296 fh296 => ?_)
                            have gh296 : my_fr [(2, 11), (7, 0), (7, 1), (7, 2), (7, 3), (7, 4), (7, 5), (8, 0), (8, 1), (30, -1), (31, -1), (42, -1), (43, -1), (44, -1)] h h296 := my_fr.up gh287 is_111 fh296 rfl
                            have Lst_h296 : Lst h296 := Lst_ne fh296 (by decide) Lst_h287
                            have Ln_h296 : Ln h296 := Ln_ag (my_ag.up fh296 is_111 rfl) Ln_h287
                            have Td_h296 : Td h296 x2 := Td_ag (my_ag.up fh296 is_111 rfl) Ln_h287 Td_h287
                            refine w_aload_n gz_104_161 rfl ?_
                            refine w_getX (v := 111) gz_104_162 is_94 rd_2 rfl (by decide) rfl ?_
                            refine w_iload gz_104_165 rfl ?_
                            refine v_putI (j := 3) gz_104_167 rfl is_111 rd_7 rfl (by omega) (by omega) rfl (fun h298 fh298 => ?_)
                            have gh298 : my_fr [(2, 11), (7, 0), (7, 1), (7, 2), (7, 3), (7, 4), (7, 5), (8, 0), (8, 1), (30, -1), (31, -1), (42, -1), (43, -1), (44, -1)] h h298 := my_fr.up gh296 is_111 fh298 rfl
                            have Lst_h298 : Lst h298 := Lst_ne fh298 (by decide) Lst_h296
                            have Ln_h298 : Ln h298 := Ln_ag (my_ag.up fh298 is_111 rfl) Ln_h296
                            have Td_h298 : Td h298 x2 := Td_ag (my_ag.up fh298 is_111 rfl) Ln_h296 Td_h296
                            refine w_aload_n gz_104_170 rfl ?_
                            refine w_iconst gz_104_171 (by decide) ?_
                            refine w_aload_n gz_104_172 rfl ?_
                            refine w_getX (v := 1) gz_104_173 is_94 rd_2 rfl (by decide) rfl ?_
                            refine w_getX (v := 2) gz_104_176 is_1 rd_3 rfl (by decide) rfl ?_
                            refine w_iload gz_104_179 rfl ?_
                            refine w_iald gz_104_181 is_2 rd_25 (by omega) (by omega) (fun v301 ev301 pv301 qv301 => ?_)
                            have ce302 : h298 111 2 = p10_0 := ((my_up_fld fh298 (by decide)).trans (my_up_self fh296))
                            have ce303 : h298 111 3 = p36_1 := (my_up_self fh298)
                            have ce304 : h298 111 4 = h36_0 111 4 := ((my_up_fld fh298 (by decide)).trans ((my_up_fld fh296 (by decide)).trans ((my_fr.at frh287 is_111 rfl).trans (rfl : h36_0 111 4 = h36_0 111 4))))
                            have ce305 : h298 111 5 = h36_0 111 5 := ((my_up_fld fh298 (by decide)).trans ((my_up_fld fh296 (by decide)).trans ((my_fr.at frh287 is_111 rfl).trans (rfl : h36_0 111 5 = h36_0 111 5))))
                            refine w_inv (k := 0) (as := [(0, v301), (0, 2)]) (r := []) (x := 94) (ls0 := [(2, 94), (0, 2), (0, v301)]) gz_104_182 gm_94 rfl is_94 rd_2 rfl rfl rfl rfl rfl (c_Desk_keep (d := (d + 2)) (x1 := 2) (x2 := v301) (by omega) (by omega) (by omega) (by omega) Lst_h298 (by first | assumption | omega | (subst_vars; omega)) (by first | assumption | omega | (subst_vars; omega)) (by first | assumption | omega | (subst_vars; omega)) (fun h306 frh306 xp307 xp308 xp309 Lst_h306t310 => ?_))
                            have gh306 : my_fr [(2, 11), (7, 0), (7, 1), (7, 2), (7, 3), (7, 4), (7, 5), (8, 0), (8, 1), (30, -1), (31, -1), (42, -1), (43, -1), (44, -1)] h h306 := my_fr.tr gh298 (frh306.mo rfl)
                            have Ln_h306 : Ln h306 := Ln_ag (my_ag.fr frh306 rfl) Ln_h298
                            have Td_h306 : Td h306 x2 := Td_ag (my_ag.fr frh306 rfl) Ln_h298 Td_h298
                            show wp l rho (d + 4) 104 185 [(2, 94), (2, x1), (0, x2), (1, z36_l3), (9, 0), (0, p10_0), (0, p36_0), (0, p36_1), (0, 0)] [] h306 Q
                            refine w_aload_n gz_104_185 rfl ?_
                            refine w_getX (v := 95) gz_104_186 is_94 rd_2 rfl (by decide) rfl ?_
                            refine w_aload_n gz_104_189 rfl ?_
                            refine w_inv (k := 0) (as := [(2, x1)]) (r := []) (x := 95) (ls0 := [(2, 95), (2, x1)]) gz_104_190 gm_25 rfl is_95 rd_6 rfl rfl rfl rfl rfl ?_
                            refine w_aload_n gz_25_0 rfl ?_
                            refine w_getX (v := (x1 + 1)) gz_25_1 t1 rd_6 rfl (by decide) rfl ?_
                            refine w_iconst gz_25_4 (by decide) ?_
                            refine w_aload_n gz_25_5 rfl ?_
                            refine w_getX (v := 96) gz_25_6 is_95 rd_6 rfl (by decide) rfl ?_
                            refine w_iconst gz_25_9 (by decide) ?_
                            refine w_aload_n gz_25_10 rfl ?_
                            refine w_getX (v := 96) gz_25_11 is_95 rd_6 rfl (by decide) rfl ?_
                            refine v_alen (j := 240) gz_25_14 rfl is_96 rd_30 (by decide) ?_
                            refine w_cpU gz_25_15 (ix_6_1 t1) rd_30 is_96 rd_30 (by omega) (by omega) (by omega) (by omega) (by omega) rfl (by decide) (by decide) (fun h315 fh315 => ?_)
                            have gh315 : my_fr [(2, 11), (7, 0), (7, 1), (7, 2), (7, 3), (7, 4), (7, 5), (8, 0), (8, 1), (30, -1), (31, -1), (42, -1), (43, -1), (44, -1)] h h315 := my_fr.cp gh306 is_96 fh315 rfl
                            have Ln_h315 : Ln h315 := Ln_ag (my_ag.cp fh315 is_96 rfl) Ln_h306
                            have Td_h315 : Td h315 x2 := Td_ag (my_ag.cp fh315 is_96 rfl) Ln_h306 Td_h306
                            have Lst_h315 : Lst h315 := Lst_ag (my_ag.cp fh315 is_96 rfl) Lst_h306t310
                            refine w_aload_n gz_25_18 rfl ?_
                            refine w_getX (v := (x1 + 2)) gz_25_19 t1 rd_6 rfl (by decide) rfl ?_
                            refine w_iconst gz_25_22 (by decide) ?_
                            refine w_aload_n gz_25_23 rfl ?_
                            refine w_getX (v := 97) gz_25_24 is_95 rd_6 rfl (by decide) rfl ?_
                            refine w_iconst gz_25_27 (by decide) ?_
                            refine w_aload_n gz_25_28 rfl ?_
                            refine w_getX (v := 97) gz_25_29 is_95 rd_6 rfl (by decide) rfl ?_
                            refine v_alen (j := 3) gz_25_32 rfl is_97 rd_31 (by decide) ?_
                            refine w_cpU gz_25_33 (ix_6_2 t1) rd_31 is_97 rd_31 (by omega) (by omega) (by omega) (by omega) (by omega) rfl (by decide) (by decide) (fun h319 fh319 => ?_)
                            have gh319 : my_fr [(2, 11), (7, 0), (7, 1), (7, 2), (7, 3), (7, 4), (7, 5), (8, 0), (8, 1), (30, -1), (31, -1), (42, -1), (43, -1), (44, -1)] h h319 := my_fr.cp gh315 is_97 fh319 rfl
                            have Ln_h319 : Ln h319 := Ln_ag (my_ag.cp fh319 is_97 rfl) Ln_h315
                            have Td_h319 : Td h319 x2 := Td_ag (my_ag.cp fh319 is_97 rfl) Ln_h315 Td_h315
                            have Lst_h319 : Lst h319 := Lst_ag (my_ag.cp fh319 is_97 rfl) Lst_h315
                            refine w_vret gz_25_36 gm_25 ?_
                            show wp l rho (d + 4) 104 193 [(2, 94), (2, x1), (0, x2), (1, z36_l3), (9, 0), (0, p10_0), (0, p36_0), (0, p36_1), (0, 0)] [] h319 Q
                            rw [show (p36_0 : Int) = 1 from by omega]
                            exact J193_0 (z36_l3) (v3) h319 (gh319) (by omega) (by omega) (by omega) (by omega) (((my_cp_role fh319 is_94 is_97 rfl).trans ((my_cp_role fh315 is_94 is_96 rfl).trans ((my_fr.at frh306 is_94 rfl).trans ((my_up_role fh298 is_94 is_111 rfl).trans ((my_up_role fh296 is_94 is_111 rfl).trans ((my_fr.at frh287 is_94 rfl).trans ev3.symm)))))).trans (by omega)) Lst_h319 Ln_h319 Td_h319
                          ·
                            show wp l rho (d + 4) 104 117 [(2, 94), (2, x1), (0, x2), (1, z36_l3), (9, 0), (0, p10_0), (0, p36_0), (0, p36_1), (0, 0)] [(0, v290)] h287 Q
                            refine w_iconst gz_104_117 (by decide) ?_
                            refine w_icne (t := 185) gz_104_118 rfl (fun u320 => ?_) (fun u320 => by exfalso; omega)
                            refine w_aload_n gz_104_185 rfl ?_
                            refine w_getX (v := 95) gz_104_186 is_94 rd_2 rfl (by decide) rfl ?_
                            refine w_aload_n gz_104_189 rfl ?_
                            refine w_inv (k := 0) (as := [(2, x1)]) (r := []) (x := 95) (ls0 := [(2, 95), (2, x1)]) gz_104_190 gm_25 rfl is_95 rd_6 rfl rfl rfl rfl rfl ?_
                            refine w_aload_n gz_25_0 rfl ?_
                            refine w_getX (v := (x1 + 1)) gz_25_1 t1 rd_6 rfl (by decide) rfl ?_
                            refine w_iconst gz_25_4 (by decide) ?_
                            refine w_aload_n gz_25_5 rfl ?_
                            refine w_getX (v := 96) gz_25_6 is_95 rd_6 rfl (by decide) rfl ?_
                            refine w_iconst gz_25_9 (by decide) ?_
                            refine w_aload_n gz_25_10 rfl ?_
                            refine w_getX (v := 96) gz_25_11 is_95 rd_6 rfl (by decide) rfl ?_
                            refine v_alen (j := 240) gz_25_14 rfl is_96 rd_30 (by decide) ?_
                            refine w_cpU gz_25_15 (ix_6_1 t1) rd_30 is_96 rd_30 (by omega) (by omega) (by omega) (by omega) (by omega) rfl (by decide) (by decide) (fun h325 fh325 => ?_)
                            have gh325 : my_fr [(2, 11), (7, 0), (7, 1), (7, 2), (7, 3), (7, 4), (7, 5), (8, 0), (8, 1), (30, -1), (31, -1), (42, -1), (43, -1), (44, -1)] h h325 := my_fr.cp gh287 is_96 fh325 rfl
                            have Lst_h325 : Lst h325 := Lst_ag (my_ag.cp fh325 is_96 rfl) Lst_h287
                            have Ln_h325 : Ln h325 := Ln_ag (my_ag.cp fh325 is_96 rfl) Ln_h287
                            have Td_h325 : Td h325 x2 := Td_ag (my_ag.cp fh325 is_96 rfl) Ln_h287 Td_h287
                            refine w_aload_n gz_25_18 rfl ?_
                            refine w_getX (v := (x1 + 2)) gz_25_19 t1 rd_6 rfl (by decide) rfl ?_
                            refine w_iconst gz_25_22 (by decide) ?_
                            refine w_aload_n gz_25_23 rfl ?_
                            refine w_getX (v := 97) gz_25_24 is_95 rd_6 rfl (by decide) rfl ?_
                            refine w_iconst gz_25_27 (by decide) ?_
                            refine w_aload_n gz_25_28 rfl ?_
                            refine w_getX (v := 97) gz_25_29 is_95 rd_6 rfl (by decide) rfl ?_
                            refine v_alen (j := 3) gz_25_32 rfl is_97 rd_31 (by decide) ?_
                            refine w_cpU gz_25_33 (ix_6_2 t1) rd_31 is_97 rd_31 (by omega) (by omega) (by omega) (by omega) (by omega) rfl (by decide) (by decide) (fun h329 fh329 => ?_)
                            have gh329 : my_fr [(2, 11), (7, 0), (7, 1), (7, 2), (7, 3), (7, 4), (7, 5), (8, 0), (8, 1), (30, -1), (31, -1), (42, -1), (43, -1), (44, -1)] h h329 := my_fr.cp gh325 is_97 fh329 rfl
                            have Lst_h329 : Lst h329 := Lst_ag (my_ag.cp fh329 is_97 rfl) Lst_h325
                            have Ln_h329 : Ln h329 := Ln_ag (my_ag.cp fh329 is_97 rfl) Ln_h325
                            have Td_h329 : Td h329 x2 := Td_ag (my_ag.cp fh329 is_97 rfl) Ln_h325 Td_h325
                            refine w_vret gz_25_36 gm_25 ?_
                            show wp l rho (d + 4) 104 193 [(2, 94), (2, x1), (0, x2), (1, z36_l3), (9, 0), (0, p10_0), (0, p36_0), (0, p36_1), (0, 0)] [] h329 Q
                            rw [show (p36_0 : Int) = 1 from by omega]
                            exact J193_0 (z36_l3) (v3) h329 (gh329) (by omega) (by omega) (by omega) (by omega) (((my_cp_role fh329 is_94 is_97 rfl).trans ((my_cp_role fh325 is_94 is_96 rfl).trans ((my_fr.at frh287 is_94 rfl).trans ev3.symm))).trans (by omega)) Lst_h329 Ln_h329 Td_h329
                        ·
                          refine w_goto (t := 193) gz_104_92 rfl ?_
                          rw [show (p36_0 : Int) = 1 from by omega]
                          exact J193_0 (z36_l3) (v3) h36_0 (gh_36_0) (by omega) (by omega) (by omega) (by omega) (ev3.symm.trans (by omega)) n_Lst_36_0 n_Ln_36_0 n_Td_36_0
                    ·
                      refine w_iconst gz_69_10 (by decide) ?_
                      refine w_goto (t := 15) gz_69_11 rfl ?_
                      refine w_bret gz_69_15 gm_69 (by omega) (by omega) ?_
                      show wp l rho (d + 4) 104 67 [(2, 94), (2, x1), (0, x2), (1, z36_l3), (9, 0), (0, p10_0), (0, p36_0), (0, p36_1), (9, 0)] [(0, 1)] h36_0 Q
                      refine w_istore (ls' := [(2, 94), (2, x1), (0, x2), (1, z36_l3), (9, 0), (0, p10_0), (0, p36_0), (0, p36_1), (0, 1)]) gz_104_67 gm_104 rfl rfl rfl ?_
                      refine w_aload_n gz_104_69 rfl ?_
                      refine w_iload gz_104_70 rfl ?_
                      refine w_iload gz_104_72 rfl ?_
                      refine w_inv (k := 0) (as := [(0, p36_1), (0, p10_0)]) (r := []) (x := x1) (ls0 := [(2, x1), (0, p10_0), (0, p36_1)]) gz_104_74 gm_15 rfl t1 rd_6 rfl rfl rfl rfl rfl ?_
                      refine w_iload_n gz_15_0 rfl ?_
                      refine w_iflt (t := 31) gz_15_1 rfl (fun u330 => by exfalso; omega) (fun u330 => ?_)
                      refine w_iload_n gz_15_4 rfl ?_
                      refine w_bipush gz_15_5 (by decide) ?_
                      refine w_icge (t := 31) gz_15_7 rfl (fun u331 => by exfalso; omega) (fun u331 => ?_)
                      refine w_aload_n gz_15_10 rfl ?_
                      refine w_getX (v := (x1 + 1)) gz_15_11 t1 rd_6 rfl (by decide) rfl ?_
                      refine w_iload_n gz_15_14 rfl ?_
                      refine w_bipush gz_15_15 (by decide) ?_
                      refine w_imul gz_15_17 ⟨by omega, by omega⟩ ?_
                      refine w_iload_n gz_15_18 rfl ?_
                      refine w_iadd gz_15_19 ⟨by omega, by omega⟩ ?_
                      refine w_iconst gz_15_20 (by decide) ?_
                      refine w_imul gz_15_21 ⟨by omega, by omega⟩ ?_
                      refine w_iald gz_15_22 (ix_6_1 t1) rd_30 (by omega) (by omega) (fun v333 ev333 pv333 qv333 => ?_)
                      refine w_iconst gz_15_23 (by decide) ?_
                      refine w_iceq (t := 31) gz_15_24 rfl (fun u334 => ?_) (fun u334 => ?_)
                      ·
                        refine w_iconst gz_15_31 (by decide) ?_
                        refine w_bret gz_15_32 gm_15 (by omega) (by omega) ?_
                        show wp l rho (d + 4) 104 77 [(2, 94), (2, x1), (0, x2), (1, z36_l3), (9, 0), (0, p10_0), (0, p36_0), (0, p36_1), (0, 1)] [(0, 0)] h36_0 Q
                        refine w_ifeq (t := 193) gz_104_77 rfl (fun u335 => ?_) (fun u335 => by exfalso; omega)
                        rw [show (p36_0 : Int) = 1 from by omega]
                        exact J193_1 (z36_l3) (v3) h36_0 (gh_36_0) (by omega) (by omega) (by omega) (by omega) (ev3.symm.trans (by omega)) n_Lst_36_0 n_Ln_36_0 n_Td_36_0
                      ·
                        refine w_iconst gz_15_27 (by decide) ?_
                        refine w_goto (t := 32) gz_15_28 rfl ?_
                        refine w_bret gz_15_32 gm_15 (by omega) (by omega) ?_
                        show wp l rho (d + 4) 104 77 [(2, 94), (2, x1), (0, x2), (1, z36_l3), (9, 0), (0, p10_0), (0, p36_0), (0, p36_1), (0, 1)] [(0, 1)] h36_0 Q
                        refine w_ifeq (t := 193) gz_104_77 rfl (fun u336 => by exfalso; omega) (fun u336 => ?_)
                        refine w_iload gz_104_80 rfl ?_
                        refine w_ifne (t := 95) gz_104_82 rfl (fun u337 => ?_) (fun u337 => by exfalso; omega)
                        refine w_aload_n gz_104_95 rfl ?_
                        refine w_getX (v := 95) gz_104_96 is_94 rd_2 rfl (by decide) rfl ?_
                        refine w_iload gz_104_99 rfl ?_
                        refine w_iload gz_104_101 rfl ?_
                        refine w_inv (k := 2) (as := [(0, p36_1), (0, p10_0)]) (r := []) (x := 95) (ls0 := [(2, 95), (0, p10_0), (0, p36_1), (9, 0), (9, 0)]) gz_104_103 gm_23 rfl is_95 rd_6 rfl rfl rfl rfl rfl (c_Rows_drop (d := (d + 2)) (x0 := 95) (x1 := p10_0) (x2 := p36_1) is_95 (by omega) (by omega) (by omega) (by omega) (fun h339 frh339 fxh339 => ?_))
                        have gh339 : my_fr [(2, 11), (7, 0), (7, 1), (7, 2), (7, 3), (7, 4), (7, 5), (8, 0), (8, 1), (30, -1), (31, -1), (42, -1), (43, -1), (44, -1)] h h339 := my_fr.tr gh_36_0 (frh339.mo rfl)
                        have Lst_h339 : Lst h339 := Lst_ag (my_ag.fr frh339 rfl) n_Lst_36_0
                        have Ln_h339 : Ln h339 := Ln_ag (my_ag.fr frh339 rfl) n_Ln_36_0
                        have Td_h339 : Td h339 x2 := Td_ag (my_ag.fr frh339 rfl) n_Ln_36_0 n_Td_36_0
                        show wp l rho (d + 4) 104 106 [(2, 94), (2, x1), (0, x2), (1, z36_l3), (9, 0), (0, p10_0), (0, p36_0), (0, p36_1), (0, 1)] [] h339 Q
                        refine w_aload_n gz_104_106 rfl ?_
                        refine w_getX (v := 1) gz_104_107 is_94 rd_2 rfl (by decide) rfl ?_
                        refine w_aload_n gz_104_110 rfl ?_
                        refine w_getX (v := 95) gz_104_111 is_94 rd_2 rfl (by decide) rfl ?_
                        refine w_inv (k := 4) (as := [(2, 95)]) (r := []) (x := 1) (ls0 := [(2, 1), (2, 95), (9, 0), (9, 0), (9, 0), (9, 0)]) gz_104_114 gm_19 rfl is_1 rd_3 rfl rfl rfl rfl rfl (c_Laws_firstBroken (d := (d + 1)) (x1 := 95) is_95 ?_ (fun v342 w343 w344 => ?_))
                        ·
                          show wp l rho (d + 4) 104 117 [(2, 94), (2, x1), (0, x2), (1, z36_l3), (9, 0), (0, p10_0), (0, p36_0), (0, p36_1), (0, 1)] [(0, (-1))] h339 Q
                          refine w_iconst gz_104_117 (by decide) ?_
                          refine w_icne (t := 185) gz_104_118 rfl (fun u345 => by exfalso; omega) (fun u345 => ?_)
                          refine w_iload gz_104_121 rfl ?_
                          refine w_ifeq (t := 152) gz_104_123 rfl (fun u346 => by exfalso; omega) (fun u346 => ?_)
                          refine w_aload_n gz_104_126 rfl ?_
                          refine w_getX (v := 106) gz_104_127 is_94 rd_2 rfl (by decide) rfl ?_
                          refine w_aload_n gz_104_130 rfl ?_
                          refine w_getX (v := 27) gz_104_131 is_94 rd_2 rfl (by decide) rfl ?_
                          refine w_iload_n gz_104_134 rfl ?_
                          refine w_aload_n gz_104_135 rfl ?_
                          refine w_getX (v := 95) gz_104_136 is_94 rd_2 rfl (by decide) rfl ?_
                          refine w_inv (k := 4) (as := [(2, 95), (0, x2), (2, 27)]) (r := []) (x := 106) (ls0 := [(2, 106), (2, 27), (0, x2), (2, 95), (9, 0), (9, 0), (9, 0), (9, 0)]) gz_104_139 gm_67 rfl is_106 rd_8 rfl rfl rfl rfl rfl (c_View_show (d := d) (x0 := 106) (x2 := x2) (x3 := 95) is_106 (by omega) (by omega) (by omega) (by omega) is_95 Ln_h339 Td_h339 (fun h350 v351 frh350 fxh350 w352 xp353 => ?_))
                          have gh350 : my_fr [(2, 11), (7, 0), (7, 1), (7, 2), (7, 3), (7, 4), (7, 5), (8, 0), (8, 1), (30, -1), (31, -1), (42, -1), (43, -1), (44, -1)] h h350 := my_fr.tr gh339 (frh350.mo rfl)
                          have Lst_h350 : Lst h350 := Lst_ag (my_ag.fr frh350 rfl) Lst_h339
                          have Ln_h350 : Ln h350 := Ln_ag (my_ag.fr frh350 rfl) Ln_h339
                          have Td_h350 : Td h350 x2 := Td_ag (my_ag.fr frh350 rfl) Ln_h339 Td_h339
                          show wp l rho (d + 4) 104 142 [(2, 94), (2, x1), (0, x2), (1, z36_l3), (9, 0), (0, p10_0), (0, p36_0), (0, p36_1), (0, 1)] [(2, v351)] h350 Q
                          refine w_aload_n gz_104_142 rfl ?_
                          refine w_getX (v := 102) gz_104_143 is_94 rd_2 rfl (by decide) rfl ?_
                          refine w_inv (k := 1) (as := [(2, 102)]) (r := []) (x := v351) (ls0 := [(2, v351), (2, 102), (9, 0)]) gz_104_146 gm_93 rfl w352 rd_8 rfl rfl rfl rfl rfl (c_View_same (d := (d + 2)) (x0 := v351) (x1 := 102) w352 is_102 ?_ ?_)
                          ·
                            show wp l rho (d + 4) 104 149 [(2, 94), (2, x1), (0, x2), (1, z36_l3), (9, 0), (0, p10_0), (0, p36_0), (0, p36_1), (0, 1)] [(0, 0)] h350 Q
                            refine w_ifeq (t := 185) gz_104_149 rfl (fun u355 => ?_) (fun u355 => by exfalso; omega)
                            refine w_aload_n gz_104_185 rfl ?_
                            refine w_getX (v := 95) gz_104_186 is_94 rd_2 rfl (by decide) rfl ?_
                            refine w_aload_n gz_104_189 rfl ?_
                            refine w_inv (k := 0) (as := [(2, x1)]) (r := []) (x := 95) (ls0 := [(2, 95), (2, x1)]) gz_104_190 gm_25 rfl is_95 rd_6 rfl rfl rfl rfl rfl ?_
                            refine w_aload_n gz_25_0 rfl ?_
                            refine w_getX (v := (x1 + 1)) gz_25_1 t1 rd_6 rfl (by decide) rfl ?_
                            refine w_iconst gz_25_4 (by decide) ?_
                            refine w_aload_n gz_25_5 rfl ?_
                            refine w_getX (v := 96) gz_25_6 is_95 rd_6 rfl (by decide) rfl ?_
                            refine w_iconst gz_25_9 (by decide) ?_
                            refine w_aload_n gz_25_10 rfl ?_
                            refine w_getX (v := 96) gz_25_11 is_95 rd_6 rfl (by decide) rfl ?_
                            refine v_alen (j := 240) gz_25_14 rfl is_96 rd_30 (by decide) ?_
                            refine w_cpU gz_25_15 (ix_6_1 t1) rd_30 is_96 rd_30 (by omega) (by omega) (by omega) (by omega) (by omega) rfl (by decide) (by decide) (fun h360 fh360 => ?_)
                            have gh360 : my_fr [(2, 11), (7, 0), (7, 1), (7, 2), (7, 3), (7, 4), (7, 5), (8, 0), (8, 1), (30, -1), (31, -1), (42, -1), (43, -1), (44, -1)] h h360 := my_fr.cp gh350 is_96 fh360 rfl
                            have Lst_h360 : Lst h360 := Lst_ag (my_ag.cp fh360 is_96 rfl) Lst_h350
                            have Ln_h360 : Ln h360 := Ln_ag (my_ag.cp fh360 is_96 rfl) Ln_h350
                            have Td_h360 : Td h360 x2 := Td_ag (my_ag.cp fh360 is_96 rfl) Ln_h350 Td_h350
                            refine w_aload_n gz_25_18 rfl ?_
                            refine w_getX (v := (x1 + 2)) gz_25_19 t1 rd_6 rfl (by decide) rfl ?_
                            refine w_iconst gz_25_22 (by decide) ?_
                            refine w_aload_n gz_25_23 rfl ?_
                            refine w_getX (v := 97) gz_25_24 is_95 rd_6 rfl (by decide) rfl ?_
                            refine w_iconst gz_25_27 (by decide) ?_
                            refine w_aload_n gz_25_28 rfl ?_
                            refine w_getX (v := 97) gz_25_29 is_95 rd_6 rfl (by decide) rfl ?_
                            refine v_alen (j := 3) gz_25_32 rfl is_97 rd_31 (by decide) ?_
                            refine w_cpU gz_25_33 (ix_6_2 t1) rd_31 is_97 rd_31 (by omega) (by omega) (by omega) (by omega) (by omega) rfl (by decide) (by decide) (fun h364 fh364 => ?_)
                            have gh364 : my_fr [(2, 11), (7, 0), (7, 1), (7, 2), (7, 3), (7, 4), (7, 5), (8, 0), (8, 1), (30, -1), (31, -1), (42, -1), (43, -1), (44, -1)] h h364 := my_fr.cp gh360 is_97 fh364 rfl
                            have Lst_h364 : Lst h364 := Lst_ag (my_ag.cp fh364 is_97 rfl) Lst_h360
                            have Ln_h364 : Ln h364 := Ln_ag (my_ag.cp fh364 is_97 rfl) Ln_h360
                            have Td_h364 : Td h364 x2 := Td_ag (my_ag.cp fh364 is_97 rfl) Ln_h360 Td_h360
                            refine w_vret gz_25_36 gm_25 ?_
                            show wp l rho (d + 4) 104 193 [(2, 94), (2, x1), (0, x2), (1, z36_l3), (9, 0), (0, p10_0), (0, p36_0), (0, p36_1), (0, 1)] [] h364 Q
                            rw [show (p36_0 : Int) = 1 from by omega]
                            exact J193_1 (z36_l3) (v3) h364 (gh364) (by omega) (by omega) (by omega) (by omega) (((my_cp_role fh364 is_94 is_97 rfl).trans ((my_cp_role fh360 is_94 is_96 rfl).trans ((my_fr.at frh350 is_94 rfl).trans ((my_fr.at frh339 is_94 rfl).trans ev3.symm)))).trans (by omega)) Lst_h364 Ln_h364 Td_h364
                          ·
                            show wp l rho (d + 4) 104 149 [(2, 94), (2, x1), (0, x2), (1, z36_l3), (9, 0), (0, p10_0), (0, p36_0), (0, p36_1), (0, 1)] [(0, 1)] h350 Q
                            refine w_ifeq (t := 185) gz_104_149 rfl (fun u365 => by exfalso; omega) (fun u365 => ?_)
                            refine w_aload_n gz_104_152 rfl ?_
                            refine w_getX (v := 111) gz_104_153 is_94 rd_2 rfl (by decide) rfl ?_
                            refine w_iload gz_104_156 rfl ?_
                            refine v_putI (j := 2) gz_104_158 rfl is_111 rd_7 rfl (by omega) (by omega) rfl (fun h367 fh367 => ?_)
                            have gh367 : my_fr [(2, 11), (7, 0), (7, 1), (7, 2), (7, 3), (7, 4), (7, 5), (8, 0), (8, 1), (30, -1), (31, -1), (42, -1), (43, -1), (44, -1)] h h367 := my_fr.up gh350 is_111 fh367 rfl
                            have Lst_h367 : Lst h367 := Lst_ne fh367 (by decide) Lst_h350
                            have Ln_h367 : Ln h367 := Ln_ag (my_ag.up fh367 is_111 rfl) Ln_h350
                            have Td_h367 : Td h367 x2 := Td_ag (my_ag.up fh367 is_111 rfl) Ln_h350 Td_h350
                            refine w_aload_n gz_104_161 rfl ?_
                            refine w_getX (v := 111) gz_104_162 is_94 rd_2 rfl (by decide) rfl ?_
                            refine w_iload gz_104_165 rfl ?_
                            refine v_putI (j := 3) gz_104_167 rfl is_111 rd_7 rfl (by omega) (by omega) rfl (fun h369 fh369 => ?_)
                            have gh369 : my_fr [(2, 11), (7, 0), (7, 1), (7, 2), (7, 3), (7, 4), (7, 5), (8, 0), (8, 1), (30, -1), (31, -1), (42, -1), (43, -1), (44, -1)] h h369 := my_fr.up gh367 is_111 fh369 rfl
                            have Lst_h369 : Lst h369 := Lst_ne fh369 (by decide) Lst_h367
                            have Ln_h369 : Ln h369 := Ln_ag (my_ag.up fh369 is_111 rfl) Ln_h367
                            have Td_h369 : Td h369 x2 := Td_ag (my_ag.up fh369 is_111 rfl) Ln_h367 Td_h367
                            refine w_aload_n gz_104_170 rfl ?_
                            refine w_iconst gz_104_171 (by decide) ?_
                            refine w_aload_n gz_104_172 rfl ?_
                            refine w_getX (v := 1) gz_104_173 is_94 rd_2 rfl (by decide) rfl ?_
                            refine w_getX (v := 2) gz_104_176 is_1 rd_3 rfl (by decide) rfl ?_
                            refine w_iload gz_104_179 rfl ?_
                            refine w_iald gz_104_181 is_2 rd_25 (by omega) (by omega) (fun v372 ev372 pv372 qv372 => ?_)
                            have ce373 : h369 111 2 = p10_0 := ((my_up_fld fh369 (by decide)).trans (my_up_self fh367))
                            have ce374 : h369 111 3 = p36_1 := (my_up_self fh369)
                            have ce375 : h369 111 4 = h36_0 111 4 := ((my_up_fld fh369 (by decide)).trans ((my_up_fld fh367 (by decide)).trans ((my_fr.at frh350 is_111 rfl).trans ((my_fr.at frh339 is_111 rfl).trans (rfl : h36_0 111 4 = h36_0 111 4)))))
                            have ce376 : h369 111 5 = h36_0 111 5 := ((my_up_fld fh369 (by decide)).trans ((my_up_fld fh367 (by decide)).trans ((my_fr.at frh350 is_111 rfl).trans ((my_fr.at frh339 is_111 rfl).trans (rfl : h36_0 111 5 = h36_0 111 5)))))
                            refine w_inv (k := 0) (as := [(0, v372), (0, 2)]) (r := []) (x := 94) (ls0 := [(2, 94), (0, 2), (0, v372)]) gz_104_182 gm_94 rfl is_94 rd_2 rfl rfl rfl rfl rfl (c_Desk_keep (d := (d + 2)) (x1 := 2) (x2 := v372) (by omega) (by omega) (by omega) (by omega) Lst_h369 (by first | assumption | omega | (subst_vars; omega)) (by first | assumption | omega | (subst_vars; omega)) (by first | assumption | omega | (subst_vars; omega)) (fun h377 frh377 xp378 xp379 xp380 Lst_h377t381 => ?_))
                            have gh377 : my_fr [(2, 11), (7, 0), (7, 1), (7, 2), (7, 3), (7, 4), (7, 5), (8, 0), (8, 1), (30, -1), (31, -1), (42, -1), (43, -1), (44, -1)] h h377 := my_fr.tr gh369 (frh377.mo rfl)
                            have Ln_h377 : Ln h377 := Ln_ag (my_ag.fr frh377 rfl) Ln_h369
                            have Td_h377 : Td h377 x2 := Td_ag (my_ag.fr frh377 rfl) Ln_h369 Td_h369
                            show wp l rho (d + 4) 104 185 [(2, 94), (2, x1), (0, x2), (1, z36_l3), (9, 0), (0, p10_0), (0, p36_0), (0, p36_1), (0, 1)] [] h377 Q
                            refine w_aload_n gz_104_185 rfl ?_
                            refine w_getX (v := 95) gz_104_186 is_94 rd_2 rfl (by decide) rfl ?_
                            refine w_aload_n gz_104_189 rfl ?_
                            refine w_inv (k := 0) (as := [(2, x1)]) (r := []) (x := 95) (ls0 := [(2, 95), (2, x1)]) gz_104_190 gm_25 rfl is_95 rd_6 rfl rfl rfl rfl rfl ?_
                            refine w_aload_n gz_25_0 rfl ?_
                            refine w_getX (v := (x1 + 1)) gz_25_1 t1 rd_6 rfl (by decide) rfl ?_
                            refine w_iconst gz_25_4 (by decide) ?_
                            refine w_aload_n gz_25_5 rfl ?_
                            refine w_getX (v := 96) gz_25_6 is_95 rd_6 rfl (by decide) rfl ?_
                            refine w_iconst gz_25_9 (by decide) ?_
                            refine w_aload_n gz_25_10 rfl ?_
                            refine w_getX (v := 96) gz_25_11 is_95 rd_6 rfl (by decide) rfl ?_
                            refine v_alen (j := 240) gz_25_14 rfl is_96 rd_30 (by decide) ?_
                            refine w_cpU gz_25_15 (ix_6_1 t1) rd_30 is_96 rd_30 (by omega) (by omega) (by omega) (by omega) (by omega) rfl (by decide) (by decide) (fun h386 fh386 => ?_)
                            have gh386 : my_fr [(2, 11), (7, 0), (7, 1), (7, 2), (7, 3), (7, 4), (7, 5), (8, 0), (8, 1), (30, -1), (31, -1), (42, -1), (43, -1), (44, -1)] h h386 := my_fr.cp gh377 is_96 fh386 rfl
                            have Ln_h386 : Ln h386 := Ln_ag (my_ag.cp fh386 is_96 rfl) Ln_h377
                            have Td_h386 : Td h386 x2 := Td_ag (my_ag.cp fh386 is_96 rfl) Ln_h377 Td_h377
                            have Lst_h386 : Lst h386 := Lst_ag (my_ag.cp fh386 is_96 rfl) Lst_h377t381
                            refine w_aload_n gz_25_18 rfl ?_
                            refine w_getX (v := (x1 + 2)) gz_25_19 t1 rd_6 rfl (by decide) rfl ?_
                            refine w_iconst gz_25_22 (by decide) ?_
                            refine w_aload_n gz_25_23 rfl ?_
                            refine w_getX (v := 97) gz_25_24 is_95 rd_6 rfl (by decide) rfl ?_
                            refine w_iconst gz_25_27 (by decide) ?_
                            refine w_aload_n gz_25_28 rfl ?_
                            refine w_getX (v := 97) gz_25_29 is_95 rd_6 rfl (by decide) rfl ?_
                            refine v_alen (j := 3) gz_25_32 rfl is_97 rd_31 (by decide) ?_
                            refine w_cpU gz_25_33 (ix_6_2 t1) rd_31 is_97 rd_31 (by omega) (by omega) (by omega) (by omega) (by omega) rfl (by decide) (by decide) (fun h390 fh390 => ?_)
                            have gh390 : my_fr [(2, 11), (7, 0), (7, 1), (7, 2), (7, 3), (7, 4), (7, 5), (8, 0), (8, 1), (30, -1), (31, -1), (42, -1), (43, -1), (44, -1)] h h390 := my_fr.cp gh386 is_97 fh390 rfl
                            have Ln_h390 : Ln h390 := Ln_ag (my_ag.cp fh390 is_97 rfl) Ln_h386
                            have Td_h390 : Td h390 x2 := Td_ag (my_ag.cp fh390 is_97 rfl) Ln_h386 Td_h386
                            have Lst_h390 : Lst h390 := Lst_ag (my_ag.cp fh390 is_97 rfl) Lst_h386
                            refine w_vret gz_25_36 gm_25 ?_
                            show wp l rho (d + 4) 104 193 [(2, 94), (2, x1), (0, x2), (1, z36_l3), (9, 0), (0, p10_0), (0, p36_0), (0, p36_1), (0, 1)] [] h390 Q
                            rw [show (p36_0 : Int) = 1 from by omega]
                            exact J193_1 (z36_l3) (v3) h390 (gh390) (by omega) (by omega) (by omega) (by omega) (((my_cp_role fh390 is_94 is_97 rfl).trans ((my_cp_role fh386 is_94 is_96 rfl).trans ((my_fr.at frh377 is_94 rfl).trans ((my_up_role fh369 is_94 is_111 rfl).trans ((my_up_role fh367 is_94 is_111 rfl).trans ((my_fr.at frh350 is_94 rfl).trans ((my_fr.at frh339 is_94 rfl).trans ev3.symm))))))).trans (by omega)) Lst_h390 Ln_h390 Td_h390
                        ·
                          show wp l rho (d + 4) 104 117 [(2, 94), (2, x1), (0, x2), (1, z36_l3), (9, 0), (0, p10_0), (0, p36_0), (0, p36_1), (0, 1)] [(0, v342)] h339 Q
                          refine w_iconst gz_104_117 (by decide) ?_
                          refine w_icne (t := 185) gz_104_118 rfl (fun u391 => ?_) (fun u391 => by exfalso; omega)
                          refine w_aload_n gz_104_185 rfl ?_
                          refine w_getX (v := 95) gz_104_186 is_94 rd_2 rfl (by decide) rfl ?_
                          refine w_aload_n gz_104_189 rfl ?_
                          refine w_inv (k := 0) (as := [(2, x1)]) (r := []) (x := 95) (ls0 := [(2, 95), (2, x1)]) gz_104_190 gm_25 rfl is_95 rd_6 rfl rfl rfl rfl rfl ?_
                          refine w_aload_n gz_25_0 rfl ?_
                          refine w_getX (v := (x1 + 1)) gz_25_1 t1 rd_6 rfl (by decide) rfl ?_
                          refine w_iconst gz_25_4 (by decide) ?_
                          refine w_aload_n gz_25_5 rfl ?_
                          refine w_getX (v := 96) gz_25_6 is_95 rd_6 rfl (by decide) rfl ?_
                          refine w_iconst gz_25_9 (by decide) ?_
                          refine w_aload_n gz_25_10 rfl ?_
                          refine w_getX (v := 96) gz_25_11 is_95 rd_6 rfl (by decide) rfl ?_
                          refine v_alen (j := 240) gz_25_14 rfl is_96 rd_30 (by decide) ?_
                          refine w_cpU gz_25_15 (ix_6_1 t1) rd_30 is_96 rd_30 (by omega) (by omega) (by omega) (by omega) (by omega) rfl (by decide) (by decide) (fun h396 fh396 => ?_)
                          have gh396 : my_fr [(2, 11), (7, 0), (7, 1), (7, 2), (7, 3), (7, 4), (7, 5), (8, 0), (8, 1), (30, -1), (31, -1), (42, -1), (43, -1), (44, -1)] h h396 := my_fr.cp gh339 is_96 fh396 rfl
                          have Lst_h396 : Lst h396 := Lst_ag (my_ag.cp fh396 is_96 rfl) Lst_h339
                          have Ln_h396 : Ln h396 := Ln_ag (my_ag.cp fh396 is_96 rfl) Ln_h339
                          have Td_h396 : Td h396 x2 := Td_ag (my_ag.cp fh396 is_96 rfl) Ln_h339 Td_h339
                          refine w_aload_n gz_25_18 rfl ?_
                          refine w_getX (v := (x1 + 2)) gz_25_19 t1 rd_6 rfl (by decide) rfl ?_
                          refine w_iconst gz_25_22 (by decide) ?_
                          refine w_aload_n gz_25_23 rfl ?_
                          refine w_getX (v := 97) gz_25_24 is_95 rd_6 rfl (by decide) rfl ?_
                          refine w_iconst gz_25_27 (by decide) ?_
                          refine w_aload_n gz_25_28 rfl ?_
                          refine w_getX (v := 97) gz_25_29 is_95 rd_6 rfl (by decide) rfl ?_
                          refine v_alen (j := 3) gz_25_32 rfl is_97 rd_31 (by decide) ?_
                          refine w_cpU gz_25_33 (ix_6_2 t1) rd_31 is_97 rd_31 (by omega) (by omega) (by omega) (by omega) (by omega) rfl (by decide) (by decide) (fun h400 fh400 => ?_)
                          have gh400 : my_fr [(2, 11), (7, 0), (7, 1), (7, 2), (7, 3), (7, 4), (7, 5), (8, 0), (8, 1), (30, -1), (31, -1), (42, -1), (43, -1), (44, -1)] h h400 := my_fr.cp gh396 is_97 fh400 rfl
                          have Lst_h400 : Lst h400 := Lst_ag (my_ag.cp fh400 is_97 rfl) Lst_h396
                          have Ln_h400 : Ln h400 := Ln_ag (my_ag.cp fh400 is_97 rfl) Ln_h396
                          have Td_h400 : Td h400 x2 := Td_ag (my_ag.cp fh400 is_97 rfl) Ln_h396 Td_h396
                          refine w_vret gz_25_36 gm_25 ?_
                          show wp l rho (d + 4) 104 193 [(2, 94), (2, x1), (0, x2), (1, z36_l3), (9, 0), (0, p10_0), (0, p36_0), (0, p36_1), (0, 1)] [] h400 Q
                          rw [show (p36_0 : Int) = 1 from by omega]
                          exact J193_1 (z36_l3) (v3) h400 (gh400) (by omega) (by omega) (by omega) (by omega) (((my_cp_role fh400 is_94 is_97 rfl).trans ((my_cp_role fh396 is_94 is_96 rfl).trans ((my_fr.at frh339 is_94 rfl).trans ev3.symm))).trans (by omega)) Lst_h400 Ln_h400 Td_h400
                  ·
                    refine w_iconst gz_100_29 (by decide) ?_
                    refine w_goto (t := 34) gz_100_30 rfl ?_
                    refine w_bret gz_100_34 gm_100 (by omega) (by omega) ?_
                    show wp l rho (d + 4) 104 52 [(2, 94), (2, x1), (0, x2), (1, z36_l3), (9, 0), (0, p10_0), (0, p36_0), (0, p36_1), (9, 0)] [(0, 1)] h36_0 Q
                    refine w_ifne (t := 199) gz_104_52 rfl (fun u401 => ?_) (fun u401 => by exfalso; omega)
                    exact J199_0 (z36_l3) (p36_0) (p36_1) h36_0 (gh_36_0) (by omega) (by omega) (by omega) (by omega) (by omega) n_Lst_36_0 n_Ln_36_0 n_Td_36_0
      refine w_iload gz_104_10 rfl ?_
      refine w_iconst gz_104_12 (by decide) ?_
      refine w_icge (t := 205) gz_104_13 rfl (fun u402 => ?_) (fun u402 => ?_)
      ·
        exact w_vret gz_104_205 gm_104 (k0 h10_0 (gh_10_0) n_Lst_10_0)
      ·
        refine w_aload_n gz_104_16 rfl ?_
        refine w_getX (v := 27) gz_104_17 is_94 rd_2 rfl (by decide) rfl ?_
        refine w_iload_n gz_104_20 rfl ?_
        refine w_aald gz_104_21 is_27 rd_22 rfl (by omega) (by omega) (fun v404 ev404 tv404 => ?_)
        refine v_getI (j := 6) gz_104_22 rfl tv404 rd_4 rfl (fun v405 ev405 pv405 qv405 => ?_)
        refine w_i2l gz_104_25 ?_
        refine w_iload gz_104_26 rfl ?_
        refine w_inS (k := 0) (as := [(0, p10_0), (1, v405)]) (r := []) (ls0 := [(1, v405), (9, 0), (0, p10_0)]) gz_104_28 gm_69 rfl rfl rfl rfl rfl rfl ?_
        refine w_lload_n gz_69_0 rfl ?_
        refine w_iload_n gz_69_1 rfl ?_
        refine w_jshf gz_69_2 (fun _ => rfl) rfl (fun v406 pv406 => ?_)
        refine w_lconst gz_69_3 ?_
        refine w_jany2 gz_69_4 (fun _ => rfl) rfl (fun v407 pv407 => ?_)
        refine w_lconst gz_69_5 ?_
        refine w_lcmp gz_69_6 (fun v408 pv408 qv408 => ?_)
        refine w_ifeq (t := 14) gz_69_7 rfl (fun u409 => ?_) (fun u409 => ?_)
        ·
          refine w_iconst gz_69_14 (by decide) ?_
          refine w_bret gz_69_15 gm_69 (by omega) (by omega) ?_
          show wp l rho (d + 4) 104 31 [(2, 94), (2, x1), (0, x2), (1, z10_l3), (9, 0), (0, p10_0), (9, 0), (9, 0), (9, 0)] [(0, 0)] h10_0 Q
          refine w_istore (ls' := [(2, 94), (2, x1), (0, x2), (1, z10_l3), (9, 0), (0, p10_0), (0, 0), (9, 0), (9, 0)]) gz_104_31 gm_104 rfl rfl rfl ?_
          refine w_iconst gz_104_33 (by decide) ?_
          refine w_istore (ls' := [(2, 94), (2, x1), (0, x2), (1, z10_l3), (9, 0), (0, p10_0), (0, 0), (0, 0), (9, 0)]) gz_104_34 gm_104 rfl rfl rfl ?_
          exact J36_0 21 (z10_l3) (0) (0) h10_0 (gh_10_0) (by omega) (by omega) (by omega) (by omega) (by omega) n_Lst_10_0 n_Ln_10_0 n_Td_10_0 (by omega)
        ·
          refine w_iconst gz_69_10 (by decide) ?_
          refine w_goto (t := 15) gz_69_11 rfl ?_
          refine w_bret gz_69_15 gm_69 (by omega) (by omega) ?_
          show wp l rho (d + 4) 104 31 [(2, 94), (2, x1), (0, x2), (1, z10_l3), (9, 0), (0, p10_0), (9, 0), (9, 0), (9, 0)] [(0, 1)] h10_0 Q
          refine w_istore (ls' := [(2, 94), (2, x1), (0, x2), (1, z10_l3), (9, 0), (0, p10_0), (0, 1), (9, 0), (9, 0)]) gz_104_31 gm_104 rfl rfl rfl ?_
          refine w_iconst gz_104_33 (by decide) ?_
          refine w_istore (ls' := [(2, 94), (2, x1), (0, x2), (1, z10_l3), (9, 0), (0, p10_0), (0, 1), (0, 0), (9, 0)]) gz_104_34 gm_104 rfl rfl rfl ?_
          exact J36_0 21 (z10_l3) (1) (0) h10_0 (gh_10_0) (by omega) (by omega) (by omega) (by omega) (by omega) n_Lst_10_0 n_Ln_10_0 n_Td_10_0 (by omega)
  refine w_aload_n gz_104_0 rfl ?_
  refine w_getX (v := 111) gz_104_1 is_94 rd_2 rfl (by decide) rfl ?_
  refine w_inv (k := 0) (as := []) (r := []) (x := 111) (ls0 := [(2, 111)]) gz_104_4 gm_9 rfl is_111 rd_7 rfl rfl rfl rfl rfl ?_
  refine w_aload_n gz_9_0 rfl ?_
  refine w_iconst gz_9_1 (by decide) ?_
  refine v_putA (j := 0) gz_9_2 rfl is_111 rd_7 rfl rfl (fun h411 fh411 => ?_)
  have gh411 : my_fr [(2, 11), (7, 0), (7, 1), (7, 2), (7, 3), (7, 4), (7, 5), (8, 0), (8, 1), (30, -1), (31, -1), (42, -1), (43, -1), (44, -1)] h h411 := my_fr.up my_fr.rf is_111 fh411 rfl
  have Lst_h411 : Lst h411 := Lst_ne fh411 (by decide) n_Lst
  have Ln_h411 : Ln h411 := Ln_ag (my_ag.up fh411 is_111 rfl) n_Ln
  have Td_h411 : Td h411 x2 := Td_ag (my_ag.up fh411 is_111 rfl) n_Ln n_Td
  refine w_aload_n gz_9_5 rfl ?_
  refine w_iconst gz_9_6 (by decide) ?_
  refine v_putI (j := 1) gz_9_7 rfl is_111 rd_7 rfl (by omega) (by omega) rfl (fun h412 fh412 => ?_)
  have gh412 : my_fr [(2, 11), (7, 0), (7, 1), (7, 2), (7, 3), (7, 4), (7, 5), (8, 0), (8, 1), (30, -1), (31, -1), (42, -1), (43, -1), (44, -1)] h h412 := my_fr.up gh411 is_111 fh412 rfl
  have Lst_h412 : Lst h412 := Lst_ne fh412 (by decide) Lst_h411
  have Ln_h412 : Ln h412 := Ln_ag (my_ag.up fh412 is_111 rfl) Ln_h411
  have Td_h412 : Td h412 x2 := Td_ag (my_ag.up fh412 is_111 rfl) Ln_h411 Td_h411
  refine w_aload_n gz_9_10 rfl ?_
  refine w_iconst gz_9_11 (by decide) ?_
  refine v_putI (j := 2) gz_9_12 rfl is_111 rd_7 rfl (by omega) (by omega) rfl (fun h413 fh413 => ?_)
  have gh413 : my_fr [(2, 11), (7, 0), (7, 1), (7, 2), (7, 3), (7, 4), (7, 5), (8, 0), (8, 1), (30, -1), (31, -1), (42, -1), (43, -1), (44, -1)] h h413 := my_fr.up gh412 is_111 fh413 rfl
  have Lst_h413 : Lst h413 := Lst_ne fh413 (by decide) Lst_h412
  have Ln_h413 : Ln h413 := Ln_ag (my_ag.up fh413 is_111 rfl) Ln_h412
  have Td_h413 : Td h413 x2 := Td_ag (my_ag.up fh413 is_111 rfl) Ln_h412 Td_h412
  refine w_aload_n gz_9_15 rfl ?_
  refine w_iconst gz_9_16 (by decide) ?_
  refine v_putI (j := 3) gz_9_17 rfl is_111 rd_7 rfl (by omega) (by omega) rfl (fun h414 fh414 => ?_)
  have gh414 : my_fr [(2, 11), (7, 0), (7, 1), (7, 2), (7, 3), (7, 4), (7, 5), (8, 0), (8, 1), (30, -1), (31, -1), (42, -1), (43, -1), (44, -1)] h h414 := my_fr.up gh413 is_111 fh414 rfl
  have Lst_h414 : Lst h414 := Lst_ne fh414 (by decide) Lst_h413
  have Ln_h414 : Ln h414 := Ln_ag (my_ag.up fh414 is_111 rfl) Ln_h413
  have Td_h414 : Td h414 x2 := Td_ag (my_ag.up fh414 is_111 rfl) Ln_h413 Td_h413
  refine w_aload_n gz_9_20 rfl ?_
  refine w_iconst gz_9_21 (by decide) ?_
  refine v_putI (j := 4) gz_9_22 rfl is_111 rd_7 rfl (by omega) (by omega) rfl (fun h415 fh415 => ?_)
  have gh415 : my_fr [(2, 11), (7, 0), (7, 1), (7, 2), (7, 3), (7, 4), (7, 5), (8, 0), (8, 1), (30, -1), (31, -1), (42, -1), (43, -1), (44, -1)] h h415 := my_fr.up gh414 is_111 fh415 rfl
  have Lst_h415 : Lst h415 := Lst_ne fh415 (by decide) Lst_h414
  have Ln_h415 : Ln h415 := Ln_ag (my_ag.up fh415 is_111 rfl) Ln_h414
  have Td_h415 : Td h415 x2 := Td_ag (my_ag.up fh415 is_111 rfl) Ln_h414 Td_h414
  refine w_aload_n gz_9_25 rfl ?_
  refine w_iconst gz_9_26 (by decide) ?_
  refine v_putI (j := 5) gz_9_27 rfl is_111 rd_7 rfl (by omega) (by omega) rfl (fun h416 fh416 => ?_)
  have gh416 : my_fr [(2, 11), (7, 0), (7, 1), (7, 2), (7, 3), (7, 4), (7, 5), (8, 0), (8, 1), (30, -1), (31, -1), (42, -1), (43, -1), (44, -1)] h h416 := my_fr.up gh415 is_111 fh416 rfl
  have Lst_h416 : Lst h416 := Lst_ne fh416 (by decide) Lst_h415
  have Ln_h416 : Ln h416 := Ln_ag (my_ag.up fh416 is_111 rfl) Ln_h415
  have Td_h416 : Td h416 x2 := Td_ag (my_ag.up fh416 is_111 rfl) Ln_h415 Td_h415
  refine w_vret gz_9_30 gm_9 ?_
  show wp l rho (d + 4) 104 7 [(2, 94), (2, x1), (0, x2), (1, x3), (9, 0), (9, 0), (9, 0), (9, 0), (9, 0)] [] h416 Q
  refine w_iconst gz_104_7 (by decide) ?_
  refine w_istore (ls' := [(2, 94), (2, x1), (0, x2), (1, x3), (9, 0), (0, 0), (9, 0), (9, 0), (9, 0)]) gz_104_8 gm_104 rfl rfl rfl ?_
  exact J10_0 4 (x3) (0) h416 (gh416) (by omega) (by omega) Lst_h416 Ln_h416 Td_h416 (by omega)
theorem c_Desk_tryRowThatComes {l : Launch} {rho : Nat → Int32} {d : Nat} {h : my_H} {Q : my_H → my_V → Prop} {x1 : Int} (a1 : 0 ≤ x1) (b1 : x1 ≤ 5) (n_Lst : Lst h) (n_Ln : Ln h) (n_Td : Td h x1) (k0 : ∀ (h' : my_H), my_fr [(2, 11), (7, 0), (7, 1), (7, 2), (7, 3), (7, 4), (7, 5), (8, 0), (8, 1), (30, -1), (31, -1), (41, -1), (42, -1), (43, -1), (44, -1)] h h' → 0 ≤ h' 94 13 → h' 94 13 ≤ 1 → Lst h' → Q h' (9, 0)) : wp l rho (d + 4) 105 0 [(2, 94), (0, x1)] [] h Q := by
  refine w_aload_n gz_105_0 rfl ?_
  refine w_inv (k := 0) (as := []) (r := []) (x := 94) (ls0 := [(2, 94)]) gz_105_1 gm_100 rfl is_94 rd_2 rfl rfl rfl rfl rfl ?_
  refine w_aload_n gz_100_0 rfl ?_
  refine v_getI (j := 13) gz_100_1 rfl is_94 rd_2 rfl (fun v1 ev1 pv1 qv1 => ?_)
  refine w_ifeq (t := 33) gz_100_4 rfl (fun u2 => ?_) (fun u2 => ?_)
  ·
    refine w_iconst gz_100_33 (by decide) ?_
    refine w_bret gz_100_34 gm_100 (by omega) (by omega) ?_
    show wp l rho (d + 4) 105 4 [(2, 94), (0, x1)] [(0, 0)] h Q
    refine w_ifne (t := 110) gz_105_4 rfl (fun u3 => by exfalso; omega) (fun u3 => ?_)
    refine w_aload_n gz_105_7 rfl ?_
    refine w_aload_n gz_105_8 rfl ?_
    refine w_getX (v := 27) gz_105_9 is_94 rd_2 rfl (by decide) rfl ?_
    refine w_iload_n gz_105_12 rfl ?_
    refine w_aald gz_105_13 is_27 rd_22 rfl (by omega) (by omega) (fun v5 ev5 tv5 => ?_)
    refine w_inv (k := 2) (as := [(2, v5)]) (r := []) (x := 94) (ls0 := [(2, 94), (2, v5), (9, 0), (9, 0)]) gz_105_14 gm_106 rfl is_94 rd_2 rfl rfl rfl rfl rfl (c_Desk_rowComes (d := (d + 1)) (x1 := v5) tv5 (fun h6 frh6 => ?_) (fun h7 frh7 => ?_))
    ·
      have gh6 : my_fr [(2, 11), (7, 0), (7, 1), (7, 2), (7, 3), (7, 4), (7, 5), (8, 0), (8, 1), (30, -1), (31, -1), (41, -1), (42, -1), (43, -1), (44, -1)] h h6 := my_fr.tr my_fr.rf (frh6.mo rfl)
      have Lst_h6 : Lst h6 := Lst_ag (my_ag.fr frh6 rfl) n_Lst
      have Ln_h6 : Ln h6 := Ln_ag (my_ag.fr frh6 rfl) n_Ln
      have Td_h6 : Td h6 x1 := Td_ag (my_ag.fr frh6 rfl) n_Ln n_Td
      show wp l rho (d + 4) 105 17 [(2, 94), (0, x1)] [(0, 0)] h6 Q
      refine w_ifeq (t := 110) gz_105_17 rfl (fun u8 => ?_) (fun u8 => by exfalso; omega)
      have c9 := ((my_fr.at frh6 is_94 rfl).trans ev1.symm)
      exact w_vret gz_105_110 gm_105 (k0 h6 (gh6) (by omega) (by omega) Lst_h6)
    ·
      have gh7 : my_fr [(2, 11), (7, 0), (7, 1), (7, 2), (7, 3), (7, 4), (7, 5), (8, 0), (8, 1), (30, -1), (31, -1), (41, -1), (42, -1), (43, -1), (44, -1)] h h7 := my_fr.tr my_fr.rf (frh7.mo rfl)
      have Lst_h7 : Lst h7 := Lst_ag (my_ag.fr frh7 rfl) n_Lst
      have Ln_h7 : Ln h7 := Ln_ag (my_ag.fr frh7 rfl) n_Ln
      have Td_h7 : Td h7 x1 := Td_ag (my_ag.fr frh7 rfl) n_Ln n_Td
      show wp l rho (d + 4) 105 17 [(2, 94), (0, x1)] [(0, 1)] h7 Q
      refine w_ifeq (t := 110) gz_105_17 rfl (fun u10 => by exfalso; omega) (fun u10 => ?_)
      refine w_aload_n gz_105_20 rfl ?_
      refine w_getX (v := 1) gz_105_21 is_94 rd_2 rfl (by decide) rfl ?_
      refine w_aload_n gz_105_24 rfl ?_
      refine w_getX (v := 95) gz_105_25 is_94 rd_2 rfl (by decide) rfl ?_
      refine w_inv (k := 4) (as := [(2, 95)]) (r := []) (x := 1) (ls0 := [(2, 1), (2, 95), (9, 0), (9, 0), (9, 0), (9, 0)]) gz_105_28 gm_19 rfl is_1 rd_3 rfl rfl rfl rfl rfl (c_Laws_firstBroken (d := (d + 1)) (x1 := 95) is_95 ?_ (fun v13 w14 w15 => ?_))
      ·
        show wp l rho (d + 4) 105 31 [(2, 94), (0, x1)] [(0, (-1))] h7 Q
        refine w_iconst gz_105_31 (by decide) ?_
        refine w_icne (t := 110) gz_105_32 rfl (fun u16 => by exfalso; omega) (fun u16 => ?_)
        refine w_aload_n gz_105_35 rfl ?_
        refine w_getX (v := 106) gz_105_36 is_94 rd_2 rfl (by decide) rfl ?_
        refine w_aload_n gz_105_39 rfl ?_
        refine w_getX (v := 27) gz_105_40 is_94 rd_2 rfl (by decide) rfl ?_
        refine w_iload_n gz_105_43 rfl ?_
        refine w_aload_n gz_105_44 rfl ?_
        refine w_getX (v := 95) gz_105_45 is_94 rd_2 rfl (by decide) rfl ?_
        refine w_inv (k := 4) (as := [(2, 95), (0, x1), (2, 27)]) (r := []) (x := 106) (ls0 := [(2, 106), (2, 27), (0, x1), (2, 95), (9, 0), (9, 0), (9, 0), (9, 0)]) gz_105_48 gm_67 rfl is_106 rd_8 rfl rfl rfl rfl rfl (c_View_show (d := d) (x0 := 106) (x2 := x1) (x3 := 95) is_106 (by omega) (by omega) (by omega) (by omega) is_95 Ln_h7 Td_h7 (fun h20 v21 frh20 fxh20 w22 xp23 => ?_))
        have gh20 : my_fr [(2, 11), (7, 0), (7, 1), (7, 2), (7, 3), (7, 4), (7, 5), (8, 0), (8, 1), (30, -1), (31, -1), (41, -1), (42, -1), (43, -1), (44, -1)] h h20 := my_fr.tr gh7 (frh20.mo rfl)
        have Lst_h20 : Lst h20 := Lst_ag (my_ag.fr frh20 rfl) Lst_h7
        have Ln_h20 : Ln h20 := Ln_ag (my_ag.fr frh20 rfl) Ln_h7
        have Td_h20 : Td h20 x1 := Td_ag (my_ag.fr frh20 rfl) Ln_h7 Td_h7
        show wp l rho (d + 4) 105 51 [(2, 94), (0, x1)] [(2, v21)] h20 Q
        refine w_aload_n gz_105_51 rfl ?_
        refine w_getX (v := 102) gz_105_52 is_94 rd_2 rfl (by decide) rfl ?_
        refine w_inv (k := 1) (as := [(2, 102)]) (r := []) (x := v21) (ls0 := [(2, v21), (2, 102), (9, 0)]) gz_105_55 gm_93 rfl w22 rd_8 rfl rfl rfl rfl rfl (c_View_same (d := (d + 2)) (x0 := v21) (x1 := 102) w22 is_102 ?_ ?_)
        ·
          show wp l rho (d + 4) 105 58 [(2, 94), (0, x1)] [(0, 0)] h20 Q
          refine w_ifeq (t := 110) gz_105_58 rfl (fun u25 => ?_) (fun u25 => by exfalso; omega)
          have c26 := ((my_fr.at frh20 is_94 rfl).trans ((my_fr.at frh7 is_94 rfl).trans ev1.symm))
          exact w_vret gz_105_110 gm_105 (k0 h20 (gh20) (by omega) (by omega) Lst_h20)
        ·
          show wp l rho (d + 4) 105 58 [(2, 94), (0, x1)] [(0, 1)] h20 Q
          refine w_ifeq (t := 110) gz_105_58 rfl (fun u27 => by exfalso; omega) (fun u27 => ?_)
          refine w_aload_n gz_105_61 rfl ?_
          refine w_getX (v := 111) gz_105_62 is_94 rd_2 rfl (by decide) rfl ?_
          refine w_aload_n gz_105_65 rfl ?_
          refine w_getX (v := 27) gz_105_66 is_94 rd_2 rfl (by decide) rfl ?_
          refine w_iload_n gz_105_69 rfl ?_
          refine w_aald gz_105_70 is_27 rd_22 rfl (by omega) (by omega) (fun v30 ev30 tv30 => ?_)
          have zv30 : v5 = v30 := (ev30.trans ((my_fr.at frh20 is_27 rfl).trans ((my_fr.at frh7 is_27 rfl).trans ev5.symm))).symm
          subst zv30
          refine v_getI (j := 2) gz_105_71 rfl tv5 rd_4 rfl (fun v31 ev31 pv31 qv31 => ?_)
          refine v_putI (j := 2) gz_105_74 rfl is_111 rd_7 rfl (by omega) (by omega) rfl (fun h32 fh32 => ?_)
          have gh32 : my_fr [(2, 11), (7, 0), (7, 1), (7, 2), (7, 3), (7, 4), (7, 5), (8, 0), (8, 1), (30, -1), (31, -1), (41, -1), (42, -1), (43, -1), (44, -1)] h h32 := my_fr.up gh20 is_111 fh32 rfl
          have Lst_h32 : Lst h32 := Lst_ne fh32 (by decide) Lst_h20
          have Ln_h32 : Ln h32 := Ln_ag (my_ag.up fh32 is_111 rfl) Ln_h20
          have Td_h32 : Td h32 x1 := Td_ag (my_ag.up fh32 is_111 rfl) Ln_h20 Td_h20
          refine w_aload_n gz_105_77 rfl ?_
          refine w_getX (v := 111) gz_105_78 is_94 rd_2 rfl (by decide) rfl ?_
          refine w_aload_n gz_105_81 rfl ?_
          refine w_getX (v := 110) gz_105_82 is_94 rd_2 rfl (by decide) rfl ?_
          refine w_iconst gz_105_85 (by decide) ?_
          refine w_iald gz_105_86 is_110 rd_41 (by omega) (by omega) (fun v35 ev35 pv35 qv35 => ?_)
          refine v_putI (j := 3) gz_105_87 rfl is_111 rd_7 rfl (by omega) (by omega) rfl (fun h36 fh36 => ?_)
          have gh36 : my_fr [(2, 11), (7, 0), (7, 1), (7, 2), (7, 3), (7, 4), (7, 5), (8, 0), (8, 1), (30, -1), (31, -1), (41, -1), (42, -1), (43, -1), (44, -1)] h h36 := my_fr.up gh32 is_111 fh36 rfl
          have Lst_h36 : Lst h36 := Lst_ne fh36 (by decide) Lst_h32
          have Ln_h36 : Ln h36 := Ln_ag (my_ag.up fh36 is_111 rfl) Ln_h32
          have Td_h36 : Td h36 x1 := Td_ag (my_ag.up fh36 is_111 rfl) Ln_h32 Td_h32
          refine w_aload_n gz_105_90 rfl ?_
          refine w_iconst gz_105_91 (by decide) ?_
          refine w_aload_n gz_105_92 rfl ?_
          refine w_getX (v := 1) gz_105_93 is_94 rd_2 rfl (by decide) rfl ?_
          refine w_getX (v := 2) gz_105_96 is_1 rd_3 rfl (by decide) rfl ?_
          refine w_aload_n gz_105_99 rfl ?_
          refine w_getX (v := 111) gz_105_100 is_94 rd_2 rfl (by decide) rfl ?_
          refine v_getI (j := 2) gz_105_103 rfl is_111 rd_7 rfl (fun v40 ev40 pv40 qv40 => ?_)
          have zv40 := ev40.trans ((my_up_fld fh36 (by decide)).trans (my_up_self fh32))
          refine w_iald gz_105_106 is_2 rd_25 (by omega) (by omega) (fun v41 ev41 pv41 qv41 => ?_)
          have ce42 : h36 111 2 = v40 := ev40.symm
          have ce43 : h36 111 3 = v35 := (my_up_self fh36)
          have ce44 : h36 111 4 = h 111 4 := ((my_up_fld fh36 (by decide)).trans ((my_up_fld fh32 (by decide)).trans ((my_fr.at frh20 is_111 rfl).trans ((my_fr.at frh7 is_111 rfl).trans (rfl : h 111 4 = h 111 4)))))
          have ce45 : h36 111 5 = h 111 5 := ((my_up_fld fh36 (by decide)).trans ((my_up_fld fh32 (by decide)).trans ((my_fr.at frh20 is_111 rfl).trans ((my_fr.at frh7 is_111 rfl).trans (rfl : h 111 5 = h 111 5)))))
          refine w_inv (k := 0) (as := [(0, v41), (0, 3)]) (r := []) (x := 94) (ls0 := [(2, 94), (0, 3), (0, v41)]) gz_105_107 gm_94 rfl is_94 rd_2 rfl rfl rfl rfl rfl (c_Desk_keep (d := (d + 2)) (x1 := 3) (x2 := v41) (by omega) (by omega) (by omega) (by omega) Lst_h36 (by first | assumption | omega | (subst_vars; omega)) (by first | assumption | omega | (subst_vars; omega)) (by first | assumption | omega | (subst_vars; omega)) (fun h46 frh46 xp47 xp48 xp49 Lst_h46t50 => ?_))
          have gh46 : my_fr [(2, 11), (7, 0), (7, 1), (7, 2), (7, 3), (7, 4), (7, 5), (8, 0), (8, 1), (30, -1), (31, -1), (41, -1), (42, -1), (43, -1), (44, -1)] h h46 := my_fr.tr gh36 (frh46.mo rfl)
          have Ln_h46 : Ln h46 := Ln_ag (my_ag.fr frh46 rfl) Ln_h36
          have Td_h46 : Td h46 x1 := Td_ag (my_ag.fr frh46 rfl) Ln_h36 Td_h36
          show wp l rho (d + 4) 105 110 [(2, 94), (0, x1)] [] h46 Q
          have c51 := ((my_fr.at frh46 is_94 rfl).trans ((my_up_role fh36 is_94 is_111 rfl).trans ((my_up_role fh32 is_94 is_111 rfl).trans ((my_fr.at frh20 is_94 rfl).trans ((my_fr.at frh7 is_94 rfl).trans ev1.symm)))))
          exact w_vret gz_105_110 gm_105 (k0 h46 (gh46) (by omega) (by omega) Lst_h46t50)
      ·
        show wp l rho (d + 4) 105 31 [(2, 94), (0, x1)] [(0, v13)] h7 Q
        refine w_iconst gz_105_31 (by decide) ?_
        refine w_icne (t := 110) gz_105_32 rfl (fun u52 => ?_) (fun u52 => by exfalso; omega)
        have c53 := ((my_fr.at frh7 is_94 rfl).trans ev1.symm)
        exact w_vret gz_105_110 gm_105 (k0 h7 (gh7) (by omega) (by omega) Lst_h7)
  ·
    refine w_aload_n gz_100_7 rfl ?_
    refine w_getX (v := 112) gz_100_8 is_94 rd_2 rfl (by decide) rfl ?_
    refine v_getI (j := 0) gz_100_11 rfl is_112 rd_7 rfl (fun v55 ev55 pv55 qv55 => ?_)
    refine w_iconst gz_100_14 (by decide) ?_
    refine w_iceq (t := 33) gz_100_15 rfl (fun u56 => ?_) (fun u56 => ?_)
    ·
      refine w_iconst gz_100_33 (by decide) ?_
      refine w_bret gz_100_34 gm_100 (by omega) (by omega) ?_
      show wp l rho (d + 4) 105 4 [(2, 94), (0, x1)] [(0, 0)] h Q
      refine w_ifne (t := 110) gz_105_4 rfl (fun u57 => by exfalso; omega) (fun u57 => ?_)
      refine w_aload_n gz_105_7 rfl ?_
      refine w_aload_n gz_105_8 rfl ?_
      refine w_getX (v := 27) gz_105_9 is_94 rd_2 rfl (by decide) rfl ?_
      refine w_iload_n gz_105_12 rfl ?_
      refine w_aald gz_105_13 is_27 rd_22 rfl (by omega) (by omega) (fun v59 ev59 tv59 => ?_)
      refine w_inv (k := 2) (as := [(2, v59)]) (r := []) (x := 94) (ls0 := [(2, 94), (2, v59), (9, 0), (9, 0)]) gz_105_14 gm_106 rfl is_94 rd_2 rfl rfl rfl rfl rfl (c_Desk_rowComes (d := (d + 1)) (x1 := v59) tv59 (fun h60 frh60 => ?_) (fun h61 frh61 => ?_))
      ·
        have gh60 : my_fr [(2, 11), (7, 0), (7, 1), (7, 2), (7, 3), (7, 4), (7, 5), (8, 0), (8, 1), (30, -1), (31, -1), (41, -1), (42, -1), (43, -1), (44, -1)] h h60 := my_fr.tr my_fr.rf (frh60.mo rfl)
        have Lst_h60 : Lst h60 := Lst_ag (my_ag.fr frh60 rfl) n_Lst
        have Ln_h60 : Ln h60 := Ln_ag (my_ag.fr frh60 rfl) n_Ln
        have Td_h60 : Td h60 x1 := Td_ag (my_ag.fr frh60 rfl) n_Ln n_Td
        show wp l rho (d + 4) 105 17 [(2, 94), (0, x1)] [(0, 0)] h60 Q
        refine w_ifeq (t := 110) gz_105_17 rfl (fun u62 => ?_) (fun u62 => by exfalso; omega)
        have c63 := ((my_fr.at frh60 is_94 rfl).trans ev1.symm)
        exact w_vret gz_105_110 gm_105 (k0 h60 (gh60) (by omega) (by omega) Lst_h60)
      ·
        have gh61 : my_fr [(2, 11), (7, 0), (7, 1), (7, 2), (7, 3), (7, 4), (7, 5), (8, 0), (8, 1), (30, -1), (31, -1), (41, -1), (42, -1), (43, -1), (44, -1)] h h61 := my_fr.tr my_fr.rf (frh61.mo rfl)
        have Lst_h61 : Lst h61 := Lst_ag (my_ag.fr frh61 rfl) n_Lst
        have Ln_h61 : Ln h61 := Ln_ag (my_ag.fr frh61 rfl) n_Ln
        have Td_h61 : Td h61 x1 := Td_ag (my_ag.fr frh61 rfl) n_Ln n_Td
        show wp l rho (d + 4) 105 17 [(2, 94), (0, x1)] [(0, 1)] h61 Q
        refine w_ifeq (t := 110) gz_105_17 rfl (fun u64 => by exfalso; omega) (fun u64 => ?_)
        refine w_aload_n gz_105_20 rfl ?_
        refine w_getX (v := 1) gz_105_21 is_94 rd_2 rfl (by decide) rfl ?_
        refine w_aload_n gz_105_24 rfl ?_
        refine w_getX (v := 95) gz_105_25 is_94 rd_2 rfl (by decide) rfl ?_
        refine w_inv (k := 4) (as := [(2, 95)]) (r := []) (x := 1) (ls0 := [(2, 1), (2, 95), (9, 0), (9, 0), (9, 0), (9, 0)]) gz_105_28 gm_19 rfl is_1 rd_3 rfl rfl rfl rfl rfl (c_Laws_firstBroken (d := (d + 1)) (x1 := 95) is_95 ?_ (fun v67 w68 w69 => ?_))
        ·
          show wp l rho (d + 4) 105 31 [(2, 94), (0, x1)] [(0, (-1))] h61 Q
          refine w_iconst gz_105_31 (by decide) ?_
          refine w_icne (t := 110) gz_105_32 rfl (fun u70 => by exfalso; omega) (fun u70 => ?_)
          refine w_aload_n gz_105_35 rfl ?_
          refine w_getX (v := 106) gz_105_36 is_94 rd_2 rfl (by decide) rfl ?_
          refine w_aload_n gz_105_39 rfl ?_
          refine w_getX (v := 27) gz_105_40 is_94 rd_2 rfl (by decide) rfl ?_
          refine w_iload_n gz_105_43 rfl ?_
          refine w_aload_n gz_105_44 rfl ?_
          refine w_getX (v := 95) gz_105_45 is_94 rd_2 rfl (by decide) rfl ?_
          refine w_inv (k := 4) (as := [(2, 95), (0, x1), (2, 27)]) (r := []) (x := 106) (ls0 := [(2, 106), (2, 27), (0, x1), (2, 95), (9, 0), (9, 0), (9, 0), (9, 0)]) gz_105_48 gm_67 rfl is_106 rd_8 rfl rfl rfl rfl rfl (c_View_show (d := d) (x0 := 106) (x2 := x1) (x3 := 95) is_106 (by omega) (by omega) (by omega) (by omega) is_95 Ln_h61 Td_h61 (fun h74 v75 frh74 fxh74 w76 xp77 => ?_))
          have gh74 : my_fr [(2, 11), (7, 0), (7, 1), (7, 2), (7, 3), (7, 4), (7, 5), (8, 0), (8, 1), (30, -1), (31, -1), (41, -1), (42, -1), (43, -1), (44, -1)] h h74 := my_fr.tr gh61 (frh74.mo rfl)
          have Lst_h74 : Lst h74 := Lst_ag (my_ag.fr frh74 rfl) Lst_h61
          have Ln_h74 : Ln h74 := Ln_ag (my_ag.fr frh74 rfl) Ln_h61
          have Td_h74 : Td h74 x1 := Td_ag (my_ag.fr frh74 rfl) Ln_h61 Td_h61
          show wp l rho (d + 4) 105 51 [(2, 94), (0, x1)] [(2, v75)] h74 Q
          refine w_aload_n gz_105_51 rfl ?_
          refine w_getX (v := 102) gz_105_52 is_94 rd_2 rfl (by decide) rfl ?_
          refine w_inv (k := 1) (as := [(2, 102)]) (r := []) (x := v75) (ls0 := [(2, v75), (2, 102), (9, 0)]) gz_105_55 gm_93 rfl w76 rd_8 rfl rfl rfl rfl rfl (c_View_same (d := (d + 2)) (x0 := v75) (x1 := 102) w76 is_102 ?_ ?_)
          ·
            show wp l rho (d + 4) 105 58 [(2, 94), (0, x1)] [(0, 0)] h74 Q
            refine w_ifeq (t := 110) gz_105_58 rfl (fun u79 => ?_) (fun u79 => by exfalso; omega)
            have c80 := ((my_fr.at frh74 is_94 rfl).trans ((my_fr.at frh61 is_94 rfl).trans ev1.symm))
            exact w_vret gz_105_110 gm_105 (k0 h74 (gh74) (by omega) (by omega) Lst_h74)
          ·
            show wp l rho (d + 4) 105 58 [(2, 94), (0, x1)] [(0, 1)] h74 Q
            refine w_ifeq (t := 110) gz_105_58 rfl (fun u81 => by exfalso; omega) (fun u81 => ?_)
            refine w_aload_n gz_105_61 rfl ?_
            refine w_getX (v := 111) gz_105_62 is_94 rd_2 rfl (by decide) rfl ?_
            refine w_aload_n gz_105_65 rfl ?_
            refine w_getX (v := 27) gz_105_66 is_94 rd_2 rfl (by decide) rfl ?_
            refine w_iload_n gz_105_69 rfl ?_
            refine w_aald gz_105_70 is_27 rd_22 rfl (by omega) (by omega) (fun v84 ev84 tv84 => ?_)
            have zv84 : v59 = v84 := (ev84.trans ((my_fr.at frh74 is_27 rfl).trans ((my_fr.at frh61 is_27 rfl).trans ev59.symm))).symm
            subst zv84
            refine v_getI (j := 2) gz_105_71 rfl tv59 rd_4 rfl (fun v85 ev85 pv85 qv85 => ?_)
            refine v_putI (j := 2) gz_105_74 rfl is_111 rd_7 rfl (by omega) (by omega) rfl (fun h86 fh86 => ?_)
            have gh86 : my_fr [(2, 11), (7, 0), (7, 1), (7, 2), (7, 3), (7, 4), (7, 5), (8, 0), (8, 1), (30, -1), (31, -1), (41, -1), (42, -1), (43, -1), (44, -1)] h h86 := my_fr.up gh74 is_111 fh86 rfl
            have Lst_h86 : Lst h86 := Lst_ne fh86 (by decide) Lst_h74
            have Ln_h86 : Ln h86 := Ln_ag (my_ag.up fh86 is_111 rfl) Ln_h74
            have Td_h86 : Td h86 x1 := Td_ag (my_ag.up fh86 is_111 rfl) Ln_h74 Td_h74
            refine w_aload_n gz_105_77 rfl ?_
            refine w_getX (v := 111) gz_105_78 is_94 rd_2 rfl (by decide) rfl ?_
            refine w_aload_n gz_105_81 rfl ?_
            refine w_getX (v := 110) gz_105_82 is_94 rd_2 rfl (by decide) rfl ?_
            refine w_iconst gz_105_85 (by decide) ?_
            refine w_iald gz_105_86 is_110 rd_41 (by omega) (by omega) (fun v89 ev89 pv89 qv89 => ?_)
            refine v_putI (j := 3) gz_105_87 rfl is_111 rd_7 rfl (by omega) (by omega) rfl (fun h90 fh90 => ?_)
            have gh90 : my_fr [(2, 11), (7, 0), (7, 1), (7, 2), (7, 3), (7, 4), (7, 5), (8, 0), (8, 1), (30, -1), (31, -1), (41, -1), (42, -1), (43, -1), (44, -1)] h h90 := my_fr.up gh86 is_111 fh90 rfl
            have Lst_h90 : Lst h90 := Lst_ne fh90 (by decide) Lst_h86
            have Ln_h90 : Ln h90 := Ln_ag (my_ag.up fh90 is_111 rfl) Ln_h86
            have Td_h90 : Td h90 x1 := Td_ag (my_ag.up fh90 is_111 rfl) Ln_h86 Td_h86
            refine w_aload_n gz_105_90 rfl ?_
            refine w_iconst gz_105_91 (by decide) ?_
            refine w_aload_n gz_105_92 rfl ?_
            refine w_getX (v := 1) gz_105_93 is_94 rd_2 rfl (by decide) rfl ?_
            refine w_getX (v := 2) gz_105_96 is_1 rd_3 rfl (by decide) rfl ?_
            refine w_aload_n gz_105_99 rfl ?_
            refine w_getX (v := 111) gz_105_100 is_94 rd_2 rfl (by decide) rfl ?_
            refine v_getI (j := 2) gz_105_103 rfl is_111 rd_7 rfl (fun v94 ev94 pv94 qv94 => ?_)
            have zv94 := ev94.trans ((my_up_fld fh90 (by decide)).trans (my_up_self fh86))
            refine w_iald gz_105_106 is_2 rd_25 (by omega) (by omega) (fun v95 ev95 pv95 qv95 => ?_)
            have ce96 : h90 111 2 = v94 := ev94.symm
            have ce97 : h90 111 3 = v89 := (my_up_self fh90)
            have ce98 : h90 111 4 = h 111 4 := ((my_up_fld fh90 (by decide)).trans ((my_up_fld fh86 (by decide)).trans ((my_fr.at frh74 is_111 rfl).trans ((my_fr.at frh61 is_111 rfl).trans (rfl : h 111 4 = h 111 4)))))
            have ce99 : h90 111 5 = h 111 5 := ((my_up_fld fh90 (by decide)).trans ((my_up_fld fh86 (by decide)).trans ((my_fr.at frh74 is_111 rfl).trans ((my_fr.at frh61 is_111 rfl).trans (rfl : h 111 5 = h 111 5)))))
            refine w_inv (k := 0) (as := [(0, v95), (0, 3)]) (r := []) (x := 94) (ls0 := [(2, 94), (0, 3), (0, v95)]) gz_105_107 gm_94 rfl is_94 rd_2 rfl rfl rfl rfl rfl (c_Desk_keep (d := (d + 2)) (x1 := 3) (x2 := v95) (by omega) (by omega) (by omega) (by omega) Lst_h90 (by first | assumption | omega | (subst_vars; omega)) (by first | assumption | omega | (subst_vars; omega)) (by first | assumption | omega | (subst_vars; omega)) (fun h100 frh100 xp101 xp102 xp103 Lst_h100t104 => ?_))
            have gh100 : my_fr [(2, 11), (7, 0), (7, 1), (7, 2), (7, 3), (7, 4), (7, 5), (8, 0), (8, 1), (30, -1), (31, -1), (41, -1), (42, -1), (43, -1), (44, -1)] h h100 := my_fr.tr gh90 (frh100.mo rfl)
            have Ln_h100 : Ln h100 := Ln_ag (my_ag.fr frh100 rfl) Ln_h90
            have Td_h100 : Td h100 x1 := Td_ag (my_ag.fr frh100 rfl) Ln_h90 Td_h90
            show wp l rho (d + 4) 105 110 [(2, 94), (0, x1)] [] h100 Q
            have c105 := ((my_fr.at frh100 is_94 rfl).trans ((my_up_role fh90 is_94 is_111 rfl).trans ((my_up_role fh86 is_94 is_111 rfl).trans ((my_fr.at frh74 is_94 rfl).trans ((my_fr.at frh61 is_94 rfl).trans ev1.symm)))))
            exact w_vret gz_105_110 gm_105 (k0 h100 (gh100) (by omega) (by omega) Lst_h100t104)
        ·
          show wp l rho (d + 4) 105 31 [(2, 94), (0, x1)] [(0, v67)] h61 Q
          refine w_iconst gz_105_31 (by decide) ?_
          refine w_icne (t := 110) gz_105_32 rfl (fun u106 => ?_) (fun u106 => by exfalso; omega)
          have c107 := ((my_fr.at frh61 is_94 rfl).trans ev1.symm)
          exact w_vret gz_105_110 gm_105 (k0 h61 (gh61) (by omega) (by omega) Lst_h61)
    ·
      refine w_aload_n gz_100_18 rfl ?_
      refine w_getX (v := 112) gz_100_19 is_94 rd_2 rfl (by decide) rfl ?_
      refine v_getI (j := 0) gz_100_22 rfl is_112 rd_7 rfl (fun v109 ev109 pv109 qv109 => ?_)
      have zv109 := ev109.trans ev55.symm
      refine w_iconst gz_100_25 (by decide) ?_
      refine w_icgt (t := 33) gz_100_26 rfl (fun u110 => ?_) (fun u110 => ?_)
      ·
        refine w_iconst gz_100_33 (by decide) ?_
        refine w_bret gz_100_34 gm_100 (by omega) (by omega) ?_
        show wp l rho (d + 4) 105 4 [(2, 94), (0, x1)] [(0, 0)] h Q
        refine w_ifne (t := 110) gz_105_4 rfl (fun u111 => by exfalso; omega) (fun u111 => ?_)
        refine w_aload_n gz_105_7 rfl ?_
        refine w_aload_n gz_105_8 rfl ?_
        refine w_getX (v := 27) gz_105_9 is_94 rd_2 rfl (by decide) rfl ?_
        refine w_iload_n gz_105_12 rfl ?_
        refine w_aald gz_105_13 is_27 rd_22 rfl (by omega) (by omega) (fun v113 ev113 tv113 => ?_)
        refine w_inv (k := 2) (as := [(2, v113)]) (r := []) (x := 94) (ls0 := [(2, 94), (2, v113), (9, 0), (9, 0)]) gz_105_14 gm_106 rfl is_94 rd_2 rfl rfl rfl rfl rfl (c_Desk_rowComes (d := (d + 1)) (x1 := v113) tv113 (fun h114 frh114 => ?_) (fun h115 frh115 => ?_))
        ·
          have gh114 : my_fr [(2, 11), (7, 0), (7, 1), (7, 2), (7, 3), (7, 4), (7, 5), (8, 0), (8, 1), (30, -1), (31, -1), (41, -1), (42, -1), (43, -1), (44, -1)] h h114 := my_fr.tr my_fr.rf (frh114.mo rfl)
          have Lst_h114 : Lst h114 := Lst_ag (my_ag.fr frh114 rfl) n_Lst
          have Ln_h114 : Ln h114 := Ln_ag (my_ag.fr frh114 rfl) n_Ln
          have Td_h114 : Td h114 x1 := Td_ag (my_ag.fr frh114 rfl) n_Ln n_Td
          show wp l rho (d + 4) 105 17 [(2, 94), (0, x1)] [(0, 0)] h114 Q
          refine w_ifeq (t := 110) gz_105_17 rfl (fun u116 => ?_) (fun u116 => by exfalso; omega)
          have c117 := ((my_fr.at frh114 is_94 rfl).trans ev1.symm)
          exact w_vret gz_105_110 gm_105 (k0 h114 (gh114) (by omega) (by omega) Lst_h114)
        ·
          have gh115 : my_fr [(2, 11), (7, 0), (7, 1), (7, 2), (7, 3), (7, 4), (7, 5), (8, 0), (8, 1), (30, -1), (31, -1), (41, -1), (42, -1), (43, -1), (44, -1)] h h115 := my_fr.tr my_fr.rf (frh115.mo rfl)
          have Lst_h115 : Lst h115 := Lst_ag (my_ag.fr frh115 rfl) n_Lst
          have Ln_h115 : Ln h115 := Ln_ag (my_ag.fr frh115 rfl) n_Ln
          have Td_h115 : Td h115 x1 := Td_ag (my_ag.fr frh115 rfl) n_Ln n_Td
          show wp l rho (d + 4) 105 17 [(2, 94), (0, x1)] [(0, 1)] h115 Q
          refine w_ifeq (t := 110) gz_105_17 rfl (fun u118 => by exfalso; omega) (fun u118 => ?_)
          refine w_aload_n gz_105_20 rfl ?_
          refine w_getX (v := 1) gz_105_21 is_94 rd_2 rfl (by decide) rfl ?_
          refine w_aload_n gz_105_24 rfl ?_
          refine w_getX (v := 95) gz_105_25 is_94 rd_2 rfl (by decide) rfl ?_
          refine w_inv (k := 4) (as := [(2, 95)]) (r := []) (x := 1) (ls0 := [(2, 1), (2, 95), (9, 0), (9, 0), (9, 0), (9, 0)]) gz_105_28 gm_19 rfl is_1 rd_3 rfl rfl rfl rfl rfl (c_Laws_firstBroken (d := (d + 1)) (x1 := 95) is_95 ?_ (fun v121 w122 w123 => ?_))
          ·
            show wp l rho (d + 4) 105 31 [(2, 94), (0, x1)] [(0, (-1))] h115 Q
            refine w_iconst gz_105_31 (by decide) ?_
            refine w_icne (t := 110) gz_105_32 rfl (fun u124 => by exfalso; omega) (fun u124 => ?_)
            refine w_aload_n gz_105_35 rfl ?_
            refine w_getX (v := 106) gz_105_36 is_94 rd_2 rfl (by decide) rfl ?_
            refine w_aload_n gz_105_39 rfl ?_
            refine w_getX (v := 27) gz_105_40 is_94 rd_2 rfl (by decide) rfl ?_
            refine w_iload_n gz_105_43 rfl ?_
            refine w_aload_n gz_105_44 rfl ?_
            refine w_getX (v := 95) gz_105_45 is_94 rd_2 rfl (by decide) rfl ?_
            refine w_inv (k := 4) (as := [(2, 95), (0, x1), (2, 27)]) (r := []) (x := 106) (ls0 := [(2, 106), (2, 27), (0, x1), (2, 95), (9, 0), (9, 0), (9, 0), (9, 0)]) gz_105_48 gm_67 rfl is_106 rd_8 rfl rfl rfl rfl rfl (c_View_show (d := d) (x0 := 106) (x2 := x1) (x3 := 95) is_106 (by omega) (by omega) (by omega) (by omega) is_95 Ln_h115 Td_h115 (fun h128 v129 frh128 fxh128 w130 xp131 => ?_))
            have gh128 : my_fr [(2, 11), (7, 0), (7, 1), (7, 2), (7, 3), (7, 4), (7, 5), (8, 0), (8, 1), (30, -1), (31, -1), (41, -1), (42, -1), (43, -1), (44, -1)] h h128 := my_fr.tr gh115 (frh128.mo rfl)
            have Lst_h128 : Lst h128 := Lst_ag (my_ag.fr frh128 rfl) Lst_h115
            have Ln_h128 : Ln h128 := Ln_ag (my_ag.fr frh128 rfl) Ln_h115
            have Td_h128 : Td h128 x1 := Td_ag (my_ag.fr frh128 rfl) Ln_h115 Td_h115
            show wp l rho (d + 4) 105 51 [(2, 94), (0, x1)] [(2, v129)] h128 Q
            refine w_aload_n gz_105_51 rfl ?_
            refine w_getX (v := 102) gz_105_52 is_94 rd_2 rfl (by decide) rfl ?_
            refine w_inv (k := 1) (as := [(2, 102)]) (r := []) (x := v129) (ls0 := [(2, v129), (2, 102), (9, 0)]) gz_105_55 gm_93 rfl w130 rd_8 rfl rfl rfl rfl rfl (c_View_same (d := (d + 2)) (x0 := v129) (x1 := 102) w130 is_102 ?_ ?_)
            ·
              show wp l rho (d + 4) 105 58 [(2, 94), (0, x1)] [(0, 0)] h128 Q
              refine w_ifeq (t := 110) gz_105_58 rfl (fun u133 => ?_) (fun u133 => by exfalso; omega)
              have c134 := ((my_fr.at frh128 is_94 rfl).trans ((my_fr.at frh115 is_94 rfl).trans ev1.symm))
              exact w_vret gz_105_110 gm_105 (k0 h128 (gh128) (by omega) (by omega) Lst_h128)
            ·
              show wp l rho (d + 4) 105 58 [(2, 94), (0, x1)] [(0, 1)] h128 Q
              refine w_ifeq (t := 110) gz_105_58 rfl (fun u135 => by exfalso; omega) (fun u135 => ?_)
              refine w_aload_n gz_105_61 rfl ?_
              refine w_getX (v := 111) gz_105_62 is_94 rd_2 rfl (by decide) rfl ?_
              refine w_aload_n gz_105_65 rfl ?_
              refine w_getX (v := 27) gz_105_66 is_94 rd_2 rfl (by decide) rfl ?_
              refine w_iload_n gz_105_69 rfl ?_
              refine w_aald gz_105_70 is_27 rd_22 rfl (by omega) (by omega) (fun v138 ev138 tv138 => ?_)
              have zv138 : v113 = v138 := (ev138.trans ((my_fr.at frh128 is_27 rfl).trans ((my_fr.at frh115 is_27 rfl).trans ev113.symm))).symm
              subst zv138
              refine v_getI (j := 2) gz_105_71 rfl tv113 rd_4 rfl (fun v139 ev139 pv139 qv139 => ?_)
              refine v_putI (j := 2) gz_105_74 rfl is_111 rd_7 rfl (by omega) (by omega) rfl (fun h140 fh140 => ?_)
              have gh140 : my_fr [(2, 11), (7, 0), (7, 1), (7, 2), (7, 3), (7, 4), (7, 5), (8, 0), (8, 1), (30, -1), (31, -1), (41, -1), (42, -1), (43, -1), (44, -1)] h h140 := my_fr.up gh128 is_111 fh140 rfl
              have Lst_h140 : Lst h140 := Lst_ne fh140 (by decide) Lst_h128
              have Ln_h140 : Ln h140 := Ln_ag (my_ag.up fh140 is_111 rfl) Ln_h128
              have Td_h140 : Td h140 x1 := Td_ag (my_ag.up fh140 is_111 rfl) Ln_h128 Td_h128
              refine w_aload_n gz_105_77 rfl ?_
              refine w_getX (v := 111) gz_105_78 is_94 rd_2 rfl (by decide) rfl ?_
              refine w_aload_n gz_105_81 rfl ?_
              refine w_getX (v := 110) gz_105_82 is_94 rd_2 rfl (by decide) rfl ?_
              refine w_iconst gz_105_85 (by decide) ?_
              refine w_iald gz_105_86 is_110 rd_41 (by omega) (by omega) (fun v143 ev143 pv143 qv143 => ?_)
              refine v_putI (j := 3) gz_105_87 rfl is_111 rd_7 rfl (by omega) (by omega) rfl (fun h144 fh144 => ?_)
              have gh144 : my_fr [(2, 11), (7, 0), (7, 1), (7, 2), (7, 3), (7, 4), (7, 5), (8, 0), (8, 1), (30, -1), (31, -1), (41, -1), (42, -1), (43, -1), (44, -1)] h h144 := my_fr.up gh140 is_111 fh144 rfl
              have Lst_h144 : Lst h144 := Lst_ne fh144 (by decide) Lst_h140
              have Ln_h144 : Ln h144 := Ln_ag (my_ag.up fh144 is_111 rfl) Ln_h140
              have Td_h144 : Td h144 x1 := Td_ag (my_ag.up fh144 is_111 rfl) Ln_h140 Td_h140
              refine w_aload_n gz_105_90 rfl ?_
              refine w_iconst gz_105_91 (by decide) ?_
              refine w_aload_n gz_105_92 rfl ?_
              refine w_getX (v := 1) gz_105_93 is_94 rd_2 rfl (by decide) rfl ?_
              refine w_getX (v := 2) gz_105_96 is_1 rd_3 rfl (by decide) rfl ?_
              refine w_aload_n gz_105_99 rfl ?_
              refine w_getX (v := 111) gz_105_100 is_94 rd_2 rfl (by decide) rfl ?_
              refine v_getI (j := 2) gz_105_103 rfl is_111 rd_7 rfl (fun v148 ev148 pv148 qv148 => ?_)
              have zv148 := ev148.trans ((my_up_fld fh144 (by decide)).trans (my_up_self fh140))
              refine w_iald gz_105_106 is_2 rd_25 (by omega) (by omega) (fun v149 ev149 pv149 qv149 => ?_)
              have ce150 : h144 111 2 = v148 := ev148.symm
              have ce151 : h144 111 3 = v143 := (my_up_self fh144)
              have ce152 : h144 111 4 = h 111 4 := ((my_up_fld fh144 (by decide)).trans ((my_up_fld fh140 (by decide)).trans ((my_fr.at frh128 is_111 rfl).trans ((my_fr.at frh115 is_111 rfl).trans (rfl : h 111 4 = h 111 4)))))
              have ce153 : h144 111 5 = h 111 5 := ((my_up_fld fh144 (by decide)).trans ((my_up_fld fh140 (by decide)).trans ((my_fr.at frh128 is_111 rfl).trans ((my_fr.at frh115 is_111 rfl).trans (rfl : h 111 5 = h 111 5)))))
              refine w_inv (k := 0) (as := [(0, v149), (0, 3)]) (r := []) (x := 94) (ls0 := [(2, 94), (0, 3), (0, v149)]) gz_105_107 gm_94 rfl is_94 rd_2 rfl rfl rfl rfl rfl (c_Desk_keep (d := (d + 2)) (x1 := 3) (x2 := v149) (by omega) (by omega) (by omega) (by omega) Lst_h144 (by first | assumption | omega | (subst_vars; omega)) (by first | assumption | omega | (subst_vars; omega)) (by first | assumption | omega | (subst_vars; omega)) (fun h154 frh154 xp155 xp156 xp157 Lst_h154t158 => ?_))
              have gh154 : my_fr [(2, 11), (7, 0), (7, 1), (7, 2), (7, 3), (7, 4), (7, 5), (8, 0), (8, 1), (30, -1), (31, -1), (41, -1), (42, -1), (43, -1), (44, -1)] h h154 := my_fr.tr gh144 (frh154.mo rfl)
              have Ln_h154 : Ln h154 := Ln_ag (my_ag.fr frh154 rfl) Ln_h144
              have Td_h154 : Td h154 x1 := Td_ag (my_ag.fr frh154 rfl) Ln_h144 Td_h144
              show wp l rho (d + 4) 105 110 [(2, 94), (0, x1)] [] h154 Q
              have c159 := ((my_fr.at frh154 is_94 rfl).trans ((my_up_role fh144 is_94 is_111 rfl).trans ((my_up_role fh140 is_94 is_111 rfl).trans ((my_fr.at frh128 is_94 rfl).trans ((my_fr.at frh115 is_94 rfl).trans ev1.symm)))))
              exact w_vret gz_105_110 gm_105 (k0 h154 (gh154) (by omega) (by omega) Lst_h154t158)
          ·
            show wp l rho (d + 4) 105 31 [(2, 94), (0, x1)] [(0, v121)] h115 Q
            refine w_iconst gz_105_31 (by decide) ?_
            refine w_icne (t := 110) gz_105_32 rfl (fun u160 => ?_) (fun u160 => by exfalso; omega)
            have c161 := ((my_fr.at frh115 is_94 rfl).trans ev1.symm)
            exact w_vret gz_105_110 gm_105 (k0 h115 (gh115) (by omega) (by omega) Lst_h115)
      ·
        refine w_iconst gz_100_29 (by decide) ?_
        refine w_goto (t := 34) gz_100_30 rfl ?_
        refine w_bret gz_100_34 gm_100 (by omega) (by omega) ?_
        show wp l rho (d + 4) 105 4 [(2, 94), (0, x1)] [(0, 1)] h Q
        refine w_ifne (t := 110) gz_105_4 rfl (fun u162 => ?_) (fun u162 => by exfalso; omega)
        have c163 := ev1.symm
        exact w_vret gz_105_110 gm_105 (k0 h (my_fr.rf) (by omega) (by omega) n_Lst)
theorem c_Desk_faultsOfTrial {l : Launch} {rho : Nat → Int32} {d : Nat} {h : my_H} {Q : my_H → my_V → Prop} {x1 : Int} (a1 : 0 ≤ x1) (b1 : x1 ≤ 5) (n_Ln : Ln h) (n_Td : Td h x1) (k0 : ∀ (h' : my_H), my_fr [(8, 0), (8, 1), (42, -1), (43, -1), (44, -1)] h h' → Q h' (0, 0)) (k1 : ∀ (h' : my_H), my_fr [(8, 0), (8, 1), (42, -1), (43, -1), (44, -1)] h h' → Q h' (0, 1)) (k2 : ∀ (h' : my_H) (y : Int), my_fr [(8, 0), (8, 1), (42, -1), (43, -1), (44, -1)] h h' → Q h' (0, y)) : wp l rho (d + 4) 111 0 [(2, 94), (0, x1), (9, 0)] [] h Q := by
  refine w_aload_n gz_111_0 rfl ?_
  refine w_getX (v := 1) gz_111_1 is_94 rd_2 rfl (by decide) rfl ?_
  refine w_aload_n gz_111_4 rfl ?_
  refine w_getX (v := 95) gz_111_5 is_94 rd_2 rfl (by decide) rfl ?_
  refine w_inv (k := 0) (as := [(2, 95)]) (r := []) (x := 1) (ls0 := [(2, 1), (2, 95)]) gz_111_8 gm_18 rfl is_1 rd_3 rfl rfl rfl rfl rfl (c_Laws_hold (d := d) (x1 := 95) is_95 ?_ ?_)
  ·
    show wp l rho (d + 4) 111 11 [(2, 94), (0, x1), (9, 0)] [(0, 0)] h Q
    refine w_ifeq (t := 18) gz_111_11 rfl (fun u3 => ?_) (fun u3 => by exfalso; omega)
    refine w_iconst gz_111_18 (by decide) ?_
    refine w_istore_n (ls' := [(2, 94), (0, x1), (0, 1)]) gz_111_19 gm_111 rfl rfl rfl ?_
    refine w_aload_n gz_111_20 rfl ?_
    refine w_getX (v := 106) gz_111_21 is_94 rd_2 rfl (by decide) rfl ?_
    refine w_aload_n gz_111_24 rfl ?_
    refine w_getX (v := 27) gz_111_25 is_94 rd_2 rfl (by decide) rfl ?_
    refine w_iload_n gz_111_28 rfl ?_
    refine w_aload_n gz_111_29 rfl ?_
    refine w_getX (v := 95) gz_111_30 is_94 rd_2 rfl (by decide) rfl ?_
    refine w_inv (k := 4) (as := [(2, 95), (0, x1), (2, 27)]) (r := []) (x := 106) (ls0 := [(2, 106), (2, 27), (0, x1), (2, 95), (9, 0), (9, 0), (9, 0), (9, 0)]) gz_111_33 gm_67 rfl is_106 rd_8 rfl rfl rfl rfl rfl (c_View_show (d := d) (x0 := 106) (x2 := x1) (x3 := 95) is_106 (by omega) (by omega) (by omega) (by omega) is_95 n_Ln n_Td (fun h7 v8 frh7 fxh7 w9 xp10 => ?_))
    have gh7 : my_fr [(8, 0), (8, 1), (42, -1), (43, -1), (44, -1)] h h7 := my_fr.tr my_fr.rf (frh7.mo rfl)
    have Ln_h7 : Ln h7 := Ln_ag (my_ag.fr frh7 rfl) n_Ln
    have Td_h7 : Td h7 x1 := Td_ag (my_ag.fr frh7 rfl) n_Ln n_Td
    show wp l rho (d + 4) 111 36 [(2, 94), (0, x1), (0, 1)] [(2, v8)] h7 Q
    refine v_getI (j := 0) gz_111_36 rfl w9 rd_8 rfl (fun v11 ev11 pv11 qv11 => ?_)
    refine w_aload_n gz_111_39 rfl ?_
    refine w_getX (v := 102) gz_111_40 is_94 rd_2 rfl (by decide) rfl ?_
    refine v_getI (j := 0) gz_111_43 rfl is_102 rd_8 rfl (fun v13 ev13 pv13 qv13 => ?_)
    refine w_iceq (t := 53) gz_111_46 rfl (fun u14 => ?_) (fun u14 => ?_)
    ·
      refine w_aload_n gz_111_53 rfl ?_
      refine w_getX (v := 106) gz_111_54 is_94 rd_2 rfl (by decide) rfl ?_
      refine w_aload_n gz_111_57 rfl ?_
      refine w_getX (v := 102) gz_111_58 is_94 rd_2 rfl (by decide) rfl ?_
      refine w_inv (k := 1) (as := [(2, 102)]) (r := []) (x := 106) (ls0 := [(2, 106), (2, 102), (9, 0)]) gz_111_61 gm_93 rfl is_106 rd_8 rfl rfl rfl rfl rfl (c_View_same (d := (d + 2)) (x0 := 106) (x1 := 102) is_106 is_102 ?_ ?_)
      ·
        show wp l rho (d + 4) 111 64 [(2, 94), (0, x1), (0, 1)] [(0, 0)] h7 Q
        refine w_ifeq (t := 71) gz_111_64 rfl (fun u17 => ?_) (fun u17 => by exfalso; omega)
        refine w_iload_n gz_111_71 rfl ?_
        refine w_iconst gz_111_72 (by decide) ?_
        refine w_ianyO gz_111_73 (fun v18 pv18 qv18 => ?_)
        exact w_iret gz_111_74 gm_111 (k2 h7 (v18) (gh7))
      ·
        show wp l rho (d + 4) 111 64 [(2, 94), (0, x1), (0, 1)] [(0, 1)] h7 Q
        refine w_ifeq (t := 71) gz_111_64 rfl (fun u19 => by exfalso; omega) (fun u19 => ?_)
        refine w_iload_n gz_111_67 rfl ?_
        refine w_goto (t := 74) gz_111_68 rfl ?_
        exact w_iret gz_111_74 gm_111 (k1 h7 (gh7))
    ·
      refine w_iload_n gz_111_49 rfl ?_
      refine w_iconst gz_111_50 (by decide) ?_
      refine w_ianyO gz_111_51 (fun v20 pv20 qv20 => ?_)
      exact w_iret gz_111_52 gm_111 (k2 h7 (v20) (gh7))
  ·
    show wp l rho (d + 4) 111 11 [(2, 94), (0, x1), (9, 0)] [(0, 1)] h Q
    refine w_ifeq (t := 18) gz_111_11 rfl (fun u21 => by exfalso; omega) (fun u21 => ?_)
    refine w_iconst gz_111_14 (by decide) ?_
    refine w_goto (t := 19) gz_111_15 rfl ?_
    refine w_istore_n (ls' := [(2, 94), (0, x1), (0, 0)]) gz_111_19 gm_111 rfl rfl rfl ?_
    refine w_aload_n gz_111_20 rfl ?_
    refine w_getX (v := 106) gz_111_21 is_94 rd_2 rfl (by decide) rfl ?_
    refine w_aload_n gz_111_24 rfl ?_
    refine w_getX (v := 27) gz_111_25 is_94 rd_2 rfl (by decide) rfl ?_
    refine w_iload_n gz_111_28 rfl ?_
    refine w_aload_n gz_111_29 rfl ?_
    refine w_getX (v := 95) gz_111_30 is_94 rd_2 rfl (by decide) rfl ?_
    refine w_inv (k := 4) (as := [(2, 95), (0, x1), (2, 27)]) (r := []) (x := 106) (ls0 := [(2, 106), (2, 27), (0, x1), (2, 95), (9, 0), (9, 0), (9, 0), (9, 0)]) gz_111_33 gm_67 rfl is_106 rd_8 rfl rfl rfl rfl rfl (c_View_show (d := d) (x0 := 106) (x2 := x1) (x3 := 95) is_106 (by omega) (by omega) (by omega) (by omega) is_95 n_Ln n_Td (fun h25 v26 frh25 fxh25 w27 xp28 => ?_))
    have gh25 : my_fr [(8, 0), (8, 1), (42, -1), (43, -1), (44, -1)] h h25 := my_fr.tr my_fr.rf (frh25.mo rfl)
    have Ln_h25 : Ln h25 := Ln_ag (my_ag.fr frh25 rfl) n_Ln
    have Td_h25 : Td h25 x1 := Td_ag (my_ag.fr frh25 rfl) n_Ln n_Td
    show wp l rho (d + 4) 111 36 [(2, 94), (0, x1), (0, 0)] [(2, v26)] h25 Q
    refine v_getI (j := 0) gz_111_36 rfl w27 rd_8 rfl (fun v29 ev29 pv29 qv29 => ?_)
    refine w_aload_n gz_111_39 rfl ?_
    refine w_getX (v := 102) gz_111_40 is_94 rd_2 rfl (by decide) rfl ?_
    refine v_getI (j := 0) gz_111_43 rfl is_102 rd_8 rfl (fun v31 ev31 pv31 qv31 => ?_)
    refine w_iceq (t := 53) gz_111_46 rfl (fun u32 => ?_) (fun u32 => ?_)
    ·
      refine w_aload_n gz_111_53 rfl ?_
      refine w_getX (v := 106) gz_111_54 is_94 rd_2 rfl (by decide) rfl ?_
      refine w_aload_n gz_111_57 rfl ?_
      refine w_getX (v := 102) gz_111_58 is_94 rd_2 rfl (by decide) rfl ?_
      refine w_inv (k := 1) (as := [(2, 102)]) (r := []) (x := 106) (ls0 := [(2, 106), (2, 102), (9, 0)]) gz_111_61 gm_93 rfl is_106 rd_8 rfl rfl rfl rfl rfl (c_View_same (d := (d + 2)) (x0 := 106) (x1 := 102) is_106 is_102 ?_ ?_)
      ·
        show wp l rho (d + 4) 111 64 [(2, 94), (0, x1), (0, 0)] [(0, 0)] h25 Q
        refine w_ifeq (t := 71) gz_111_64 rfl (fun u35 => ?_) (fun u35 => by exfalso; omega)
        refine w_iload_n gz_111_71 rfl ?_
        refine w_iconst gz_111_72 (by decide) ?_
        refine w_ianyO gz_111_73 (fun v36 pv36 qv36 => ?_)
        exact w_iret gz_111_74 gm_111 (k2 h25 (v36) (gh25))
      ·
        show wp l rho (d + 4) 111 64 [(2, 94), (0, x1), (0, 0)] [(0, 1)] h25 Q
        refine w_ifeq (t := 71) gz_111_64 rfl (fun u37 => by exfalso; omega) (fun u37 => ?_)
        refine w_iload_n gz_111_67 rfl ?_
        refine w_goto (t := 74) gz_111_68 rfl ?_
        exact w_iret gz_111_74 gm_111 (k0 h25 (gh25))
    ·
      refine w_iload_n gz_111_49 rfl ?_
      refine w_iconst gz_111_50 (by decide) ?_
      refine w_ianyO gz_111_51 (fun v38 pv38 qv38 => ?_)
      exact w_iret gz_111_52 gm_111 (k2 h25 (v38) (gh25))
theorem c_Cutter_countFits {l : Launch} {rho : Nat → Int32} {d : Nat} {h : my_H} {Q : my_H → my_V → Prop} {x1 x2 : Int} (t1 : my_is 6 x1) (a2 : 0 ≤ x2) (b2 : x2 ≤ 2) (k0 : ∀ (h' : my_H), my_fr [(8, 0), (8, 1), (42, -1), (44, -1), (45, -1)] h h' → Q h' (0, 0)) (k1 : ∀ (h' : my_H) (y : Int), my_fr [(8, 0), (8, 1), (42, -1), (44, -1), (45, -1)] h h' → Q h' (0, y)) : wp l rho (d + 4) 120 0 [(2, 114), (2, x1), (0, x2), (2, 98), (9, 0), (9, 0), (9, 0), (9, 0), (9, 0), (9, 0), (9, 0)] [] h Q := by
  have J26_0 : ∀ (n : Nat) (p26_0 p26_1 p26_2 p26_3 : Int) (h26_0 : my_H), my_fr [(8, 0), (8, 1), (42, -1), (44, -1), (45, -1)] h h26_0 → 0 ≤ p26_1 → 0 ≤ p26_3 → p26_3 ≤ 4 → 5 - p26_3 ≤ (n : Int) → wp l rho (d + 4) 120 26 [(2, 114), (2, x1), (0, x2), (2, 98), (0, p26_0), (0, p26_1), (0, p26_2), (0, p26_3), (9, 0), (9, 0), (9, 0)] [] h26_0 Q := by
    intro n
    induction n with
    | zero => intro p26_0 p26_1 p26_2 p26_3 h26_0 gh_26_0 q0_26_0 q1_26_0 q2_26_0 hm_26_0; exfalso; omega
    | succ n ih_26_0 =>
      intro p26_0 p26_1 p26_2 p26_3 h26_0 gh_26_0 q0_26_0 q1_26_0 q2_26_0 hm_26_0
      have J43_0 : ∀ (n : Nat) (p43_0 p43_1 p43_2 p43_3 p43_4 : Int) (h43_0 : my_H), my_fr [(8, 0), (8, 1), (42, -1), (44, -1), (45, -1)] h h43_0 → 0 ≤ p43_1 → 0 ≤ p43_3 → p43_3 ≤ 3 → 0 ≤ p43_4 → p43_4 ≤ 3 → p26_3 ≤ 3 → p43_3 ≤ p26_3 → p26_3 ≤ p43_3 → 4 - p43_4 ≤ (n : Int) → wp l rho (d + 4) 120 43 [(2, 114), (2, x1), (0, x2), (2, 98), (0, p43_0), (0, p43_1), (0, p43_2), (0, p43_3), (0, p43_4), (9, 0), (9, 0)] [] h43_0 Q := by
        intro n
        induction n with
        | zero => intro p43_0 p43_1 p43_2 p43_3 p43_4 h43_0 gh_43_0 q0_43_0 q1_43_0 q2_43_0 q3_43_0 q4_43_0 q5_43_0 q6_43_0 q7_43_0 hm_43_0; exfalso; omega
        | succ n ih_43_0 =>
          intro p43_0 p43_1 p43_2 p43_3 p43_4 h43_0 gh_43_0 q0_43_0 q1_43_0 q2_43_0 q3_43_0 q4_43_0 q5_43_0 q6_43_0 q7_43_0 hm_43_0
          have J52_0 : ∀ (n : Nat) (p52_0 p52_1 p52_2 p52_3 p52_4 p52_5 : Int) (h52_0 : my_H), my_fr [(8, 0), (8, 1), (42, -1), (44, -1), (45, -1)] h h52_0 → 0 ≤ p52_1 → 0 ≤ p52_3 → p52_3 ≤ 3 → 0 ≤ p52_4 → p52_4 ≤ 2 → 0 ≤ p52_5 → p52_5 ≤ 21 → p43_4 ≤ 2 → p52_3 ≤ p43_3 → p52_3 ≤ p26_3 → p52_4 ≤ p43_4 → p43_3 ≤ p52_3 → p43_3 ≤ p26_3 → p43_4 ≤ p52_4 → p26_3 ≤ p52_3 → p26_3 ≤ p43_3 → 22 - p52_5 ≤ (n : Int) → wp l rho (d + 4) 120 52 [(2, 114), (2, x1), (0, x2), (2, 98), (0, p52_0), (0, p52_1), (0, p52_2), (0, p52_3), (0, p52_4), (0, p52_5), (9, 0)] [] h52_0 Q := by
            intro n
            induction n with
            | zero => intro p52_0 p52_1 p52_2 p52_3 p52_4 p52_5 h52_0 gh_52_0 q0_52_0 q1_52_0 q2_52_0 q3_52_0 q4_52_0 q5_52_0 q6_52_0 q7_52_0 q8_52_0 q9_52_0 q10_52_0 q11_52_0 q12_52_0 q13_52_0 q14_52_0 q15_52_0 hm_52_0; exfalso; omega
            | succ n ih_52_0 =>
              intro p52_0 p52_1 p52_2 p52_3 p52_4 p52_5 h52_0 gh_52_0 q0_52_0 q1_52_0 q2_52_0 q3_52_0 q4_52_0 q5_52_0 q6_52_0 q7_52_0 q8_52_0 q9_52_0 q10_52_0 q11_52_0 q12_52_0 q13_52_0 q14_52_0 q15_52_0 hm_52_0
              have J94_4 : ∀ (p94_0 p94_1 p94_2 : Int) (h94_4 : my_H), my_fr [(8, 0), (8, 1), (42, -1), (44, -1), (45, -1)] h h94_4 → 0 ≤ p94_1 → p52_5 ≤ 20 → p94_0 ≤ p94_2 → p94_2 ≤ p94_0 → p52_3 ≤ p43_3 → p52_3 ≤ p26_3 → p52_4 ≤ p43_4 → p43_3 ≤ p52_3 → p43_3 ≤ p26_3 → p43_4 ≤ p52_4 → p26_3 ≤ p52_3 → p26_3 ≤ p43_3 → wp l rho (d + 4) 120 94 [(2, 114), (2, x1), (0, x2), (2, 98), (0, p94_0), (0, p94_1), (0, p52_2), (0, p52_3), (0, p52_4), (0, p52_5), (0, p94_2)] [] h94_4 Q := by
                intro p94_0 p94_1 p94_2 h94_4 gh_94_4 q0_94_4 q1_94_4 q2_94_4 q3_94_4 q4_94_4 q5_94_4 q6_94_4 q7_94_4 q8_94_4 q9_94_4 q10_94_4 q11_94_4
                refine w_iload gz_120_94 rfl ?_
                refine w_iload gz_120_96 rfl ?_
                refine w_iload gz_120_98 rfl ?_
                refine w_inS (k := 0) (as := [(0, p52_5)]) (r := [(0, p94_1), (0, p52_2)]) (ls0 := [(0, p52_5)]) gz_120_100 gm_126 rfl rfl rfl rfl rfl rfl ?_
                refine w_iload_n gz_126_0 rfl ?_
                refine w_bipush gz_126_1 (by decide) ?_
                refine w_icge (t := 10) gz_126_3 rfl (fun u1 => ?_) (fun u1 => ?_)
                ·
                  refine w_sipush gz_126_10 (by decide) ?_
                  refine w_iret gz_126_13 gm_126 ?_
                  show wp l rho (d + 4) 120 103 [(2, 114), (2, x1), (0, x2), (2, 98), (0, p94_0), (0, p94_1), (0, p52_2), (0, p52_3), (0, p52_4), (0, p52_5), (0, p94_2)] [(0, 180), (0, p94_1), (0, p52_2)] h94_4 Q
                  refine w_ianyM gz_120_103 (fun v2 pv2 qv2 => ?_)
                  refine w_ianyA gz_120_104 (fun v3 pv3 qv3 => ?_)
                  refine w_istore (ls' := [(2, 114), (2, x1), (0, x2), (2, 98), (0, p94_0), (0, p94_1), (0, v3), (0, p52_3), (0, p52_4), (0, p52_5), (0, p94_2)]) gz_120_105 gm_120 rfl rfl rfl ?_
                  refine w_iinc (ls' := [(2, 114), (2, x1), (0, x2), (2, 98), (0, p94_0), (0, p94_1), (0, v3), (0, p52_3), (0, p52_4), (0, (p52_5 + 1)), (0, p94_2)]) gz_120_107 rfl gm_120 rfl rfl rfl ⟨by omega, by omega⟩ ?_
                  refine w_goto (t := 52) gz_120_110 rfl ?_
                  refine w_weak (ls' := [(2, 114), (2, x1), (0, x2), (2, 98), (0, p94_0), (0, p94_1), (0, v3), (0, p52_3), (0, p52_4), (0, (p52_5 + 1)), (9, 0)]) (wk_e (wk_e (wk_e (wk_e (wk_e (wk_e (wk_e (wk_e (wk_e (wk_e (wk_9 wk_n))))))))))) ?_
                  exact ih_52_0 (p94_0) (p94_1) (v3) (p52_3) (p52_4) ((p52_5 + 1)) h94_4 (gh_94_4) (by omega) (by omega) (by omega) (by omega) (by omega) (by omega) (by omega) (by omega) (by omega) (by omega) (by omega) (by omega) (by omega) (by omega) (by omega) (by omega) (by omega)
                ·
                  refine w_iconst gz_126_6 (by decide) ?_
                  refine w_goto (t := 13) gz_126_7 rfl ?_
                  refine w_iret gz_126_13 gm_126 ?_
                  show wp l rho (d + 4) 120 103 [(2, 114), (2, x1), (0, x2), (2, 98), (0, p94_0), (0, p94_1), (0, p52_2), (0, p52_3), (0, p52_4), (0, p52_5), (0, p94_2)] [(0, 1), (0, p94_1), (0, p52_2)] h94_4 Q
                  refine w_imulB gz_120_103 (fun _ _ _ _ => ⟨by omega, by omega⟩) ?_
                  refine w_ianyA gz_120_104 (fun v4 pv4 qv4 => ?_)
                  refine w_istore (ls' := [(2, 114), (2, x1), (0, x2), (2, 98), (0, p94_0), (0, p94_1), (0, v4), (0, p52_3), (0, p52_4), (0, p52_5), (0, p94_2)]) gz_120_105 gm_120 rfl rfl rfl ?_
                  refine w_iinc (ls' := [(2, 114), (2, x1), (0, x2), (2, 98), (0, p94_0), (0, p94_1), (0, v4), (0, p52_3), (0, p52_4), (0, (p52_5 + 1)), (0, p94_2)]) gz_120_107 rfl gm_120 rfl rfl rfl ⟨by omega, by omega⟩ ?_
                  refine w_goto (t := 52) gz_120_110 rfl ?_
                  refine w_weak (ls' := [(2, 114), (2, x1), (0, x2), (2, 98), (0, p94_0), (0, p94_1), (0, v4), (0, p52_3), (0, p52_4), (0, (p52_5 + 1)), (9, 0)]) (wk_e (wk_e (wk_e (wk_e (wk_e (wk_e (wk_e (wk_e (wk_e (wk_e (wk_9 wk_n))))))))))) ?_
                  exact ih_52_0 (p94_0) (p94_1) (v4) (p52_3) (p52_4) ((p52_5 + 1)) h94_4 (gh_94_4) (by omega) (by omega) (by omega) (by omega) (by omega) (by omega) (by omega) (by omega) (by omega) (by omega) (by omega) (by omega) (by omega) (by omega) (by omega) (by omega) (by omega)
              refine w_iload gz_120_52 rfl ?_
              refine w_bipush gz_120_54 (by decide) ?_
              refine w_icgt (t := 113) gz_120_56 rfl (fun u5 => ?_) (fun u5 => ?_)
              ·
                refine w_iinc (ls' := [(2, 114), (2, x1), (0, x2), (2, 98), (0, p52_0), (0, p52_1), (0, p52_2), (0, p52_3), (0, (p52_4 + 1)), (0, p52_5), (9, 0)]) gz_120_113 rfl gm_120 rfl rfl rfl ⟨by omega, by omega⟩ ?_
                refine w_goto (t := 43) gz_120_116 rfl ?_
                refine w_weak (ls' := [(2, 114), (2, x1), (0, x2), (2, 98), (0, p52_0), (0, p52_1), (0, p52_2), (0, p52_3), (0, (p52_4 + 1)), (9, 0), (9, 0)]) (wk_e (wk_e (wk_e (wk_e (wk_e (wk_e (wk_e (wk_e (wk_e (wk_9 (wk_9 wk_n))))))))))) ?_
                exact ih_43_0 (p52_0) (p52_1) (p52_2) (p52_3) ((p52_4 + 1)) h52_0 (gh_52_0) (by omega) (by omega) (by omega) (by omega) (by omega) (by omega) (by omega) (by omega) (by omega)
              ·
                refine w_aload_n gz_120_59 rfl ?_
                refine w_iload_n gz_120_60 rfl ?_
                refine w_iload gz_120_61 rfl ?_
                refine w_iload gz_120_63 rfl ?_
                refine w_iload gz_120_65 rfl ?_
                refine w_inS (k := 3) (as := [(0, p52_5), (0, p52_4), (0, p52_3), (0, x2), (2, x1)]) (r := []) (ls0 := [(2, x1), (0, x2), (0, p52_3), (0, p52_4), (0, p52_5), (9, 0), (9, 0), (9, 0)]) gz_120_67 gm_125 rfl rfl rfl rfl rfl rfl (c_Cutter_keysLeft (d := (d + 2)) (x0 := x1) (x1 := x2) (x2 := p52_3) (x3 := p52_4) (x4 := p52_5) t1 (by omega) (by omega) (by omega) (by omega) (by omega) (by omega) (by omega) (by omega) (fun w6 w7 w8 => ?_) (fun v9 => ?_))
                ·
                  show wp l rho (d + 4) 120 70 [(2, 114), (2, x1), (0, x2), (2, 98), (0, p52_0), (0, p52_1), (0, p52_2), (0, p52_3), (0, p52_4), (0, p52_5), (9, 0)] [(0, 0)] h52_0 Q
                  refine w_istore (ls' := [(2, 114), (2, x1), (0, x2), (2, 98), (0, p52_0), (0, p52_1), (0, p52_2), (0, p52_3), (0, p52_4), (0, p52_5), (0, 0)]) gz_120_70 gm_120 rfl rfl rfl ?_
                  refine w_iload gz_120_72 rfl ?_
                  refine w_iload gz_120_74 rfl ?_
                  refine w_iceq (t := 94) gz_120_76 rfl (fun u10 => ?_) (fun u10 => ?_)
                  ·
                    refine w_iload gz_120_94 rfl ?_
                    refine w_iload gz_120_96 rfl ?_
                    refine w_iload gz_120_98 rfl ?_
                    refine w_inS (k := 0) (as := [(0, p52_5)]) (r := [(0, p52_1), (0, p52_2)]) (ls0 := [(0, p52_5)]) gz_120_100 gm_126 rfl rfl rfl rfl rfl rfl ?_
                    refine w_iload_n gz_126_0 rfl ?_
                    refine w_bipush gz_126_1 (by decide) ?_
                    refine w_icge (t := 10) gz_126_3 rfl (fun u11 => by exfalso; omega) (fun u11 => ?_)
                    refine w_iconst gz_126_6 (by decide) ?_
                    refine w_goto (t := 13) gz_126_7 rfl ?_
                    refine w_iret gz_126_13 gm_126 ?_
                    show wp l rho (d + 4) 120 103 [(2, 114), (2, x1), (0, x2), (2, 98), (0, p52_0), (0, p52_1), (0, p52_2), (0, p52_3), (0, p52_4), (0, p52_5), (0, 0)] [(0, 1), (0, p52_1), (0, p52_2)] h52_0 Q
                    refine w_imulB gz_120_103 (fun _ _ _ _ => ⟨by omega, by omega⟩) ?_
                    refine w_ianyA gz_120_104 (fun v12 pv12 qv12 => ?_)
                    refine w_istore (ls' := [(2, 114), (2, x1), (0, x2), (2, 98), (0, p52_0), (0, p52_1), (0, v12), (0, p52_3), (0, p52_4), (0, p52_5), (0, 0)]) gz_120_105 gm_120 rfl rfl rfl ?_
                    refine w_iinc (ls' := [(2, 114), (2, x1), (0, x2), (2, 98), (0, p52_0), (0, p52_1), (0, v12), (0, p52_3), (0, p52_4), (0, (p52_5 + 1)), (0, 0)]) gz_120_107 rfl gm_120 rfl rfl rfl ⟨by omega, by omega⟩ ?_
                    refine w_goto (t := 52) gz_120_110 rfl ?_
                    refine w_weak (ls' := [(2, 114), (2, x1), (0, x2), (2, 98), (0, p52_0), (0, p52_1), (0, v12), (0, p52_3), (0, p52_4), (0, (p52_5 + 1)), (9, 0)]) (wk_e (wk_e (wk_e (wk_e (wk_e (wk_e (wk_e (wk_e (wk_e (wk_e (wk_9 wk_n))))))))))) ?_
                    exact ih_52_0 (p52_0) (p52_1) (v12) (p52_3) (p52_4) ((p52_5 + 1)) h52_0 (gh_52_0) (by omega) (by omega) (by omega) (by omega) (by omega) (by omega) (by omega) (by omega) (by omega) (by omega) (by omega) (by omega) (by omega) (by omega) (by omega) (by omega) (by omega)
                  ·
                    refine w_iload gz_120_79 rfl ?_
                    refine w_istore (ls' := [(2, 114), (2, x1), (0, x2), (2, 98), (0, 0), (0, p52_1), (0, p52_2), (0, p52_3), (0, p52_4), (0, p52_5), (0, 0)]) gz_120_81 gm_120 rfl rfl rfl ?_
                    refine w_aload_n gz_120_83 rfl ?_
                    refine w_aload_n gz_120_84 rfl ?_
                    refine w_iload_n gz_120_85 rfl ?_
                    refine w_iload gz_120_86 rfl ?_
                    refine w_aload_n gz_120_88 rfl ?_
                    refine w_inv (k := 3) (as := [(2, 98), (0, 0), (0, x2), (2, x1)]) (r := []) (x := 114) (ls0 := [(2, 114), (2, x1), (0, x2), (0, 0), (2, 98), (9, 0), (9, 0), (9, 0)]) gz_120_89 gm_122 rfl is_114 rd_1 rfl rfl rfl rfl rfl (c_Cutter_countArranged (d := d) (x1 := x1) (x2 := x2) (x3 := 0) t1 (by omega) (by omega) (fun h13 frh13 => ?_) (fun h14 v15 frh14 w16 => ?_))
                    ·
                      have gh13 : my_fr [(8, 0), (8, 1), (42, -1), (44, -1), (45, -1)] h h13 := my_fr.tr gh_52_0 (frh13.mo rfl)
                      show wp l rho (d + 4) 120 92 [(2, 114), (2, x1), (0, x2), (2, 98), (0, 0), (0, p52_1), (0, p52_2), (0, p52_3), (0, p52_4), (0, p52_5), (0, 0)] [(0, 0)] h13 Q
                      refine w_istore (ls' := [(2, 114), (2, x1), (0, x2), (2, 98), (0, 0), (0, 0), (0, p52_2), (0, p52_3), (0, p52_4), (0, p52_5), (0, 0)]) gz_120_92 gm_120 rfl rfl rfl ?_
                      refine w_iload gz_120_94 rfl ?_
                      refine w_iload gz_120_96 rfl ?_
                      refine w_iload gz_120_98 rfl ?_
                      refine w_inS (k := 0) (as := [(0, p52_5)]) (r := [(0, 0), (0, p52_2)]) (ls0 := [(0, p52_5)]) gz_120_100 gm_126 rfl rfl rfl rfl rfl rfl ?_
                      refine w_iload_n gz_126_0 rfl ?_
                      refine w_bipush gz_126_1 (by decide) ?_
                      refine w_icge (t := 10) gz_126_3 rfl (fun u17 => by exfalso; omega) (fun u17 => ?_)
                      refine w_iconst gz_126_6 (by decide) ?_
                      refine w_goto (t := 13) gz_126_7 rfl ?_
                      refine w_iret gz_126_13 gm_126 ?_
                      show wp l rho (d + 4) 120 103 [(2, 114), (2, x1), (0, x2), (2, 98), (0, 0), (0, 0), (0, p52_2), (0, p52_3), (0, p52_4), (0, p52_5), (0, 0)] [(0, 1), (0, 0), (0, p52_2)] h13 Q
                      refine w_imul gz_120_103 ⟨by omega, by omega⟩ ?_
                      refine w_iaddB gz_120_104 (fun _ _ _ _ => ⟨by omega, by omega⟩) ?_
                      refine w_istore (ls' := [(2, 114), (2, x1), (0, x2), (2, 98), (0, 0), (0, 0), (0, (p52_2 + (0 * 1))), (0, p52_3), (0, p52_4), (0, p52_5), (0, 0)]) gz_120_105 gm_120 rfl rfl rfl ?_
                      refine w_iinc (ls' := [(2, 114), (2, x1), (0, x2), (2, 98), (0, 0), (0, 0), (0, (p52_2 + (0 * 1))), (0, p52_3), (0, p52_4), (0, (p52_5 + 1)), (0, 0)]) gz_120_107 rfl gm_120 rfl rfl rfl ⟨by omega, by omega⟩ ?_
                      refine w_goto (t := 52) gz_120_110 rfl ?_
                      refine w_weak (ls' := [(2, 114), (2, x1), (0, x2), (2, 98), (0, 0), (0, 0), (0, (p52_2 + (0 * 1))), (0, p52_3), (0, p52_4), (0, (p52_5 + 1)), (9, 0)]) (wk_e (wk_e (wk_e (wk_e (wk_e (wk_e (wk_e (wk_e (wk_e (wk_e (wk_9 wk_n))))))))))) ?_
                      exact ih_52_0 (0) (0) ((p52_2 + (0 * 1))) (p52_3) (p52_4) ((p52_5 + 1)) h13 (gh13) (by omega) (by omega) (by omega) (by omega) (by omega) (by omega) (by omega) (by omega) (by omega) (by omega) (by omega) (by omega) (by omega) (by omega) (by omega) (by omega) (by omega)
                    ·
                      have gh14 : my_fr [(8, 0), (8, 1), (42, -1), (44, -1), (45, -1)] h h14 := my_fr.tr gh_52_0 (frh14.mo rfl)
                      show wp l rho (d + 4) 120 92 [(2, 114), (2, x1), (0, x2), (2, 98), (0, 0), (0, p52_1), (0, p52_2), (0, p52_3), (0, p52_4), (0, p52_5), (0, 0)] [(0, v15)] h14 Q
                      refine w_istore (ls' := [(2, 114), (2, x1), (0, x2), (2, 98), (0, 0), (0, v15), (0, p52_2), (0, p52_3), (0, p52_4), (0, p52_5), (0, 0)]) gz_120_92 gm_120 rfl rfl rfl ?_
                      refine w_iload gz_120_94 rfl ?_
                      refine w_iload gz_120_96 rfl ?_
                      refine w_iload gz_120_98 rfl ?_
                      refine w_inS (k := 0) (as := [(0, p52_5)]) (r := [(0, v15), (0, p52_2)]) (ls0 := [(0, p52_5)]) gz_120_100 gm_126 rfl rfl rfl rfl rfl rfl ?_
                      refine w_iload_n gz_126_0 rfl ?_
                      refine w_bipush gz_126_1 (by decide) ?_
                      refine w_icge (t := 10) gz_126_3 rfl (fun u18 => by exfalso; omega) (fun u18 => ?_)
                      refine w_iconst gz_126_6 (by decide) ?_
                      refine w_goto (t := 13) gz_126_7 rfl ?_
                      refine w_iret gz_126_13 gm_126 ?_
                      show wp l rho (d + 4) 120 103 [(2, 114), (2, x1), (0, x2), (2, 98), (0, 0), (0, v15), (0, p52_2), (0, p52_3), (0, p52_4), (0, p52_5), (0, 0)] [(0, 1), (0, v15), (0, p52_2)] h14 Q
                      refine w_imulB gz_120_103 (fun _ _ _ _ => ⟨by omega, by omega⟩) ?_
                      refine w_ianyA gz_120_104 (fun v19 pv19 qv19 => ?_)
                      refine w_istore (ls' := [(2, 114), (2, x1), (0, x2), (2, 98), (0, 0), (0, v15), (0, v19), (0, p52_3), (0, p52_4), (0, p52_5), (0, 0)]) gz_120_105 gm_120 rfl rfl rfl ?_
                      refine w_iinc (ls' := [(2, 114), (2, x1), (0, x2), (2, 98), (0, 0), (0, v15), (0, v19), (0, p52_3), (0, p52_4), (0, (p52_5 + 1)), (0, 0)]) gz_120_107 rfl gm_120 rfl rfl rfl ⟨by omega, by omega⟩ ?_
                      refine w_goto (t := 52) gz_120_110 rfl ?_
                      refine w_weak (ls' := [(2, 114), (2, x1), (0, x2), (2, 98), (0, 0), (0, v15), (0, v19), (0, p52_3), (0, p52_4), (0, (p52_5 + 1)), (9, 0)]) (wk_e (wk_e (wk_e (wk_e (wk_e (wk_e (wk_e (wk_e (wk_e (wk_e (wk_9 wk_n))))))))))) ?_
                      exact ih_52_0 (0) (v15) (v19) (p52_3) (p52_4) ((p52_5 + 1)) h14 (gh14) (by omega) (by omega) (by omega) (by omega) (by omega) (by omega) (by omega) (by omega) (by omega) (by omega) (by omega) (by omega) (by omega) (by omega) (by omega) (by omega) (by omega)
                ·
                  show wp l rho (d + 4) 120 70 [(2, 114), (2, x1), (0, x2), (2, 98), (0, p52_0), (0, p52_1), (0, p52_2), (0, p52_3), (0, p52_4), (0, p52_5), (9, 0)] [(0, v9)] h52_0 Q
                  refine w_istore (ls' := [(2, 114), (2, x1), (0, x2), (2, 98), (0, p52_0), (0, p52_1), (0, p52_2), (0, p52_3), (0, p52_4), (0, p52_5), (0, v9)]) gz_120_70 gm_120 rfl rfl rfl ?_
                  refine w_iload gz_120_72 rfl ?_
                  refine w_iload gz_120_74 rfl ?_
                  refine w_iceq (t := 94) gz_120_76 rfl (fun u20 => ?_) (fun u20 => ?_)
                  ·
                    exact J94_4 (p52_0) (p52_1) (v9) h52_0 (gh_52_0) (by omega) (by omega) (by omega) (by omega) (by omega) (by omega) (by omega) (by omega) (by omega) (by omega) (by omega) (by omega)
                  ·
                    refine w_iload gz_120_79 rfl ?_
                    refine w_istore (ls' := [(2, 114), (2, x1), (0, x2), (2, 98), (0, v9), (0, p52_1), (0, p52_2), (0, p52_3), (0, p52_4), (0, p52_5), (0, v9)]) gz_120_81 gm_120 rfl rfl rfl ?_
                    refine w_aload_n gz_120_83 rfl ?_
                    refine w_aload_n gz_120_84 rfl ?_
                    refine w_iload_n gz_120_85 rfl ?_
                    refine w_iload gz_120_86 rfl ?_
                    refine w_aload_n gz_120_88 rfl ?_
                    refine w_inv (k := 3) (as := [(2, 98), (0, v9), (0, x2), (2, x1)]) (r := []) (x := 114) (ls0 := [(2, 114), (2, x1), (0, x2), (0, v9), (2, 98), (9, 0), (9, 0), (9, 0)]) gz_120_89 gm_122 rfl is_114 rd_1 rfl rfl rfl rfl rfl (c_Cutter_countArranged (d := d) (x1 := x1) (x2 := x2) (x3 := v9) t1 (by omega) (by omega) (fun h21 frh21 => ?_) (fun h22 v23 frh22 w24 => ?_))
                    ·
                      have gh21 : my_fr [(8, 0), (8, 1), (42, -1), (44, -1), (45, -1)] h h21 := my_fr.tr gh_52_0 (frh21.mo rfl)
                      show wp l rho (d + 4) 120 92 [(2, 114), (2, x1), (0, x2), (2, 98), (0, v9), (0, p52_1), (0, p52_2), (0, p52_3), (0, p52_4), (0, p52_5), (0, v9)] [(0, 0)] h21 Q
                      refine w_istore (ls' := [(2, 114), (2, x1), (0, x2), (2, 98), (0, v9), (0, 0), (0, p52_2), (0, p52_3), (0, p52_4), (0, p52_5), (0, v9)]) gz_120_92 gm_120 rfl rfl rfl ?_
                      refine w_iload gz_120_94 rfl ?_
                      refine w_iload gz_120_96 rfl ?_
                      refine w_iload gz_120_98 rfl ?_
                      refine w_inS (k := 0) (as := [(0, p52_5)]) (r := [(0, 0), (0, p52_2)]) (ls0 := [(0, p52_5)]) gz_120_100 gm_126 rfl rfl rfl rfl rfl rfl ?_
                      refine w_iload_n gz_126_0 rfl ?_
                      refine w_bipush gz_126_1 (by decide) ?_
                      refine w_icge (t := 10) gz_126_3 rfl (fun u25 => ?_) (fun u25 => ?_)
                      ·
                        refine w_sipush gz_126_10 (by decide) ?_
                        refine w_iret gz_126_13 gm_126 ?_
                        show wp l rho (d + 4) 120 103 [(2, 114), (2, x1), (0, x2), (2, 98), (0, v9), (0, 0), (0, p52_2), (0, p52_3), (0, p52_4), (0, p52_5), (0, v9)] [(0, 180), (0, 0), (0, p52_2)] h21 Q
                        refine w_imul gz_120_103 ⟨by omega, by omega⟩ ?_
                        refine w_iaddB gz_120_104 (fun _ _ _ _ => ⟨by omega, by omega⟩) ?_
                        refine w_istore (ls' := [(2, 114), (2, x1), (0, x2), (2, 98), (0, v9), (0, 0), (0, (p52_2 + (0 * 180))), (0, p52_3), (0, p52_4), (0, p52_5), (0, v9)]) gz_120_105 gm_120 rfl rfl rfl ?_
                        refine w_iinc (ls' := [(2, 114), (2, x1), (0, x2), (2, 98), (0, v9), (0, 0), (0, (p52_2 + (0 * 180))), (0, p52_3), (0, p52_4), (0, (p52_5 + 1)), (0, v9)]) gz_120_107 rfl gm_120 rfl rfl rfl ⟨by omega, by omega⟩ ?_
                        refine w_goto (t := 52) gz_120_110 rfl ?_
                        refine w_weak (ls' := [(2, 114), (2, x1), (0, x2), (2, 98), (0, v9), (0, 0), (0, (p52_2 + (0 * 180))), (0, p52_3), (0, p52_4), (0, (p52_5 + 1)), (9, 0)]) (wk_e (wk_e (wk_e (wk_e (wk_e (wk_e (wk_e (wk_e (wk_e (wk_e (wk_9 wk_n))))))))))) ?_
                        exact ih_52_0 (v9) (0) ((p52_2 + (0 * 180))) (p52_3) (p52_4) ((p52_5 + 1)) h21 (gh21) (by omega) (by omega) (by omega) (by omega) (by omega) (by omega) (by omega) (by omega) (by omega) (by omega) (by omega) (by omega) (by omega) (by omega) (by omega) (by omega) (by omega)
                      ·
                        refine w_iconst gz_126_6 (by decide) ?_
                        refine w_goto (t := 13) gz_126_7 rfl ?_
                        refine w_iret gz_126_13 gm_126 ?_
                        show wp l rho (d + 4) 120 103 [(2, 114), (2, x1), (0, x2), (2, 98), (0, v9), (0, 0), (0, p52_2), (0, p52_3), (0, p52_4), (0, p52_5), (0, v9)] [(0, 1), (0, 0), (0, p52_2)] h21 Q
                        refine w_imul gz_120_103 ⟨by omega, by omega⟩ ?_
                        refine w_iaddB gz_120_104 (fun _ _ _ _ => ⟨by omega, by omega⟩) ?_
                        refine w_istore (ls' := [(2, 114), (2, x1), (0, x2), (2, 98), (0, v9), (0, 0), (0, (p52_2 + (0 * 1))), (0, p52_3), (0, p52_4), (0, p52_5), (0, v9)]) gz_120_105 gm_120 rfl rfl rfl ?_
                        refine w_iinc (ls' := [(2, 114), (2, x1), (0, x2), (2, 98), (0, v9), (0, 0), (0, (p52_2 + (0 * 1))), (0, p52_3), (0, p52_4), (0, (p52_5 + 1)), (0, v9)]) gz_120_107 rfl gm_120 rfl rfl rfl ⟨by omega, by omega⟩ ?_
                        refine w_goto (t := 52) gz_120_110 rfl ?_
                        refine w_weak (ls' := [(2, 114), (2, x1), (0, x2), (2, 98), (0, v9), (0, 0), (0, (p52_2 + (0 * 1))), (0, p52_3), (0, p52_4), (0, (p52_5 + 1)), (9, 0)]) (wk_e (wk_e (wk_e (wk_e (wk_e (wk_e (wk_e (wk_e (wk_e (wk_e (wk_9 wk_n))))))))))) ?_
                        exact ih_52_0 (v9) (0) ((p52_2 + (0 * 1))) (p52_3) (p52_4) ((p52_5 + 1)) h21 (gh21) (by omega) (by omega) (by omega) (by omega) (by omega) (by omega) (by omega) (by omega) (by omega) (by omega) (by omega) (by omega) (by omega) (by omega) (by omega) (by omega) (by omega)
                    ·
                      have gh22 : my_fr [(8, 0), (8, 1), (42, -1), (44, -1), (45, -1)] h h22 := my_fr.tr gh_52_0 (frh22.mo rfl)
                      show wp l rho (d + 4) 120 92 [(2, 114), (2, x1), (0, x2), (2, 98), (0, v9), (0, p52_1), (0, p52_2), (0, p52_3), (0, p52_4), (0, p52_5), (0, v9)] [(0, v23)] h22 Q
                      refine w_istore (ls' := [(2, 114), (2, x1), (0, x2), (2, 98), (0, v9), (0, v23), (0, p52_2), (0, p52_3), (0, p52_4), (0, p52_5), (0, v9)]) gz_120_92 gm_120 rfl rfl rfl ?_
                      exact J94_4 (v9) (v23) (v9) h22 (gh22) (by omega) (by omega) (by omega) (by omega) (by omega) (by omega) (by omega) (by omega) (by omega) (by omega) (by omega) (by omega)
          refine w_iload gz_120_43 rfl ?_
          refine w_iconst gz_120_45 (by decide) ?_
          refine w_icgt (t := 119) gz_120_46 rfl (fun u26 => ?_) (fun u26 => ?_)
          ·
            refine w_iinc (ls' := [(2, 114), (2, x1), (0, x2), (2, 98), (0, p43_0), (0, p43_1), (0, p43_2), (0, (p43_3 + 1)), (0, p43_4), (9, 0), (9, 0)]) gz_120_119 rfl gm_120 rfl rfl rfl ⟨by omega, by omega⟩ ?_
            refine w_goto (t := 26) gz_120_122 rfl ?_
            refine w_weak (ls' := [(2, 114), (2, x1), (0, x2), (2, 98), (0, p43_0), (0, p43_1), (0, p43_2), (0, (p43_3 + 1)), (9, 0), (9, 0), (9, 0)]) (wk_e (wk_e (wk_e (wk_e (wk_e (wk_e (wk_e (wk_e (wk_9 (wk_9 (wk_9 wk_n))))))))))) ?_
            exact ih_26_0 (p43_0) (p43_1) (p43_2) ((p43_3 + 1)) h43_0 (gh_43_0) (by omega) (by omega) (by omega) (by omega)
          ·
            refine w_iconst gz_120_49 (by decide) ?_
            refine w_istore (ls' := [(2, 114), (2, x1), (0, x2), (2, 98), (0, p43_0), (0, p43_1), (0, p43_2), (0, p43_3), (0, p43_4), (0, 0), (9, 0)]) gz_120_50 gm_120 rfl rfl rfl ?_
            exact J52_0 22 (p43_0) (p43_1) (p43_2) (p43_3) (p43_4) (0) h43_0 (gh_43_0) (by omega) (by omega) (by omega) (by omega) (by omega) (by omega) (by omega) (by omega) (by omega) (by omega) (by omega) (by omega) (by omega) (by omega) (by omega) (by omega) (by omega)
      refine w_iload gz_120_26 rfl ?_
      refine w_aload_n gz_120_28 rfl ?_
      refine w_getX (v := 1) gz_120_29 is_114 rd_1 rfl (by decide) rfl ?_
      refine w_getX (v := 2) gz_120_32 is_1 rd_3 rfl (by decide) rfl ?_
      refine w_iload_n gz_120_35 rfl ?_
      refine w_iald gz_120_36 is_2 rd_25 (by omega) (by omega) (fun v29 ev29 pv29 qv29 => ?_)
      refine w_icge (t := 125) gz_120_37 rfl (fun u30 => ?_) (fun u30 => ?_)
      ·
        refine w_iload gz_120_125 rfl ?_
        exact w_iret gz_120_127 gm_120 (k1 h26_0 (p26_2) (gh_26_0))
      ·
        refine w_iconst gz_120_40 (by decide) ?_
        refine w_istore (ls' := [(2, 114), (2, x1), (0, x2), (2, 98), (0, p26_0), (0, p26_1), (0, p26_2), (0, p26_3), (0, 0), (9, 0), (9, 0)]) gz_120_41 gm_120 rfl rfl rfl ?_
        exact J43_0 4 (p26_0) (p26_1) (p26_2) (p26_3) (0) h26_0 (gh_26_0) (by omega) (by omega) (by omega) (by omega) (by omega) (by omega) (by omega) (by omega) (by omega)
  refine w_aload_n gz_120_0 rfl ?_
  refine w_iload_n gz_120_1 rfl ?_
  refine w_iconst gz_120_2 (by decide) ?_
  refine w_inv (k := 3) (as := [(0, (-1)), (0, x2)]) (r := []) (x := x1) (ls0 := [(2, x1), (0, x2), (0, (-1)), (9, 0), (9, 0), (9, 0)]) gz_120_3 gm_121 rfl t1 rd_6 rfl rfl rfl rfl rfl (c_Rows_keysOf (d := (d + 2)) (x0 := x1) (x1 := x2) (x2 := (-1)) t1 (by omega) (by omega) (by omega) (by omega) (fun v31 => ?_))
  show wp l rho (d + 4) 120 6 [(2, 114), (2, x1), (0, x2), (2, 98), (9, 0), (9, 0), (9, 0), (9, 0), (9, 0), (9, 0), (9, 0)] [(0, v31)] h Q
  refine w_istore (ls' := [(2, 114), (2, x1), (0, x2), (2, 98), (0, v31), (9, 0), (9, 0), (9, 0), (9, 0), (9, 0), (9, 0)]) gz_120_6 gm_120 rfl rfl rfl ?_
  refine w_aload_n gz_120_8 rfl ?_
  refine w_aload_n gz_120_9 rfl ?_
  refine w_iload_n gz_120_10 rfl ?_
  refine w_iload gz_120_11 rfl ?_
  refine w_aload_n gz_120_13 rfl ?_
  refine w_inv (k := 3) (as := [(2, 98), (0, v31), (0, x2), (2, x1)]) (r := []) (x := 114) (ls0 := [(2, 114), (2, x1), (0, x2), (0, v31), (2, 98), (9, 0), (9, 0), (9, 0)]) gz_120_14 gm_122 rfl is_114 rd_1 rfl rfl rfl rfl rfl (c_Cutter_countArranged (d := d) (x1 := x1) (x2 := x2) (x3 := v31) t1 (by omega) (by omega) (fun h32 frh32 => ?_) (fun h33 v34 frh33 w35 => ?_))
  ·
    have gh32 : my_fr [(8, 0), (8, 1), (42, -1), (44, -1), (45, -1)] h h32 := my_fr.tr my_fr.rf (frh32.mo rfl)
    show wp l rho (d + 4) 120 17 [(2, 114), (2, x1), (0, x2), (2, 98), (0, v31), (9, 0), (9, 0), (9, 0), (9, 0), (9, 0), (9, 0)] [(0, 0)] h32 Q
    refine w_istore (ls' := [(2, 114), (2, x1), (0, x2), (2, 98), (0, v31), (0, 0), (9, 0), (9, 0), (9, 0), (9, 0), (9, 0)]) gz_120_17 gm_120 rfl rfl rfl ?_
    refine w_iload gz_120_19 rfl ?_
    refine w_istore (ls' := [(2, 114), (2, x1), (0, x2), (2, 98), (0, v31), (0, 0), (0, 0), (9, 0), (9, 0), (9, 0), (9, 0)]) gz_120_21 gm_120 rfl rfl rfl ?_
    refine w_iconst gz_120_23 (by decide) ?_
    refine w_istore (ls' := [(2, 114), (2, x1), (0, x2), (2, 98), (0, v31), (0, 0), (0, 0), (0, 0), (9, 0), (9, 0), (9, 0)]) gz_120_24 gm_120 rfl rfl rfl ?_
    exact J26_0 5 (v31) (0) (0) (0) h32 (gh32) (by omega) (by omega) (by omega) (by omega)
  ·
    have gh33 : my_fr [(8, 0), (8, 1), (42, -1), (44, -1), (45, -1)] h h33 := my_fr.tr my_fr.rf (frh33.mo rfl)
    show wp l rho (d + 4) 120 17 [(2, 114), (2, x1), (0, x2), (2, 98), (0, v31), (9, 0), (9, 0), (9, 0), (9, 0), (9, 0), (9, 0)] [(0, v34)] h33 Q
    refine w_istore (ls' := [(2, 114), (2, x1), (0, x2), (2, 98), (0, v31), (0, v34), (9, 0), (9, 0), (9, 0), (9, 0), (9, 0)]) gz_120_17 gm_120 rfl rfl rfl ?_
    refine w_iload gz_120_19 rfl ?_
    refine w_istore (ls' := [(2, 114), (2, x1), (0, x2), (2, 98), (0, v31), (0, v34), (0, v34), (9, 0), (9, 0), (9, 0), (9, 0)]) gz_120_21 gm_120 rfl rfl rfl ?_
    refine w_iconst gz_120_23 (by decide) ?_
    refine w_istore (ls' := [(2, 114), (2, x1), (0, x2), (2, 98), (0, v31), (0, v34), (0, v34), (0, 0), (9, 0), (9, 0), (9, 0)]) gz_120_24 gm_120 rfl rfl rfl ?_
    exact J26_0 5 (v31) (v34) (v34) (0) h33 (gh33) (by omega) (by omega) (by omega) (by omega)
end MYNDesk_tryRowsThatGo
