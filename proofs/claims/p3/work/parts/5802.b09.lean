/-! contracts, printed by wip/gen/gy.py -/
section MYNView_show
theorem c_View_show {l : Launch} {rho : Nat → Int32} {d : Nat} {h : my_H} {Q : my_H → my_V → Prop} {x0 x2 x3 : Int} (t0 : my_is 8 x0) (a2 : 0 ≤ x2) (b2 : x2 ≤ 5) (m2_0 : 0 ≤ x2 % 17) (m2_1 : x2 % 17 ≤ 5) (t3 : my_is 6 x3) (n_Ln : Ln h) (n_Td : Td h x2) (k0 : ∀ (h' : my_H) (y : Int), my_fr [(8, 0), (8, 1), (42, -1), (43, -1), (44, -1)] h h' → my_fx x0 3 h h' → my_is 8 y → h' x0 0 ≤ 10 → Q h' (2, y)) : wp l rho (d + 3) 67 0 [(2, x0), (2, 27), (0, x2), (2, x3), (9, 0), (9, 0), (9, 0), (9, 0)] [] h Q := by
  have htold := n_Td.2.2
  have J67_0 : ∀ (n : Nat) (p67_0 p67_1 : Int) (h67_0 : my_H), my_fr [(8, 0), (8, 1), (42, -1), (43, -1), (44, -1)] h h67_0 → my_fx x0 3 h h67_0 → 0 ≤ p67_0 → p67_0 ≤ 6 → (-1) ≤ p67_1 → p67_1 ≤ 5 → p67_1 ≤ (p67_0 - 1) → Ln h67_0 → Td h67_0 x2 → Sc h h67_0 (x0 + 2) p67_0 (-1) x2 → p67_1 < p67_0 → h67_0 x0 0 ≤ 10 → (0 ≤ p67_1 → h67_0 x0 1 = ln_s h (h 27 (h67_0 (x0 + 2) p67_1))) → -1 ≤ p67_1 → p67_1 + 2 ≤ (n : Int) → wp l rho (d + 3) 67 67 [(2, x0), (2, 27), (0, x2), (2, x3), (0, p67_0), (0, p67_1), (9, 0), (9, 0)] [] h67_0 Q := by
    intro n
    induction n with
    | zero => intro p67_0 p67_1 h67_0 gh_67_0 gx_67_0 q0_67_0 q1_67_0 q2_67_0 q3_67_0 q4_67_0 n_Ln_67_0 n_Td_67_0 sc2_67_0 lv_67_0 rw_67_0 cl_67_0 lm_67_0 hm_67_0; exfalso; omega
    | succ n ih_67_0 =>
      intro p67_0 p67_1 h67_0 gh_67_0 gx_67_0 q0_67_0 q1_67_0 q2_67_0 q3_67_0 q4_67_0 n_Ln_67_0 n_Td_67_0 sc2_67_0 lv_67_0 rw_67_0 cl_67_0 lm_67_0 hm_67_0
      have J86_0 : ∀ (n : Nat) (r86_0 p86_1 : Int) (h86_0 : my_H), my_fr [(8, 0), (8, 1), (42, -1), (43, -1), (44, -1)] h h86_0 → my_fx x0 3 h h86_0 → my_is 4 r86_0 → 1 ≤ p67_0 → 0 ≤ p67_1 → 0 ≤ p86_1 → p86_1 ≤ 6 → p67_1 ≤ (p67_0 - 1) → Ln h86_0 → Td h86_0 x2 → Sc h h86_0 (x0 + 2) p67_0 (-1) x2 → p67_1 < p67_0 → 0 ≤ p67_1 → h86_0 x0 0 ≤ 10 → r86_0 = h 27 (h86_0 (x0 + 2) p67_1) → h86_0 x0 1 = ln_f h r86_0 (ln_s h r86_0) p86_1.toNat → p86_1 ≤ h r86_0 9 → 7 - p86_1 ≤ (n : Int) → wp l rho (d + 3) 67 86 [(2, x0), (2, 27), (0, x2), (2, x3), (0, p67_0), (0, p67_1), (2, r86_0), (0, p86_1)] [] h86_0 Q := by
        intro n
        induction n with
        | zero => intro r86_0 p86_1 h86_0 gh_86_0 gx_86_0 tr86_0_86_0 q0_86_0 q1_86_0 q2_86_0 q3_86_0 q4_86_0 n_Ln_86_0 n_Td_86_0 sc2_86_0 lv_86_0 l0_86_0 rw_86_0 lr_86_0 c2_86_0 st_86_0 hm_86_0; exfalso; omega
        | succ n ih_86_0 =>
          intro r86_0 p86_1 h86_0 gh_86_0 gx_86_0 tr86_0_86_0 q0_86_0 q1_86_0 q2_86_0 q3_86_0 q4_86_0 n_Ln_86_0 n_Td_86_0 sc2_86_0 lv_86_0 l0_86_0 rw_86_0 lr_86_0 c2_86_0 st_86_0 hm_86_0
          have f9 : h86_0 r86_0 9 = h r86_0 9 := my_fr.at gh_86_0 tr86_0_86_0 rfl
          have fk : ∀ j : Int, h86_0 (r86_0 + 1) j = h (r86_0 + 1) j := fun j => my_fr.at gh_86_0 (ix_4_1 tr86_0_86_0) rfl
          have f3 : ∀ j : Int, h86_0 (r86_0 + 3) j = h (r86_0 + 3) j := fun j => my_fr.at gh_86_0 (ix_4_3 tr86_0_86_0) rfl
          have f4 : ∀ j : Int, h86_0 (r86_0 + 4) j = h (r86_0 + 4) j := fun j => my_fr.at gh_86_0 (ix_4_4 tr86_0_86_0) rfl
          have qL : LnL h r86_0 (h86_0 (x0 + 2) p67_1) := by rw [lr_86_0]; exact Sc_L n_Ln sc2_86_0 l0_86_0 lv_86_0
          refine w_iload gz_67_86 rfl ?_
          refine w_aload gz_67_88 rfl ?_
          refine v_getI (j := 9) gz_67_90 rfl tr86_0_86_0 rd_4 rfl (fun v1 ev1 pv1 qv1 => ?_)
          refine w_icge (t := 246) gz_67_93 rfl (fun u2 => ?_) (fun u2 => ?_)
          ·
            have e9 : p86_1 = h r86_0 9 := by omega
            have c4 : h86_0 x0 1 = h r86_0 4 := by rw [c2_86_0, e9]; exact qL.2.2.2.2
            refine w_aload_n gz_67_246 rfl ?_
            refine w_inv (k := 3) (as := []) (r := []) (x := x0) (ls0 := [(2, x0), (9, 0), (9, 0), (9, 0)]) gz_67_247 gm_79 rfl t0 rd_8 rfl rfl rfl rfl rfl (c_View_sort (d := d) (x0 := x0) t0 (fun h3 frh3 fxh3 xp4 xp5 => ?_))
            have gh3 : my_fr [(8, 0), (8, 1), (42, -1), (43, -1), (44, -1)] h h3 := my_fr.tr gh_86_0 (frh3.mo rfl)
            have gxh3 : my_fx x0 3 h h3 := my_fx.tr gx_86_0 fxh3
            have Ln_h3 : Ln h3 := Ln_ag (my_ag.fr frh3 rfl) n_Ln_86_0
            have Td_h3 : Td h3 x2 := Td_ag (my_ag.fr frh3 rfl) n_Ln_86_0 n_Td_86_0
            show wp l rho (d + 3) 67 250 [(2, x0), (2, 27), (0, x2), (2, x3), (0, p67_0), (0, p67_1), (2, r86_0), (0, p86_1)] [] h3 Q
            refine w_iinc (ls' := [(2, x0), (2, 27), (0, x2), (2, x3), (0, p67_0), (0, (p67_1 + (-1))), (2, r86_0), (0, p86_1)]) gz_67_250 rfl gm_67 rfl rfl rfl ⟨by omega, by omega⟩ ?_
            refine w_goto (t := 67) gz_67_253 rfl ?_
            have ca : ∀ j : Int, h3 (x0 + 2) j = h86_0 (x0 + 2) j := fun j => ((my_fr.at frh3 (ix_8_2 t0) rfl).trans (rfl : h86_0 (x0 + 2) j = h86_0 (x0 + 2) j))
            have ce6 : h3 x0 0 = h86_0 x0 0 := ((my_fr.at frh3 t0 rfl).trans (rfl : h86_0 x0 0 = h86_0 x0 0))
            have ce7 : h3 x0 1 = h86_0 x0 1 := ((my_fr.at frh3 t0 rfl).trans (rfl : h86_0 x0 1 = h86_0 x0 1))
            refine w_weak (ls' := [(2, x0), (2, 27), (0, x2), (2, x3), (0, p67_0), (0, (p67_1 + (-1))), (9, 0), (9, 0)]) (wk_e (wk_e (wk_e (wk_e (wk_e (wk_e (wk_9 (wk_9 wk_n)))))))) ?_
            exact ih_67_0 (p67_0) ((p67_1 + (-1))) h3 (gh3) (gxh3) (by omega) (by omega) (by omega) (by omega) (by omega) Ln_h3 Td_h3 (by first | exact Sc_cg ca sc3 | exact Sc_cg ca sc2_86_0 | exact Sc_cg ca sc2_67_0) (by first | assumption | omega | (subst_vars; omega)) (by first | assumption | omega | (subst_vars; omega)) (by first | (intro _; rw [ca, Sc_bot sc3 dp]; omega) | (intro q; rw [ca, Sc_up sc2_86_0 q (by omega), show (p67_1 + (-1)) + 1 = p67_1 by omega, ← lr_86_0]; omega)) (by first | assumption | omega | (subst_vars; omega)) (by omega)
          ·
            refine w_aload gz_67_96 rfl ?_
            refine w_getX (v := (r86_0 + 1)) gz_67_98 tr86_0_86_0 rd_4 rfl (by decide) rfl ?_
            refine w_iload gz_67_101 rfl ?_
            refine w_iald gz_67_103 (ix_4_1 tr86_0_86_0) rd_32 (by omega) (by omega) (fun v9 ev9 pv9 qv9 => ?_)
            have qa := ln_ok_at qL.2.2.2.1 (s := p86_1) (by omega) (by omega)
            have g1 := fk p86_1
            have g3 := f3 p86_1
            have g4 := f4 p86_1
            have gs := ln_f_at (h := h) (L := r86_0) (c := ln_s h r86_0) (s := p86_1) (by omega)
            by_cases u10 : v9 = 3
            ·
              refine w_tswE (t := 132) gz_67_104 u10 (by decide) (by decide) rfl rfl ?_
              have k4 : h (r86_0 + 1) p86_1 = 3 := by omega
              rw [k4, ln_st3] at gs
              refine w_aload_n gz_67_132 rfl ?_
              refine w_aload gz_67_133 rfl ?_
              refine w_getX (v := (r86_0 + 5)) gz_67_135 tr86_0_86_0 rd_4 rfl (by decide) rfl ?_
              refine w_iload gz_67_138 rfl ?_
              refine w_bipush gz_67_140 (by decide) ?_
              refine w_imul gz_67_142 ⟨by omega, by omega⟩ ?_
              refine w_aload gz_67_143 rfl ?_
              refine w_getX (v := (r86_0 + 4)) gz_67_145 tr86_0_86_0 rd_4 rfl (by decide) rfl ?_
              refine w_iload gz_67_148 rfl ?_
              refine w_iald gz_67_150 (ix_4_4 tr86_0_86_0) rd_35 (by omega) (by omega) (fun v13 ev13 pv13 qv13 => ?_)
              refine w_inv (k := 3) (as := [(0, v13), (0, (p86_1 * 8)), (2, (r86_0 + 5))]) (r := []) (x := x0) (ls0 := [(2, x0), (2, (r86_0 + 5)), (0, (p86_1 * 8)), (0, v13), (9, 0), (9, 0), (9, 0)]) gz_67_151 gm_71 rfl t0 rd_8 rfl rfl rfl rfl rfl (c_View_few_v8_36 (d := d) (x0 := x0) (x1 := (r86_0 + 5)) (x2 := (p86_1 * 8)) (x3 := v13) t0 (ix_4_5 tr86_0_86_0) (by omega) (by omega) (by omega) (by omega) (by omega) (by omega) (fun h14 frh14 fxh14 xp15 xp16 => ?_))
              have gh14 : my_fr [(8, 0), (8, 1), (42, -1), (43, -1), (44, -1)] h h14 := my_fr.tr gh_86_0 (frh14.mo rfl)
              have gxh14 : my_fx x0 3 h h14 := my_fx.tr gx_86_0 fxh14
              have Ln_h14 : Ln h14 := Ln_ag (my_ag.fr frh14 rfl) n_Ln_86_0
              have Td_h14 : Td h14 x2 := Td_ag (my_ag.fr frh14 rfl) n_Ln_86_0 n_Td_86_0
              show wp l rho (d + 3) 67 154 [(2, x0), (2, 27), (0, x2), (2, x3), (0, p67_0), (0, p67_1), (2, r86_0), (0, p86_1)] [] h14 Q
              refine w_goto (t := 240) gz_67_154 rfl ?_
              refine w_iinc (ls' := [(2, x0), (2, 27), (0, x2), (2, x3), (0, p67_0), (0, p67_1), (2, r86_0), (0, (p86_1 + 1))]) gz_67_240 rfl gm_67 rfl rfl rfl ⟨by omega, by omega⟩ ?_
              refine w_goto (t := 86) gz_67_243 rfl ?_
              have ca : ∀ j : Int, h14 (x0 + 2) j = h86_0 (x0 + 2) j := fun j => ((my_fr.at frh14 (ix_8_2 t0) rfl).trans (rfl : h86_0 (x0 + 2) j = h86_0 (x0 + 2) j))
              have ce17 : h14 x0 0 = h86_0 x0 0 := ((my_fr.at frh14 t0 rfl).trans (rfl : h86_0 x0 0 = h86_0 x0 0))
              exact ih_86_0 (r86_0) ((p86_1 + 1)) h14 (gh14) (gxh14) tr86_0_86_0 (by omega) (by omega) (by omega) (by omega) (by omega) Ln_h14 Td_h14 (by first | exact Sc_cg ca sc3 | exact Sc_cg ca sc2_86_0 | exact Sc_cg ca sc2_67_0) (by first | assumption | omega | (subst_vars; omega)) (by first | assumption | omega | (subst_vars; omega)) (by first | assumption | omega | (subst_vars; omega)) (by first | omega | (rw [ca]; omega)) (by first | (rw [gs]; omega) | (show _ = ln_s h _; rw [show r86_0 = h 27 (h14 (x0 + 2) p67_1) by omega]; have := cl_67_0 (by omega); omega)) (by omega) (by omega)
            ·
              by_cases u18 : v9 = 4
              ·
                refine w_tswE (t := 157) gz_67_104 u18 (by decide) (by decide) rfl rfl ?_
                have k4 : h (r86_0 + 1) p86_1 = 4 := by omega
                have k5 := qa.1 k4
                rw [k4, ln_st4] at gs
                refine w_aload_n gz_67_157 rfl ?_
                refine w_aload_n gz_67_158 rfl ?_
                refine w_aload gz_67_159 rfl ?_
                refine w_getX (v := (r86_0 + 3)) gz_67_161 tr86_0_86_0 rd_4 rfl (by decide) rfl ?_
                refine w_iload gz_67_164 rfl ?_
                refine w_iald gz_67_166 (ix_4_3 tr86_0_86_0) rd_34 (by omega) (by omega) (fun v20 ev20 pv20 qv20 => ?_)
                refine w_aload gz_67_167 rfl ?_
                refine w_getX (v := (r86_0 + 4)) gz_67_169 tr86_0_86_0 rd_4 rfl (by decide) rfl ?_
                refine w_iload gz_67_172 rfl ?_
                refine w_iald gz_67_174 (ix_4_4 tr86_0_86_0) rd_35 (by omega) (by omega) (fun v22 ev22 pv22 qv22 => ?_)
                refine w_aload gz_67_175 rfl ?_
                refine w_getX (v := (r86_0 + 2)) gz_67_177 tr86_0_86_0 rd_4 rfl (by decide) rfl ?_
                refine w_iload gz_67_180 rfl ?_
                refine w_iald gz_67_182 (ix_4_2 tr86_0_86_0) rd_33 (by omega) (by omega) (fun v24 ev24 pv24 qv24 => ?_)
                have hi25 : 0 ≤ v20 := by omega
                have hi26 : v20 ≤ 2 := by omega
                have hi27 : 1 ≤ v22 := by omega
                have hi28 : v22 ≤ 4 := by omega
                refine w_inv (k := 3) (as := [(0, v24), (0, v22), (0, v20), (2, x3)]) (r := []) (x := x0) (ls0 := [(2, x0), (2, x3), (0, v20), (0, v22), (0, v24), (9, 0), (9, 0), (9, 0)]) gz_67_183 gm_73 rfl t0 rd_8 rfl rfl rfl rfl rfl (c_View_join (d := d) (x0 := x0) (x1 := x3) (x2 := v20) (x3 := v22) (x4 := v24) t0 t3 (by omega) (by omega) (by omega) (by omega) (by omega) (by omega) (by omega) (by omega) (by omega) (by omega) (by omega) (by omega) (by first | assumption | omega | (subst_vars; omega)) (fun h29 frh29 fxh29 xp30 xp31 => ?_))
                have gh29 : my_fr [(8, 0), (8, 1), (42, -1), (43, -1), (44, -1)] h h29 := my_fr.tr gh_86_0 (frh29.mo rfl)
                have gxh29 : my_fx x0 3 h h29 := my_fx.tr gx_86_0 fxh29
                have Ln_h29 : Ln h29 := Ln_ag (my_ag.fr frh29 rfl) n_Ln_86_0
                have Td_h29 : Td h29 x2 := Td_ag (my_ag.fr frh29 rfl) n_Ln_86_0 n_Td_86_0
                show wp l rho (d + 3) 67 186 [(2, x0), (2, 27), (0, x2), (2, x3), (0, p67_0), (0, p67_1), (2, r86_0), (0, p86_1)] [] h29 Q
                refine w_goto (t := 240) gz_67_186 rfl ?_
                refine w_iinc (ls' := [(2, x0), (2, 27), (0, x2), (2, x3), (0, p67_0), (0, p67_1), (2, r86_0), (0, (p86_1 + 1))]) gz_67_240 rfl gm_67 rfl rfl rfl ⟨by omega, by omega⟩ ?_
                refine w_goto (t := 86) gz_67_243 rfl ?_
                have ca : ∀ j : Int, h29 (x0 + 2) j = h86_0 (x0 + 2) j := fun j => ((my_fr.at frh29 (ix_8_2 t0) rfl).trans (rfl : h86_0 (x0 + 2) j = h86_0 (x0 + 2) j))
                exact ih_86_0 (r86_0) ((p86_1 + 1)) h29 (gh29) (gxh29) tr86_0_86_0 (by omega) (by omega) (by omega) (by omega) (by omega) Ln_h29 Td_h29 (by first | exact Sc_cg ca sc3 | exact Sc_cg ca sc2_86_0 | exact Sc_cg ca sc2_67_0) (by first | assumption | omega | (subst_vars; omega)) (by first | assumption | omega | (subst_vars; omega)) (by first | assumption | omega | (subst_vars; omega)) (by first | omega | (rw [ca]; omega)) (by first | (rw [gs]; omega) | (show _ = ln_s h _; rw [show r86_0 = h 27 (h29 (x0 + 2) p67_1) by omega]; have := cl_67_0 (by omega); omega)) (by omega) (by omega)
              ·
                by_cases u32 : v9 = 5
                ·
                  refine w_tswE (t := 189) gz_67_104 u32 (by decide) (by decide) rfl rfl ?_
                  have k4 : h (r86_0 + 1) p86_1 = 5 := by omega
                  have k5 := qa.2 k4
                  rw [k4, ln_st5] at gs
                  refine w_aload_n gz_67_189 rfl ?_
                  refine w_aload gz_67_190 rfl ?_
                  refine w_getX (v := (r86_0 + 2)) gz_67_192 tr86_0_86_0 rd_4 rfl (by decide) rfl ?_
                  refine w_iload gz_67_195 rfl ?_
                  refine w_iald gz_67_197 (ix_4_2 tr86_0_86_0) rd_33 (by omega) (by omega) (fun v34 ev34 pv34 qv34 => ?_)
                  refine w_aload gz_67_198 rfl ?_
                  refine w_getX (v := (r86_0 + 3)) gz_67_200 tr86_0_86_0 rd_4 rfl (by decide) rfl ?_
                  refine w_iload gz_67_203 rfl ?_
                  refine w_iald gz_67_205 (ix_4_3 tr86_0_86_0) rd_34 (by omega) (by omega) (fun v36 ev36 pv36 qv36 => ?_)
                  have hi37 : 0 ≤ v36 := by omega
                  have hi38 : v36 ≤ 7 := by omega
                  refine w_inv (k := 6) (as := [(0, v36), (0, v34)]) (r := []) (x := x0) (ls0 := [(2, x0), (0, v34), (0, v36), (9, 0), (9, 0), (9, 0), (9, 0), (9, 0), (9, 0)]) gz_67_206 gm_76 rfl t0 rd_8 rfl rfl rfl rfl rfl (c_View_sum (d := (d + 1)) (x0 := x0) (x1 := v34) (x2 := v36) t0 (by omega) (by omega) (by omega) (by omega) (by omega) (by omega) (by omega) (by omega) (fun h39 frh39 fxh39 w40 xp41 xp42 => ?_))
                  have gh39 : my_fr [(8, 0), (8, 1), (42, -1), (43, -1), (44, -1)] h h39 := my_fr.tr gh_86_0 (frh39.mo rfl)
                  have gxh39 : my_fx x0 3 h h39 := my_fx.tr gx_86_0 fxh39
                  have Ln_h39 : Ln h39 := Ln_ag (my_ag.fr frh39 rfl) n_Ln_86_0
                  have Td_h39 : Td h39 x2 := Td_ag (my_ag.fr frh39 rfl) n_Ln_86_0 n_Td_86_0
                  show wp l rho (d + 3) 67 209 [(2, x0), (2, 27), (0, x2), (2, x3), (0, p67_0), (0, p67_1), (2, r86_0), (0, p86_1)] [] h39 Q
                  refine w_goto (t := 240) gz_67_209 rfl ?_
                  refine w_iinc (ls' := [(2, x0), (2, 27), (0, x2), (2, x3), (0, p67_0), (0, p67_1), (2, r86_0), (0, (p86_1 + 1))]) gz_67_240 rfl gm_67 rfl rfl rfl ⟨by omega, by omega⟩ ?_
                  refine w_goto (t := 86) gz_67_243 rfl ?_
                  have ca : ∀ j : Int, h39 (x0 + 2) j = h86_0 (x0 + 2) j := fun j => ((my_fr.at frh39 (ix_8_2 t0) rfl).trans (rfl : h86_0 (x0 + 2) j = h86_0 (x0 + 2) j))
                  have ce43 : h39 x0 1 = 2 := w40
                  exact ih_86_0 (r86_0) ((p86_1 + 1)) h39 (gh39) (gxh39) tr86_0_86_0 (by omega) (by omega) (by omega) (by omega) (by omega) Ln_h39 Td_h39 (by first | exact Sc_cg ca sc3 | exact Sc_cg ca sc2_86_0 | exact Sc_cg ca sc2_67_0) (by first | assumption | omega | (subst_vars; omega)) (by first | assumption | omega | (subst_vars; omega)) (by first | assumption | omega | (subst_vars; omega)) (by first | omega | (rw [ca]; omega)) (by first | (rw [gs]; omega) | (show _ = ln_s h _; rw [show r86_0 = h 27 (h39 (x0 + 2) p67_1) by omega]; have := cl_67_0 (by omega); omega)) (by omega) (by omega)
                ·
                  refine w_tswD (t := 212) gz_67_104 (by omega) rfl ?_
                  rw [ln_stN (by omega) (by omega) (by omega)] at gs
                  refine w_aload_n gz_67_212 rfl ?_
                  refine w_aload gz_67_213 rfl ?_
                  refine w_getX (v := (r86_0 + 1)) gz_67_215 tr86_0_86_0 rd_4 rfl (by decide) rfl ?_
                  refine w_iload gz_67_218 rfl ?_
                  refine w_iald gz_67_220 (ix_4_1 tr86_0_86_0) rd_32 (by omega) (by omega) (fun v45 ev45 pv45 qv45 => ?_)
                  have zv45 := ev45.trans ev9.symm
                  refine w_aload gz_67_221 rfl ?_
                  refine w_getX (v := (r86_0 + 2)) gz_67_223 tr86_0_86_0 rd_4 rfl (by decide) rfl ?_
                  refine w_iload gz_67_226 rfl ?_
                  refine w_iald gz_67_228 (ix_4_2 tr86_0_86_0) rd_33 (by omega) (by omega) (fun v47 ev47 pv47 qv47 => ?_)
                  refine w_aload gz_67_229 rfl ?_
                  refine w_getX (v := (r86_0 + 3)) gz_67_231 tr86_0_86_0 rd_4 rfl (by decide) rfl ?_
                  refine w_iload gz_67_234 rfl ?_
                  refine w_iald gz_67_236 (ix_4_3 tr86_0_86_0) rd_34 (by omega) (by omega) (fun v49 ev49 pv49 qv49 => ?_)
                  refine w_inv (k := 2) (as := [(0, v49), (0, v47), (0, v45)]) (r := []) (x := x0) (ls0 := [(2, x0), (0, v45), (0, v47), (0, v49), (9, 0), (9, 0)]) gz_67_237 gm_77 rfl t0 rd_8 rfl rfl rfl rfl rfl (c_View_cut (d := d) (x0 := x0) (x1 := v45) (x2 := v47) (x3 := v49) t0 (by omega) (by omega) (by omega) (by omega) (by omega) (by omega) (by omega) (by omega) (by omega) (by omega) (fun h50 frh50 fxh50 xp51 xp52 => ?_))
                  have gh50 : my_fr [(8, 0), (8, 1), (42, -1), (43, -1), (44, -1)] h h50 := my_fr.tr gh_86_0 (frh50.mo rfl)
                  have gxh50 : my_fx x0 3 h h50 := my_fx.tr gx_86_0 fxh50
                  have Ln_h50 : Ln h50 := Ln_ag (my_ag.fr frh50 rfl) n_Ln_86_0
                  have Td_h50 : Td h50 x2 := Td_ag (my_ag.fr frh50 rfl) n_Ln_86_0 n_Td_86_0
                  show wp l rho (d + 3) 67 240 [(2, x0), (2, 27), (0, x2), (2, x3), (0, p67_0), (0, p67_1), (2, r86_0), (0, p86_1)] [] h50 Q
                  refine w_iinc (ls' := [(2, x0), (2, 27), (0, x2), (2, x3), (0, p67_0), (0, p67_1), (2, r86_0), (0, (p86_1 + 1))]) gz_67_240 rfl gm_67 rfl rfl rfl ⟨by omega, by omega⟩ ?_
                  refine w_goto (t := 86) gz_67_243 rfl ?_
                  have ca : ∀ j : Int, h50 (x0 + 2) j = h86_0 (x0 + 2) j := fun j => ((my_fr.at frh50 (ix_8_2 t0) rfl).trans (rfl : h86_0 (x0 + 2) j = h86_0 (x0 + 2) j))
                  have ce53 : h50 x0 1 = h86_0 x0 1 := ((my_fr.at frh50 t0 rfl).trans (rfl : h86_0 x0 1 = h86_0 x0 1))
                  exact ih_86_0 (r86_0) ((p86_1 + 1)) h50 (gh50) (gxh50) tr86_0_86_0 (by omega) (by omega) (by omega) (by omega) (by omega) Ln_h50 Td_h50 (by first | exact Sc_cg ca sc3 | exact Sc_cg ca sc2_86_0 | exact Sc_cg ca sc2_67_0) (by first | assumption | omega | (subst_vars; omega)) (by first | assumption | omega | (subst_vars; omega)) (by first | assumption | omega | (subst_vars; omega)) (by first | omega | (rw [ca]; omega)) (by first | (rw [gs]; omega) | (show _ = ln_s h _; rw [show r86_0 = h 27 (h50 (x0 + 2) p67_1) by omega]; have := cl_67_0 (by omega); omega)) (by omega) (by omega)
      refine w_iload gz_67_67 rfl ?_
      refine w_iflt (t := 256) gz_67_69 rfl (fun u54 => ?_) (fun u54 => ?_)
      ·
        refine w_aload_n gz_67_256 rfl ?_
        exact w_aret gz_67_257 gm_67 (k0 h67_0 (x0) (gh_67_0) (gx_67_0) t0 (by first | assumption | omega | (subst_vars; omega)))
      ·
        refine w_aload_n gz_67_72 rfl ?_
        refine w_aload_n gz_67_73 rfl ?_
        refine w_getX (v := (x0 + 2)) gz_67_74 t0 rd_8 rfl (by decide) rfl ?_
        refine w_iload gz_67_77 rfl ?_
        refine w_iald gz_67_79 (ix_8_2 t0) rd_43 (by omega) (by omega) (fun v56 ev56 pv56 qv56 => ?_)
        refine w_aald gz_67_80 is_27 rd_22 rfl (by omega) (by omega) (fun v57 ev57 tv57 => ?_)
        refine w_astore (ls' := [(2, x0), (2, 27), (0, x2), (2, x3), (0, p67_0), (0, p67_1), (2, v57), (9, 0)]) gz_67_81 gm_67 rfl rfl rfl ?_
        have d27 : h67_0 27 (h67_0 (x0 + 2) p67_1) = h 27 (h67_0 (x0 + 2) p67_1) := my_fr.at gh_67_0 is_27 rfl
        have dv : v57 = h 27 (h67_0 (x0 + 2) p67_1) := by subst_vars; omega
        refine v_know (b := 9) (j := 9) rfl tv57 rd_4 rfl (fun y9 ey9 py9 qy9 => ?_)
        have dw : h67_0 v57 9 = h v57 9 := my_fr.at gh_67_0 tv57 rfl
        refine w_iconst gz_67_83 (by decide) ?_
        refine w_istore (ls' := [(2, x0), (2, 27), (0, x2), (2, x3), (0, p67_0), (0, p67_1), (2, v57), (0, 0)]) gz_67_84 gm_67 rfl rfl rfl ?_
        have ca : ∀ j : Int, h67_0 (x0 + 2) j = h67_0 (x0 + 2) j := fun _ => rfl
        exact J86_0 7 (v57) (0) h67_0 (gh_67_0) (gx_67_0) tv57 (by omega) (by omega) (by omega) (by omega) (by omega) n_Ln_67_0 n_Td_67_0 (by first | exact Sc_cg ca sc3 | exact Sc_cg ca sc2_86_0 | exact Sc_cg ca sc2_67_0) (by first | assumption | omega | (subst_vars; omega)) (by first | assumption | omega | (subst_vars; omega)) (by first | assumption | omega | (subst_vars; omega)) (by first | omega | (rw [ca]; omega)) (by first | (rw [gs]; omega) | (show _ = ln_s h _; rw [show v57 = h 27 (h67_0 (x0 + 2) p67_1) by omega]; have := cl_67_0 (by omega); omega)) (by omega) (by omega)
  have J6_0 : ∀ (n : Nat) (p6_0 p6_1 : Int) (h6_0 : my_H), my_fr [(8, 0), (8, 1), (42, -1), (43, -1), (44, -1)] h h6_0 → my_fx x0 3 h h6_0 → 0 ≤ p6_0 → p6_0 ≤ 6 → (-1) ≤ p6_1 → p6_1 ≤ 5 → Ln h6_0 → Td h6_0 x2 → Sc h h6_0 (x0 + 2) p6_0 p6_1 x2 → 7 - p6_0 ≤ (n : Int) → wp l rho (d + 3) 67 6 [(2, x0), (2, 27), (0, x2), (2, x3), (0, p6_0), (0, p6_1), (9, 0), (9, 0)] [] h6_0 Q := by
    intro n
    induction n with
    | zero => intro p6_0 p6_1 h6_0 gh_6_0 gx_6_0 q0_6_0 q1_6_0 q2_6_0 q3_6_0 n_Ln_6_0 n_Td_6_0 sc_6_0 hm_6_0; exfalso; omega
    | succ n ih_6_0 =>
      intro p6_0 p6_1 h6_0 gh_6_0 gx_6_0 q0_6_0 q1_6_0 q2_6_0 q3_6_0 n_Ln_6_0 n_Td_6_0 sc_6_0 hm_6_0
      refine w_iload gz_67_6 rfl ?_
      refine w_iconst gz_67_8 (by decide) ?_
      refine w_iceq (t := 43) gz_67_9 rfl (fun u58 => ?_) (fun u58 => ?_)
      ·
        have ew : p6_1 = -1 := by have := sc_6_0.1; omega
        have sc3 : Sc h h6_0 (x0 + 2) p6_0 (-1) x2 := by have q := sc_6_0; rw [ew] at q; exact q
        have dp : 0 < p6_0 := by have := sc3.2.2.2; omega
        have b27 : h6_0 27 x2 = h 27 x2 := my_fr.at gh_6_0 is_27 rfl
        refine w_aload_n gz_67_43 rfl ?_
        refine w_aload_n gz_67_44 rfl ?_
        refine w_aload_n gz_67_45 rfl ?_
        refine w_iload_n gz_67_46 rfl ?_
        refine w_aald gz_67_47 is_27 rd_22 rfl (by omega) (by omega) (fun v59 ev59 tv59 => ?_)
        refine v_getI (j := 2) gz_67_48 rfl tv59 rd_4 rfl (fun v60 ev60 pv60 qv60 => ?_)
        refine w_aload_n gz_67_51 rfl ?_
        refine w_iload_n gz_67_52 rfl ?_
        refine w_aald gz_67_53 is_27 rd_22 rfl (by omega) (by omega) (fun v61 ev61 tv61 => ?_)
        have zv61 : v59 = v61 := (ev61.trans ev59.symm).symm
        subst zv61
        have b3 : h6_0 v59 3 = h v59 3 := my_fr.at gh_6_0 tv59 rfl
        have b4 : v59 = h 27 x2 := by omega
        refine v_getI (j := 3) gz_67_54 rfl tv59 rd_4 rfl (fun v62 ev62 pv62 qv62 => ?_)
        have b5 : v62 = h (h 27 x2) 3 := by rw [← b4]; omega
        refine w_iconst gz_67_57 (by decide) ?_
        refine w_inv (k := 2) (as := [(0, (-1)), (0, v62), (0, v60), (2, x3)]) (r := []) (x := x0) (ls0 := [(2, x0), (2, x3), (0, v60), (0, v62), (0, (-1)), (9, 0), (9, 0)]) gz_67_58 gm_68 rfl t0 rd_8 rfl rfl rfl rfl rfl (c_View_load (d := (d + 1)) (x0 := x0) (x1 := x3) (x2 := v60) (x3 := v62) (x4 := (-1)) t0 t3 (by omega) (by omega) (by omega) (by omega) (by omega) (by omega) (by omega) (by omega) (fun h63 frh63 fxh63 w64 w65 w66 w67 xp68 xp69 => ?_))
        have gh63 : my_fr [(8, 0), (8, 1), (42, -1), (43, -1), (44, -1)] h h63 := my_fr.tr gh_6_0 (frh63.mo rfl)
        have gxh63 : my_fx x0 3 h h63 := my_fx.tr gx_6_0 fxh63
        have Ln_h63 : Ln h63 := Ln_ag (my_ag.fr frh63 rfl) n_Ln_6_0
        have Td_h63 : Td h63 x2 := Td_ag (my_ag.fr frh63 rfl) n_Ln_6_0 n_Td_6_0
        show wp l rho (d + 3) 67 61 [(2, x0), (2, 27), (0, x2), (2, x3), (0, p6_0), (0, p6_1), (9, 0), (9, 0)] [] h63 Q
        refine w_iload gz_67_61 rfl ?_
        refine w_iconst gz_67_63 (by decide) ?_
        refine w_isub gz_67_64 ⟨by omega, by omega⟩ ?_
        refine w_istore (ls' := [(2, x0), (2, 27), (0, x2), (2, x3), (0, p6_0), (0, (p6_0 - 1)), (9, 0), (9, 0)]) gz_67_65 gm_67 rfl rfl rfl ?_
        have ca : ∀ j : Int, h63 (x0 + 2) j = h6_0 (x0 + 2) j := fun j => ((my_fr.at frh63 (ix_8_2 t0) rfl).trans (rfl : h6_0 (x0 + 2) j = h6_0 (x0 + 2) j))
        have ce70 : h63 x0 0 = (h63 x0 0) := (rfl : h63 x0 0 = h63 x0 0)
        have ce71 : h63 x0 1 = (h63 x0 1) := (rfl : h63 x0 1 = h63 x0 1)
        exact J67_0 (7) (p6_0) ((p6_0 - 1)) h63 (gh63) (gxh63) (by omega) (by omega) (by omega) (by omega) (by omega) Ln_h63 Td_h63 (by first | exact Sc_cg ca sc3 | exact Sc_cg ca sc2_86_0 | exact Sc_cg ca sc2_67_0) (by first | assumption | omega | (subst_vars; omega)) (by first | assumption | omega | (subst_vars; omega)) (by first | (intro _; rw [ca, Sc_bot sc3 dp]; omega) | (intro q; rw [ca, Sc_up sc2_86_0 q (by omega), show (p6_0 - 1) + 1 = p67_1 by omega, ← lr_86_0]; omega)) (by first | assumption | omega | (subst_vars; omega)) (by omega)
      ·
        refine w_iload gz_67_12 rfl ?_
        refine w_bipush gz_67_14 (by decide) ?_
        refine w_icge (t := 43) gz_67_16 rfl (fun u72 => ?_) (fun u72 => ?_)
        ·
          have ew : p6_1 = -1 := by have := sc_6_0.1; omega
          have sc3 : Sc h h6_0 (x0 + 2) p6_0 (-1) x2 := by have q := sc_6_0; rw [ew] at q; exact q
          have dp : 0 < p6_0 := by have := sc3.2.2.2; omega
          have b27 : h6_0 27 x2 = h 27 x2 := my_fr.at gh_6_0 is_27 rfl
          refine w_aload_n gz_67_43 rfl ?_
          refine w_aload_n gz_67_44 rfl ?_
          refine w_aload_n gz_67_45 rfl ?_
          refine w_iload_n gz_67_46 rfl ?_
          refine w_aald gz_67_47 is_27 rd_22 rfl (by omega) (by omega) (fun v73 ev73 tv73 => ?_)
          refine v_getI (j := 2) gz_67_48 rfl tv73 rd_4 rfl (fun v74 ev74 pv74 qv74 => ?_)
          refine w_aload_n gz_67_51 rfl ?_
          refine w_iload_n gz_67_52 rfl ?_
          refine w_aald gz_67_53 is_27 rd_22 rfl (by omega) (by omega) (fun v75 ev75 tv75 => ?_)
          have zv75 : v73 = v75 := (ev75.trans ev73.symm).symm
          subst zv75
          have b3 : h6_0 v73 3 = h v73 3 := my_fr.at gh_6_0 tv73 rfl
          have b4 : v73 = h 27 x2 := by omega
          refine v_getI (j := 3) gz_67_54 rfl tv73 rd_4 rfl (fun v76 ev76 pv76 qv76 => ?_)
          have b5 : v76 = h (h 27 x2) 3 := by rw [← b4]; omega
          refine w_iconst gz_67_57 (by decide) ?_
          refine w_inv (k := 2) (as := [(0, (-1)), (0, v76), (0, v74), (2, x3)]) (r := []) (x := x0) (ls0 := [(2, x0), (2, x3), (0, v74), (0, v76), (0, (-1)), (9, 0), (9, 0)]) gz_67_58 gm_68 rfl t0 rd_8 rfl rfl rfl rfl rfl (c_View_load (d := (d + 1)) (x0 := x0) (x1 := x3) (x2 := v74) (x3 := v76) (x4 := (-1)) t0 t3 (by omega) (by omega) (by omega) (by omega) (by omega) (by omega) (by omega) (by omega) (fun h77 frh77 fxh77 w78 w79 w80 w81 xp82 xp83 => ?_))
          have gh77 : my_fr [(8, 0), (8, 1), (42, -1), (43, -1), (44, -1)] h h77 := my_fr.tr gh_6_0 (frh77.mo rfl)
          have gxh77 : my_fx x0 3 h h77 := my_fx.tr gx_6_0 fxh77
          have Ln_h77 : Ln h77 := Ln_ag (my_ag.fr frh77 rfl) n_Ln_6_0
          have Td_h77 : Td h77 x2 := Td_ag (my_ag.fr frh77 rfl) n_Ln_6_0 n_Td_6_0
          show wp l rho (d + 3) 67 61 [(2, x0), (2, 27), (0, x2), (2, x3), (0, p6_0), (0, p6_1), (9, 0), (9, 0)] [] h77 Q
          refine w_iload gz_67_61 rfl ?_
          refine w_iconst gz_67_63 (by decide) ?_
          refine w_isub gz_67_64 ⟨by omega, by omega⟩ ?_
          refine w_istore (ls' := [(2, x0), (2, 27), (0, x2), (2, x3), (0, p6_0), (0, (p6_0 - 1)), (9, 0), (9, 0)]) gz_67_65 gm_67 rfl rfl rfl ?_
          have ca : ∀ j : Int, h77 (x0 + 2) j = h6_0 (x0 + 2) j := fun j => ((my_fr.at frh77 (ix_8_2 t0) rfl).trans (rfl : h6_0 (x0 + 2) j = h6_0 (x0 + 2) j))
          have ce84 : h77 x0 0 = (h77 x0 0) := (rfl : h77 x0 0 = h77 x0 0)
          have ce85 : h77 x0 1 = (h77 x0 1) := (rfl : h77 x0 1 = h77 x0 1)
          exact J67_0 (7) (p6_0) ((p6_0 - 1)) h77 (gh77) (gxh77) (by omega) (by omega) (by omega) (by omega) (by omega) Ln_h77 Td_h77 (by first | exact Sc_cg ca sc3 | exact Sc_cg ca sc2_86_0 | exact Sc_cg ca sc2_67_0) (by first | assumption | omega | (subst_vars; omega)) (by first | assumption | omega | (subst_vars; omega)) (by first | (intro _; rw [ca, Sc_bot sc3 dp]; omega) | (intro q; rw [ca, Sc_up sc2_86_0 q (by omega), show (p6_0 - 1) + 1 = p67_1 by omega, ← lr_86_0]; omega)) (by first | assumption | omega | (subst_vars; omega)) (by omega)
        ·
          refine w_aload_n gz_67_19 rfl ?_
          refine w_getX (v := (x0 + 2)) gz_67_20 t0 rd_8 rfl (by decide) rfl ?_
          refine w_iload gz_67_23 rfl ?_
          refine w_iinc (ls' := [(2, x0), (2, 27), (0, x2), (2, x3), (0, (p6_0 + 1)), (0, p6_1), (9, 0), (9, 0)]) gz_67_25 rfl gm_67 rfl rfl rfl ⟨by omega, by omega⟩ ?_
          refine w_iload gz_67_28 rfl ?_
          refine w_iast gz_67_30 (ix_8_2 t0) rd_43 (by omega) (by omega) (by omega) (by omega) (fun h87 fh87 => ?_)
          have gh87 : my_fr [(8, 0), (8, 1), (42, -1), (43, -1), (44, -1)] h h87 := my_fr.up gh_6_0 (ix_8_2 t0) fh87 rfl
          have gxh87 : my_fx x0 3 h h87 := my_fx.up gx_6_0 fh87 (by omega)
          have Ln_h87 : Ln h87 := Ln_ag (my_ag.up fh87 (ix_8_2 t0) rfl) n_Ln_6_0
          have Td_h87 : Td h87 x2 := Td_ag (my_ag.up fh87 (ix_8_2 t0) rfl) n_Ln_6_0 n_Td_6_0
          refine w_aload_n gz_67_31 rfl ?_
          refine w_iload gz_67_32 rfl ?_
          refine w_aald gz_67_34 is_27 rd_22 rfl (by omega) (by omega) (fun v88 ev88 tv88 => ?_)
          have a27 : h87 27 p6_1 = h 27 p6_1 := my_fr.at gh87 is_27 rfl
          have a1 : h87 v88 1 = h v88 1 := my_fr.at gh87 tv88 rfl
          have a3 : v88 = h 27 p6_1 := by omega
          refine v_getI (j := 1) gz_67_35 rfl tv88 rd_4 rfl (fun v89 ev89 pv89 qv89 => ?_)
          have a4 : v89 = h (h 27 p6_1) 1 := by rw [← a3]; omega
          refine w_istore (ls' := [(2, x0), (2, 27), (0, x2), (2, x3), (0, (p6_0 + 1)), (0, v89), (9, 0), (9, 0)]) gz_67_38 gm_67 rfl rfl rfl ?_
          refine w_goto (t := 6) gz_67_40 rfl ?_
          exact ih_6_0 ((p6_0 + 1)) (v89) h87 (gh87) (gxh87) (by omega) (by omega) (by omega) (by omega) Ln_h87 Td_h87 (by first | exact Sc_0 htold (by omega) (by omega) | (rw [a4]; exact Sc_s sc_6_0 (by omega) (by omega) n_Ln fh87)) (by omega)
  refine w_iconst gz_67_0 (by decide) ?_
  refine w_istore (ls' := [(2, x0), (2, 27), (0, x2), (2, x3), (0, 0), (9, 0), (9, 0), (9, 0)]) gz_67_1 gm_67 rfl rfl rfl ?_
  refine w_iload_n gz_67_3 rfl ?_
  refine w_istore (ls' := [(2, x0), (2, 27), (0, x2), (2, x3), (0, 0), (0, x2), (9, 0), (9, 0)]) gz_67_4 gm_67 rfl rfl rfl ?_
  exact J6_0 7 (0) (x2) h (my_fr.rf) (my_fx.rf) (by omega) (by omega) (by omega) (by omega) n_Ln n_Td (by first | exact Sc_0 htold (by omega) (by omega) | (rw [a4]; exact Sc_s sc_6_0 (by omega) (by omega) n_Ln )) (by omega)
theorem c_Desk_tryOtherValues {l : Launch} {rho : Nat → Int32} {d : Nat} {h : my_H} {Q : my_H → my_V → Prop} {x1 x2 : Int} (a1 : 0 ≤ x1) (b1 : x1 ≤ 5) (n_Lst : Lst h) (n_Ln : Ln h) (n_Td : Td h x1) (k0 : ∀ (h' : my_H), my_fr [(2, 11), (7, 0), (7, 1), (7, 2), (7, 3), (7, 4), (7, 5), (8, 0), (8, 1), (30, -1), (42, -1), (43, -1), (44, -1)] h h' → Lst h' → Q h' (9, 0)) : wp l rho (d + 4) 98 0 [(2, 94), (0, x1), (1, x2), (9, 0), (9, 0), (9, 0), (9, 0), (9, 0), (9, 0), (9, 0)] [] h Q := by
  have J18_0 : ∀ (n : Nat) (z18_l2 r18_0 p18_1 p18_2 : Int) (h18_0 : my_H), my_fr [(2, 11), (7, 0), (7, 1), (7, 2), (7, 3), (7, 4), (7, 5), (8, 0), (8, 1), (30, -1), (42, -1), (43, -1), (44, -1)] h h18_0 → my_is 4 r18_0 → 0 ≤ p18_2 → p18_2 ≤ 240 → Lst h18_0 → Ln h18_0 → Td h18_0 x1 → 241 - p18_2 ≤ (n : Int) → wp l rho (d + 4) 98 18 [(2, 94), (0, x1), (1, z18_l2), (9, 0), (2, r18_0), (0, p18_1), (0, p18_2), (9, 0), (9, 0), (9, 0)] [] h18_0 Q := by
    intro n
    induction n with
    | zero => intro z18_l2 r18_0 p18_1 p18_2 h18_0 gh_18_0 tr18_0_18_0 q0_18_0 q1_18_0 n_Lst_18_0 n_Ln_18_0 n_Td_18_0 hm_18_0; exfalso; omega
    | succ n ih_18_0 =>
      intro z18_l2 r18_0 p18_1 p18_2 h18_0 gh_18_0 tr18_0_18_0 q0_18_0 q1_18_0 n_Lst_18_0 n_Ln_18_0 n_Td_18_0 hm_18_0
      have J308_2 : ∀ (z308_l2 p308_0 p308_1 p308_2 p308_3 : Int) (h308_2 : my_H), my_fr [(2, 11), (7, 0), (7, 1), (7, 2), (7, 3), (7, 4), (7, 5), (8, 0), (8, 1), (30, -1), (42, -1), (43, -1), (44, -1)] h h308_2 → p18_2 ≤ 239 → 0 ≤ p308_0 → p308_0 ≤ 1 → (-1) ≤ p308_1 → p308_1 ≤ 19 → 0 ≤ p308_2 → p308_2 ≤ 20 → 0 ≤ p308_3 → p308_3 ≤ 1 → h308_2 94 13 = p308_3 → Lst h308_2 → Ln h308_2 → Td h308_2 x1 → wp l rho (d + 4) 98 308 [(2, 94), (0, x1), (1, z308_l2), (9, 0), (2, r18_0), (0, p18_1), (0, p18_2), (0, p308_0), (0, p308_1), (0, p308_2)] [] h308_2 Q := by
        intro z308_l2 p308_0 p308_1 p308_2 p308_3 h308_2 gh_308_2 q0_308_2 q1_308_2 q2_308_2 q3_308_2 q4_308_2 q5_308_2 q6_308_2 q7_308_2 q8_308_2 c94_13_308_2 n_Lst_308_2 n_Ln_308_2 n_Td_308_2
        refine w_iinc (ls' := [(2, 94), (0, x1), (1, z308_l2), (9, 0), (2, r18_0), (0, p18_1), (0, (p18_2 + 1)), (0, p308_0), (0, p308_1), (0, p308_2)]) gz_98_308 rfl gm_98 rfl rfl rfl ⟨by omega, by omega⟩ ?_
        refine w_goto (t := 18) gz_98_311 rfl ?_
        refine w_weak (ls' := [(2, 94), (0, x1), (1, z308_l2), (9, 0), (2, r18_0), (0, p18_1), (0, (p18_2 + 1)), (9, 0), (9, 0), (9, 0)]) (wk_e (wk_e (wk_e (wk_9 (wk_e (wk_e (wk_e (wk_9 (wk_9 (wk_9 wk_n)))))))))) ?_
        exact ih_18_0 (z308_l2) (r18_0) (p18_1) ((p18_2 + 1)) h308_2 (gh_308_2) tr18_0_18_0 (by omega) (by omega) n_Lst_308_2 n_Ln_308_2 n_Td_308_2 (by omega)
      have J308_1 : ∀ (z308_l2 p308_0 p308_1 p308_2 p308_3 : Int) (h308_1 : my_H), my_fr [(2, 11), (7, 0), (7, 1), (7, 2), (7, 3), (7, 4), (7, 5), (8, 0), (8, 1), (30, -1), (42, -1), (43, -1), (44, -1)] h h308_1 → p18_2 ≤ 239 → 0 ≤ p308_3 → p308_3 ≤ 1 → 0 ≤ p308_0 → p308_0 ≤ 2 → 0 ≤ p308_1 → p308_1 ≤ 19 → 0 ≤ p308_2 → p308_2 ≤ 3 → h308_1 111 2 = p308_0 → h308_1 111 3 = p308_1 → h308_1 111 4 = p308_2 → h308_1 94 13 = p308_3 → Lst h308_1 → Ln h308_1 → Td h308_1 x1 → wp l rho (d + 4) 98 308 [(2, 94), (0, x1), (1, z308_l2), (9, 0), (2, r18_0), (0, p18_1), (0, p18_2), (0, 1), (9, 0), (9, 0)] [] h308_1 Q := by
        intro z308_l2 p308_0 p308_1 p308_2 p308_3 h308_1 gh_308_1 q0_308_1 q1_308_1 q2_308_1 q3_308_1 q4_308_1 q5_308_1 q6_308_1 q7_308_1 q8_308_1 c111_2_308_1 c111_3_308_1 c111_4_308_1 c94_13_308_1 n_Lst_308_1 n_Ln_308_1 n_Td_308_1
        refine w_iinc (ls' := [(2, 94), (0, x1), (1, z308_l2), (9, 0), (2, r18_0), (0, p18_1), (0, (p18_2 + 1)), (0, 1), (9, 0), (9, 0)]) gz_98_308 rfl gm_98 rfl rfl rfl ⟨by omega, by omega⟩ ?_
        refine w_goto (t := 18) gz_98_311 rfl ?_
        refine w_weak (ls' := [(2, 94), (0, x1), (1, z308_l2), (9, 0), (2, r18_0), (0, p18_1), (0, (p18_2 + 1)), (9, 0), (9, 0), (9, 0)]) (wk_e (wk_e (wk_e (wk_9 (wk_e (wk_e (wk_e (wk_9 (wk_9 (wk_9 wk_n)))))))))) ?_
        exact ih_18_0 (z308_l2) (r18_0) (p18_1) ((p18_2 + 1)) h308_1 (gh_308_1) tr18_0_18_0 (by omega) (by omega) n_Lst_308_1 n_Ln_308_1 n_Td_308_1 (by omega)
      have J308_0 : ∀ (z308_l2 p308_0 p308_1 p308_2 p308_3 : Int) (h308_0 : my_H), my_fr [(2, 11), (7, 0), (7, 1), (7, 2), (7, 3), (7, 4), (7, 5), (8, 0), (8, 1), (30, -1), (42, -1), (43, -1), (44, -1)] h h308_0 → p18_2 ≤ 239 → 0 ≤ p308_3 → p308_3 ≤ 1 → 0 ≤ p308_0 → p308_0 ≤ 2 → 0 ≤ p308_1 → p308_1 ≤ 19 → 0 ≤ p308_2 → p308_2 ≤ 3 → h308_0 111 2 = p308_0 → h308_0 111 3 = p308_1 → h308_0 111 4 = p308_2 → h308_0 94 13 = p308_3 → Lst h308_0 → Ln h308_0 → Td h308_0 x1 → wp l rho (d + 4) 98 308 [(2, 94), (0, x1), (1, z308_l2), (9, 0), (2, r18_0), (0, p18_1), (0, p18_2), (0, 0), (9, 0), (9, 0)] [] h308_0 Q := by
        intro z308_l2 p308_0 p308_1 p308_2 p308_3 h308_0 gh_308_0 q0_308_0 q1_308_0 q2_308_0 q3_308_0 q4_308_0 q5_308_0 q6_308_0 q7_308_0 q8_308_0 c111_2_308_0 c111_3_308_0 c111_4_308_0 c94_13_308_0 n_Lst_308_0 n_Ln_308_0 n_Td_308_0
        refine w_iinc (ls' := [(2, 94), (0, x1), (1, z308_l2), (9, 0), (2, r18_0), (0, p18_1), (0, (p18_2 + 1)), (0, 0), (9, 0), (9, 0)]) gz_98_308 rfl gm_98 rfl rfl rfl ⟨by omega, by omega⟩ ?_
        refine w_goto (t := 18) gz_98_311 rfl ?_
        refine w_weak (ls' := [(2, 94), (0, x1), (1, z308_l2), (9, 0), (2, r18_0), (0, p18_1), (0, (p18_2 + 1)), (9, 0), (9, 0), (9, 0)]) (wk_e (wk_e (wk_e (wk_9 (wk_e (wk_e (wk_e (wk_9 (wk_9 (wk_9 wk_n)))))))))) ?_
        exact ih_18_0 (z308_l2) (r18_0) (p18_1) ((p18_2 + 1)) h308_0 (gh_308_0) tr18_0_18_0 (by omega) (by omega) n_Lst_308_0 n_Ln_308_0 n_Td_308_0 (by omega)
      have J174_0 : ∀ (n : Nat) (z174_l2 p174_0 p174_1 p174_2 p174_3 : Int) (h174_0 : my_H), my_fr [(2, 11), (7, 0), (7, 1), (7, 2), (7, 3), (7, 4), (7, 5), (8, 0), (8, 1), (30, -1), (42, -1), (43, -1), (44, -1)] h h174_0 → p18_2 ≤ 239 → 0 ≤ p174_0 → p174_0 ≤ 1 → (-1) ≤ p174_1 → p174_1 ≤ 19 → 0 ≤ p174_2 → p174_2 ≤ 20 → 0 ≤ p174_3 → p174_3 ≤ 1 → h174_0 94 13 = p174_3 → Lst h174_0 → Ln h174_0 → Td h174_0 x1 → 0 ≤ h174_0 111 2 → 0 ≤ h174_0 111 3 → 0 ≤ h174_0 111 4 → 21 - p174_2 ≤ (n : Int) → wp l rho (d + 4) 98 174 [(2, 94), (0, x1), (1, z174_l2), (9, 0), (2, r18_0), (0, p18_1), (0, p18_2), (0, p174_0), (0, p174_1), (0, p174_2)] [] h174_0 Q := by
        intro n
        induction n with
        | zero => intro z174_l2 p174_0 p174_1 p174_2 p174_3 h174_0 gh_174_0 q0_174_0 q1_174_0 q2_174_0 q3_174_0 q4_174_0 q5_174_0 q6_174_0 q7_174_0 q8_174_0 c94_13_174_0 n_Lst_174_0 n_Ln_174_0 n_Td_174_0 iw_174_0 ik_174_0 ic_174_0 hm_174_0; exfalso; omega
        | succ n ih_174_0 =>
          intro z174_l2 p174_0 p174_1 p174_2 p174_3 h174_0 gh_174_0 q0_174_0 q1_174_0 q2_174_0 q3_174_0 q4_174_0 q5_174_0 q6_174_0 q7_174_0 q8_174_0 c94_13_174_0 n_Lst_174_0 n_Ln_174_0 n_Td_174_0 iw_174_0 ik_174_0 ic_174_0 hm_174_0
          refine w_iload gz_98_174 rfl ?_
          refine w_bipush gz_98_176 (by decide) ?_
          refine w_icge (t := 296) gz_98_178 rfl (fun u1 => ?_) (fun u1 => ?_)
          ·
            refine w_aload_n gz_98_296 rfl ?_
            refine w_getX (v := 95) gz_98_297 is_94 rd_2 rfl (by decide) rfl ?_
            refine w_getX (v := 96) gz_98_300 is_95 rd_6 rfl (by decide) rfl ?_
            refine w_iload gz_98_303 rfl ?_
            refine w_iload gz_98_305 rfl ?_
            refine w_iast gz_98_307 is_96 rd_30 (by omega) (by omega) (by omega) (by omega) (fun h4 fh4 => ?_)
            have gh4 : my_fr [(2, 11), (7, 0), (7, 1), (7, 2), (7, 3), (7, 4), (7, 5), (8, 0), (8, 1), (30, -1), (42, -1), (43, -1), (44, -1)] h h4 := my_fr.up gh_174_0 is_96 fh4 rfl
            have Lst_h4 : Lst h4 := Lst_ag (my_ag.up fh4 is_96 rfl) n_Lst_174_0
            have Ln_h4 : Ln h4 := Ln_ag (my_ag.up fh4 is_96 rfl) n_Ln_174_0
            have Td_h4 : Td h4 x1 := Td_ag (my_ag.up fh4 is_96 rfl) n_Ln_174_0 n_Td_174_0
            exact J308_2 (z174_l2) (p174_0) (p174_1) (p174_2) (p174_3) h4 (gh4) (by omega) (by omega) (by omega) (by omega) (by omega) (by omega) (by omega) (by omega) (by omega) (((my_up_role fh4 is_94 is_96 rfl).trans c94_13_174_0).trans (by omega)) Lst_h4 Ln_h4 Td_h4
          ·
            refine w_aload_n gz_98_181 rfl ?_
            refine w_inv (k := 0) (as := []) (r := []) (x := 94) (ls0 := [(2, 94)]) gz_98_182 gm_100 rfl is_94 rd_2 rfl rfl rfl rfl rfl ?_
            refine w_aload_n gz_100_0 rfl ?_
            refine v_getI (j := 13) gz_100_1 rfl is_94 rd_2 rfl (fun v5 ev5 pv5 qv5 => ?_)
            have zv5 := ev5.trans c94_13_174_0
            refine w_ifeq (t := 33) gz_100_4 rfl (fun u6 => ?_) (fun u6 => ?_)
            ·
              refine w_iconst gz_100_33 (by decide) ?_
              refine w_bret gz_100_34 gm_100 (by omega) (by omega) ?_
              show wp l rho (d + 4) 98 185 [(2, 94), (0, x1), (1, z174_l2), (9, 0), (2, r18_0), (0, p18_1), (0, p18_2), (0, p174_0), (0, p174_1), (0, p174_2)] [(0, 0)] h174_0 Q
              refine w_ifne (t := 296) gz_98_185 rfl (fun u7 => by exfalso; omega) (fun u7 => ?_)
              refine w_iload gz_98_188 rfl ?_
              refine w_iload gz_98_190 rfl ?_
              refine w_iceq (t := 290) gz_98_192 rfl (fun u8 => ?_) (fun u8 => ?_)
              ·
                refine w_iinc (ls' := [(2, 94), (0, x1), (1, z174_l2), (9, 0), (2, r18_0), (0, p18_1), (0, p18_2), (0, p174_0), (0, p174_1), (0, (p174_2 + 1))]) gz_98_290 rfl gm_98 rfl rfl rfl ⟨by omega, by omega⟩ ?_
                refine w_goto (t := 174) gz_98_293 rfl ?_
                exact ih_174_0 (z174_l2) (p174_0) (p174_1) ((p174_2 + 1)) (v5) h174_0 (gh_174_0) (by omega) (by omega) (by omega) (by omega) (by omega) (by omega) (by omega) (by omega) (by omega) (ev5.symm.trans (by omega)) n_Lst_174_0 n_Ln_174_0 n_Td_174_0 (by first | assumption | omega | (subst_vars; omega)) (by first | assumption | omega | (subst_vars; omega)) (by first | assumption | omega | (subst_vars; omega)) (by omega)
              ·
                refine w_aload_n gz_98_195 rfl ?_
                refine w_getX (v := 1) gz_98_196 is_94 rd_2 rfl (by decide) rfl ?_
                refine w_aload_n gz_98_199 rfl ?_
                refine w_getX (v := 95) gz_98_200 is_94 rd_2 rfl (by decide) rfl ?_
                refine w_aload_n gz_98_203 rfl ?_
                refine w_getX (v := 111) gz_98_204 is_94 rd_2 rfl (by decide) rfl ?_
                refine v_getI (j := 2) gz_98_207 rfl is_111 rd_7 rfl (fun v12 ev12 pv12 qv12 => ?_)
                refine w_aload_n gz_98_210 rfl ?_
                refine w_getX (v := 111) gz_98_211 is_94 rd_2 rfl (by decide) rfl ?_
                refine v_getI (j := 3) gz_98_214 rfl is_111 rd_7 rfl (fun v14 ev14 pv14 qv14 => ?_)
                refine w_aload_n gz_98_217 rfl ?_
                refine w_getX (v := 111) gz_98_218 is_94 rd_2 rfl (by decide) rfl ?_
                refine v_getI (j := 4) gz_98_221 rfl is_111 rd_7 rfl (fun v16 ev16 pv16 qv16 => ?_)
                refine w_iload gz_98_224 rfl ?_
                have hi17 : 0 ≤ v12 := by omega
                have hi18 : v12 ≤ 2 := by omega
                have hi19 : 0 ≤ v14 := by omega
                have hi20 : v14 ≤ 19 := by omega
                have hi21 : 0 ≤ v16 := by omega
                have hi22 : v16 ≤ 3 := by omega
                refine w_inv (k := 1) (as := [(0, p174_2), (0, v16), (0, v14), (0, v12), (2, 95)]) (r := []) (x := 1) (ls0 := [(2, 1), (2, 95), (0, v12), (0, v14), (0, v16), (0, p174_2), (9, 0)]) gz_98_226 gm_102 rfl is_1 rd_3 rfl rfl rfl rfl rfl (c_Laws_allow (d := (d + 1)) (x1 := 95) (x2 := v12) (x3 := v14) (x4 := v16) (x5 := p174_2) is_95 (by omega) (by omega) (by omega) (by omega) (by omega) (by omega) (by omega) (by omega) ?_ ?_)
                ·
                  show wp l rho (d + 4) 98 229 [(2, 94), (0, x1), (1, z174_l2), (9, 0), (2, r18_0), (0, p18_1), (0, p18_2), (0, p174_0), (0, p174_1), (0, p174_2)] [(0, 0)] h174_0 Q
                  refine w_ifeq (t := 290) gz_98_229 rfl (fun u23 => ?_) (fun u23 => by exfalso; omega)
                  refine w_iinc (ls' := [(2, 94), (0, x1), (1, z174_l2), (9, 0), (2, r18_0), (0, p18_1), (0, p18_2), (0, p174_0), (0, p174_1), (0, (p174_2 + 1))]) gz_98_290 rfl gm_98 rfl rfl rfl ⟨by omega, by omega⟩ ?_
                  refine w_goto (t := 174) gz_98_293 rfl ?_
                  have ce24 : h174_0 111 2 = v12 := ev12.symm
                  have ce25 : h174_0 111 3 = v14 := ev14.symm
                  have ce26 : h174_0 111 4 = v16 := ev16.symm
                  exact ih_174_0 (z174_l2) (p174_0) (p174_1) ((p174_2 + 1)) (v5) h174_0 (gh_174_0) (by omega) (by omega) (by omega) (by omega) (by omega) (by omega) (by omega) (by omega) (by omega) (ev5.symm.trans (by omega)) n_Lst_174_0 n_Ln_174_0 n_Td_174_0 (by first | assumption | omega | (subst_vars; omega)) (by first | assumption | omega | (subst_vars; omega)) (by first | assumption | omega | (subst_vars; omega)) (by omega)
                ·
                  show wp l rho (d + 4) 98 229 [(2, 94), (0, x1), (1, z174_l2), (9, 0), (2, r18_0), (0, p18_1), (0, p18_2), (0, p174_0), (0, p174_1), (0, p174_2)] [(0, 1)] h174_0 Q
                  refine w_ifeq (t := 290) gz_98_229 rfl (fun u27 => by exfalso; omega) (fun u27 => ?_)
                  refine w_aload_n gz_98_232 rfl ?_
                  refine w_getX (v := 95) gz_98_233 is_94 rd_2 rfl (by decide) rfl ?_
                  refine w_getX (v := 96) gz_98_236 is_95 rd_6 rfl (by decide) rfl ?_
                  refine w_iload gz_98_239 rfl ?_
                  refine w_iload gz_98_241 rfl ?_
                  refine w_iast gz_98_243 is_96 rd_30 (by omega) (by omega) (by omega) (by omega) (fun h30 fh30 => ?_)
                  have gh30 : my_fr [(2, 11), (7, 0), (7, 1), (7, 2), (7, 3), (7, 4), (7, 5), (8, 0), (8, 1), (30, -1), (42, -1), (43, -1), (44, -1)] h h30 := my_fr.up gh_174_0 is_96 fh30 rfl
                  have Lst_h30 : Lst h30 := Lst_ag (my_ag.up fh30 is_96 rfl) n_Lst_174_0
                  have Ln_h30 : Ln h30 := Ln_ag (my_ag.up fh30 is_96 rfl) n_Ln_174_0
                  have Td_h30 : Td h30 x1 := Td_ag (my_ag.up fh30 is_96 rfl) n_Ln_174_0 n_Td_174_0
                  refine w_iload gz_98_244 rfl ?_
                  refine w_ifeq (t := 275) gz_98_246 rfl (fun u31 => ?_) (fun u31 => ?_)
                  ·
                    refine w_aload_n gz_98_275 rfl ?_
                    refine w_getX (v := 111) gz_98_276 is_94 rd_2 rfl (by decide) rfl ?_
                    refine w_iload gz_98_279 rfl ?_
                    refine v_putI (j := 5) gz_98_281 rfl is_111 rd_7 rfl (by omega) (by omega) rfl (fun h33 fh33 => ?_)
                    have gh33 : my_fr [(2, 11), (7, 0), (7, 1), (7, 2), (7, 3), (7, 4), (7, 5), (8, 0), (8, 1), (30, -1), (42, -1), (43, -1), (44, -1)] h h33 := my_fr.up gh30 is_111 fh33 rfl
                    have Lst_h33 : Lst h33 := Lst_ne fh33 (by decide) Lst_h30
                    have Ln_h33 : Ln h33 := Ln_ag (my_ag.up fh33 is_111 rfl) Ln_h30
                    have Td_h33 : Td h33 x1 := Td_ag (my_ag.up fh33 is_111 rfl) Ln_h30 Td_h30
                    have ce34 : h33 111 2 = v12 := ((my_up_fld fh33 (by decide)).trans ((my_up_role fh30 is_111 is_96 rfl).trans ev12.symm))
                    have ce35 : h33 111 3 = v14 := ((my_up_fld fh33 (by decide)).trans ((my_up_role fh30 is_111 is_96 rfl).trans ev14.symm))
                    have ce36 : h33 111 4 = v16 := ((my_up_fld fh33 (by decide)).trans ((my_up_role fh30 is_111 is_96 rfl).trans ev16.symm))
                    have ce37 : h33 111 5 = p174_2 := (my_up_self fh33)
                    refine w_aload_n gz_98_284 rfl ?_
                    refine w_iconst gz_98_285 (by decide) ?_
                    refine w_iconst gz_98_286 (by decide) ?_
                    refine w_inv (k := 0) (as := [(0, 1), (0, 1)]) (r := []) (x := 94) (ls0 := [(2, 94), (0, 1), (0, 1)]) gz_98_287 gm_94 rfl is_94 rd_2 rfl rfl rfl rfl rfl (c_Desk_keep (d := (d + 2)) (x1 := 1) (x2 := 1) (by omega) (by omega) (by omega) (by omega) Lst_h33 (by first | assumption | omega | (subst_vars; omega)) (by first | assumption | omega | (subst_vars; omega)) (by first | assumption | omega | (subst_vars; omega)) (fun h38 frh38 xp39 xp40 xp41 Lst_h38t42 => ?_))
                    have gh38 : my_fr [(2, 11), (7, 0), (7, 1), (7, 2), (7, 3), (7, 4), (7, 5), (8, 0), (8, 1), (30, -1), (42, -1), (43, -1), (44, -1)] h h38 := my_fr.tr gh33 (frh38.mo rfl)
                    have Ln_h38 : Ln h38 := Ln_ag (my_ag.fr frh38 rfl) Ln_h33
                    have Td_h38 : Td h38 x1 := Td_ag (my_ag.fr frh38 rfl) Ln_h33 Td_h33
                    show wp l rho (d + 4) 98 290 [(2, 94), (0, x1), (1, z174_l2), (9, 0), (2, r18_0), (0, p18_1), (0, p18_2), (0, p174_0), (0, p174_1), (0, p174_2)] [] h38 Q
                    refine w_iinc (ls' := [(2, 94), (0, x1), (1, z174_l2), (9, 0), (2, r18_0), (0, p18_1), (0, p18_2), (0, p174_0), (0, p174_1), (0, (p174_2 + 1))]) gz_98_290 rfl gm_98 rfl rfl rfl ⟨by omega, by omega⟩ ?_
                    refine w_goto (t := 174) gz_98_293 rfl ?_
                    exact ih_174_0 (z174_l2) (p174_0) (p174_1) ((p174_2 + 1)) (v5) h38 (gh38) (by omega) (by omega) (by omega) (by omega) (by omega) (by omega) (by omega) (by omega) (by omega) (((my_fr.at frh38 is_94 rfl).trans ((my_up_role fh33 is_94 is_111 rfl).trans ((my_up_role fh30 is_94 is_96 rfl).trans ev5.symm))).trans (by omega)) Lst_h38t42 Ln_h38 Td_h38 (by first | assumption | omega | (subst_vars; omega)) (by first | assumption | omega | (subst_vars; omega)) (by first | assumption | omega | (subst_vars; omega)) (by omega)
                  ·
                    refine w_aload_n gz_98_249 rfl ?_
                    refine w_getX (v := 106) gz_98_250 is_94 rd_2 rfl (by decide) rfl ?_
                    refine w_aload_n gz_98_253 rfl ?_
                    refine w_getX (v := 27) gz_98_254 is_94 rd_2 rfl (by decide) rfl ?_
                    refine w_iload_n gz_98_257 rfl ?_
                    refine w_aload_n gz_98_258 rfl ?_
                    refine w_getX (v := 95) gz_98_259 is_94 rd_2 rfl (by decide) rfl ?_
                    refine w_inv (k := 4) (as := [(2, 95), (0, x1), (2, 27)]) (r := []) (x := 106) (ls0 := [(2, 106), (2, 27), (0, x1), (2, 95), (9, 0), (9, 0), (9, 0), (9, 0)]) gz_98_262 gm_67 rfl is_106 rd_8 rfl rfl rfl rfl rfl (c_View_show (d := d) (x0 := 106) (x2 := x1) (x3 := 95) is_106 (by omega) (by omega) (by omega) (by omega) is_95 Ln_h30 Td_h30 (fun h46 v47 frh46 fxh46 w48 xp49 => ?_))
                    have gh46 : my_fr [(2, 11), (7, 0), (7, 1), (7, 2), (7, 3), (7, 4), (7, 5), (8, 0), (8, 1), (30, -1), (42, -1), (43, -1), (44, -1)] h h46 := my_fr.tr gh30 (frh46.mo rfl)
                    have Lst_h46 : Lst h46 := Lst_ag (my_ag.fr frh46 rfl) Lst_h30
                    have Ln_h46 : Ln h46 := Ln_ag (my_ag.fr frh46 rfl) Ln_h30
                    have Td_h46 : Td h46 x1 := Td_ag (my_ag.fr frh46 rfl) Ln_h30 Td_h30
                    show wp l rho (d + 4) 98 265 [(2, 94), (0, x1), (1, z174_l2), (9, 0), (2, r18_0), (0, p18_1), (0, p18_2), (0, p174_0), (0, p174_1), (0, p174_2)] [(2, v47)] h46 Q
                    refine w_aload_n gz_98_265 rfl ?_
                    refine w_getX (v := 102) gz_98_266 is_94 rd_2 rfl (by decide) rfl ?_
                    refine w_inv (k := 1) (as := [(2, 102)]) (r := []) (x := v47) (ls0 := [(2, v47), (2, 102), (9, 0)]) gz_98_269 gm_93 rfl w48 rd_8 rfl rfl rfl rfl rfl (c_View_same (d := (d + 2)) (x0 := v47) (x1 := 102) w48 is_102 ?_ ?_)
                    ·
                      show wp l rho (d + 4) 98 272 [(2, 94), (0, x1), (1, z174_l2), (9, 0), (2, r18_0), (0, p18_1), (0, p18_2), (0, p174_0), (0, p174_1), (0, p174_2)] [(0, 0)] h46 Q
                      refine w_ifeq (t := 290) gz_98_272 rfl (fun u51 => ?_) (fun u51 => by exfalso; omega)
                      refine w_iinc (ls' := [(2, 94), (0, x1), (1, z174_l2), (9, 0), (2, r18_0), (0, p18_1), (0, p18_2), (0, p174_0), (0, p174_1), (0, (p174_2 + 1))]) gz_98_290 rfl gm_98 rfl rfl rfl ⟨by omega, by omega⟩ ?_
                      refine w_goto (t := 174) gz_98_293 rfl ?_
                      have ce52 : h46 111 2 = v12 := ((my_fr.at frh46 is_111 rfl).trans ((my_up_role fh30 is_111 is_96 rfl).trans ev12.symm))
                      have ce53 : h46 111 3 = v14 := ((my_fr.at frh46 is_111 rfl).trans ((my_up_role fh30 is_111 is_96 rfl).trans ev14.symm))
                      have ce54 : h46 111 4 = v16 := ((my_fr.at frh46 is_111 rfl).trans ((my_up_role fh30 is_111 is_96 rfl).trans ev16.symm))
                      exact ih_174_0 (z174_l2) (p174_0) (p174_1) ((p174_2 + 1)) (v5) h46 (gh46) (by omega) (by omega) (by omega) (by omega) (by omega) (by omega) (by omega) (by omega) (by omega) (((my_fr.at frh46 is_94 rfl).trans ((my_up_role fh30 is_94 is_96 rfl).trans ev5.symm)).trans (by omega)) Lst_h46 Ln_h46 Td_h46 (by first | assumption | omega | (subst_vars; omega)) (by first | assumption | omega | (subst_vars; omega)) (by first | assumption | omega | (subst_vars; omega)) (by omega)
                    ·
                      show wp l rho (d + 4) 98 272 [(2, 94), (0, x1), (1, z174_l2), (9, 0), (2, r18_0), (0, p18_1), (0, p18_2), (0, p174_0), (0, p174_1), (0, p174_2)] [(0, 1)] h46 Q
                      refine w_ifeq (t := 290) gz_98_272 rfl (fun u55 => by exfalso; omega) (fun u55 => ?_)
                      refine w_aload_n gz_98_275 rfl ?_
                      refine w_getX (v := 111) gz_98_276 is_94 rd_2 rfl (by decide) rfl ?_
                      refine w_iload gz_98_279 rfl ?_
                      refine v_putI (j := 5) gz_98_281 rfl is_111 rd_7 rfl (by omega) (by omega) rfl (fun h57 fh57 => ?_)
                      have gh57 : my_fr [(2, 11), (7, 0), (7, 1), (7, 2), (7, 3), (7, 4), (7, 5), (8, 0), (8, 1), (30, -1), (42, -1), (43, -1), (44, -1)] h h57 := my_fr.up gh46 is_111 fh57 rfl
                      have Lst_h57 : Lst h57 := Lst_ne fh57 (by decide) Lst_h46
                      have Ln_h57 : Ln h57 := Ln_ag (my_ag.up fh57 is_111 rfl) Ln_h46
                      have Td_h57 : Td h57 x1 := Td_ag (my_ag.up fh57 is_111 rfl) Ln_h46 Td_h46
                      have ce58 : h57 111 2 = v12 := ((my_up_fld fh57 (by decide)).trans ((my_fr.at frh46 is_111 rfl).trans ((my_up_role fh30 is_111 is_96 rfl).trans ev12.symm)))
                      have ce59 : h57 111 3 = v14 := ((my_up_fld fh57 (by decide)).trans ((my_fr.at frh46 is_111 rfl).trans ((my_up_role fh30 is_111 is_96 rfl).trans ev14.symm)))
                      have ce60 : h57 111 4 = v16 := ((my_up_fld fh57 (by decide)).trans ((my_fr.at frh46 is_111 rfl).trans ((my_up_role fh30 is_111 is_96 rfl).trans ev16.symm)))
                      have ce61 : h57 111 5 = p174_2 := (my_up_self fh57)
                      refine w_aload_n gz_98_284 rfl ?_
                      refine w_iconst gz_98_285 (by decide) ?_
                      refine w_iconst gz_98_286 (by decide) ?_
                      refine w_inv (k := 0) (as := [(0, 1), (0, 1)]) (r := []) (x := 94) (ls0 := [(2, 94), (0, 1), (0, 1)]) gz_98_287 gm_94 rfl is_94 rd_2 rfl rfl rfl rfl rfl (c_Desk_keep (d := (d + 2)) (x1 := 1) (x2 := 1) (by omega) (by omega) (by omega) (by omega) Lst_h57 (by first | assumption | omega | (subst_vars; omega)) (by first | assumption | omega | (subst_vars; omega)) (by first | assumption | omega | (subst_vars; omega)) (fun h62 frh62 xp63 xp64 xp65 Lst_h62t66 => ?_))
                      have gh62 : my_fr [(2, 11), (7, 0), (7, 1), (7, 2), (7, 3), (7, 4), (7, 5), (8, 0), (8, 1), (30, -1), (42, -1), (43, -1), (44, -1)] h h62 := my_fr.tr gh57 (frh62.mo rfl)
                      have Ln_h62 : Ln h62 := Ln_ag (my_ag.fr frh62 rfl) Ln_h57
                      have Td_h62 : Td h62 x1 := Td_ag (my_ag.fr frh62 rfl) Ln_h57 Td_h57
                      show wp l rho (d + 4) 98 290 [(2, 94), (0, x1), (1, z174_l2), (9, 0), (2, r18_0), (0, p18_1), (0, p18_2), (0, p174_0), (0, p174_1), (0, p174_2)] [] h62 Q
                      refine w_iinc (ls' := [(2, 94), (0, x1), (1, z174_l2), (9, 0), (2, r18_0), (0, p18_1), (0, p18_2), (0, p174_0), (0, p174_1), (0, (p174_2 + 1))]) gz_98_290 rfl gm_98 rfl rfl rfl ⟨by omega, by omega⟩ ?_
                      refine w_goto (t := 174) gz_98_293 rfl ?_
                      exact ih_174_0 (z174_l2) (p174_0) (p174_1) ((p174_2 + 1)) (v5) h62 (gh62) (by omega) (by omega) (by omega) (by omega) (by omega) (by omega) (by omega) (by omega) (by omega) (((my_fr.at frh62 is_94 rfl).trans ((my_up_role fh57 is_94 is_111 rfl).trans ((my_fr.at frh46 is_94 rfl).trans ((my_up_role fh30 is_94 is_96 rfl).trans ev5.symm)))).trans (by omega)) Lst_h62t66 Ln_h62 Td_h62 (by first | assumption | omega | (subst_vars; omega)) (by first | assumption | omega | (subst_vars; omega)) (by first | assumption | omega | (subst_vars; omega)) (by omega)
            ·
              refine w_aload_n gz_100_7 rfl ?_
              refine w_getX (v := 112) gz_100_8 is_94 rd_2 rfl (by decide) rfl ?_
              refine v_getI (j := 0) gz_100_11 rfl is_112 rd_7 rfl (fun v68 ev68 pv68 qv68 => ?_)
              refine w_iconst gz_100_14 (by decide) ?_
              refine w_iceq (t := 33) gz_100_15 rfl (fun u69 => ?_) (fun u69 => ?_)
              ·
                refine w_iconst gz_100_33 (by decide) ?_
                refine w_bret gz_100_34 gm_100 (by omega) (by omega) ?_
                show wp l rho (d + 4) 98 185 [(2, 94), (0, x1), (1, z174_l2), (9, 0), (2, r18_0), (0, p18_1), (0, p18_2), (0, p174_0), (0, p174_1), (0, p174_2)] [(0, 0)] h174_0 Q
                refine w_ifne (t := 296) gz_98_185 rfl (fun u70 => by exfalso; omega) (fun u70 => ?_)
                refine w_iload gz_98_188 rfl ?_
                refine w_iload gz_98_190 rfl ?_
                refine w_iceq (t := 290) gz_98_192 rfl (fun u71 => ?_) (fun u71 => ?_)
                ·
                  refine w_iinc (ls' := [(2, 94), (0, x1), (1, z174_l2), (9, 0), (2, r18_0), (0, p18_1), (0, p18_2), (0, p174_0), (0, p174_1), (0, (p174_2 + 1))]) gz_98_290 rfl gm_98 rfl rfl rfl ⟨by omega, by omega⟩ ?_
                  refine w_goto (t := 174) gz_98_293 rfl ?_
                  exact ih_174_0 (z174_l2) (p174_0) (p174_1) ((p174_2 + 1)) (v5) h174_0 (gh_174_0) (by omega) (by omega) (by omega) (by omega) (by omega) (by omega) (by omega) (by omega) (by omega) (ev5.symm.trans (by omega)) n_Lst_174_0 n_Ln_174_0 n_Td_174_0 (by first | assumption | omega | (subst_vars; omega)) (by first | assumption | omega | (subst_vars; omega)) (by first | assumption | omega | (subst_vars; omega)) (by omega)
                ·
                  refine w_aload_n gz_98_195 rfl ?_
                  refine w_getX (v := 1) gz_98_196 is_94 rd_2 rfl (by decide) rfl ?_
                  refine w_aload_n gz_98_199 rfl ?_
                  refine w_getX (v := 95) gz_98_200 is_94 rd_2 rfl (by decide) rfl ?_
                  refine w_aload_n gz_98_203 rfl ?_
                  refine w_getX (v := 111) gz_98_204 is_94 rd_2 rfl (by decide) rfl ?_
                  refine v_getI (j := 2) gz_98_207 rfl is_111 rd_7 rfl (fun v75 ev75 pv75 qv75 => ?_)
                  refine w_aload_n gz_98_210 rfl ?_
                  refine w_getX (v := 111) gz_98_211 is_94 rd_2 rfl (by decide) rfl ?_
                  refine v_getI (j := 3) gz_98_214 rfl is_111 rd_7 rfl (fun v77 ev77 pv77 qv77 => ?_)
                  refine w_aload_n gz_98_217 rfl ?_
                  refine w_getX (v := 111) gz_98_218 is_94 rd_2 rfl (by decide) rfl ?_
                  refine v_getI (j := 4) gz_98_221 rfl is_111 rd_7 rfl (fun v79 ev79 pv79 qv79 => ?_)
                  refine w_iload gz_98_224 rfl ?_
                  have hi80 : 0 ≤ v75 := by omega
                  have hi81 : v75 ≤ 2 := by omega
                  have hi82 : 0 ≤ v77 := by omega
                  have hi83 : v77 ≤ 19 := by omega
                  have hi84 : 0 ≤ v79 := by omega
                  have hi85 : v79 ≤ 3 := by omega
                  refine w_inv (k := 1) (as := [(0, p174_2), (0, v79), (0, v77), (0, v75), (2, 95)]) (r := []) (x := 1) (ls0 := [(2, 1), (2, 95), (0, v75), (0, v77), (0, v79), (0, p174_2), (9, 0)]) gz_98_226 gm_102 rfl is_1 rd_3 rfl rfl rfl rfl rfl (c_Laws_allow (d := (d + 1)) (x1 := 95) (x2 := v75) (x3 := v77) (x4 := v79) (x5 := p174_2) is_95 (by omega) (by omega) (by omega) (by omega) (by omega) (by omega) (by omega) (by omega) ?_ ?_)
                  ·
                    show wp l rho (d + 4) 98 229 [(2, 94), (0, x1), (1, z174_l2), (9, 0), (2, r18_0), (0, p18_1), (0, p18_2), (0, p174_0), (0, p174_1), (0, p174_2)] [(0, 0)] h174_0 Q
                    refine w_ifeq (t := 290) gz_98_229 rfl (fun u86 => ?_) (fun u86 => by exfalso; omega)
                    refine w_iinc (ls' := [(2, 94), (0, x1), (1, z174_l2), (9, 0), (2, r18_0), (0, p18_1), (0, p18_2), (0, p174_0), (0, p174_1), (0, (p174_2 + 1))]) gz_98_290 rfl gm_98 rfl rfl rfl ⟨by omega, by omega⟩ ?_
                    refine w_goto (t := 174) gz_98_293 rfl ?_
                    have ce87 : h174_0 111 2 = v75 := ev75.symm
                    have ce88 : h174_0 111 3 = v77 := ev77.symm
                    have ce89 : h174_0 111 4 = v79 := ev79.symm
                    exact ih_174_0 (z174_l2) (p174_0) (p174_1) ((p174_2 + 1)) (v5) h174_0 (gh_174_0) (by omega) (by omega) (by omega) (by omega) (by omega) (by omega) (by omega) (by omega) (by omega) (ev5.symm.trans (by omega)) n_Lst_174_0 n_Ln_174_0 n_Td_174_0 (by first | assumption | omega | (subst_vars; omega)) (by first | assumption | omega | (subst_vars; omega)) (by first | assumption | omega | (subst_vars; omega)) (by omega)
                  ·
                    show wp l rho (d + 4) 98 229 [(2, 94), (0, x1), (1, z174_l2), (9, 0), (2, r18_0), (0, p18_1), (0, p18_2), (0, p174_0), (0, p174_1), (0, p174_2)] [(0, 1)] h174_0 Q
                    refine w_ifeq (t := 290) gz_98_229 rfl (fun u90 => by exfalso; omega) (fun u90 => ?_)
                    refine w_aload_n gz_98_232 rfl ?_
                    refine w_getX (v := 95) gz_98_233 is_94 rd_2 rfl (by decide) rfl ?_
                    refine w_getX (v := 96) gz_98_236 is_95 rd_6 rfl (by decide) rfl ?_
                    refine w_iload gz_98_239 rfl ?_
                    refine w_iload gz_98_241 rfl ?_
                    refine w_iast gz_98_243 is_96 rd_30 (by omega) (by omega) (by omega) (by omega) (fun h93 fh93 => ?_)
                    have gh93 : my_fr [(2, 11), (7, 0), (7, 1), (7, 2), (7, 3), (7, 4), (7, 5), (8, 0), (8, 1), (30, -1), (42, -1), (43, -1), (44, -1)] h h93 := my_fr.up gh_174_0 is_96 fh93 rfl
                    have Lst_h93 : Lst h93 := Lst_ag (my_ag.up fh93 is_96 rfl) n_Lst_174_0
                    have Ln_h93 : Ln h93 := Ln_ag (my_ag.up fh93 is_96 rfl) n_Ln_174_0
                    have Td_h93 : Td h93 x1 := Td_ag (my_ag.up fh93 is_96 rfl) n_Ln_174_0 n_Td_174_0
                    refine w_iload gz_98_244 rfl ?_
                    refine w_ifeq (t := 275) gz_98_246 rfl (fun u94 => ?_) (fun u94 => ?_)
                    ·
                      refine w_aload_n gz_98_275 rfl ?_
                      refine w_getX (v := 111) gz_98_276 is_94 rd_2 rfl (by decide) rfl ?_
                      refine w_iload gz_98_279 rfl ?_
                      refine v_putI (j := 5) gz_98_281 rfl is_111 rd_7 rfl (by omega) (by omega) rfl (fun h96 fh96 => ?_)
                      have gh96 : my_fr [(2, 11), (7, 0), (7, 1), (7, 2), (7, 3), (7, 4), (7, 5), (8, 0), (8, 1), (30, -1), (42, -1), (43, -1), (44, -1)] h h96 := my_fr.up gh93 is_111 fh96 rfl
                      have Lst_h96 : Lst h96 := Lst_ne fh96 (by decide) Lst_h93
                      have Ln_h96 : Ln h96 := Ln_ag (my_ag.up fh96 is_111 rfl) Ln_h93
                      have Td_h96 : Td h96 x1 := Td_ag (my_ag.up fh96 is_111 rfl) Ln_h93 Td_h93
                      have ce97 : h96 111 2 = v75 := ((my_up_fld fh96 (by decide)).trans ((my_up_role fh93 is_111 is_96 rfl).trans ev75.symm))
                      have ce98 : h96 111 3 = v77 := ((my_up_fld fh96 (by decide)).trans ((my_up_role fh93 is_111 is_96 rfl).trans ev77.symm))
                      have ce99 : h96 111 4 = v79 := ((my_up_fld fh96 (by decide)).trans ((my_up_role fh93 is_111 is_96 rfl).trans ev79.symm))
                      have ce100 : h96 111 5 = p174_2 := (my_up_self fh96)
                      refine w_aload_n gz_98_284 rfl ?_
                      refine w_iconst gz_98_285 (by decide) ?_
                      refine w_iconst gz_98_286 (by decide) ?_
                      refine w_inv (k := 0) (as := [(0, 1), (0, 1)]) (r := []) (x := 94) (ls0 := [(2, 94), (0, 1), (0, 1)]) gz_98_287 gm_94 rfl is_94 rd_2 rfl rfl rfl rfl rfl (c_Desk_keep (d := (d + 2)) (x1 := 1) (x2 := 1) (by omega) (by omega) (by omega) (by omega) Lst_h96 (by first | assumption | omega | (subst_vars; omega)) (by first | assumption | omega | (subst_vars; omega)) (by first | assumption | omega | (subst_vars; omega)) (fun h101 frh101 xp102 xp103 xp104 Lst_h101t105 => ?_))
                      have gh101 : my_fr [(2, 11), (7, 0), (7, 1), (7, 2), (7, 3), (7, 4), (7, 5), (8, 0), (8, 1), (30, -1), (42, -1), (43, -1), (44, -1)] h h101 := my_fr.tr gh96 (frh101.mo rfl)
                      have Ln_h101 : Ln h101 := Ln_ag (my_ag.fr frh101 rfl) Ln_h96
                      have Td_h101 : Td h101 x1 := Td_ag (my_ag.fr frh101 rfl) Ln_h96 Td_h96
                      show wp l rho (d + 4) 98 290 [(2, 94), (0, x1), (1, z174_l2), (9, 0), (2, r18_0), (0, p18_1), (0, p18_2), (0, p174_0), (0, p174_1), (0, p174_2)] [] h101 Q
                      refine w_iinc (ls' := [(2, 94), (0, x1), (1, z174_l2), (9, 0), (2, r18_0), (0, p18_1), (0, p18_2), (0, p174_0), (0, p174_1), (0, (p174_2 + 1))]) gz_98_290 rfl gm_98 rfl rfl rfl ⟨by omega, by omega⟩ ?_
                      refine w_goto (t := 174) gz_98_293 rfl ?_
                      exact ih_174_0 (z174_l2) (p174_0) (p174_1) ((p174_2 + 1)) (v5) h101 (gh101) (by omega) (by omega) (by omega) (by omega) (by omega) (by omega) (by omega) (by omega) (by omega) (((my_fr.at frh101 is_94 rfl).trans ((my_up_role fh96 is_94 is_111 rfl).trans ((my_up_role fh93 is_94 is_96 rfl).trans ev5.symm))).trans (by omega)) Lst_h101t105 Ln_h101 Td_h101 (by first | assumption | omega | (subst_vars; omega)) (by first | assumption | omega | (subst_vars; omega)) (by first | assumption | omega | (subst_vars; omega)) (by omega)
                    ·
                      refine w_aload_n gz_98_249 rfl ?_
                      refine w_getX (v := 106) gz_98_250 is_94 rd_2 rfl (by decide) rfl ?_
                      refine w_aload_n gz_98_253 rfl ?_
                      refine w_getX (v := 27) gz_98_254 is_94 rd_2 rfl (by decide) rfl ?_
                      refine w_iload_n gz_98_257 rfl ?_
                      refine w_aload_n gz_98_258 rfl ?_
                      refine w_getX (v := 95) gz_98_259 is_94 rd_2 rfl (by decide) rfl ?_
                      refine w_inv (k := 4) (as := [(2, 95), (0, x1), (2, 27)]) (r := []) (x := 106) (ls0 := [(2, 106), (2, 27), (0, x1), (2, 95), (9, 0), (9, 0), (9, 0), (9, 0)]) gz_98_262 gm_67 rfl is_106 rd_8 rfl rfl rfl rfl rfl (c_View_show (d := d) (x0 := 106) (x2 := x1) (x3 := 95) is_106 (by omega) (by omega) (by omega) (by omega) is_95 Ln_h93 Td_h93 (fun h109 v110 frh109 fxh109 w111 xp112 => ?_))
                      have gh109 : my_fr [(2, 11), (7, 0), (7, 1), (7, 2), (7, 3), (7, 4), (7, 5), (8, 0), (8, 1), (30, -1), (42, -1), (43, -1), (44, -1)] h h109 := my_fr.tr gh93 (frh109.mo rfl)
                      have Lst_h109 : Lst h109 := Lst_ag (my_ag.fr frh109 rfl) Lst_h93
                      have Ln_h109 : Ln h109 := Ln_ag (my_ag.fr frh109 rfl) Ln_h93
                      have Td_h109 : Td h109 x1 := Td_ag (my_ag.fr frh109 rfl) Ln_h93 Td_h93
                      show wp l rho (d + 4) 98 265 [(2, 94), (0, x1), (1, z174_l2), (9, 0), (2, r18_0), (0, p18_1), (0, p18_2), (0, p174_0), (0, p174_1), (0, p174_2)] [(2, v110)] h109 Q
                      refine w_aload_n gz_98_265 rfl ?_
                      refine w_getX (v := 102) gz_98_266 is_94 rd_2 rfl (by decide) rfl ?_
                      refine w_inv (k := 1) (as := [(2, 102)]) (r := []) (x := v110) (ls0 := [(2, v110), (2, 102), (9, 0)]) gz_98_269 gm_93 rfl w111 rd_8 rfl rfl rfl rfl rfl (c_View_same (d := (d + 2)) (x0 := v110) (x1 := 102) w111 is_102 ?_ ?_)
                      ·
                        show wp l rho (d + 4) 98 272 [(2, 94), (0, x1), (1, z174_l2), (9, 0), (2, r18_0), (0, p18_1), (0, p18_2), (0, p174_0), (0, p174_1), (0, p174_2)] [(0, 0)] h109 Q
                        refine w_ifeq (t := 290) gz_98_272 rfl (fun u114 => ?_) (fun u114 => by exfalso; omega)
                        refine w_iinc (ls' := [(2, 94), (0, x1), (1, z174_l2), (9, 0), (2, r18_0), (0, p18_1), (0, p18_2), (0, p174_0), (0, p174_1), (0, (p174_2 + 1))]) gz_98_290 rfl gm_98 rfl rfl rfl ⟨by omega, by omega⟩ ?_
                        refine w_goto (t := 174) gz_98_293 rfl ?_
                        have ce115 : h109 111 2 = v75 := ((my_fr.at frh109 is_111 rfl).trans ((my_up_role fh93 is_111 is_96 rfl).trans ev75.symm))
                        have ce116 : h109 111 3 = v77 := ((my_fr.at frh109 is_111 rfl).trans ((my_up_role fh93 is_111 is_96 rfl).trans ev77.symm))
                        have ce117 : h109 111 4 = v79 := ((my_fr.at frh109 is_111 rfl).trans ((my_up_role fh93 is_111 is_96 rfl).trans ev79.symm))
                        exact ih_174_0 (z174_l2) (p174_0) (p174_1) ((p174_2 + 1)) (v5) h109 (gh109) (by omega) (by omega) (by omega) (by omega) (by omega) (by omega) (by omega) (by omega) (by omega) (((my_fr.at frh109 is_94 rfl).trans ((my_up_role fh93 is_94 is_96 rfl).trans ev5.symm)).trans (by omega)) Lst_h109 Ln_h109 Td_h109 (by first | assumption | omega | (subst_vars; omega)) (by first | assumption | omega | (subst_vars; omega)) (by first | assumption | omega | (subst_vars; omega)) (by omega)
                      ·
                        show wp l rho (d + 4) 98 272 [(2, 94), (0, x1), (1, z174_l2), (9, 0), (2, r18_0), (0, p18_1), (0, p18_2), (0, p174_0), (0, p174_1), (0, p174_2)] [(0, 1)] h109 Q
                        refine w_ifeq (t := 290) gz_98_272 rfl (fun u118 => by exfalso; omega) (fun u118 => ?_)
                        refine w_aload_n gz_98_275 rfl ?_
                        refine w_getX (v := 111) gz_98_276 is_94 rd_2 rfl (by decide) rfl ?_
                        refine w_iload gz_98_279 rfl ?_
                        refine v_putI (j := 5) gz_98_281 rfl is_111 rd_7 rfl (by omega) (by omega) rfl (fun h120 fh120 => ?_)
                        have gh120 : my_fr [(2, 11), (7, 0), (7, 1), (7, 2), (7, 3), (7, 4), (7, 5), (8, 0), (8, 1), (30, -1), (42, -1), (43, -1), (44, -1)] h h120 := my_fr.up gh109 is_111 fh120 rfl
                        have Lst_h120 : Lst h120 := Lst_ne fh120 (by decide) Lst_h109
                        have Ln_h120 : Ln h120 := Ln_ag (my_ag.up fh120 is_111 rfl) Ln_h109
                        have Td_h120 : Td h120 x1 := Td_ag (my_ag.up fh120 is_111 rfl) Ln_h109 Td_h109
                        have ce121 : h120 111 2 = v75 := ((my_up_fld fh120 (by decide)).trans ((my_fr.at frh109 is_111 rfl).trans ((my_up_role fh93 is_111 is_96 rfl).trans ev75.symm)))
                        have ce122 : h120 111 3 = v77 := ((my_up_fld fh120 (by decide)).trans ((my_fr.at frh109 is_111 rfl).trans ((my_up_role fh93 is_111 is_96 rfl).trans ev77.symm)))
                        have ce123 : h120 111 4 = v79 := ((my_up_fld fh120 (by decide)).trans ((my_fr.at frh109 is_111 rfl).trans ((my_up_role fh93 is_111 is_96 rfl).trans ev79.symm)))
                        have ce124 : h120 111 5 = p174_2 := (my_up_self fh120)
                        refine w_aload_n gz_98_284 rfl ?_
                        refine w_iconst gz_98_285 (by decide) ?_
                        refine w_iconst gz_98_286 (by decide) ?_
                        refine w_inv (k := 0) (as := [(0, 1), (0, 1)]) (r := []) (x := 94) (ls0 := [(2, 94), (0, 1), (0, 1)]) gz_98_287 gm_94 rfl is_94 rd_2 rfl rfl rfl rfl rfl (c_Desk_keep (d := (d + 2)) (x1 := 1) (x2 := 1) (by omega) (by omega) (by omega) (by omega) Lst_h120 (by first | assumption | omega | (subst_vars; omega)) (by first | assumption | omega | (subst_vars; omega)) (by first | assumption | omega | (subst_vars; omega)) (fun h125 frh125 xp126 xp127 xp128 Lst_h125t129 => ?_))
                        have gh125 : my_fr [(2, 11), (7, 0), (7, 1), (7, 2), (7, 3), (7, 4), (7, 5), (8, 0), (8, 1), (30, -1), (42, -1), (43, -1), (44, -1)] h h125 := my_fr.tr gh120 (frh125.mo rfl)
                        have Ln_h125 : Ln h125 := Ln_ag (my_ag.fr frh125 rfl) Ln_h120
                        have Td_h125 : Td h125 x1 := Td_ag (my_ag.fr frh125 rfl) Ln_h120 Td_h120
                        show wp l rho (d + 4) 98 290 [(2, 94), (0, x1), (1, z174_l2), (9, 0), (2, r18_0), (0, p18_1), (0, p18_2), (0, p174_0), (0, p174_1), (0, p174_2)] [] h125 Q
                        refine w_iinc (ls' := [(2, 94), (0, x1), (1, z174_l2), (9, 0), (2, r18_0), (0, p18_1), (0, p18_2), (0, p174_0), (0, p174_1), (0, (p174_2 + 1))]) gz_98_290 rfl gm_98 rfl rfl rfl ⟨by omega, by omega⟩ ?_
                        refine w_goto (t := 174) gz_98_293 rfl ?_
                        exact ih_174_0 (z174_l2) (p174_0) (p174_1) ((p174_2 + 1)) (v5) h125 (gh125) (by omega) (by omega) (by omega) (by omega) (by omega) (by omega) (by omega) (by omega) (by omega) (((my_fr.at frh125 is_94 rfl).trans ((my_up_role fh120 is_94 is_111 rfl).trans ((my_fr.at frh109 is_94 rfl).trans ((my_up_role fh93 is_94 is_96 rfl).trans ev5.symm)))).trans (by omega)) Lst_h125t129 Ln_h125 Td_h125 (by first | assumption | omega | (subst_vars; omega)) (by first | assumption | omega | (subst_vars; omega)) (by first | assumption | omega | (subst_vars; omega)) (by omega)
              ·
                refine w_aload_n gz_100_18 rfl ?_
                refine w_getX (v := 112) gz_100_19 is_94 rd_2 rfl (by decide) rfl ?_
                refine v_getI (j := 0) gz_100_22 rfl is_112 rd_7 rfl (fun v131 ev131 pv131 qv131 => ?_)
                have zv131 := ev131.trans ev68.symm
                refine w_iconst gz_100_25 (by decide) ?_
                refine w_icgt (t := 33) gz_100_26 rfl (fun u132 => ?_) (fun u132 => ?_)
                ·
                  refine w_iconst gz_100_33 (by decide) ?_
                  refine w_bret gz_100_34 gm_100 (by omega) (by omega) ?_
                  show wp l rho (d + 4) 98 185 [(2, 94), (0, x1), (1, z174_l2), (9, 0), (2, r18_0), (0, p18_1), (0, p18_2), (0, p174_0), (0, p174_1), (0, p174_2)] [(0, 0)] h174_0 Q
                  refine w_ifne (t := 296) gz_98_185 rfl (fun u133 => by exfalso; omega) (fun u133 => ?_)
                  refine w_iload gz_98_188 rfl ?_
                  refine w_iload gz_98_190 rfl ?_
                  refine w_iceq (t := 290) gz_98_192 rfl (fun u134 => ?_) (fun u134 => ?_)
                  ·
                    refine w_iinc (ls' := [(2, 94), (0, x1), (1, z174_l2), (9, 0), (2, r18_0), (0, p18_1), (0, p18_2), (0, p174_0), (0, p174_1), (0, (p174_2 + 1))]) gz_98_290 rfl gm_98 rfl rfl rfl ⟨by omega, by omega⟩ ?_
                    refine w_goto (t := 174) gz_98_293 rfl ?_
                    exact ih_174_0 (z174_l2) (p174_0) (p174_1) ((p174_2 + 1)) (v5) h174_0 (gh_174_0) (by omega) (by omega) (by omega) (by omega) (by omega) (by omega) (by omega) (by omega) (by omega) (ev5.symm.trans (by omega)) n_Lst_174_0 n_Ln_174_0 n_Td_174_0 (by first | assumption | omega | (subst_vars; omega)) (by first | assumption | omega | (subst_vars; omega)) (by first | assumption | omega | (subst_vars; omega)) (by omega)
                  ·
                    refine w_aload_n gz_98_195 rfl ?_
                    refine w_getX (v := 1) gz_98_196 is_94 rd_2 rfl (by decide) rfl ?_
                    refine w_aload_n gz_98_199 rfl ?_
                    refine w_getX (v := 95) gz_98_200 is_94 rd_2 rfl (by decide) rfl ?_
                    refine w_aload_n gz_98_203 rfl ?_
                    refine w_getX (v := 111) gz_98_204 is_94 rd_2 rfl (by decide) rfl ?_
                    refine v_getI (j := 2) gz_98_207 rfl is_111 rd_7 rfl (fun v138 ev138 pv138 qv138 => ?_)
                    refine w_aload_n gz_98_210 rfl ?_
                    refine w_getX (v := 111) gz_98_211 is_94 rd_2 rfl (by decide) rfl ?_
                    refine v_getI (j := 3) gz_98_214 rfl is_111 rd_7 rfl (fun v140 ev140 pv140 qv140 => ?_)
                    refine w_aload_n gz_98_217 rfl ?_
                    refine w_getX (v := 111) gz_98_218 is_94 rd_2 rfl (by decide) rfl ?_
                    refine v_getI (j := 4) gz_98_221 rfl is_111 rd_7 rfl (fun v142 ev142 pv142 qv142 => ?_)
                    refine w_iload gz_98_224 rfl ?_
                    have hi143 : 0 ≤ v138 := by omega
                    have hi144 : v138 ≤ 2 := by omega
                    have hi145 : 0 ≤ v140 := by omega
                    have hi146 : v140 ≤ 19 := by omega
                    have hi147 : 0 ≤ v142 := by omega
                    have hi148 : v142 ≤ 3 := by omega
                    refine w_inv (k := 1) (as := [(0, p174_2), (0, v142), (0, v140), (0, v138), (2, 95)]) (r := []) (x := 1) (ls0 := [(2, 1), (2, 95), (0, v138), (0, v140), (0, v142), (0, p174_2), (9, 0)]) gz_98_226 gm_102 rfl is_1 rd_3 rfl rfl rfl rfl rfl (c_Laws_allow (d := (d + 1)) (x1 := 95) (x2 := v138) (x3 := v140) (x4 := v142) (x5 := p174_2) is_95 (by omega) (by omega) (by omega) (by omega) (by omega) (by omega) (by omega) (by omega) ?_ ?_)
                    ·
                      show wp l rho (d + 4) 98 229 [(2, 94), (0, x1), (1, z174_l2), (9, 0), (2, r18_0), (0, p18_1), (0, p18_2), (0, p174_0), (0, p174_1), (0, p174_2)] [(0, 0)] h174_0 Q
                      refine w_ifeq (t := 290) gz_98_229 rfl (fun u149 => ?_) (fun u149 => by exfalso; omega)
                      refine w_iinc (ls' := [(2, 94), (0, x1), (1, z174_l2), (9, 0), (2, r18_0), (0, p18_1), (0, p18_2), (0, p174_0), (0, p174_1), (0, (p174_2 + 1))]) gz_98_290 rfl gm_98 rfl rfl rfl ⟨by omega, by omega⟩ ?_
                      refine w_goto (t := 174) gz_98_293 rfl ?_
                      have ce150 : h174_0 111 2 = v138 := ev138.symm
                      have ce151 : h174_0 111 3 = v140 := ev140.symm
                      have ce152 : h174_0 111 4 = v142 := ev142.symm
                      exact ih_174_0 (z174_l2) (p174_0) (p174_1) ((p174_2 + 1)) (v5) h174_0 (gh_174_0) (by omega) (by omega) (by omega) (by omega) (by omega) (by omega) (by omega) (by omega) (by omega) (ev5.symm.trans (by omega)) n_Lst_174_0 n_Ln_174_0 n_Td_174_0 (by first | assumption | omega | (subst_vars; omega)) (by first | assumption | omega | (subst_vars; omega)) (by first | assumption | omega | (subst_vars; omega)) (by omega)
                    ·
                      show wp l rho (d + 4) 98 229 [(2, 94), (0, x1), (1, z174_l2), (9, 0), (2, r18_0), (0, p18_1), (0, p18_2), (0, p174_0), (0, p174_1), (0, p174_2)] [(0, 1)] h174_0 Q
                      refine w_ifeq (t := 290) gz_98_229 rfl (fun u153 => by exfalso; omega) (fun u153 => ?_)
                      refine w_aload_n gz_98_232 rfl ?_
                      refine w_getX (v := 95) gz_98_233 is_94 rd_2 rfl (by decide) rfl ?_
                      refine w_getX (v := 96) gz_98_236 is_95 rd_6 rfl (by decide) rfl ?_
                      refine w_iload gz_98_239 rfl ?_
                      refine w_iload gz_98_241 rfl ?_
                      refine w_iast gz_98_243 is_96 rd_30 (by omega) (by omega) (by omega) (by omega) (fun h156 fh156 => ?_)
                      have gh156 : my_fr [(2, 11), (7, 0), (7, 1), (7, 2), (7, 3), (7, 4), (7, 5), (8, 0), (8, 1), (30, -1), (42, -1), (43, -1), (44, -1)] h h156 := my_fr.up gh_174_0 is_96 fh156 rfl
                      have Lst_h156 : Lst h156 := Lst_ag (my_ag.up fh156 is_96 rfl) n_Lst_174_0
                      have Ln_h156 : Ln h156 := Ln_ag (my_ag.up fh156 is_96 rfl) n_Ln_174_0
                      have Td_h156 : Td h156 x1 := Td_ag (my_ag.up fh156 is_96 rfl) n_Ln_174_0 n_Td_174_0
                      refine w_iload gz_98_244 rfl ?_
                      refine w_ifeq (t := 275) gz_98_246 rfl (fun u157 => ?_) (fun u157 => ?_)
                      ·
                        refine w_aload_n gz_98_275 rfl ?_
                        refine w_getX (v := 111) gz_98_276 is_94 rd_2 rfl (by decide) rfl ?_
                        refine w_iload gz_98_279 rfl ?_
                        refine v_putI (j := 5) gz_98_281 rfl is_111 rd_7 rfl (by omega) (by omega) rfl (fun h159 fh159 => ?_)
                        have gh159 : my_fr [(2, 11), (7, 0), (7, 1), (7, 2), (7, 3), (7, 4), (7, 5), (8, 0), (8, 1), (30, -1), (42, -1), (43, -1), (44, -1)] h h159 := my_fr.up gh156 is_111 fh159 rfl
                        have Lst_h159 : Lst h159 := Lst_ne fh159 (by decide) Lst_h156
                        have Ln_h159 : Ln h159 := Ln_ag (my_ag.up fh159 is_111 rfl) Ln_h156
                        have Td_h159 : Td h159 x1 := Td_ag (my_ag.up fh159 is_111 rfl) Ln_h156 Td_h156
                        have ce160 : h159 111 2 = v138 := ((my_up_fld fh159 (by decide)).trans ((my_up_role fh156 is_111 is_96 rfl).trans ev138.symm))
                        have ce161 : h159 111 3 = v140 := ((my_up_fld fh159 (by decide)).trans ((my_up_role fh156 is_111 is_96 rfl).trans ev140.symm))
                        have ce162 : h159 111 4 = v142 := ((my_up_fld fh159 (by decide)).trans ((my_up_role fh156 is_111 is_96 rfl).trans ev142.symm))
                        have ce163 : h159 111 5 = p174_2 := (my_up_self fh159)
                        refine w_aload_n gz_98_284 rfl ?_
                        refine w_iconst gz_98_285 (by decide) ?_
                        refine w_iconst gz_98_286 (by decide) ?_
                        refine w_inv (k := 0) (as := [(0, 1), (0, 1)]) (r := []) (x := 94) (ls0 := [(2, 94), (0, 1), (0, 1)]) gz_98_287 gm_94 rfl is_94 rd_2 rfl rfl rfl rfl rfl (c_Desk_keep (d := (d + 2)) (x1 := 1) (x2 := 1) (by omega) (by omega) (by omega) (by omega) Lst_h159 (by first | assumption | omega | (subst_vars; omega)) (by first | assumption | omega | (subst_vars; omega)) (by first | assumption | omega | (subst_vars; omega)) (fun h164 frh164 xp165 xp166 xp167 Lst_h164t168 => ?_))
                        have gh164 : my_fr [(2, 11), (7, 0), (7, 1), (7, 2), (7, 3), (7, 4), (7, 5), (8, 0), (8, 1), (30, -1), (42, -1), (43, -1), (44, -1)] h h164 := my_fr.tr gh159 (frh164.mo rfl)
                        have Ln_h164 : Ln h164 := Ln_ag (my_ag.fr frh164 rfl) Ln_h159
                        have Td_h164 : Td h164 x1 := Td_ag (my_ag.fr frh164 rfl) Ln_h159 Td_h159
                        show wp l rho (d + 4) 98 290 [(2, 94), (0, x1), (1, z174_l2), (9, 0), (2, r18_0), (0, p18_1), (0, p18_2), (0, p174_0), (0, p174_1), (0, p174_2)] [] h164 Q
                        refine w_iinc (ls' := [(2, 94), (0, x1), (1, z174_l2), (9, 0), (2, r18_0), (0, p18_1), (0, p18_2), (0, p174_0), (0, p174_1), (0, (p174_2 + 1))]) gz_98_290 rfl gm_98 rfl rfl rfl ⟨by omega, by omega⟩ ?_
                        refine w_goto (t := 174) gz_98_293 rfl ?_
                        exact ih_174_0 (z174_l2) (p174_0) (p174_1) ((p174_2 + 1)) (v5) h164 (gh164) (by omega) (by omega) (by omega) (by omega) (by omega) (by omega) (by omega) (by omega) (by omega) (((my_fr.at frh164 is_94 rfl).trans ((my_up_role fh159 is_94 is_111 rfl).trans ((my_up_role fh156 is_94 is_96 rfl).trans ev5.symm))).trans (by omega)) Lst_h164t168 Ln_h164 Td_h164 (by first | assumption | omega | (subst_vars; omega)) (by first | assumption | omega | (subst_vars; omega)) (by first | assumption | omega | (subst_vars; omega)) (by omega)
                      ·
                        refine w_aload_n gz_98_249 rfl ?_
                        refine w_getX (v := 106) gz_98_250 is_94 rd_2 rfl (by decide) rfl ?_
                        refine w_aload_n gz_98_253 rfl ?_
                        refine w_getX (v := 27) gz_98_254 is_94 rd_2 rfl (by decide) rfl ?_
                        refine w_iload_n gz_98_257 rfl ?_
                        refine w_aload_n gz_98_258 rfl ?_
                        refine w_getX (v := 95) gz_98_259 is_94 rd_2 rfl (by decide) rfl ?_
                        refine w_inv (k := 4) (as := [(2, 95), (0, x1), (2, 27)]) (r := []) (x := 106) (ls0 := [(2, 106), (2, 27), (0, x1), (2, 95), (9, 0), (9, 0), (9, 0), (9, 0)]) gz_98_262 gm_67 rfl is_106 rd_8 rfl rfl rfl rfl rfl (c_View_show (d := d) (x0 := 106) (x2 := x1) (x3 := 95) is_106 (by omega) (by omega) (by omega) (by omega) is_95 Ln_h156 Td_h156 (fun h172 v173 frh172 fxh172 w174 xp175 => ?_))
                        have gh172 : my_fr [(2, 11), (7, 0), (7, 1), (7, 2), (7, 3), (7, 4), (7, 5), (8, 0), (8, 1), (30, -1), (42, -1), (43, -1), (44, -1)] h h172 := my_fr.tr gh156 (frh172.mo rfl)
                        have Lst_h172 : Lst h172 := Lst_ag (my_ag.fr frh172 rfl) Lst_h156
                        have Ln_h172 : Ln h172 := Ln_ag (my_ag.fr frh172 rfl) Ln_h156
                        have Td_h172 : Td h172 x1 := Td_ag (my_ag.fr frh172 rfl) Ln_h156 Td_h156
                        show wp l rho (d + 4) 98 265 [(2, 94), (0, x1), (1, z174_l2), (9, 0), (2, r18_0), (0, p18_1), (0, p18_2), (0, p174_0), (0, p174_1), (0, p174_2)] [(2, v173)] h172 Q
                        refine w_aload_n gz_98_265 rfl ?_
                        refine w_getX (v := 102) gz_98_266 is_94 rd_2 rfl (by decide) rfl ?_
                        refine w_inv (k := 1) (as := [(2, 102)]) (r := []) (x := v173) (ls0 := [(2, v173), (2, 102), (9, 0)]) gz_98_269 gm_93 rfl w174 rd_8 rfl rfl rfl rfl rfl (c_View_same (d := (d + 2)) (x0 := v173) (x1 := 102) w174 is_102 ?_ ?_)
                        ·
                          show wp l rho (d + 4) 98 272 [(2, 94), (0, x1), (1, z174_l2), (9, 0), (2, r18_0), (0, p18_1), (0, p18_2), (0, p174_0), (0, p174_1), (0, p174_2)] [(0, 0)] h172 Q
                          refine w_ifeq (t := 290) gz_98_272 rfl (fun u177 => ?_) (fun u177 => by exfalso; omega)
                          refine w_iinc (ls' := [(2, 94), (0, x1), (1, z174_l2), (9, 0), (2, r18_0), (0, p18_1), (0, p18_2), (0, p174_0), (0, p174_1), (0, (p174_2 + 1))]) gz_98_290 rfl gm_98 rfl rfl rfl ⟨by omega, by omega⟩ ?_
                          refine w_goto (t := 174) gz_98_293 rfl ?_
                          have ce178 : h172 111 2 = v138 := ((my_fr.at frh172 is_111 rfl).trans ((my_up_role fh156 is_111 is_96 rfl).trans ev138.symm))
                          have ce179 : h172 111 3 = v140 := ((my_fr.at frh172 is_111 rfl).trans ((my_up_role fh156 is_111 is_96 rfl).trans ev140.symm))
                          have ce180 : h172 111 4 = v142 := ((my_fr.at frh172 is_111 rfl).trans ((my_up_role fh156 is_111 is_96 rfl).trans ev142.symm))
                          exact ih_174_0 (z174_l2) (p174_0) (p174_1) ((p174_2 + 1)) (v5) h172 (gh172) (by omega) (by omega) (by omega) (by omega) (by omega) (by omega) (by omega) (by omega) (by omega) (((my_fr.at frh172 is_94 rfl).trans ((my_up_role fh156 is_94 is_96 rfl).trans ev5.symm)).trans (by omega)) Lst_h172 Ln_h172 Td_h172 (by first | assumption | omega | (subst_vars; omega)) (by first | assumption | omega | (subst_vars; omega)) (by first | assumption | omega | (subst_vars; omega)) (by omega)
                        ·
                          show wp l rho (d + 4) 98 272 [(2, 94), (0, x1), (1, z174_l2), (9, 0), (2, r18_0), (0, p18_1), (0, p18_2), (0, p174_0), (0, p174_1), (0, p174_2)] [(0, 1)] h172 Q
                          refine w_ifeq (t := 290) gz_98_272 rfl (fun u181 => by exfalso; omega) (fun u181 => ?_)
                          refine w_aload_n gz_98_275 rfl ?_
                          refine w_getX (v := 111) gz_98_276 is_94 rd_2 rfl (by decide) rfl ?_
                          refine w_iload gz_98_279 rfl ?_
                          refine v_putI (j := 5) gz_98_281 rfl is_111 rd_7 rfl (by omega) (by omega) rfl (fun h183 fh183 => ?_)
                          have gh183 : my_fr [(2, 11), (7, 0), (7, 1), (7, 2), (7, 3), (7, 4), (7, 5), (8, 0), (8, 1), (30, -1), (42, -1), (43, -1), (44, -1)] h h183 := my_fr.up gh172 is_111 fh183 rfl
                          have Lst_h183 : Lst h183 := Lst_ne fh183 (by decide) Lst_h172
                          have Ln_h183 : Ln h183 := Ln_ag (my_ag.up fh183 is_111 rfl) Ln_h172
                          have Td_h183 : Td h183 x1 := Td_ag (my_ag.up fh183 is_111 rfl) Ln_h172 Td_h172
                          have ce184 : h183 111 2 = v138 := ((my_up_fld fh183 (by decide)).trans ((my_fr.at frh172 is_111 rfl).trans ((my_up_role fh156 is_111 is_96 rfl).trans ev138.symm)))
                          have ce185 : h183 111 3 = v140 := ((my_up_fld fh183 (by decide)).trans ((my_fr.at frh172 is_111 rfl).trans ((my_up_role fh156 is_111 is_96 rfl).trans ev140.symm)))
                          have ce186 : h183 111 4 = v142 := ((my_up_fld fh183 (by decide)).trans ((my_fr.at frh172 is_111 rfl).trans ((my_up_role fh156 is_111 is_96 rfl).trans ev142.symm)))
                          have ce187 : h183 111 5 = p174_2 := (my_up_self fh183)
                          refine w_aload_n gz_98_284 rfl ?_
                          refine w_iconst gz_98_285 (by decide) ?_
                          refine w_iconst gz_98_286 (by decide) ?_
                          refine w_inv (k := 0) (as := [(0, 1), (0, 1)]) (r := []) (x := 94) (ls0 := [(2, 94), (0, 1), (0, 1)]) gz_98_287 gm_94 rfl is_94 rd_2 rfl rfl rfl rfl rfl (c_Desk_keep (d := (d + 2)) (x1 := 1) (x2 := 1) (by omega) (by omega) (by omega) (by omega) Lst_h183 (by first | assumption | omega | (subst_vars; omega)) (by first | assumption | omega | (subst_vars; omega)) (by first | assumption | omega | (subst_vars; omega)) (fun h188 frh188 xp189 xp190 xp191 Lst_h188t192 => ?_))
                          have gh188 : my_fr [(2, 11), (7, 0), (7, 1), (7, 2), (7, 3), (7, 4), (7, 5), (8, 0), (8, 1), (30, -1), (42, -1), (43, -1), (44, -1)] h h188 := my_fr.tr gh183 (frh188.mo rfl)
                          have Ln_h188 : Ln h188 := Ln_ag (my_ag.fr frh188 rfl) Ln_h183
                          have Td_h188 : Td h188 x1 := Td_ag (my_ag.fr frh188 rfl) Ln_h183 Td_h183
                          show wp l rho (d + 4) 98 290 [(2, 94), (0, x1), (1, z174_l2), (9, 0), (2, r18_0), (0, p18_1), (0, p18_2), (0, p174_0), (0, p174_1), (0, p174_2)] [] h188 Q
                          refine w_iinc (ls' := [(2, 94), (0, x1), (1, z174_l2), (9, 0), (2, r18_0), (0, p18_1), (0, p18_2), (0, p174_0), (0, p174_1), (0, (p174_2 + 1))]) gz_98_290 rfl gm_98 rfl rfl rfl ⟨by omega, by omega⟩ ?_
                          refine w_goto (t := 174) gz_98_293 rfl ?_
                          exact ih_174_0 (z174_l2) (p174_0) (p174_1) ((p174_2 + 1)) (v5) h188 (gh188) (by omega) (by omega) (by omega) (by omega) (by omega) (by omega) (by omega) (by omega) (by omega) (((my_fr.at frh188 is_94 rfl).trans ((my_up_role fh183 is_94 is_111 rfl).trans ((my_fr.at frh172 is_94 rfl).trans ((my_up_role fh156 is_94 is_96 rfl).trans ev5.symm)))).trans (by omega)) Lst_h188t192 Ln_h188 Td_h188 (by first | assumption | omega | (subst_vars; omega)) (by first | assumption | omega | (subst_vars; omega)) (by first | assumption | omega | (subst_vars; omega)) (by omega)
                ·
                  refine w_iconst gz_100_29 (by decide) ?_
                  refine w_goto (t := 34) gz_100_30 rfl ?_
                  refine w_bret gz_100_34 gm_100 (by omega) (by omega) ?_
                  show wp l rho (d + 4) 98 185 [(2, 94), (0, x1), (1, z174_l2), (9, 0), (2, r18_0), (0, p18_1), (0, p18_2), (0, p174_0), (0, p174_1), (0, p174_2)] [(0, 1)] h174_0 Q
                  refine w_ifne (t := 296) gz_98_185 rfl (fun u193 => ?_) (fun u193 => by exfalso; omega)
                  refine w_aload_n gz_98_296 rfl ?_
                  refine w_getX (v := 95) gz_98_297 is_94 rd_2 rfl (by decide) rfl ?_
                  refine w_getX (v := 96) gz_98_300 is_95 rd_6 rfl (by decide) rfl ?_
                  refine w_iload gz_98_303 rfl ?_
                  refine w_iload gz_98_305 rfl ?_
                  refine w_iast gz_98_307 is_96 rd_30 (by omega) (by omega) (by omega) (by omega) (fun h196 fh196 => ?_)
                  have gh196 : my_fr [(2, 11), (7, 0), (7, 1), (7, 2), (7, 3), (7, 4), (7, 5), (8, 0), (8, 1), (30, -1), (42, -1), (43, -1), (44, -1)] h h196 := my_fr.up gh_174_0 is_96 fh196 rfl
                  have Lst_h196 : Lst h196 := Lst_ag (my_ag.up fh196 is_96 rfl) n_Lst_174_0
                  have Ln_h196 : Ln h196 := Ln_ag (my_ag.up fh196 is_96 rfl) n_Ln_174_0
                  have Td_h196 : Td h196 x1 := Td_ag (my_ag.up fh196 is_96 rfl) n_Ln_174_0 n_Td_174_0
                  exact J308_2 (z174_l2) (p174_0) (p174_1) (p174_2) (v5) h196 (gh196) (by omega) (by omega) (by omega) (by omega) (by omega) (by omega) (by omega) (by omega) (by omega) (((my_up_role fh196 is_94 is_96 rfl).trans ev5.symm).trans (by omega)) Lst_h196 Ln_h196 Td_h196
      have J132_0 : ∀ (z132_l2 p132_0 p132_1 p132_2 p132_3 : Int) (h132_0 : my_H), my_fr [(2, 11), (7, 0), (7, 1), (7, 2), (7, 3), (7, 4), (7, 5), (8, 0), (8, 1), (30, -1), (42, -1), (43, -1), (44, -1)] h h132_0 → p18_2 ≤ 239 → 0 ≤ p132_3 → p132_3 ≤ 1 → 0 ≤ p132_0 → p132_0 ≤ 2 → 0 ≤ p132_1 → p132_1 ≤ 19 → 0 ≤ p132_2 → p132_2 ≤ 3 → h132_0 111 2 = p132_0 → h132_0 111 3 = p132_1 → h132_0 111 4 = p132_2 → h132_0 94 13 = p132_3 → Lst h132_0 → Ln h132_0 → Td h132_0 x1 → wp l rho (d + 4) 98 132 [(2, 94), (0, x1), (1, z132_l2), (9, 0), (2, r18_0), (0, p18_1), (0, p18_2), (9, 0), (9, 0), (9, 0)] [] h132_0 Q := by
        intro z132_l2 p132_0 p132_1 p132_2 p132_3 h132_0 gh_132_0 q0_132_0 q1_132_0 q2_132_0 q3_132_0 q4_132_0 q5_132_0 q6_132_0 q7_132_0 q8_132_0 c111_2_132_0 c111_3_132_0 c111_4_132_0 c94_13_132_0 n_Lst_132_0 n_Ln_132_0 n_Td_132_0
        refine w_iconst gz_98_132 (by decide) ?_
        refine w_istore (ls' := [(2, 94), (0, x1), (1, z132_l2), (9, 0), (2, r18_0), (0, p18_1), (0, p18_2), (0, 0), (9, 0), (9, 0)]) gz_98_133 gm_98 rfl rfl rfl ?_
        refine w_aload_n gz_98_135 rfl ?_
        refine w_aload gz_98_136 rfl ?_
        refine w_inv (k := 0) (as := [(2, r18_0)]) (r := []) (x := 94) (ls0 := [(2, 94), (2, r18_0)]) gz_98_138 gm_101 rfl is_94 rd_2 rfl rfl rfl rfl rfl (c_Desk_isChangeable (d := (d + 2)) (x1 := r18_0) tr18_0_18_0 (by first | assumption | omega | (subst_vars; omega)) ?_ ?_)
        ·
          show wp l rho (d + 4) 98 141 [(2, 94), (0, x1), (1, z132_l2), (9, 0), (2, r18_0), (0, p18_1), (0, p18_2), (0, 0), (9, 0), (9, 0)] [(0, 0)] h132_0 Q
          refine w_ifeq (t := 308) gz_98_141 rfl (fun u197 => ?_) (fun u197 => by exfalso; omega)
          exact J308_0 (z132_l2) (p132_0) (p132_1) (p132_2) (p132_3) h132_0 (gh_132_0) (by omega) (by omega) (by omega) (by omega) (by omega) (by omega) (by omega) (by omega) (by omega) (c111_2_132_0.trans (by omega)) (c111_3_132_0.trans (by omega)) (c111_4_132_0.trans (by omega)) (c94_13_132_0.trans (by omega)) n_Lst_132_0 n_Ln_132_0 n_Td_132_0
        ·
          show wp l rho (d + 4) 98 141 [(2, 94), (0, x1), (1, z132_l2), (9, 0), (2, r18_0), (0, p18_1), (0, p18_2), (0, 0), (9, 0), (9, 0)] [(0, 1)] h132_0 Q
          refine w_ifeq (t := 308) gz_98_141 rfl (fun u198 => by exfalso; omega) (fun u198 => ?_)
          refine w_iload gz_98_144 rfl ?_
          refine w_ifne (t := 159) gz_98_146 rfl (fun u199 => by exfalso; omega) (fun u199 => ?_)
          refine w_aload_n gz_98_149 rfl ?_
          refine v_getI (j := 14) gz_98_150 rfl is_94 rd_2 rfl (fun v200 ev200 pv200 qv200 => ?_)
          refine w_ifne (t := 159) gz_98_153 rfl (fun u201 => ?_) (fun u201 => ?_)
          ·
            refine w_aload_n gz_98_159 rfl ?_
            refine w_getX (v := 95) gz_98_160 is_94 rd_2 rfl (by decide) rfl ?_
            refine w_getX (v := 96) gz_98_163 is_95 rd_6 rfl (by decide) rfl ?_
            refine w_iload gz_98_166 rfl ?_
            refine w_iald gz_98_168 is_96 rd_30 (by omega) (by omega) (fun v204 ev204 pv204 qv204 => ?_)
            refine w_istore (ls' := [(2, 94), (0, x1), (1, z132_l2), (9, 0), (2, r18_0), (0, p18_1), (0, p18_2), (0, 0), (0, v204), (9, 0)]) gz_98_169 gm_98 rfl rfl rfl ?_
            refine w_iconst gz_98_171 (by decide) ?_
            refine w_istore (ls' := [(2, 94), (0, x1), (1, z132_l2), (9, 0), (2, r18_0), (0, p18_1), (0, p18_2), (0, 0), (0, v204), (0, 0)]) gz_98_172 gm_98 rfl rfl rfl ?_
            have ce205 : h132_0 111 2 = p132_0 := c111_2_132_0
            have ce206 : h132_0 111 3 = p132_1 := c111_3_132_0
            have ce207 : h132_0 111 4 = p132_2 := c111_4_132_0
            exact J174_0 21 (z132_l2) (0) (v204) (0) (p132_3) h132_0 (gh_132_0) (by omega) (by omega) (by omega) (by omega) (by omega) (by omega) (by omega) (by omega) (by omega) (c94_13_132_0.trans (by omega)) n_Lst_132_0 n_Ln_132_0 n_Td_132_0 (by first | assumption | omega | (subst_vars; omega)) (by first | assumption | omega | (subst_vars; omega)) (by first | assumption | omega | (subst_vars; omega)) (by omega)
          ·
            refine w_goto (t := 308) gz_98_156 rfl ?_
            exact J308_0 (z132_l2) (p132_0) (p132_1) (p132_2) (p132_3) h132_0 (gh_132_0) (by omega) (by omega) (by omega) (by omega) (by omega) (by omega) (by omega) (by omega) (by omega) (c111_2_132_0.trans (by omega)) (c111_3_132_0.trans (by omega)) (c111_4_132_0.trans (by omega)) (c94_13_132_0.trans (by omega)) n_Lst_132_0 n_Ln_132_0 n_Td_132_0
      refine w_iload gz_98_18 rfl ?_
      refine w_aload_n gz_98_20 rfl ?_
      refine w_getX (v := 95) gz_98_21 is_94 rd_2 rfl (by decide) rfl ?_
      refine w_getX (v := 96) gz_98_24 is_95 rd_6 rfl (by decide) rfl ?_
      refine v_alen (j := 240) gz_98_27 rfl is_96 rd_30 (by decide) ?_
      refine w_icge (t := 314) gz_98_28 rfl (fun u210 => ?_) (fun u210 => ?_)
      ·
        exact w_vret gz_98_314 gm_98 (k0 h18_0 (gh_18_0) n_Lst_18_0)
      ·
        refine w_aload_n gz_98_31 rfl ?_
        refine w_inv (k := 0) (as := []) (r := []) (x := 94) (ls0 := [(2, 94)]) gz_98_32 gm_100 rfl is_94 rd_2 rfl rfl rfl rfl rfl ?_
        refine w_aload_n gz_100_0 rfl ?_
        refine v_getI (j := 13) gz_100_1 rfl is_94 rd_2 rfl (fun v211 ev211 pv211 qv211 => ?_)
        refine w_ifeq (t := 33) gz_100_4 rfl (fun u212 => ?_) (fun u212 => ?_)
        ·
          refine w_iconst gz_100_33 (by decide) ?_
          refine w_bret gz_100_34 gm_100 (by omega) (by omega) ?_
          show wp l rho (d + 4) 98 35 [(2, 94), (0, x1), (1, z18_l2), (9, 0), (2, r18_0), (0, p18_1), (0, p18_2), (9, 0), (9, 0), (9, 0)] [(0, 0)] h18_0 Q
          refine w_ifne (t := 314) gz_98_35 rfl (fun u213 => by exfalso; omega) (fun u213 => ?_)
          refine w_aload_n gz_98_38 rfl ?_
          refine w_getX (v := 111) gz_98_39 is_94 rd_2 rfl (by decide) rfl ?_
          refine w_iload gz_98_42 rfl ?_
          refine w_iconst gz_98_44 (by decide) ?_
          refine w_idiv gz_98_45 (by omega) (by decide) ?_
          refine w_bipush gz_98_46 (by decide) ?_
          refine w_idiv gz_98_48 (by omega) (by decide) ?_
          refine v_putI (j := 2) gz_98_49 rfl is_111 rd_7 rfl (by omega) (by omega) rfl (fun h215 fh215 => ?_)
          have gh215 : my_fr [(2, 11), (7, 0), (7, 1), (7, 2), (7, 3), (7, 4), (7, 5), (8, 0), (8, 1), (30, -1), (42, -1), (43, -1), (44, -1)] h h215 := my_fr.up gh_18_0 is_111 fh215 rfl
          have Lst_h215 : Lst h215 := Lst_ne fh215 (by decide) n_Lst_18_0
          have Ln_h215 : Ln h215 := Ln_ag (my_ag.up fh215 is_111 rfl) n_Ln_18_0
          have Td_h215 : Td h215 x1 := Td_ag (my_ag.up fh215 is_111 rfl) n_Ln_18_0 n_Td_18_0
          refine w_aload_n gz_98_52 rfl ?_
          refine w_getX (v := 111) gz_98_53 is_94 rd_2 rfl (by decide) rfl ?_
          refine w_iload gz_98_56 rfl ?_
          refine w_iconst gz_98_58 (by decide) ?_
          refine w_idiv gz_98_59 (by omega) (by decide) ?_
          refine w_bipush gz_98_60 (by decide) ?_
          refine w_irem gz_98_62 (by omega) (by decide) ?_
          refine v_putI (j := 3) gz_98_63 rfl is_111 rd_7 rfl (by omega) (by omega) rfl (fun h217 fh217 => ?_)
          have gh217 : my_fr [(2, 11), (7, 0), (7, 1), (7, 2), (7, 3), (7, 4), (7, 5), (8, 0), (8, 1), (30, -1), (42, -1), (43, -1), (44, -1)] h h217 := my_fr.up gh215 is_111 fh217 rfl
          have Lst_h217 : Lst h217 := Lst_ne fh217 (by decide) Lst_h215
          have Ln_h217 : Ln h217 := Ln_ag (my_ag.up fh217 is_111 rfl) Ln_h215
          have Td_h217 : Td h217 x1 := Td_ag (my_ag.up fh217 is_111 rfl) Ln_h215 Td_h215
          refine w_aload_n gz_98_66 rfl ?_
          refine w_getX (v := 111) gz_98_67 is_94 rd_2 rfl (by decide) rfl ?_
          refine w_iload gz_98_70 rfl ?_
          refine w_iconst gz_98_72 (by decide) ?_
          refine w_irem gz_98_73 (by omega) (by decide) ?_
          refine v_putI (j := 4) gz_98_74 rfl is_111 rd_7 rfl (by omega) (by omega) rfl (fun h219 fh219 => ?_)
          have gh219 : my_fr [(2, 11), (7, 0), (7, 1), (7, 2), (7, 3), (7, 4), (7, 5), (8, 0), (8, 1), (30, -1), (42, -1), (43, -1), (44, -1)] h h219 := my_fr.up gh217 is_111 fh219 rfl
          have Lst_h219 : Lst h219 := Lst_ne fh219 (by decide) Lst_h217
          have Ln_h219 : Ln h219 := Ln_ag (my_ag.up fh219 is_111 rfl) Ln_h217
          have Td_h219 : Td h219 x1 := Td_ag (my_ag.up fh219 is_111 rfl) Ln_h217 Td_h217
          refine w_iload gz_98_77 rfl ?_
          refine w_i2l gz_98_79 ?_
          refine w_aload_n gz_98_80 rfl ?_
          refine w_getX (v := 111) gz_98_81 is_94 rd_2 rfl (by decide) rfl ?_
          refine v_getI (j := 2) gz_98_84 rfl is_111 rd_7 rfl (fun v221 ev221 pv221 qv221 => ?_)
          have zv221 := ev221.trans ((my_up_fld fh219 (by decide)).trans ((my_up_fld fh217 (by decide)).trans (my_up_self fh215)))
          refine w_aload_n gz_98_87 rfl ?_
          refine w_getX (v := 111) gz_98_88 is_94 rd_2 rfl (by decide) rfl ?_
          refine v_getI (j := 4) gz_98_91 rfl is_111 rd_7 rfl (fun v223 ev223 pv223 qv223 => ?_)
          have zv223 := ev223.trans (my_up_self fh219)
          refine w_inS (k := 0) (as := [(0, v223), (0, v221)]) (r := [(1, p18_1)]) (ls0 := [(0, v221), (0, v223)]) gz_98_94 gm_29 rfl rfl rfl rfl rfl rfl ?_
          refine w_iload_n gz_29_0 rfl ?_
          refine w_iconst gz_29_1 (by decide) ?_
          refine w_imul gz_29_2 ⟨by omega, by omega⟩ ?_
          refine w_iload_n gz_29_3 rfl ?_
          refine w_iadd gz_29_4 ⟨by omega, by omega⟩ ?_
          refine w_iret gz_29_5 gm_29 ?_
          show wp l rho (d + 4) 98 97 [(2, 94), (0, x1), (1, z18_l2), (9, 0), (2, r18_0), (0, p18_1), (0, p18_2), (9, 0), (9, 0), (9, 0)] [(0, ((v221 * 4) + v223)), (1, p18_1)] h219 Q
          refine w_inS (k := 0) (as := [(0, ((v221 * 4) + v223)), (1, p18_1)]) (r := []) (ls0 := [(1, p18_1), (9, 0), (0, ((v221 * 4) + v223))]) gz_98_97 gm_69 rfl rfl rfl rfl rfl rfl ?_
          refine w_lload_n gz_69_0 rfl ?_
          refine w_iload_n gz_69_1 rfl ?_
          refine w_jshf gz_69_2 (fun _ => rfl) rfl (fun v224 pv224 => ?_)
          refine w_lconst gz_69_3 ?_
          refine w_jany2 gz_69_4 (fun _ => rfl) rfl (fun v225 pv225 => ?_)
          refine w_lconst gz_69_5 ?_
          refine w_lcmp gz_69_6 (fun v226 pv226 qv226 => ?_)
          refine w_ifeq (t := 14) gz_69_7 rfl (fun u227 => ?_) (fun u227 => ?_)
          ·
            refine w_iconst gz_69_14 (by decide) ?_
            refine w_bret gz_69_15 gm_69 (by omega) (by omega) ?_
            show wp l rho (d + 4) 98 100 [(2, 94), (0, x1), (1, z18_l2), (9, 0), (2, r18_0), (0, p18_1), (0, p18_2), (9, 0), (9, 0), (9, 0)] [(0, 0)] h219 Q
            refine w_ifeq (t := 132) gz_98_100 rfl (fun u228 => ?_) (fun u228 => by exfalso; omega)
            exact J132_0 (z18_l2) (v221) (((p18_2 / 4) % 20)) (v223) (v211) h219 (gh219) (by omega) (by omega) (by omega) (by omega) (by omega) (by omega) (by omega) (by omega) (by omega) (ev221.symm.trans (by omega)) (((my_up_fld fh219 (by decide)).trans (my_up_self fh217)).trans (by omega)) (ev223.symm.trans (by omega)) (((my_up_role fh219 is_94 is_111 rfl).trans ((my_up_role fh217 is_94 is_111 rfl).trans ((my_up_role fh215 is_94 is_111 rfl).trans ev211.symm))).trans (by omega)) Lst_h219 Ln_h219 Td_h219
          ·
            refine w_iconst gz_69_10 (by decide) ?_
            refine w_goto (t := 15) gz_69_11 rfl ?_
            refine w_bret gz_69_15 gm_69 (by omega) (by omega) ?_
            show wp l rho (d + 4) 98 100 [(2, 94), (0, x1), (1, z18_l2), (9, 0), (2, r18_0), (0, p18_1), (0, p18_2), (9, 0), (9, 0), (9, 0)] [(0, 1)] h219 Q
            refine w_ifeq (t := 132) gz_98_100 rfl (fun u229 => by exfalso; omega) (fun u229 => ?_)
            refine w_lload_n gz_98_103 rfl ?_
            refine w_aload_n gz_98_104 rfl ?_
            refine w_getX (v := 111) gz_98_105 is_94 rd_2 rfl (by decide) rfl ?_
            refine v_getI (j := 2) gz_98_108 rfl is_111 rd_7 rfl (fun v231 ev231 pv231 qv231 => ?_)
            have zv231 := ev231.trans ev221.symm
            refine w_bipush gz_98_111 (by decide) ?_
            refine w_imul gz_98_113 ⟨by omega, by omega⟩ ?_
            refine w_aload_n gz_98_114 rfl ?_
            refine w_getX (v := 111) gz_98_115 is_94 rd_2 rfl (by decide) rfl ?_
            refine v_getI (j := 3) gz_98_118 rfl is_111 rd_7 rfl (fun v233 ev233 pv233 qv233 => ?_)
            have zv233 := ev233.trans ((my_up_fld fh219 (by decide)).trans (my_up_self fh217))
            refine w_iadd gz_98_121 ⟨by omega, by omega⟩ ?_
            refine w_inS (k := 0) (as := [(0, ((v231 * 20) + v233)), (1, z18_l2)]) (r := []) (ls0 := [(1, z18_l2), (9, 0), (0, ((v231 * 20) + v233))]) gz_98_122 gm_69 rfl rfl rfl rfl rfl rfl ?_
            refine w_lload_n gz_69_0 rfl ?_
            refine w_iload_n gz_69_1 rfl ?_
            refine w_jshf gz_69_2 (fun _ => rfl) rfl (fun v234 pv234 => ?_)
            refine w_lconst gz_69_3 ?_
            refine w_jany2 gz_69_4 (fun _ => rfl) rfl (fun v235 pv235 => ?_)
            refine w_lconst gz_69_5 ?_
            refine w_lcmp gz_69_6 (fun v236 pv236 qv236 => ?_)
            refine w_ifeq (t := 14) gz_69_7 rfl (fun u237 => ?_) (fun u237 => ?_)
            ·
              refine w_iconst gz_69_14 (by decide) ?_
              refine w_bret gz_69_15 gm_69 (by omega) (by omega) ?_
              show wp l rho (d + 4) 98 125 [(2, 94), (0, x1), (1, z18_l2), (9, 0), (2, r18_0), (0, p18_1), (0, p18_2), (9, 0), (9, 0), (9, 0)] [(0, 0)] h219 Q
              refine w_ifeq (t := 132) gz_98_125 rfl (fun u238 => ?_) (fun u238 => by exfalso; omega)
              exact J132_0 (z18_l2) (v231) (v233) (v223) (v211) h219 (gh219) (by omega) (by omega) (by omega) (by omega) (by omega) (by omega) (by omega) (by omega) (by omega) (ev231.symm.trans (by omega)) (ev233.symm.trans (by omega)) (ev223.symm.trans (by omega)) (((my_up_role fh219 is_94 is_111 rfl).trans ((my_up_role fh217 is_94 is_111 rfl).trans ((my_up_role fh215 is_94 is_111 rfl).trans ev211.symm))).trans (by omega)) Lst_h219 Ln_h219 Td_h219
            ·
              refine w_iconst gz_69_10 (by decide) ?_
              refine w_goto (t := 15) gz_69_11 rfl ?_
              refine w_bret gz_69_15 gm_69 (by omega) (by omega) ?_
              show wp l rho (d + 4) 98 125 [(2, 94), (0, x1), (1, z18_l2), (9, 0), (2, r18_0), (0, p18_1), (0, p18_2), (9, 0), (9, 0), (9, 0)] [(0, 1)] h219 Q
              refine w_ifeq (t := 132) gz_98_125 rfl (fun u239 => by exfalso; omega) (fun u239 => ?_)
              refine w_iconst gz_98_128 (by decide) ?_
              refine w_goto (t := 133) gz_98_129 rfl ?_
              refine w_istore (ls' := [(2, 94), (0, x1), (1, z18_l2), (9, 0), (2, r18_0), (0, p18_1), (0, p18_2), (0, 1), (9, 0), (9, 0)]) gz_98_133 gm_98 rfl rfl rfl ?_
              refine w_aload_n gz_98_135 rfl ?_
              refine w_aload gz_98_136 rfl ?_
              refine w_inv (k := 0) (as := [(2, r18_0)]) (r := []) (x := 94) (ls0 := [(2, 94), (2, r18_0)]) gz_98_138 gm_101 rfl is_94 rd_2 rfl rfl rfl rfl rfl (c_Desk_isChangeable (d := (d + 2)) (x1 := r18_0) tr18_0_18_0 (by first | assumption | omega | (subst_vars; omega)) ?_ ?_)
              ·
                show wp l rho (d + 4) 98 141 [(2, 94), (0, x1), (1, z18_l2), (9, 0), (2, r18_0), (0, p18_1), (0, p18_2), (0, 1), (9, 0), (9, 0)] [(0, 0)] h219 Q
                refine w_ifeq (t := 308) gz_98_141 rfl (fun u240 => ?_) (fun u240 => by exfalso; omega)
                exact J308_1 (z18_l2) (v231) (v233) (v223) (v211) h219 (gh219) (by omega) (by omega) (by omega) (by omega) (by omega) (by omega) (by omega) (by omega) (by omega) (ev231.symm.trans (by omega)) (ev233.symm.trans (by omega)) (ev223.symm.trans (by omega)) (((my_up_role fh219 is_94 is_111 rfl).trans ((my_up_role fh217 is_94 is_111 rfl).trans ((my_up_role fh215 is_94 is_111 rfl).trans ev211.symm))).trans (by omega)) Lst_h219 Ln_h219 Td_h219
              ·
                show wp l rho (d + 4) 98 141 [(2, 94), (0, x1), (1, z18_l2), (9, 0), (2, r18_0), (0, p18_1), (0, p18_2), (0, 1), (9, 0), (9, 0)] [(0, 1)] h219 Q
                refine w_ifeq (t := 308) gz_98_141 rfl (fun u241 => by exfalso; omega) (fun u241 => ?_)
                refine w_iload gz_98_144 rfl ?_
                refine w_ifne (t := 159) gz_98_146 rfl (fun u242 => ?_) (fun u242 => by exfalso; omega)
                refine w_aload_n gz_98_159 rfl ?_
                refine w_getX (v := 95) gz_98_160 is_94 rd_2 rfl (by decide) rfl ?_
                refine w_getX (v := 96) gz_98_163 is_95 rd_6 rfl (by decide) rfl ?_
                refine w_iload gz_98_166 rfl ?_
                refine w_iald gz_98_168 is_96 rd_30 (by omega) (by omega) (fun v245 ev245 pv245 qv245 => ?_)
                refine w_istore (ls' := [(2, 94), (0, x1), (1, z18_l2), (9, 0), (2, r18_0), (0, p18_1), (0, p18_2), (0, 1), (0, v245), (9, 0)]) gz_98_169 gm_98 rfl rfl rfl ?_
                refine w_iconst gz_98_171 (by decide) ?_
                refine w_istore (ls' := [(2, 94), (0, x1), (1, z18_l2), (9, 0), (2, r18_0), (0, p18_1), (0, p18_2), (0, 1), (0, v245), (0, 0)]) gz_98_172 gm_98 rfl rfl rfl ?_
                have ce246 : h219 111 2 = v231 := ev231.symm
                have ce247 : h219 111 3 = v233 := ev233.symm
                have ce248 : h219 111 4 = v223 := ev223.symm
                exact J174_0 21 (z18_l2) (1) (v245) (0) (v211) h219 (gh219) (by omega) (by omega) (by omega) (by omega) (by omega) (by omega) (by omega) (by omega) (by omega) (((my_up_role fh219 is_94 is_111 rfl).trans ((my_up_role fh217 is_94 is_111 rfl).trans ((my_up_role fh215 is_94 is_111 rfl).trans ev211.symm))).trans (by omega)) Lst_h219 Ln_h219 Td_h219 (by first | assumption | omega | (subst_vars; omega)) (by first | assumption | omega | (subst_vars; omega)) (by first | assumption | omega | (subst_vars; omega)) (by omega)
        ·
          refine w_aload_n gz_100_7 rfl ?_
          refine w_getX (v := 112) gz_100_8 is_94 rd_2 rfl (by decide) rfl ?_
          refine v_getI (j := 0) gz_100_11 rfl is_112 rd_7 rfl (fun v250 ev250 pv250 qv250 => ?_)
          refine w_iconst gz_100_14 (by decide) ?_
          refine w_iceq (t := 33) gz_100_15 rfl (fun u251 => ?_) (fun u251 => ?_)
          ·
            refine w_iconst gz_100_33 (by decide) ?_
            refine w_bret gz_100_34 gm_100 (by omega) (by omega) ?_
            show wp l rho (d + 4) 98 35 [(2, 94), (0, x1), (1, z18_l2), (9, 0), (2, r18_0), (0, p18_1), (0, p18_2), (9, 0), (9, 0), (9, 0)] [(0, 0)] h18_0 Q
            refine w_ifne (t := 314) gz_98_35 rfl (fun u252 => by exfalso; omega) (fun u252 => ?_)
            refine w_aload_n gz_98_38 rfl ?_
            refine w_getX (v := 111) gz_98_39 is_94 rd_2 rfl (by decide) rfl ?_
            refine w_iload gz_98_42 rfl ?_
            refine w_iconst gz_98_44 (by decide) ?_
            refine w_idiv gz_98_45 (by omega) (by decide) ?_
            refine w_bipush gz_98_46 (by decide) ?_
            refine w_idiv gz_98_48 (by omega) (by decide) ?_
            refine v_putI (j := 2) gz_98_49 rfl is_111 rd_7 rfl (by omega) (by omega) rfl (fun h254 fh254 => ?_)
            have gh254 : my_fr [(2, 11), (7, 0), (7, 1), (7, 2), (7, 3), (7, 4), (7, 5), (8, 0), (8, 1), (30, -1), (42, -1), (43, -1), (44, -1)] h h254 := my_fr.up gh_18_0 is_111 fh254 rfl
            have Lst_h254 : Lst h254 := Lst_ne fh254 (by decide) n_Lst_18_0
            have Ln_h254 : Ln h254 := Ln_ag (my_ag.up fh254 is_111 rfl) n_Ln_18_0
            have Td_h254 : Td h254 x1 := Td_ag (my_ag.up fh254 is_111 rfl) n_Ln_18_0 n_Td_18_0
            refine w_aload_n gz_98_52 rfl ?_
            refine w_getX (v := 111) gz_98_53 is_94 rd_2 rfl (by decide) rfl ?_
            refine w_iload gz_98_56 rfl ?_
            refine w_iconst gz_98_58 (by decide) ?_
            refine w_idiv gz_98_59 (by omega) (by decide) ?_
            refine w_bipush gz_98_60 (by decide) ?_
            refine w_irem gz_98_62 (by omega) (by decide) ?_
            refine v_putI (j := 3) gz_98_63 rfl is_111 rd_7 rfl (by omega) (by omega) rfl (fun h256 fh256 => ?_)
            have gh256 : my_fr [(2, 11), (7, 0), (7, 1), (7, 2), (7, 3), (7, 4), (7, 5), (8, 0), (8, 1), (30, -1), (42, -1), (43, -1), (44, -1)] h h256 := my_fr.up gh254 is_111 fh256 rfl
            have Lst_h256 : Lst h256 := Lst_ne fh256 (by decide) Lst_h254
            have Ln_h256 : Ln h256 := Ln_ag (my_ag.up fh256 is_111 rfl) Ln_h254
            have Td_h256 : Td h256 x1 := Td_ag (my_ag.up fh256 is_111 rfl) Ln_h254 Td_h254
            refine w_aload_n gz_98_66 rfl ?_
            refine w_getX (v := 111) gz_98_67 is_94 rd_2 rfl (by decide) rfl ?_
            refine w_iload gz_98_70 rfl ?_
            refine w_iconst gz_98_72 (by decide) ?_
            refine w_irem gz_98_73 (by omega) (by decide) ?_
            refine v_putI (j := 4) gz_98_74 rfl is_111 rd_7 rfl (by omega) (by omega) rfl (fun h258 fh258 => ?_)
            have gh258 : my_fr [(2, 11), (7, 0), (7, 1), (7, 2), (7, 3), (7, 4), (7, 5), (8, 0), (8, 1), (30, -1), (42, -1), (43, -1), (44, -1)] h h258 := my_fr.up gh256 is_111 fh258 rfl
            have Lst_h258 : Lst h258 := Lst_ne fh258 (by decide) Lst_h256
            have Ln_h258 : Ln h258 := Ln_ag (my_ag.up fh258 is_111 rfl) Ln_h256
            have Td_h258 : Td h258 x1 := Td_ag (my_ag.up fh258 is_111 rfl) Ln_h256 Td_h256
            refine w_iload gz_98_77 rfl ?_
            refine w_i2l gz_98_79 ?_
            refine w_aload_n gz_98_80 rfl ?_
            refine w_getX (v := 111) gz_98_81 is_94 rd_2 rfl (by decide) rfl ?_
            refine v_getI (j := 2) gz_98_84 rfl is_111 rd_7 rfl (fun v260 ev260 pv260 qv260 => ?_)
            have zv260 := ev260.trans ((my_up_fld fh258 (by decide)).trans ((my_up_fld fh256 (by decide)).trans (my_up_self fh254)))
            refine w_aload_n gz_98_87 rfl ?_
            refine w_getX (v := 111) gz_98_88 is_94 rd_2 rfl (by decide) rfl ?_
            refine v_getI (j := 4) gz_98_91 rfl is_111 rd_7 rfl (fun v262 ev262 pv262 qv262 => ?_)
            have zv262 := ev262.trans (my_up_self fh258)
            refine w_inS (k := 0) (as := [(0, v262), (0, v260)]) (r := [(1, p18_1)]) (ls0 := [(0, v260), (0, v262)]) gz_98_94 gm_29 rfl rfl rfl rfl rfl rfl ?_
            refine w_iload_n gz_29_0 rfl ?_
            refine w_iconst gz_29_1 (by decide) ?_
            refine w_imul gz_29_2 ⟨by omega, by omega⟩ ?_
            refine w_iload_n gz_29_3 rfl ?_
            refine w_iadd gz_29_4 ⟨by omega, by omega⟩ ?_
            refine w_iret gz_29_5 gm_29 ?_
            show wp l rho (d + 4) 98 97 [(2, 94), (0, x1), (1, z18_l2), (9, 0), (2, r18_0), (0, p18_1), (0, p18_2), (9, 0), (9, 0), (9, 0)] [(0, ((v260 * 4) + v262)), (1, p18_1)] h258 Q
            refine w_inS (k := 0) (as := [(0, ((v260 * 4) + v262)), (1, p18_1)]) (r := []) (ls0 := [(1, p18_1), (9, 0), (0, ((v260 * 4) + v262))]) gz_98_97 gm_69 rfl rfl rfl rfl rfl rfl ?_
            refine w_lload_n gz_69_0 rfl ?_
            refine w_iload_n gz_69_1 rfl ?_
            refine w_jshf gz_69_2 (fun _ => rfl) rfl (fun v263 pv263 => ?_)
            refine w_lconst gz_69_3 ?_
            refine w_jany2 gz_69_4 (fun _ => rfl) rfl (fun v264 pv264 => ?_)
            refine w_lconst gz_69_5 ?_
            refine w_lcmp gz_69_6 (fun v265 pv265 qv265 => ?_)
            refine w_ifeq (t := 14) gz_69_7 rfl (fun u266 => ?_) (fun u266 => ?_)
            ·
              refine w_iconst gz_69_14 (by decide) ?_
              refine w_bret gz_69_15 gm_69 (by omega) (by omega) ?_
              show wp l rho (d + 4) 98 100 [(2, 94), (0, x1), (1, z18_l2), (9, 0), (2, r18_0), (0, p18_1), (0, p18_2), (9, 0), (9, 0), (9, 0)] [(0, 0)] h258 Q
              refine w_ifeq (t := 132) gz_98_100 rfl (fun u267 => ?_) (fun u267 => by exfalso; omega)
              exact J132_0 (z18_l2) (v260) (((p18_2 / 4) % 20)) (v262) (v211) h258 (gh258) (by omega) (by omega) (by omega) (by omega) (by omega) (by omega) (by omega) (by omega) (by omega) (ev260.symm.trans (by omega)) (((my_up_fld fh258 (by decide)).trans (my_up_self fh256)).trans (by omega)) (ev262.symm.trans (by omega)) (((my_up_role fh258 is_94 is_111 rfl).trans ((my_up_role fh256 is_94 is_111 rfl).trans ((my_up_role fh254 is_94 is_111 rfl).trans ev211.symm))).trans (by omega)) Lst_h258 Ln_h258 Td_h258
            ·
              refine w_iconst gz_69_10 (by decide) ?_
              refine w_goto (t := 15) gz_69_11 rfl ?_
              refine w_bret gz_69_15 gm_69 (by omega) (by omega) ?_
              show wp l rho (d + 4) 98 100 [(2, 94), (0, x1), (1, z18_l2), (9, 0), (2, r18_0), (0, p18_1), (0, p18_2), (9, 0), (9, 0), (9, 0)] [(0, 1)] h258 Q
              refine w_ifeq (t := 132) gz_98_100 rfl (fun u268 => by exfalso; omega) (fun u268 => ?_)
              refine w_lload_n gz_98_103 rfl ?_
              refine w_aload_n gz_98_104 rfl ?_
              refine w_getX (v := 111) gz_98_105 is_94 rd_2 rfl (by decide) rfl ?_
              refine v_getI (j := 2) gz_98_108 rfl is_111 rd_7 rfl (fun v270 ev270 pv270 qv270 => ?_)
              have zv270 := ev270.trans ev260.symm
              refine w_bipush gz_98_111 (by decide) ?_
              refine w_imul gz_98_113 ⟨by omega, by omega⟩ ?_
              refine w_aload_n gz_98_114 rfl ?_
              refine w_getX (v := 111) gz_98_115 is_94 rd_2 rfl (by decide) rfl ?_
              refine v_getI (j := 3) gz_98_118 rfl is_111 rd_7 rfl (fun v272 ev272 pv272 qv272 => ?_)
              have zv272 := ev272.trans ((my_up_fld fh258 (by decide)).trans (my_up_self fh256))
              refine w_iadd gz_98_121 ⟨by omega, by omega⟩ ?_
              refine w_inS (k := 0) (as := [(0, ((v270 * 20) + v272)), (1, z18_l2)]) (r := []) (ls0 := [(1, z18_l2), (9, 0), (0, ((v270 * 20) + v272))]) gz_98_122 gm_69 rfl rfl rfl rfl rfl rfl ?_
              refine w_lload_n gz_69_0 rfl ?_
              refine w_iload_n gz_69_1 rfl ?_
              refine w_jshf gz_69_2 (fun _ => rfl) rfl (fun v273 pv273 => ?_)
              refine w_lconst gz_69_3 ?_
              refine w_jany2 gz_69_4 (fun _ => rfl) rfl (fun v274 pv274 => ?_)
              refine w_lconst gz_69_5 ?_
              refine w_lcmp gz_69_6 (fun v275 pv275 qv275 => ?_)
              refine w_ifeq (t := 14) gz_69_7 rfl (fun u276 => ?_) (fun u276 => ?_)
              ·
                refine w_iconst gz_69_14 (by decide) ?_
                refine w_bret gz_69_15 gm_69 (by omega) (by omega) ?_
                show wp l rho (d + 4) 98 125 [(2, 94), (0, x1), (1, z18_l2), (9, 0), (2, r18_0), (0, p18_1), (0, p18_2), (9, 0), (9, 0), (9, 0)] [(0, 0)] h258 Q
                refine w_ifeq (t := 132) gz_98_125 rfl (fun u277 => ?_) (fun u277 => by exfalso; omega)
                exact J132_0 (z18_l2) (v270) (v272) (v262) (v211) h258 (gh258) (by omega) (by omega) (by omega) (by omega) (by omega) (by omega) (by omega) (by omega) (by omega) (ev270.symm.trans (by omega)) (ev272.symm.trans (by omega)) (ev262.symm.trans (by omega)) (((my_up_role fh258 is_94 is_111 rfl).trans ((my_up_role fh256 is_94 is_111 rfl).trans ((my_up_role fh254 is_94 is_111 rfl).trans ev211.symm))).trans (by omega)) Lst_h258 Ln_h258 Td_h258
              ·
                refine w_iconst gz_69_10 (by decide) ?_
                refine w_goto (t := 15) gz_69_11 rfl ?_
                refine w_bret gz_69_15 gm_69 (by omega) (by omega) ?_
                show wp l rho (d + 4) 98 125 [(2, 94), (0, x1), (1, z18_l2), (9, 0), (2, r18_0), (0, p18_1), (0, p18_2), (9, 0), (9, 0), (9, 0)] [(0, 1)] h258 Q
                refine w_ifeq (t := 132) gz_98_125 rfl (fun u278 => by exfalso; omega) (fun u278 => ?_)
                refine w_iconst gz_98_128 (by decide) ?_
                refine w_goto (t := 133) gz_98_129 rfl ?_
                refine w_istore (ls' := [(2, 94), (0, x1), (1, z18_l2), (9, 0), (2, r18_0), (0, p18_1), (0, p18_2), (0, 1), (9, 0), (9, 0)]) gz_98_133 gm_98 rfl rfl rfl ?_
                refine w_aload_n gz_98_135 rfl ?_
                refine w_aload gz_98_136 rfl ?_
                refine w_inv (k := 0) (as := [(2, r18_0)]) (r := []) (x := 94) (ls0 := [(2, 94), (2, r18_0)]) gz_98_138 gm_101 rfl is_94 rd_2 rfl rfl rfl rfl rfl (c_Desk_isChangeable (d := (d + 2)) (x1 := r18_0) tr18_0_18_0 (by first | assumption | omega | (subst_vars; omega)) ?_ ?_)
                ·
                  show wp l rho (d + 4) 98 141 [(2, 94), (0, x1), (1, z18_l2), (9, 0), (2, r18_0), (0, p18_1), (0, p18_2), (0, 1), (9, 0), (9, 0)] [(0, 0)] h258 Q
                  refine w_ifeq (t := 308) gz_98_141 rfl (fun u279 => ?_) (fun u279 => by exfalso; omega)
                  exact J308_1 (z18_l2) (v270) (v272) (v262) (v211) h258 (gh258) (by omega) (by omega) (by omega) (by omega) (by omega) (by omega) (by omega) (by omega) (by omega) (ev270.symm.trans (by omega)) (ev272.symm.trans (by omega)) (ev262.symm.trans (by omega)) (((my_up_role fh258 is_94 is_111 rfl).trans ((my_up_role fh256 is_94 is_111 rfl).trans ((my_up_role fh254 is_94 is_111 rfl).trans ev211.symm))).trans (by omega)) Lst_h258 Ln_h258 Td_h258
                ·
                  show wp l rho (d + 4) 98 141 [(2, 94), (0, x1), (1, z18_l2), (9, 0), (2, r18_0), (0, p18_1), (0, p18_2), (0, 1), (9, 0), (9, 0)] [(0, 1)] h258 Q
                  refine w_ifeq (t := 308) gz_98_141 rfl (fun u280 => by exfalso; omega) (fun u280 => ?_)
                  refine w_iload gz_98_144 rfl ?_
                  refine w_ifne (t := 159) gz_98_146 rfl (fun u281 => ?_) (fun u281 => by exfalso; omega)
                  refine w_aload_n gz_98_159 rfl ?_
                  refine w_getX (v := 95) gz_98_160 is_94 rd_2 rfl (by decide) rfl ?_
                  refine w_getX (v := 96) gz_98_163 is_95 rd_6 rfl (by decide) rfl ?_
                  refine w_iload gz_98_166 rfl ?_
                  refine w_iald gz_98_168 is_96 rd_30 (by omega) (by omega) (fun v284 ev284 pv284 qv284 => ?_)
                  refine w_istore (ls' := [(2, 94), (0, x1), (1, z18_l2), (9, 0), (2, r18_0), (0, p18_1), (0, p18_2), (0, 1), (0, v284), (9, 0)]) gz_98_169 gm_98 rfl rfl rfl ?_
                  refine w_iconst gz_98_171 (by decide) ?_
                  refine w_istore (ls' := [(2, 94), (0, x1), (1, z18_l2), (9, 0), (2, r18_0), (0, p18_1), (0, p18_2), (0, 1), (0, v284), (0, 0)]) gz_98_172 gm_98 rfl rfl rfl ?_
                  have ce285 : h258 111 2 = v270 := ev270.symm
                  have ce286 : h258 111 3 = v272 := ev272.symm
                  have ce287 : h258 111 4 = v262 := ev262.symm
                  exact J174_0 21 (z18_l2) (1) (v284) (0) (v211) h258 (gh258) (by omega) (by omega) (by omega) (by omega) (by omega) (by omega) (by omega) (by omega) (by omega) (((my_up_role fh258 is_94 is_111 rfl).trans ((my_up_role fh256 is_94 is_111 rfl).trans ((my_up_role fh254 is_94 is_111 rfl).trans ev211.symm))).trans (by omega)) Lst_h258 Ln_h258 Td_h258 (by first | assumption | omega | (subst_vars; omega)) (by first | assumption | omega | (subst_vars; omega)) (by first | assumption | omega | (subst_vars; omega)) (by omega)
          ·
            refine w_aload_n gz_100_18 rfl ?_
            refine w_getX (v := 112) gz_100_19 is_94 rd_2 rfl (by decide) rfl ?_
            refine v_getI (j := 0) gz_100_22 rfl is_112 rd_7 rfl (fun v289 ev289 pv289 qv289 => ?_)
            have zv289 := ev289.trans ev250.symm
            refine w_iconst gz_100_25 (by decide) ?_
            refine w_icgt (t := 33) gz_100_26 rfl (fun u290 => ?_) (fun u290 => ?_)
            ·
              refine w_iconst gz_100_33 (by decide) ?_
              refine w_bret gz_100_34 gm_100 (by omega) (by omega) ?_
              show wp l rho (d + 4) 98 35 [(2, 94), (0, x1), (1, z18_l2), (9, 0), (2, r18_0), (0, p18_1), (0, p18_2), (9, 0), (9, 0), (9, 0)] [(0, 0)] h18_0 Q
              refine w_ifne (t := 314) gz_98_35 rfl (fun u291 => by exfalso; omega) (fun u291 => ?_)
              refine w_aload_n gz_98_38 rfl ?_
              refine w_getX (v := 111) gz_98_39 is_94 rd_2 rfl (by decide) rfl ?_
              refine w_iload gz_98_42 rfl ?_
              refine w_iconst gz_98_44 (by decide) ?_
              refine w_idiv gz_98_45 (by omega) (by decide) ?_
              refine w_bipush gz_98_46 (by decide) ?_
              refine w_idiv gz_98_48 (by omega) (by decide) ?_
              refine v_putI (j := 2) gz_98_49 rfl is_111 rd_7 rfl (by omega) (by omega) rfl (fun h293 fh293 => ?_)
              have gh293 : my_fr [(2, 11), (7, 0), (7, 1), (7, 2), (7, 3), (7, 4), (7, 5), (8, 0), (8, 1), (30, -1), (42, -1), (43, -1), (44, -1)] h h293 := my_fr.up gh_18_0 is_111 fh293 rfl
              have Lst_h293 : Lst h293 := Lst_ne fh293 (by decide) n_Lst_18_0
              have Ln_h293 : Ln h293 := Ln_ag (my_ag.up fh293 is_111 rfl) n_Ln_18_0
              have Td_h293 : Td h293 x1 := Td_ag (my_ag.up fh293 is_111 rfl) n_Ln_18_0 n_Td_18_0
              refine w_aload_n gz_98_52 rfl ?_
              refine w_getX (v := 111) gz_98_53 is_94 rd_2 rfl (by decide) rfl ?_
              refine w_iload gz_98_56 rfl ?_
              refine w_iconst gz_98_58 (by decide) ?_
              refine w_idiv gz_98_59 (by omega) (by decide) ?_
              refine w_bipush gz_98_60 (by decide) ?_
              refine w_irem gz_98_62 (by omega) (by decide) ?_
              refine v_putI (j := 3) gz_98_63 rfl is_111 rd_7 rfl (by omega) (by omega) rfl (fun h295 fh295 => ?_)
              have gh295 : my_fr [(2, 11), (7, 0), (7, 1), (7, 2), (7, 3), (7, 4), (7, 5), (8, 0), (8, 1), (30, -1), (42, -1), (43, -1), (44, -1)] h h295 := my_fr.up gh293 is_111 fh295 rfl
              have Lst_h295 : Lst h295 := Lst_ne fh295 (by decide) Lst_h293
              have Ln_h295 : Ln h295 := Ln_ag (my_ag.up fh295 is_111 rfl) Ln_h293
              have Td_h295 : Td h295 x1 := Td_ag (my_ag.up fh295 is_111 rfl) Ln_h293 Td_h293
              refine w_aload_n gz_98_66 rfl ?_
              refine w_getX (v := 111) gz_98_67 is_94 rd_2 rfl (by decide) rfl ?_
              refine w_iload gz_98_70 rfl ?_
              refine w_iconst gz_98_72 (by decide) ?_
              refine w_irem gz_98_73 (by omega) (by decide) ?_
              refine v_putI (j := 4) gz_98_74 rfl is_111 rd_7 rfl (by omega) (by omega) rfl (fun h297 fh297 => ?_)
              have gh297 : my_fr [(2, 11), (7, 0), (7, 1), (7, 2), (7, 3), (7, 4), (7, 5), (8, 0), (8, 1), (30, -1), (42, -1), (43, -1), (44, -1)] h h297 := my_fr.up gh295 is_111 fh297 rfl
              have Lst_h297 : Lst h297 := Lst_ne fh297 (by decide) Lst_h295
              have Ln_h297 : Ln h297 := Ln_ag (my_ag.up fh297 is_111 rfl) Ln_h295
              have Td_h297 : Td h297 x1 := Td_ag (my_ag.up fh297 is_111 rfl) Ln_h295 Td_h295
              refine w_iload gz_98_77 rfl ?_
              refine w_i2l gz_98_79 ?_
              refine w_aload_n gz_98_80 rfl ?_
              refine w_getX (v := 111) gz_98_81 is_94 rd_2 rfl (by decide) rfl ?_
              refine v_getI (j := 2) gz_98_84 rfl is_111 rd_7 rfl (fun v299 ev299 pv299 qv299 => ?_)
              have zv299 := ev299.trans ((my_up_fld fh297 (by decide)).trans ((my_up_fld fh295 (by decide)).trans (my_up_self fh293)))
              refine w_aload_n gz_98_87 rfl ?_
              refine w_getX (v := 111) gz_98_88 is_94 rd_2 rfl (by decide) rfl ?_
              refine v_getI (j := 4) gz_98_91 rfl is_111 rd_7 rfl (fun v301 ev301 pv301 qv301 => ?_)
              have zv301 := ev301.trans (my_up_self fh297)
              refine w_inS (k := 0) (as := [(0, v301), (0, v299)]) (r := [(1, p18_1)]) (ls0 := [(0, v299), (0, v301)]) gz_98_94 gm_29 rfl rfl rfl rfl rfl rfl ?_
              refine w_iload_n gz_29_0 rfl ?_
              refine w_iconst gz_29_1 (by decide) ?_
              refine w_imul gz_29_2 ⟨by omega, by omega⟩ ?_
              refine w_iload_n gz_29_3 rfl ?_
              refine w_iadd gz_29_4 ⟨by omega, by omega⟩ ?_
              refine w_iret gz_29_5 gm_29 ?_
              show wp l rho (d + 4) 98 97 [(2, 94), (0, x1), (1, z18_l2), (9, 0), (2, r18_0), (0, p18_1), (0, p18_2), (9, 0), (9, 0), (9, 0)] [(0, ((v299 * 4) + v301)), (1, p18_1)] h297 Q
              refine w_inS (k := 0) (as := [(0, ((v299 * 4) + v301)), (1, p18_1)]) (r := []) (ls0 := [(1, p18_1), (9, 0), (0, ((v299 * 4) + v301))]) gz_98_97 gm_69 rfl rfl rfl rfl rfl rfl ?_
              refine w_lload_n gz_69_0 rfl ?_
              refine w_iload_n gz_69_1 rfl ?_
              refine w_jshf gz_69_2 (fun _ => rfl) rfl (fun v302 pv302 => ?_)
              refine w_lconst gz_69_3 ?_
              refine w_jany2 gz_69_4 (fun _ => rfl) rfl (fun v303 pv303 => ?_)
              refine w_lconst gz_69_5 ?_
              refine w_lcmp gz_69_6 (fun v304 pv304 qv304 => ?_)
              refine w_ifeq (t := 14) gz_69_7 rfl (fun u305 => ?_) (fun u305 => ?_)
              ·
                refine w_iconst gz_69_14 (by decide) ?_
                refine w_bret gz_69_15 gm_69 (by omega) (by omega) ?_
                show wp l rho (d + 4) 98 100 [(2, 94), (0, x1), (1, z18_l2), (9, 0), (2, r18_0), (0, p18_1), (0, p18_2), (9, 0), (9, 0), (9, 0)] [(0, 0)] h297 Q
                refine w_ifeq (t := 132) gz_98_100 rfl (fun u306 => ?_) (fun u306 => by exfalso; omega)
                exact J132_0 (z18_l2) (v299) (((p18_2 / 4) % 20)) (v301) (v211) h297 (gh297) (by omega) (by omega) (by omega) (by omega) (by omega) (by omega) (by omega) (by omega) (by omega) (ev299.symm.trans (by omega)) (((my_up_fld fh297 (by decide)).trans (my_up_self fh295)).trans (by omega)) (ev301.symm.trans (by omega)) (((my_up_role fh297 is_94 is_111 rfl).trans ((my_up_role fh295 is_94 is_111 rfl).trans ((my_up_role fh293 is_94 is_111 rfl).trans ev211.symm))).trans (by omega)) Lst_h297 Ln_h297 Td_h297
              ·
                refine w_iconst gz_69_10 (by decide) ?_
                refine w_goto (t := 15) gz_69_11 rfl ?_
                refine w_bret gz_69_15 gm_69 (by omega) (by omega) ?_
                show wp l rho (d + 4) 98 100 [(2, 94), (0, x1), (1, z18_l2), (9, 0), (2, r18_0), (0, p18_1), (0, p18_2), (9, 0), (9, 0), (9, 0)] [(0, 1)] h297 Q
                refine w_ifeq (t := 132) gz_98_100 rfl (fun u307 => by exfalso; omega) (fun u307 => ?_)
                refine w_lload_n gz_98_103 rfl ?_
                refine w_aload_n gz_98_104 rfl ?_
                refine w_getX (v := 111) gz_98_105 is_94 rd_2 rfl (by decide) rfl ?_
                refine v_getI (j := 2) gz_98_108 rfl is_111 rd_7 rfl (fun v309 ev309 pv309 qv309 => ?_)
                have zv309 := ev309.trans ev299.symm
                refine w_bipush gz_98_111 (by decide) ?_
                refine w_imul gz_98_113 ⟨by omega, by omega⟩ ?_
                refine w_aload_n gz_98_114 rfl ?_
                refine w_getX (v := 111) gz_98_115 is_94 rd_2 rfl (by decide) rfl ?_
                refine v_getI (j := 3) gz_98_118 rfl is_111 rd_7 rfl (fun v311 ev311 pv311 qv311 => ?_)
                have zv311 := ev311.trans ((my_up_fld fh297 (by decide)).trans (my_up_self fh295))
                refine w_iadd gz_98_121 ⟨by omega, by omega⟩ ?_
                refine w_inS (k := 0) (as := [(0, ((v309 * 20) + v311)), (1, z18_l2)]) (r := []) (ls0 := [(1, z18_l2), (9, 0), (0, ((v309 * 20) + v311))]) gz_98_122 gm_69 rfl rfl rfl rfl rfl rfl ?_
                refine w_lload_n gz_69_0 rfl ?_
                refine w_iload_n gz_69_1 rfl ?_
                refine w_jshf gz_69_2 (fun _ => rfl) rfl (fun v312 pv312 => ?_)
                refine w_lconst gz_69_3 ?_
                refine w_jany2 gz_69_4 (fun _ => rfl) rfl (fun v313 pv313 => ?_)
                refine w_lconst gz_69_5 ?_
                refine w_lcmp gz_69_6 (fun v314 pv314 qv314 => ?_)
                refine w_ifeq (t := 14) gz_69_7 rfl (fun u315 => ?_) (fun u315 => ?_)
                ·
                  refine w_iconst gz_69_14 (by decide) ?_
                  refine w_bret gz_69_15 gm_69 (by omega) (by omega) ?_
                  show wp l rho (d + 4) 98 125 [(2, 94), (0, x1), (1, z18_l2), (9, 0), (2, r18_0), (0, p18_1), (0, p18_2), (9, 0), (9, 0), (9, 0)] [(0, 0)] h297 Q
                  refine w_ifeq (t := 132) gz_98_125 rfl (fun u316 => ?_) (fun u316 => by exfalso; omega)
                  exact J132_0 (z18_l2) (v309) (v311) (v301) (v211) h297 (gh297) (by omega) (by omega) (by omega) (by omega) (by omega) (by omega) (by omega) (by omega) (by omega) (ev309.symm.trans (by omega)) (ev311.symm.trans (by omega)) (ev301.symm.trans (by omega)) (((my_up_role fh297 is_94 is_111 rfl).trans ((my_up_role fh295 is_94 is_111 rfl).trans ((my_up_role fh293 is_94 is_111 rfl).trans ev211.symm))).trans (by omega)) Lst_h297 Ln_h297 Td_h297
                ·
                  refine w_iconst gz_69_10 (by decide) ?_
                  refine w_goto (t := 15) gz_69_11 rfl ?_
                  refine w_bret gz_69_15 gm_69 (by omega) (by omega) ?_
                  show wp l rho (d + 4) 98 125 [(2, 94), (0, x1), (1, z18_l2), (9, 0), (2, r18_0), (0, p18_1), (0, p18_2), (9, 0), (9, 0), (9, 0)] [(0, 1)] h297 Q
                  refine w_ifeq (t := 132) gz_98_125 rfl (fun u317 => by exfalso; omega) (fun u317 => ?_)
                  refine w_iconst gz_98_128 (by decide) ?_
                  refine w_goto (t := 133) gz_98_129 rfl ?_
                  refine w_istore (ls' := [(2, 94), (0, x1), (1, z18_l2), (9, 0), (2, r18_0), (0, p18_1), (0, p18_2), (0, 1), (9, 0), (9, 0)]) gz_98_133 gm_98 rfl rfl rfl ?_
                  refine w_aload_n gz_98_135 rfl ?_
                  refine w_aload gz_98_136 rfl ?_
                  refine w_inv (k := 0) (as := [(2, r18_0)]) (r := []) (x := 94) (ls0 := [(2, 94), (2, r18_0)]) gz_98_138 gm_101 rfl is_94 rd_2 rfl rfl rfl rfl rfl (c_Desk_isChangeable (d := (d + 2)) (x1 := r18_0) tr18_0_18_0 (by first | assumption | omega | (subst_vars; omega)) ?_ ?_)
                  ·
                    show wp l rho (d + 4) 98 141 [(2, 94), (0, x1), (1, z18_l2), (9, 0), (2, r18_0), (0, p18_1), (0, p18_2), (0, 1), (9, 0), (9, 0)] [(0, 0)] h297 Q
                    refine w_ifeq (t := 308) gz_98_141 rfl (fun u318 => ?_) (fun u318 => by exfalso; omega)
                    exact J308_1 (z18_l2) (v309) (v311) (v301) (v211) h297 (gh297) (by omega) (by omega) (by omega) (by omega) (by omega) (by omega) (by omega) (by omega) (by omega) (ev309.symm.trans (by omega)) (ev311.symm.trans (by omega)) (ev301.symm.trans (by omega)) (((my_up_role fh297 is_94 is_111 rfl).trans ((my_up_role fh295 is_94 is_111 rfl).trans ((my_up_role fh293 is_94 is_111 rfl).trans ev211.symm))).trans (by omega)) Lst_h297 Ln_h297 Td_h297
                  ·
                    show wp l rho (d + 4) 98 141 [(2, 94), (0, x1), (1, z18_l2), (9, 0), (2, r18_0), (0, p18_1), (0, p18_2), (0, 1), (9, 0), (9, 0)] [(0, 1)] h297 Q
                    refine w_ifeq (t := 308) gz_98_141 rfl (fun u319 => by exfalso; omega) (fun u319 => ?_)
                    refine w_iload gz_98_144 rfl ?_
                    refine w_ifne (t := 159) gz_98_146 rfl (fun u320 => ?_) (fun u320 => by exfalso; omega)
                    refine w_aload_n gz_98_159 rfl ?_
                    refine w_getX (v := 95) gz_98_160 is_94 rd_2 rfl (by decide) rfl ?_
                    refine w_getX (v := 96) gz_98_163 is_95 rd_6 rfl (by decide) rfl ?_
                    refine w_iload gz_98_166 rfl ?_
                    refine w_iald gz_98_168 is_96 rd_30 (by omega) (by omega) (fun v323 ev323 pv323 qv323 => ?_)
                    refine w_istore (ls' := [(2, 94), (0, x1), (1, z18_l2), (9, 0), (2, r18_0), (0, p18_1), (0, p18_2), (0, 1), (0, v323), (9, 0)]) gz_98_169 gm_98 rfl rfl rfl ?_
                    refine w_iconst gz_98_171 (by decide) ?_
                    refine w_istore (ls' := [(2, 94), (0, x1), (1, z18_l2), (9, 0), (2, r18_0), (0, p18_1), (0, p18_2), (0, 1), (0, v323), (0, 0)]) gz_98_172 gm_98 rfl rfl rfl ?_
                    have ce324 : h297 111 2 = v309 := ev309.symm
                    have ce325 : h297 111 3 = v311 := ev311.symm
                    have ce326 : h297 111 4 = v301 := ev301.symm
                    exact J174_0 21 (z18_l2) (1) (v323) (0) (v211) h297 (gh297) (by omega) (by omega) (by omega) (by omega) (by omega) (by omega) (by omega) (by omega) (by omega) (((my_up_role fh297 is_94 is_111 rfl).trans ((my_up_role fh295 is_94 is_111 rfl).trans ((my_up_role fh293 is_94 is_111 rfl).trans ev211.symm))).trans (by omega)) Lst_h297 Ln_h297 Td_h297 (by first | assumption | omega | (subst_vars; omega)) (by first | assumption | omega | (subst_vars; omega)) (by first | assumption | omega | (subst_vars; omega)) (by omega)
            ·
              refine w_iconst gz_100_29 (by decide) ?_
              refine w_goto (t := 34) gz_100_30 rfl ?_
              refine w_bret gz_100_34 gm_100 (by omega) (by omega) ?_
              show wp l rho (d + 4) 98 35 [(2, 94), (0, x1), (1, z18_l2), (9, 0), (2, r18_0), (0, p18_1), (0, p18_2), (9, 0), (9, 0), (9, 0)] [(0, 1)] h18_0 Q
              refine w_ifne (t := 314) gz_98_35 rfl (fun u327 => ?_) (fun u327 => by exfalso; omega)
              exact w_vret gz_98_314 gm_98 (k0 h18_0 (gh_18_0) n_Lst_18_0)
  refine w_aload_n gz_98_0 rfl ?_
  refine w_getX (v := 27) gz_98_1 is_94 rd_2 rfl (by decide) rfl ?_
  refine w_iload_n gz_98_4 rfl ?_
  refine w_aald gz_98_5 is_27 rd_22 rfl (by omega) (by omega) (fun v329 ev329 tv329 => ?_)
  refine w_astore (ls' := [(2, 94), (0, x1), (1, x2), (9, 0), (2, v329), (9, 0), (9, 0), (9, 0), (9, 0), (9, 0)]) gz_98_6 gm_98 rfl rfl rfl ?_
  refine w_aload gz_98_8 rfl ?_
  refine w_inv (k := 2) (as := []) (r := []) (x := v329) (ls0 := [(2, v329), (9, 0), (9, 0)]) gz_98_10 gm_99 rfl tv329 rd_4 rfl rfl rfl rfl rfl (c_Lens_liveColumns (d := (d + 3)) (x0 := v329) tv329 (fun v330 => ?_))
  show wp l rho (d + 4) 98 13 [(2, 94), (0, x1), (1, x2), (9, 0), (2, v329), (9, 0), (9, 0), (9, 0), (9, 0), (9, 0)] [(0, v330)] h Q
  refine w_istore (ls' := [(2, 94), (0, x1), (1, x2), (9, 0), (2, v329), (0, v330), (9, 0), (9, 0), (9, 0), (9, 0)]) gz_98_13 gm_98 rfl rfl rfl ?_
  refine w_iconst gz_98_15 (by decide) ?_
  refine w_istore (ls' := [(2, 94), (0, x1), (1, x2), (9, 0), (2, v329), (0, v330), (0, 0), (9, 0), (9, 0), (9, 0)]) gz_98_16 gm_98 rfl rfl rfl ?_
  exact J18_0 241 (x2) (v329) (v330) (0) h (my_fr.rf) tv329 (by omega) (by omega) n_Lst n_Ln n_Td (by omega)
end MYNView_show
