/-! contracts, printed by wip/gen/gy.py -/
section MYNView_show5
theorem c_View_show5 {l : Launch} {rho : Nat → Int32} {d : Nat} {h : my_H} {Q : my_H → my_V → Prop} {x0 x2 x3 : Int} (t0 : my_is 8 x0) (a2 : 0 ≤ x2) (b2 : x2 ≤ 5) (m2_0 : 0 ≤ x2 % 17) (m2_1 : x2 % 17 ≤ 5) (t3 : my_is 6 x3) (n_Ln : Ln h) (n_Td : Td h x2) (hlw : Lw h) (hgd : zqGd (h (x3 + 1))) (k0 : ∀ (h' : my_H) (y : Int), my_fr [(8, 0), (8, 1), (42, -1), (43, -1), (44, -1)] h h' → my_fx x0 3 h h' → my_is 8 y → h' x0 0 ≤ 10 → VwI h' x0 (h (x3 + 1)) (h (h 27 x2) 2) (h (h 27 x2) 3) (zqCW h x2) → VwS h' x0 → Q h' (2, y)) : wp l rho (d + 3) 67 0 [(2, x0), (2, 27), (0, x2), (2, x3), (9, 0), (9, 0), (9, 0), (9, 0)] [] h Q := by
  have htold := n_Td.2.2
  have hwx := hlw x2 (by omega) (by omega) htold
  have hb0 := hwx.2.1
  have hb2 := hwx.2.2.1
  have hm0 := hwx.2.2.2.1
  have hm4 := hwx.2.2.2.2
  have J67_0 : ∀ (n : Nat) (p67_0 p67_1 : Int) (h67_0 : my_H), my_fr [(8, 0), (8, 1), (42, -1), (43, -1), (44, -1)] h h67_0 → my_fx x0 3 h h67_0 → 0 ≤ p67_0 → p67_0 ≤ 6 → (-1) ≤ p67_1 → p67_1 ≤ 5 → p67_1 ≤ (p67_0 - 1) → Ln h67_0 → Td h67_0 x2 → Sc h h67_0 (x0 + 2) p67_0 (-1) x2 → p67_1 < p67_0 → h67_0 x0 0 ≤ 10 → (0 ≤ p67_1 → h67_0 x0 1 = ln_s h (h 27 (h67_0 (x0 + 2) p67_1))) → -1 ≤ p67_1 → (0 < p67_0 → h67_0 (x0 + 2) 0 = x2) → (0 ≤ p67_1 → VwI h67_0 x0 (h (x3 + 1)) (h (h 27 x2) 2) (h (h 27 x2) 3) (zqUn h (h67_0 (x0 + 2) p67_1))) → (p67_1 = -1 → VwI h67_0 x0 (h (x3 + 1)) (h (h 27 x2) 2) (h (h 27 x2) 3) (zqCW h x2) ∧ VwS h67_0 x0) → p67_1 + 2 ≤ (n : Int) → wp l rho (d + 3) 67 67 [(2, x0), (2, 27), (0, x2), (2, x3), (0, p67_0), (0, p67_1), (9, 0), (9, 0)] [] h67_0 Q := by
    intro n
    induction n with
    | zero => intro p67_0 p67_1 h67_0 gh_67_0 gx_67_0 q0_67_0 q1_67_0 q2_67_0 q3_67_0 q4_67_0 n_Ln_67_0 n_Td_67_0 sc2_67_0 lv_67_0 rw_67_0 cl_67_0 lm_67_0 c0_67_0 vw_67_0 vz_67_0 hm_67_0; exfalso; omega
    | succ n ih_67_0 =>
      intro p67_0 p67_1 h67_0 gh_67_0 gx_67_0 q0_67_0 q1_67_0 q2_67_0 q3_67_0 q4_67_0 n_Ln_67_0 n_Td_67_0 sc2_67_0 lv_67_0 rw_67_0 cl_67_0 lm_67_0 c0_67_0 vw_67_0 vz_67_0 hm_67_0
      have J86_0 : ∀ (n : Nat) (r86_0 p86_1 : Int) (h86_0 : my_H), my_fr [(8, 0), (8, 1), (42, -1), (43, -1), (44, -1)] h h86_0 → my_fx x0 3 h h86_0 → my_is 4 r86_0 → 1 ≤ p67_0 → 0 ≤ p67_1 → 0 ≤ p86_1 → p86_1 ≤ 6 → p67_1 ≤ (p67_0 - 1) → Ln h86_0 → Td h86_0 x2 → Sc h h86_0 (x0 + 2) p67_0 (-1) x2 → p67_1 < p67_0 → 0 ≤ p67_1 → h86_0 x0 0 ≤ 10 → r86_0 = h 27 (h86_0 (x0 + 2) p67_1) → h86_0 x0 1 = ln_f h r86_0 (ln_s h r86_0) p86_1.toNat → p86_1 ≤ h r86_0 9 → (0 < p67_0 → h86_0 (x0 + 2) 0 = x2) → VwI h86_0 x0 (h (x3 + 1)) (h (h 27 x2) 2) (h (h 27 x2) 3) (zqPs h r86_0 (p86_1).toNat ++ zqUn h (h86_0 (x0 + 2) p67_1)) → 7 - p86_1 ≤ (n : Int) → wp l rho (d + 3) 67 86 [(2, x0), (2, 27), (0, x2), (2, x3), (0, p67_0), (0, p67_1), (2, r86_0), (0, p86_1)] [] h86_0 Q := by
        intro n
        induction n with
        | zero => intro r86_0 p86_1 h86_0 gh_86_0 gx_86_0 tr86_0_86_0 q0_86_0 q1_86_0 q2_86_0 q3_86_0 q4_86_0 n_Ln_86_0 n_Td_86_0 sc2_86_0 lv_86_0 l0_86_0 rw_86_0 lr_86_0 c2_86_0 st_86_0 c0_86_0 vp_86_0 hm_86_0; exfalso; omega
        | succ n ih_86_0 =>
          intro r86_0 p86_1 h86_0 gh_86_0 gx_86_0 tr86_0_86_0 q0_86_0 q1_86_0 q2_86_0 q3_86_0 q4_86_0 n_Ln_86_0 n_Td_86_0 sc2_86_0 lv_86_0 l0_86_0 rw_86_0 lr_86_0 c2_86_0 st_86_0 c0_86_0 vp_86_0 hm_86_0
          have f9 : h86_0 r86_0 9 = h r86_0 9 := my_fr.at gh_86_0 tr86_0_86_0 rfl
          have fk : ∀ j : Int, h86_0 (r86_0 + 1) j = h (r86_0 + 1) j := fun j => my_fr.at gh_86_0 (ix_4_1 tr86_0_86_0) rfl
          have f3 : ∀ j : Int, h86_0 (r86_0 + 3) j = h (r86_0 + 3) j := fun j => my_fr.at gh_86_0 (ix_4_3 tr86_0_86_0) rfl
          have f4 : ∀ j : Int, h86_0 (r86_0 + 4) j = h (r86_0 + 4) j := fun j => my_fr.at gh_86_0 (ix_4_4 tr86_0_86_0) rfl
          have qL : LnL h r86_0 (h86_0 (x0 + 2) p67_1) := by rw [lr_86_0]; exact Sc_L n_Ln sc2_86_0 l0_86_0 lv_86_0
          have f2 : ∀ j : Int, h86_0 (r86_0 + 2) j = h (r86_0 + 2) j := fun j => my_fr.at gh_86_0 (ix_4_2 tr86_0_86_0) rfl
          have f5 : ∀ j : Int, h86_0 (r86_0 + 5) j = h (r86_0 + 5) j := fun j => my_fr.at gh_86_0 (ix_4_5 tr86_0_86_0) rfl
          have eS : h86_0 (x3 + 1) = h (x3 + 1) := funext (fun j => my_fr.at gh_86_0 (ix_6_1 t3) rfl)
          have wf := Sc_wf n_Ln hlw sc2_86_0 l0_86_0 lv_86_0
          rw [← lr_86_0] at wf
          refine w_iload gz_67_86 rfl ?_
          refine w_aload gz_67_88 rfl ?_
          refine v_getI (j := 9) gz_67_90 rfl tr86_0_86_0 rd_4 rfl (fun v1 ev1 pv1 qv1 => ?_)
          refine w_icge (t := 246) gz_67_93 rfl (fun u2 => ?_) (fun u2 => ?_)
          ·
            have e9 : p86_1 = h r86_0 9 := by omega
            have c4 : h86_0 x0 1 = h r86_0 4 := by rw [c2_86_0, e9]; exact qL.2.2.2.2
            refine w_aload_n gz_67_246 rfl ?_
            have vb := VwI_be hb0 hb2 hm4 hgd (by rw [show p86_1 = h r86_0 9 by omega]; exact wf) vp_86_0
            refine w_inv (k := 3) (as := []) (r := []) (x := x0) (ls0 := [(2, x0), (9, 0), (9, 0), (9, 0)]) gz_67_247 gm_79 rfl t0 rd_8 rfl rfl rfl rfl rfl (c_View_sort5 (d := d) (x0 := x0) t0 (vb) (fun h3 frh3 fxh3 xp4 xp5 xp6 => ?_))
            have gh3 : my_fr [(8, 0), (8, 1), (42, -1), (43, -1), (44, -1)] h h3 := my_fr.tr gh_86_0 (frh3.mo rfl)
            have gxh3 : my_fx x0 3 h h3 := my_fx.tr gx_86_0 fxh3
            have Ln_h3 : Ln h3 := Ln_ag (my_ag.fr frh3 rfl) n_Ln_86_0
            have Td_h3 : Td h3 x2 := Td_ag (my_ag.fr frh3 rfl) n_Ln_86_0 n_Td_86_0
            show wp l rho (d + 3) 67 250 [(2, x0), (2, 27), (0, x2), (2, x3), (0, p67_0), (0, p67_1), (2, r86_0), (0, p86_1)] [] h3 Q
            have vs := VwI_so vp_86_0 xp4 xp5 xp6 (fun j => my_fr.at frh3 (ix_8_3 t0) rfl)
            have vc : VwI h3 x0 (h (x3 + 1)) (h (h 27 x2) 2) (h (h 27 x2) 3) (zqCW h (h86_0 (x0 + 2) p67_1)) := by
              rw [Sc_CW n_Ln sc2_86_0 l0_86_0 lv_86_0, ← lr_86_0, ← e9]
              exact vs.1
            refine w_iinc (ls' := [(2, x0), (2, 27), (0, x2), (2, x3), (0, p67_0), (0, (p67_1 + (-1))), (2, r86_0), (0, p86_1)]) gz_67_250 rfl gm_67 rfl rfl rfl ⟨by omega, by omega⟩ ?_
            refine w_goto (t := 67) gz_67_253 rfl ?_
            have ca : ∀ j : Int, h3 (x0 + 2) j = h86_0 (x0 + 2) j := fun j => ((my_fr.at frh3 (ix_8_2 t0) rfl).trans (rfl : h86_0 (x0 + 2) j = h86_0 (x0 + 2) j))
            have ce7 : h3 x0 0 = h86_0 x0 0 := ((my_fr.at frh3 t0 rfl).trans (rfl : h86_0 x0 0 = h86_0 x0 0))
            have ce8 : h3 x0 1 = h86_0 x0 1 := ((my_fr.at frh3 t0 rfl).trans (rfl : h86_0 x0 1 = h86_0 x0 1))
            refine w_weak (ls' := [(2, x0), (2, 27), (0, x2), (2, x3), (0, p67_0), (0, (p67_1 + (-1))), (9, 0), (9, 0)]) (wk_e (wk_e (wk_e (wk_e (wk_e (wk_e (wk_9 (wk_9 wk_n)))))))) ?_
            exact ih_67_0 (p67_0) ((p67_1 + (-1))) h3 (gh3) (gxh3) (by omega) (by omega) (by omega) (by omega) (by omega) Ln_h3 Td_h3 (by first | exact Sc_cg ca sc3 | exact Sc_cg ca sc2_86_0 | exact Sc_cg ca sc2_67_0 | omega) (by first | assumption | omega | (subst_vars; omega) | omega) (by first | assumption | omega | (subst_vars; omega) | omega) (by first | (intro _; rw [ca, Sc_bot sc3 dp]; omega) | (intro q; rw [ca, Sc_up sc2_86_0 q (by omega), show (p67_1 + (-1)) + 1 = p67_1 by omega, ← lr_86_0]; omega) | omega) (by first | assumption | omega | (subst_vars; omega) | omega) (by first | (intro z; exfalso; omega) | (intro _; exact Sc_c0 (by omega) sc_6_0 c0_6_0 ) | (intro z; rw [ca]; exact c0_86_0 z) | (intro z; rw [ca]; exact c0_67_0 z) | (intro z; rw [ca]; exact c0_6_0 z) | exact c0_67_0 | assumption | omega) (by first | (intro _; rw [ca, Un_bot sc3 dp]; exact vl) | (intro q; rw [ca, Sc_un sc2_86_0 q (by omega), show (p67_1 + (-1)) + 1 = p67_1 by omega]; exact vc) | assumption | omega) (by first | (intro z; exfalso; omega) | (intro z; have q := vc; rw [show p67_1 = 0 by omega, c0_86_0 (by omega)] at q; exact ⟨q, vs.2⟩) | assumption | omega) (by omega)
          ·
            refine w_aload gz_67_96 rfl ?_
            refine w_getX (v := (r86_0 + 1)) gz_67_98 tr86_0_86_0 rd_4 rfl (by decide) rfl ?_
            refine w_iload gz_67_101 rfl ?_
            refine w_iald gz_67_103 (ix_4_1 tr86_0_86_0) rd_32 (by omega) (by omega) (fun v10 ev10 pv10 qv10 => ?_)
            have qa := ln_ok_at qL.2.2.2.1 (s := p86_1) (by omega) (by omega)
            have g1 := fk p86_1
            have g3 := f3 p86_1
            have g4 := f4 p86_1
            have gs := ln_f_at (h := h) (L := r86_0) (c := ln_s h r86_0) (s := p86_1) (by omega)
            have wf1 := Wf_at wf (s := p86_1) (by omega) (by omega)
            have pk := zqPk_at (h := h) (L := r86_0) (s := p86_1) (by omega)
            have wv := vp_86_0.1
            by_cases u11 : v10 = 3
            ·
              refine w_tswE (t := 132) gz_67_104 u11 (by decide) (by decide) rfl rfl ?_
              have k4 : h (r86_0 + 1) p86_1 = 3 := by omega
              rw [k4, ln_st3] at gs
              refine w_aload_n gz_67_132 rfl ?_
              refine w_aload gz_67_133 rfl ?_
              refine w_getX (v := (r86_0 + 5)) gz_67_135 tr86_0_86_0 rd_4 rfl (by decide) rfl ?_
              refine w_iload gz_67_138 rfl ?_
              refine w_bipush gz_67_140 (by decide) ?_
              refine w_imul gz_67_142 ⟨by omega, by omega⟩ ?_
              refine w_aload gz_67_143 rfl ?_
              refine w_getX (v := (r86_0 + 4)) gz_67_145 tr86_0_86_0 rd_4 rfl (by decide) rfl ?_
              refine w_iload gz_67_148 rfl ?_
              refine w_iald gz_67_150 (ix_4_4 tr86_0_86_0) rd_35 (by omega) (by omega) (fun v14 ev14 pv14 qv14 => ?_)
              refine w_inv (k := 3) (as := [(0, v14), (0, (p86_1 * 8)), (2, (r86_0 + 5))]) (r := []) (x := x0) (ls0 := [(2, x0), (2, (r86_0 + 5)), (0, (p86_1 * 8)), (0, v14), (9, 0), (9, 0), (9, 0)]) gz_67_151 gm_71 rfl t0 rd_8 rfl rfl rfl rfl rfl (c_View_few5_v8_36 (d := d) (x0 := x0) (x1 := (r86_0 + 5)) (x2 := (p86_1 * 8)) (x3 := v14) t0 (ix_4_5 tr86_0_86_0) (by omega) (by omega) (by omega) (by omega) (by omega) (by omega) (fun j a b => by rw [f5, wv, show p86_1 * 8 + j = 8 * p86_1 + j by omega]; exact (wf1.2.1 k4).2.2 j a (by omega)) (fun h15 frh15 fxh15 xp16 xp17 xp18 => ?_))
              have gh15 : my_fr [(8, 0), (8, 1), (42, -1), (43, -1), (44, -1)] h h15 := my_fr.tr gh_86_0 (frh15.mo rfl)
              have gxh15 : my_fx x0 3 h h15 := my_fx.tr gx_86_0 fxh15
              have Ln_h15 : Ln h15 := Ln_ag (my_ag.fr frh15 rfl) n_Ln_86_0
              have Td_h15 : Td h15 x2 := Td_ag (my_ag.fr frh15 rfl) n_Ln_86_0 n_Td_86_0
              show wp l rho (d + 3) 67 154 [(2, x0), (2, 27), (0, x2), (2, x3), (0, p67_0), (0, p67_1), (2, r86_0), (0, p86_1)] [] h15 Q
              have vq := VwI_few (p := zqPk h r86_0 (p86_1).toNat) vp_86_0 (by rw [pk]; show h (r86_0 + 1) p86_1 = 3; have g2 := f2 p86_1; omega) (by rw [pk]; show h (r86_0 + 4) p86_1 = v14; have g2 := f2 p86_1; omega) (fun j a b => by rw [pk]; show h (r86_0 + 5) (8 * p86_1 + j) = h86_0 (r86_0 + 5) (p86_1 * 8 + j); rw [f5, show p86_1 * 8 + j = 8 * p86_1 + j by omega]) xp17 xp16 xp18 (fun j => my_fr.at frh15 (ix_8_3 t0) rfl)
              refine w_goto (t := 240) gz_67_154 rfl ?_
              refine w_iinc (ls' := [(2, x0), (2, 27), (0, x2), (2, x3), (0, p67_0), (0, p67_1), (2, r86_0), (0, (p86_1 + 1))]) gz_67_240 rfl gm_67 rfl rfl rfl ⟨by omega, by omega⟩ ?_
              refine w_goto (t := 86) gz_67_243 rfl ?_
              have ca : ∀ j : Int, h15 (x0 + 2) j = h86_0 (x0 + 2) j := fun j => ((my_fr.at frh15 (ix_8_2 t0) rfl).trans (rfl : h86_0 (x0 + 2) j = h86_0 (x0 + 2) j))
              have ce19 : h15 x0 0 = h86_0 x0 0 := ((my_fr.at frh15 t0 rfl).trans (rfl : h86_0 x0 0 = h86_0 x0 0))
              exact ih_86_0 (r86_0) ((p86_1 + 1)) h15 (gh15) (gxh15) tr86_0_86_0 (by omega) (by omega) (by omega) (by omega) (by omega) Ln_h15 Td_h15 (by first | exact Sc_cg ca sc3 | exact Sc_cg ca sc2_86_0 | exact Sc_cg ca sc2_67_0 | omega) (by first | assumption | omega | (subst_vars; omega) | omega) (by first | assumption | omega | (subst_vars; omega) | omega) (by first | assumption | omega | (subst_vars; omega) | omega) (by first | omega | (rw [ca]; omega) | omega) (by first | (rw [gs]; omega) | (show _ = ln_s h _; rw [show r86_0 = h 27 (h15 (x0 + 2) p67_1) by omega]; have := cl_67_0 (by omega); omega) | omega) (by omega) (by first | (intro z; exfalso; omega) | (intro _; exact Sc_c0 (by omega) sc_6_0 c0_6_0 ) | (intro z; rw [ca]; exact c0_86_0 z) | (intro z; rw [ca]; exact c0_67_0 z) | (intro z; rw [ca]; exact c0_6_0 z) | exact c0_67_0 | assumption | omega) (by first | exact vw_67_0 (by omega) | (rw [ca, show ((p86_1 + 1)).toNat = (p86_1).toNat + 1 by omega]; exact vq) | assumption | omega) (by omega)
            ·
              by_cases u20 : v10 = 4
              ·
                refine w_tswE (t := 157) gz_67_104 u20 (by decide) (by decide) rfl rfl ?_
                have k4 : h (r86_0 + 1) p86_1 = 4 := by omega
                have k5 := qa.1 k4
                rw [k4, ln_st4] at gs
                refine w_aload_n gz_67_157 rfl ?_
                refine w_aload_n gz_67_158 rfl ?_
                refine w_aload gz_67_159 rfl ?_
                refine w_getX (v := (r86_0 + 3)) gz_67_161 tr86_0_86_0 rd_4 rfl (by decide) rfl ?_
                refine w_iload gz_67_164 rfl ?_
                refine w_iald gz_67_166 (ix_4_3 tr86_0_86_0) rd_34 (by omega) (by omega) (fun v22 ev22 pv22 qv22 => ?_)
                refine w_aload gz_67_167 rfl ?_
                refine w_getX (v := (r86_0 + 4)) gz_67_169 tr86_0_86_0 rd_4 rfl (by decide) rfl ?_
                refine w_iload gz_67_172 rfl ?_
                refine w_iald gz_67_174 (ix_4_4 tr86_0_86_0) rd_35 (by omega) (by omega) (fun v24 ev24 pv24 qv24 => ?_)
                refine w_aload gz_67_175 rfl ?_
                refine w_getX (v := (r86_0 + 2)) gz_67_177 tr86_0_86_0 rd_4 rfl (by decide) rfl ?_
                refine w_iload gz_67_180 rfl ?_
                refine w_iald gz_67_182 (ix_4_2 tr86_0_86_0) rd_33 (by omega) (by omega) (fun v26 ev26 pv26 qv26 => ?_)
                have hi27 : 0 ≤ v22 := by omega
                have hi28 : v22 ≤ 2 := by omega
                have hi29 : 1 ≤ v24 := by omega
                have hi30 : v24 ≤ 4 := by omega
                refine w_inv (k := 3) (as := [(0, v26), (0, v24), (0, v22), (2, x3)]) (r := []) (x := x0) (ls0 := [(2, x0), (2, x3), (0, v22), (0, v24), (0, v26), (9, 0), (9, 0), (9, 0)]) gz_67_183 gm_73 rfl t0 rd_8 rfl rfl rfl rfl rfl (c_View_join5 (d := d) (x0 := x0) (x1 := x3) (x2 := v22) (x3 := v24) (x4 := v26) t0 t3 (by omega) (by omega) (by omega) (by omega) (by omega) (by omega) (by omega) (by omega) (by omega) (by omega) (by omega) (by omega) (by have wj := wf1.2.2.1 k4; omega) (by have wj := wf1.2.2.1 k4; have g2 := f2 p86_1; omega) (fun h31 frh31 fxh31 xp32 xp33 xp34 xp35 => ?_))
                have gh31 : my_fr [(8, 0), (8, 1), (42, -1), (43, -1), (44, -1)] h h31 := my_fr.tr gh_86_0 (frh31.mo rfl)
                have gxh31 : my_fx x0 3 h h31 := my_fx.tr gx_86_0 fxh31
                have Ln_h31 : Ln h31 := Ln_ag (my_ag.fr frh31 rfl) n_Ln_86_0
                have Td_h31 : Td h31 x2 := Td_ag (my_ag.fr frh31 rfl) n_Ln_86_0 n_Td_86_0
                show wp l rho (d + 3) 67 186 [(2, x0), (2, 27), (0, x2), (2, x3), (0, p67_0), (0, p67_1), (2, r86_0), (0, p86_1)] [] h31 Q
                have j2 := xp34
                have j3 := xp35
                rw [eS] at j2 j3
                refine v_know (x := x0) (j := 0) (b := 0) rfl t0 rd_8 rfl (fun yA eyA pyA qyA => ?_)
                have vq := VwI_join (p := zqPk h r86_0 (p86_1).toNat) vp_86_0 (by rw [pk]; show h (r86_0 + 1) p86_1 = 4; have g2 := f2 p86_1; omega) (by rw [pk]; show h (r86_0 + 2) p86_1 = v26; have g2 := f2 p86_1; omega) (by rw [pk]; show h (r86_0 + 3) p86_1 = v22; have g2 := f2 p86_1; omega) (by rw [pk]; show h (r86_0 + 4) p86_1 = v24; have g2 := f2 p86_1; omega) xp33 (by omega) xp32 j2 j3
                refine w_goto (t := 240) gz_67_186 rfl ?_
                refine w_iinc (ls' := [(2, x0), (2, 27), (0, x2), (2, x3), (0, p67_0), (0, p67_1), (2, r86_0), (0, (p86_1 + 1))]) gz_67_240 rfl gm_67 rfl rfl rfl ⟨by omega, by omega⟩ ?_
                refine w_goto (t := 86) gz_67_243 rfl ?_
                have ca : ∀ j : Int, h31 (x0 + 2) j = h86_0 (x0 + 2) j := fun j => ((my_fr.at frh31 (ix_8_2 t0) rfl).trans (rfl : h86_0 (x0 + 2) j = h86_0 (x0 + 2) j))
                exact ih_86_0 (r86_0) ((p86_1 + 1)) h31 (gh31) (gxh31) tr86_0_86_0 (by omega) (by omega) (by omega) (by omega) (by omega) Ln_h31 Td_h31 (by first | exact Sc_cg ca sc3 | exact Sc_cg ca sc2_86_0 | exact Sc_cg ca sc2_67_0 | omega) (by first | assumption | omega | (subst_vars; omega) | omega) (by first | assumption | omega | (subst_vars; omega) | omega) (by first | assumption | omega | (subst_vars; omega) | omega) (by first | omega | (rw [ca]; omega) | omega) (by first | (rw [gs]; omega) | (show _ = ln_s h _; rw [show r86_0 = h 27 (h31 (x0 + 2) p67_1) by omega]; have := cl_67_0 (by omega); omega) | omega) (by omega) (by first | (intro z; exfalso; omega) | (intro _; exact Sc_c0 (by omega) sc_6_0 c0_6_0 ) | (intro z; rw [ca]; exact c0_86_0 z) | (intro z; rw [ca]; exact c0_67_0 z) | (intro z; rw [ca]; exact c0_6_0 z) | exact c0_67_0 | assumption | omega) (by first | exact vw_67_0 (by omega) | (rw [ca, show ((p86_1 + 1)).toNat = (p86_1).toNat + 1 by omega]; exact vq) | assumption | omega) (by omega)
              ·
                by_cases u36 : v10 = 5
                ·
                  refine w_tswE (t := 189) gz_67_104 u36 (by decide) (by decide) rfl rfl ?_
                  have k4 : h (r86_0 + 1) p86_1 = 5 := by omega
                  have k5 := qa.2 k4
                  rw [k4, ln_st5] at gs
                  refine w_aload_n gz_67_189 rfl ?_
                  refine w_aload gz_67_190 rfl ?_
                  refine w_getX (v := (r86_0 + 2)) gz_67_192 tr86_0_86_0 rd_4 rfl (by decide) rfl ?_
                  refine w_iload gz_67_195 rfl ?_
                  refine w_iald gz_67_197 (ix_4_2 tr86_0_86_0) rd_33 (by omega) (by omega) (fun v38 ev38 pv38 qv38 => ?_)
                  refine w_aload gz_67_198 rfl ?_
                  refine w_getX (v := (r86_0 + 3)) gz_67_200 tr86_0_86_0 rd_4 rfl (by decide) rfl ?_
                  refine w_iload gz_67_203 rfl ?_
                  refine w_iald gz_67_205 (ix_4_3 tr86_0_86_0) rd_34 (by omega) (by omega) (fun v40 ev40 pv40 qv40 => ?_)
                  have vb := VwI_be hb0 hb2 hm4 hgd wf1.1 vp_86_0
                  have hi41 : 0 ≤ v40 := by omega
                  have hi42 : v40 ≤ 7 := by omega
                  refine w_inv (k := 6) (as := [(0, v40), (0, v38)]) (r := []) (x := x0) (ls0 := [(2, x0), (0, v38), (0, v40), (9, 0), (9, 0), (9, 0), (9, 0), (9, 0), (9, 0)]) gz_67_206 gm_76 rfl t0 rd_8 rfl rfl rfl rfl rfl (c_View_sum5 (d := (d + 1)) (x0 := x0) (x1 := v38) (x2 := v40) t0 (by omega) (by omega) (by omega) (by omega) (by omega) (by omega) (by omega) (by omega) (by have wj := wf1.2.2.2.1 k4; have g2 := f2 p86_1; omega) (by have wj := wf1.2.2.2.1 k4; omega) (vb) (fun h43 frh43 fxh43 w44 xp45 xp46 xp47 => ?_))
                  have gh43 : my_fr [(8, 0), (8, 1), (42, -1), (43, -1), (44, -1)] h h43 := my_fr.tr gh_86_0 (frh43.mo rfl)
                  have gxh43 : my_fx x0 3 h h43 := my_fx.tr gx_86_0 fxh43
                  have Ln_h43 : Ln h43 := Ln_ag (my_ag.fr frh43 rfl) n_Ln_86_0
                  have Td_h43 : Td h43 x2 := Td_ag (my_ag.fr frh43 rfl) n_Ln_86_0 n_Td_86_0
                  show wp l rho (d + 3) 67 209 [(2, x0), (2, 27), (0, x2), (2, x3), (0, p67_0), (0, p67_1), (2, r86_0), (0, p86_1)] [] h43 Q
                  refine v_know (x := x0) (j := 0) (b := 0) rfl t0 rd_8 rfl (fun yA eyA pyA qyA => ?_)
                  have vq := VwI_sum (p := zqPk h r86_0 (p86_1).toNat) vp_86_0 (by rw [pk]; show h (r86_0 + 1) p86_1 = 5; have g2 := f2 p86_1; omega) (by rw [pk]; show h (r86_0 + 2) p86_1 = v38; have g2 := f2 p86_1; omega) (by rw [pk]; show h (r86_0 + 3) p86_1 = v40; have g2 := f2 p86_1; omega) xp46 (by omega) xp45 xp47
                  refine w_goto (t := 240) gz_67_209 rfl ?_
                  refine w_iinc (ls' := [(2, x0), (2, 27), (0, x2), (2, x3), (0, p67_0), (0, p67_1), (2, r86_0), (0, (p86_1 + 1))]) gz_67_240 rfl gm_67 rfl rfl rfl ⟨by omega, by omega⟩ ?_
                  refine w_goto (t := 86) gz_67_243 rfl ?_
                  have ca : ∀ j : Int, h43 (x0 + 2) j = h86_0 (x0 + 2) j := fun j => ((my_fr.at frh43 (ix_8_2 t0) rfl).trans (rfl : h86_0 (x0 + 2) j = h86_0 (x0 + 2) j))
                  have ce48 : h43 x0 1 = 2 := w44
                  exact ih_86_0 (r86_0) ((p86_1 + 1)) h43 (gh43) (gxh43) tr86_0_86_0 (by omega) (by omega) (by omega) (by omega) (by omega) Ln_h43 Td_h43 (by first | exact Sc_cg ca sc3 | exact Sc_cg ca sc2_86_0 | exact Sc_cg ca sc2_67_0 | omega) (by first | assumption | omega | (subst_vars; omega) | omega) (by first | assumption | omega | (subst_vars; omega) | omega) (by first | assumption | omega | (subst_vars; omega) | omega) (by first | omega | (rw [ca]; omega) | omega) (by first | (rw [gs]; omega) | (show _ = ln_s h _; rw [show r86_0 = h 27 (h43 (x0 + 2) p67_1) by omega]; have := cl_67_0 (by omega); omega) | omega) (by omega) (by first | (intro z; exfalso; omega) | (intro _; exact Sc_c0 (by omega) sc_6_0 c0_6_0 ) | (intro z; rw [ca]; exact c0_86_0 z) | (intro z; rw [ca]; exact c0_67_0 z) | (intro z; rw [ca]; exact c0_6_0 z) | exact c0_67_0 | assumption | omega) (by first | exact vw_67_0 (by omega) | (rw [ca, show ((p86_1 + 1)).toNat = (p86_1).toNat + 1 by omega]; exact vq) | assumption | omega) (by omega)
                ·
                  refine w_tswD (t := 212) gz_67_104 (by omega) rfl ?_
                  rw [ln_stN (by omega) (by omega) (by omega)] at gs
                  refine w_aload_n gz_67_212 rfl ?_
                  refine w_aload gz_67_213 rfl ?_
                  refine w_getX (v := (r86_0 + 1)) gz_67_215 tr86_0_86_0 rd_4 rfl (by decide) rfl ?_
                  refine w_iload gz_67_218 rfl ?_
                  refine w_iald gz_67_220 (ix_4_1 tr86_0_86_0) rd_32 (by omega) (by omega) (fun v50 ev50 pv50 qv50 => ?_)
                  have zv50 := ev50.trans ev10.symm
                  refine w_aload gz_67_221 rfl ?_
                  refine w_getX (v := (r86_0 + 2)) gz_67_223 tr86_0_86_0 rd_4 rfl (by decide) rfl ?_
                  refine w_iload gz_67_226 rfl ?_
                  refine w_iald gz_67_228 (ix_4_2 tr86_0_86_0) rd_33 (by omega) (by omega) (fun v52 ev52 pv52 qv52 => ?_)
                  refine w_aload gz_67_229 rfl ?_
                  refine w_getX (v := (r86_0 + 3)) gz_67_231 tr86_0_86_0 rd_4 rfl (by decide) rfl ?_
                  refine w_iload gz_67_234 rfl ?_
                  refine w_iald gz_67_236 (ix_4_3 tr86_0_86_0) rd_34 (by omega) (by omega) (fun v54 ev54 pv54 qv54 => ?_)
                  refine w_inv (k := 2) (as := [(0, v54), (0, v52), (0, v50)]) (r := []) (x := x0) (ls0 := [(2, x0), (0, v50), (0, v52), (0, v54), (9, 0), (9, 0)]) gz_67_237 gm_77 rfl t0 rd_8 rfl rfl rfl rfl rfl (c_View_cut5 (d := d) (x0 := x0) (x1 := v50) (x2 := v52) (x3 := v54) t0 (by omega) (by omega) (by omega) (by omega) (by omega) (by omega) (by omega) (by omega) (by omega) (by omega) (by omega) (by have wj := wf1.2.2.2.2.1 (by omega); have g2 := f2 p86_1; omega) (fun h55 frh55 fxh55 xp56 xp57 xp58 => ?_))
                  have gh55 : my_fr [(8, 0), (8, 1), (42, -1), (43, -1), (44, -1)] h h55 := my_fr.tr gh_86_0 (frh55.mo rfl)
                  have gxh55 : my_fx x0 3 h h55 := my_fx.tr gx_86_0 fxh55
                  have Ln_h55 : Ln h55 := Ln_ag (my_ag.fr frh55 rfl) n_Ln_86_0
                  have Td_h55 : Td h55 x2 := Td_ag (my_ag.fr frh55 rfl) n_Ln_86_0 n_Td_86_0
                  show wp l rho (d + 3) 67 240 [(2, x0), (2, 27), (0, x2), (2, x3), (0, p67_0), (0, p67_1), (2, r86_0), (0, p86_1)] [] h55 Q
                  refine v_know (x := x0) (j := 0) (b := 0) rfl t0 rd_8 rfl (fun yA eyA pyA qyA => ?_)
                  have vq := VwI_cut (p := zqPk h r86_0 (p86_1).toNat) vp_86_0 (k := v50) (by omega) (by omega) (by rw [pk]; show h (r86_0 + 1) p86_1 = v50; have g2 := f2 p86_1; omega) (by rw [pk]; show h (r86_0 + 2) p86_1 = v52; have g2 := f2 p86_1; omega) (by rw [pk]; show h (r86_0 + 3) p86_1 = v54; have g2 := f2 p86_1; omega) xp57 (by omega) xp56 xp58 (fun j => my_fr.at frh55 (ix_8_3 t0) rfl)
                  refine w_iinc (ls' := [(2, x0), (2, 27), (0, x2), (2, x3), (0, p67_0), (0, p67_1), (2, r86_0), (0, (p86_1 + 1))]) gz_67_240 rfl gm_67 rfl rfl rfl ⟨by omega, by omega⟩ ?_
                  refine w_goto (t := 86) gz_67_243 rfl ?_
                  have ca : ∀ j : Int, h55 (x0 + 2) j = h86_0 (x0 + 2) j := fun j => ((my_fr.at frh55 (ix_8_2 t0) rfl).trans (rfl : h86_0 (x0 + 2) j = h86_0 (x0 + 2) j))
                  have ce59 : h55 x0 1 = h86_0 x0 1 := ((my_fr.at frh55 t0 rfl).trans (rfl : h86_0 x0 1 = h86_0 x0 1))
                  exact ih_86_0 (r86_0) ((p86_1 + 1)) h55 (gh55) (gxh55) tr86_0_86_0 (by omega) (by omega) (by omega) (by omega) (by omega) Ln_h55 Td_h55 (by first | exact Sc_cg ca sc3 | exact Sc_cg ca sc2_86_0 | exact Sc_cg ca sc2_67_0 | omega) (by first | assumption | omega | (subst_vars; omega) | omega) (by first | assumption | omega | (subst_vars; omega) | omega) (by first | assumption | omega | (subst_vars; omega) | omega) (by first | omega | (rw [ca]; omega) | omega) (by first | (rw [gs]; omega) | (show _ = ln_s h _; rw [show r86_0 = h 27 (h55 (x0 + 2) p67_1) by omega]; have := cl_67_0 (by omega); omega) | omega) (by omega) (by first | (intro z; exfalso; omega) | (intro _; exact Sc_c0 (by omega) sc_6_0 c0_6_0 ) | (intro z; rw [ca]; exact c0_86_0 z) | (intro z; rw [ca]; exact c0_67_0 z) | (intro z; rw [ca]; exact c0_6_0 z) | exact c0_67_0 | assumption | omega) (by first | exact vw_67_0 (by omega) | (rw [ca, show ((p86_1 + 1)).toNat = (p86_1).toNat + 1 by omega]; exact vq) | assumption | omega) (by omega)
      refine w_iload gz_67_67 rfl ?_
      refine w_iflt (t := 256) gz_67_69 rfl (fun u60 => ?_) (fun u60 => ?_)
      ·
        refine w_aload_n gz_67_256 rfl ?_
        exact w_aret gz_67_257 gm_67 (k0 h67_0 (x0) (gh_67_0) (gx_67_0) t0 (by first | exact (vz_67_0 (by omega)).1 | exact (vz_67_0 (by omega)).2 | (subst_vars; omega) | assumption | omega) (by first | exact (vz_67_0 (by omega)).1 | exact (vz_67_0 (by omega)).2 | (subst_vars; omega) | assumption | omega) (by first | exact (vz_67_0 (by omega)).1 | exact (vz_67_0 (by omega)).2 | (subst_vars; omega) | assumption | omega))
      ·
        refine w_aload_n gz_67_72 rfl ?_
        refine w_aload_n gz_67_73 rfl ?_
        refine w_getX (v := (x0 + 2)) gz_67_74 t0 rd_8 rfl (by decide) rfl ?_
        refine w_iload gz_67_77 rfl ?_
        refine w_iald gz_67_79 (ix_8_2 t0) rd_43 (by omega) (by omega) (fun v62 ev62 pv62 qv62 => ?_)
        refine w_aald gz_67_80 is_27 rd_22 rfl (by omega) (by omega) (fun v63 ev63 tv63 => ?_)
        refine w_astore (ls' := [(2, x0), (2, 27), (0, x2), (2, x3), (0, p67_0), (0, p67_1), (2, v63), (9, 0)]) gz_67_81 gm_67 rfl rfl rfl ?_
        have d27 : h67_0 27 (h67_0 (x0 + 2) p67_1) = h 27 (h67_0 (x0 + 2) p67_1) := my_fr.at gh_67_0 is_27 rfl
        have dv : v63 = h 27 (h67_0 (x0 + 2) p67_1) := by subst_vars; omega
        refine v_know (b := 9) (j := 9) rfl tv63 rd_4 rfl (fun y9 ey9 py9 qy9 => ?_)
        have dw : h67_0 v63 9 = h v63 9 := my_fr.at gh_67_0 tv63 rfl
        refine w_iconst gz_67_83 (by decide) ?_
        refine w_istore (ls' := [(2, x0), (2, 27), (0, x2), (2, x3), (0, p67_0), (0, p67_1), (2, v63), (0, 0)]) gz_67_84 gm_67 rfl rfl rfl ?_
        have ca : ∀ j : Int, h67_0 (x0 + 2) j = h67_0 (x0 + 2) j := fun _ => rfl
        exact J86_0 7 (v63) (0) h67_0 (gh_67_0) (gx_67_0) tv63 (by omega) (by omega) (by omega) (by omega) (by omega) n_Ln_67_0 n_Td_67_0 (by first | exact Sc_cg ca sc3 | exact Sc_cg ca sc2_86_0 | exact Sc_cg ca sc2_67_0 | omega) (by first | assumption | omega | (subst_vars; omega) | omega) (by first | assumption | omega | (subst_vars; omega) | omega) (by first | assumption | omega | (subst_vars; omega) | omega) (by first | omega | (rw [ca]; omega) | omega) (by first | (rw [gs]; omega) | (show _ = ln_s h _; rw [show v63 = h 27 (h67_0 (x0 + 2) p67_1) by omega]; have := cl_67_0 (by omega); omega) | omega) (by omega) (by first | (intro z; exfalso; omega) | (intro _; exact Sc_c0 (by omega) sc_6_0 c0_6_0 ) | (intro z; rw [ca]; exact c0_86_0 z) | (intro z; rw [ca]; exact c0_67_0 z) | (intro z; rw [ca]; exact c0_6_0 z) | exact c0_67_0 | assumption | omega) (by first | exact vw_67_0 (by omega) | (rw [ca, show (0).toNat = (p86_1).toNat + 1 by omega]; exact vq) | assumption | omega) (by omega)
  have J6_0 : ∀ (n : Nat) (p6_0 p6_1 : Int) (h6_0 : my_H), my_fr [(8, 0), (8, 1), (42, -1), (43, -1), (44, -1)] h h6_0 → my_fx x0 3 h h6_0 → 0 ≤ p6_0 → p6_0 ≤ 6 → (-1) ≤ p6_1 → p6_1 ≤ 5 → Ln h6_0 → Td h6_0 x2 → Sc h h6_0 (x0 + 2) p6_0 p6_1 x2 → (0 < p6_0 → h6_0 (x0 + 2) 0 = x2) → 7 - p6_0 ≤ (n : Int) → wp l rho (d + 3) 67 6 [(2, x0), (2, 27), (0, x2), (2, x3), (0, p6_0), (0, p6_1), (9, 0), (9, 0)] [] h6_0 Q := by
    intro n
    induction n with
    | zero => intro p6_0 p6_1 h6_0 gh_6_0 gx_6_0 q0_6_0 q1_6_0 q2_6_0 q3_6_0 n_Ln_6_0 n_Td_6_0 sc_6_0 c0_6_0 hm_6_0; exfalso; omega
    | succ n ih_6_0 =>
      intro p6_0 p6_1 h6_0 gh_6_0 gx_6_0 q0_6_0 q1_6_0 q2_6_0 q3_6_0 n_Ln_6_0 n_Td_6_0 sc_6_0 c0_6_0 hm_6_0
      refine w_iload gz_67_6 rfl ?_
      refine w_iconst gz_67_8 (by decide) ?_
      refine w_iceq (t := 43) gz_67_9 rfl (fun u64 => ?_) (fun u64 => ?_)
      ·
        have ew : p6_1 = -1 := by have := sc_6_0.1; omega
        have sc3 : Sc h h6_0 (x0 + 2) p6_0 (-1) x2 := by have q := sc_6_0; rw [ew] at q; exact q
        have dp : 0 < p6_0 := by have := sc3.2.2.2; omega
        have b27 : h6_0 27 x2 = h 27 x2 := my_fr.at gh_6_0 is_27 rfl
        have eS : h6_0 (x3 + 1) = h (x3 + 1) := funext (fun j => my_fr.at gh_6_0 (ix_6_1 t3) rfl)
        refine w_aload_n gz_67_43 rfl ?_
        refine w_aload_n gz_67_44 rfl ?_
        refine w_aload_n gz_67_45 rfl ?_
        refine w_iload_n gz_67_46 rfl ?_
        refine w_aald gz_67_47 is_27 rd_22 rfl (by omega) (by omega) (fun v65 ev65 tv65 => ?_)
        have b8 : h6_0 v65 2 = h v65 2 := my_fr.at gh_6_0 tv65 rfl
        have b9 : v65 = h 27 x2 := by omega
        refine v_getI (j := 2) gz_67_48 rfl tv65 rd_4 rfl (fun v66 ev66 pv66 qv66 => ?_)
        have b7 : v66 = h (h 27 x2) 2 := by rw [← b9]; omega
        refine w_aload_n gz_67_51 rfl ?_
        refine w_iload_n gz_67_52 rfl ?_
        refine w_aald gz_67_53 is_27 rd_22 rfl (by omega) (by omega) (fun v67 ev67 tv67 => ?_)
        have zv67 : v65 = v67 := (ev67.trans ev65.symm).symm
        subst zv67
        have b3 : h6_0 v65 3 = h v65 3 := my_fr.at gh_6_0 tv65 rfl
        have b4 : v65 = h 27 x2 := by omega
        refine v_getI (j := 3) gz_67_54 rfl tv65 rd_4 rfl (fun v68 ev68 pv68 qv68 => ?_)
        have b5 : v68 = h (h 27 x2) 3 := by rw [← b4]; omega
        refine w_iconst gz_67_57 (by decide) ?_
        refine w_inv (k := 2) (as := [(0, (-1)), (0, v68), (0, v66), (2, x3)]) (r := []) (x := x0) (ls0 := [(2, x0), (2, x3), (0, v66), (0, v68), (0, (-1)), (9, 0), (9, 0)]) gz_67_58 gm_68 rfl t0 rd_8 rfl rfl rfl rfl rfl (c_View_load5 (d := (d + 1)) (x0 := x0) (x1 := x3) (x2 := v66) (x3 := v68) (x4 := (-1)) t0 t3 (by omega) (by omega) (by omega) (by omega) (by omega) (by omega) (by omega) (by omega) (by rw [eS, b7]; exact hgd.2 _ hb0 hb2) (fun h69 frh69 fxh69 w70 w71 w72 w73 xp74 xp75 xp76 => ?_))
        have gh69 : my_fr [(8, 0), (8, 1), (42, -1), (43, -1), (44, -1)] h h69 := my_fr.tr gh_6_0 (frh69.mo rfl)
        have gxh69 : my_fx x0 3 h h69 := my_fx.tr gx_6_0 fxh69
        have Ln_h69 : Ln h69 := Ln_ag (my_ag.fr frh69 rfl) n_Ln_6_0
        have Td_h69 : Td h69 x2 := Td_ag (my_ag.fr frh69 rfl) n_Ln_6_0 n_Td_6_0
        show wp l rho (d + 3) 67 61 [(2, x0), (2, 27), (0, x2), (2, x3), (0, p6_0), (0, p6_1), (9, 0), (9, 0)] [] h69 Q
        have vl := VwI_ld (by omega) (by omega) xp76 xp74 (by omega) xp75
        rw [eS, b7, b5] at vl
        refine w_iload gz_67_61 rfl ?_
        refine w_iconst gz_67_63 (by decide) ?_
        refine w_isub gz_67_64 ⟨by omega, by omega⟩ ?_
        refine w_istore (ls' := [(2, x0), (2, 27), (0, x2), (2, x3), (0, p6_0), (0, (p6_0 - 1)), (9, 0), (9, 0)]) gz_67_65 gm_67 rfl rfl rfl ?_
        have ca : ∀ j : Int, h69 (x0 + 2) j = h6_0 (x0 + 2) j := fun j => ((my_fr.at frh69 (ix_8_2 t0) rfl).trans (rfl : h6_0 (x0 + 2) j = h6_0 (x0 + 2) j))
        have ce77 : h69 x0 0 = (h69 x0 0) := (rfl : h69 x0 0 = h69 x0 0)
        have ce78 : h69 x0 1 = (h69 x0 1) := (rfl : h69 x0 1 = h69 x0 1)
        exact J67_0 (7) (p6_0) ((p6_0 - 1)) h69 (gh69) (gxh69) (by omega) (by omega) (by omega) (by omega) (by omega) Ln_h69 Td_h69 (by first | exact Sc_cg ca sc3 | exact Sc_cg ca sc2_86_0 | exact Sc_cg ca sc2_67_0 | omega) (by first | assumption | omega | (subst_vars; omega) | omega) (by first | assumption | omega | (subst_vars; omega) | omega) (by first | (intro _; rw [ca, Sc_bot sc3 dp]; omega) | (intro q; rw [ca, Sc_up sc2_86_0 q (by omega), show (p6_0 - 1) + 1 = p67_1 by omega, ← lr_86_0]; omega) | omega) (by first | assumption | omega | (subst_vars; omega) | omega) (by first | (intro z; exfalso; omega) | (intro _; exact Sc_c0 (by omega) sc_6_0 c0_6_0 ) | (intro z; rw [ca]; exact c0_86_0 z) | (intro z; rw [ca]; exact c0_67_0 z) | (intro z; rw [ca]; exact c0_6_0 z) | exact c0_67_0 | assumption | omega) (by first | (intro _; rw [ca, Un_bot sc3 dp]; exact vl) | (intro q; rw [ca, Sc_un sc2_86_0 q (by omega), show (p6_0 - 1) + 1 = p67_1 by omega]; exact vc) | assumption | omega) (by first | (intro z; exfalso; omega) | (intro z; have q := vc; rw [show p67_1 = 0 by omega, c0_86_0 (by omega)] at q; exact ⟨q, vs.2⟩) | assumption | omega) (by omega)
      ·
        refine w_iload gz_67_12 rfl ?_
        refine w_bipush gz_67_14 (by decide) ?_
        refine w_icge (t := 43) gz_67_16 rfl (fun u79 => ?_) (fun u79 => ?_)
        ·
          have ew : p6_1 = -1 := by have := sc_6_0.1; omega
          have sc3 : Sc h h6_0 (x0 + 2) p6_0 (-1) x2 := by have q := sc_6_0; rw [ew] at q; exact q
          have dp : 0 < p6_0 := by have := sc3.2.2.2; omega
          have b27 : h6_0 27 x2 = h 27 x2 := my_fr.at gh_6_0 is_27 rfl
          have eS : h6_0 (x3 + 1) = h (x3 + 1) := funext (fun j => my_fr.at gh_6_0 (ix_6_1 t3) rfl)
          refine w_aload_n gz_67_43 rfl ?_
          refine w_aload_n gz_67_44 rfl ?_
          refine w_aload_n gz_67_45 rfl ?_
          refine w_iload_n gz_67_46 rfl ?_
          refine w_aald gz_67_47 is_27 rd_22 rfl (by omega) (by omega) (fun v80 ev80 tv80 => ?_)
          have b8 : h6_0 v80 2 = h v80 2 := my_fr.at gh_6_0 tv80 rfl
          have b9 : v80 = h 27 x2 := by omega
          refine v_getI (j := 2) gz_67_48 rfl tv80 rd_4 rfl (fun v81 ev81 pv81 qv81 => ?_)
          have b7 : v81 = h (h 27 x2) 2 := by rw [← b9]; omega
          refine w_aload_n gz_67_51 rfl ?_
          refine w_iload_n gz_67_52 rfl ?_
          refine w_aald gz_67_53 is_27 rd_22 rfl (by omega) (by omega) (fun v82 ev82 tv82 => ?_)
          have zv82 : v80 = v82 := (ev82.trans ev80.symm).symm
          subst zv82
          have b3 : h6_0 v80 3 = h v80 3 := my_fr.at gh_6_0 tv80 rfl
          have b4 : v80 = h 27 x2 := by omega
          refine v_getI (j := 3) gz_67_54 rfl tv80 rd_4 rfl (fun v83 ev83 pv83 qv83 => ?_)
          have b5 : v83 = h (h 27 x2) 3 := by rw [← b4]; omega
          refine w_iconst gz_67_57 (by decide) ?_
          refine w_inv (k := 2) (as := [(0, (-1)), (0, v83), (0, v81), (2, x3)]) (r := []) (x := x0) (ls0 := [(2, x0), (2, x3), (0, v81), (0, v83), (0, (-1)), (9, 0), (9, 0)]) gz_67_58 gm_68 rfl t0 rd_8 rfl rfl rfl rfl rfl (c_View_load5 (d := (d + 1)) (x0 := x0) (x1 := x3) (x2 := v81) (x3 := v83) (x4 := (-1)) t0 t3 (by omega) (by omega) (by omega) (by omega) (by omega) (by omega) (by omega) (by omega) (by rw [eS, b7]; exact hgd.2 _ hb0 hb2) (fun h84 frh84 fxh84 w85 w86 w87 w88 xp89 xp90 xp91 => ?_))
          have gh84 : my_fr [(8, 0), (8, 1), (42, -1), (43, -1), (44, -1)] h h84 := my_fr.tr gh_6_0 (frh84.mo rfl)
          have gxh84 : my_fx x0 3 h h84 := my_fx.tr gx_6_0 fxh84
          have Ln_h84 : Ln h84 := Ln_ag (my_ag.fr frh84 rfl) n_Ln_6_0
          have Td_h84 : Td h84 x2 := Td_ag (my_ag.fr frh84 rfl) n_Ln_6_0 n_Td_6_0
          show wp l rho (d + 3) 67 61 [(2, x0), (2, 27), (0, x2), (2, x3), (0, p6_0), (0, p6_1), (9, 0), (9, 0)] [] h84 Q
          have vl := VwI_ld (by omega) (by omega) xp91 xp89 (by omega) xp90
          rw [eS, b7, b5] at vl
          refine w_iload gz_67_61 rfl ?_
          refine w_iconst gz_67_63 (by decide) ?_
          refine w_isub gz_67_64 ⟨by omega, by omega⟩ ?_
          refine w_istore (ls' := [(2, x0), (2, 27), (0, x2), (2, x3), (0, p6_0), (0, (p6_0 - 1)), (9, 0), (9, 0)]) gz_67_65 gm_67 rfl rfl rfl ?_
          have ca : ∀ j : Int, h84 (x0 + 2) j = h6_0 (x0 + 2) j := fun j => ((my_fr.at frh84 (ix_8_2 t0) rfl).trans (rfl : h6_0 (x0 + 2) j = h6_0 (x0 + 2) j))
          have ce92 : h84 x0 0 = (h84 x0 0) := (rfl : h84 x0 0 = h84 x0 0)
          have ce93 : h84 x0 1 = (h84 x0 1) := (rfl : h84 x0 1 = h84 x0 1)
          exact J67_0 (7) (p6_0) ((p6_0 - 1)) h84 (gh84) (gxh84) (by omega) (by omega) (by omega) (by omega) (by omega) Ln_h84 Td_h84 (by first | exact Sc_cg ca sc3 | exact Sc_cg ca sc2_86_0 | exact Sc_cg ca sc2_67_0 | omega) (by first | assumption | omega | (subst_vars; omega) | omega) (by first | assumption | omega | (subst_vars; omega) | omega) (by first | (intro _; rw [ca, Sc_bot sc3 dp]; omega) | (intro q; rw [ca, Sc_up sc2_86_0 q (by omega), show (p6_0 - 1) + 1 = p67_1 by omega, ← lr_86_0]; omega) | omega) (by first | assumption | omega | (subst_vars; omega) | omega) (by first | (intro z; exfalso; omega) | (intro _; exact Sc_c0 (by omega) sc_6_0 c0_6_0 ) | (intro z; rw [ca]; exact c0_86_0 z) | (intro z; rw [ca]; exact c0_67_0 z) | (intro z; rw [ca]; exact c0_6_0 z) | exact c0_67_0 | assumption | omega) (by first | (intro _; rw [ca, Un_bot sc3 dp]; exact vl) | (intro q; rw [ca, Sc_un sc2_86_0 q (by omega), show (p6_0 - 1) + 1 = p67_1 by omega]; exact vc) | assumption | omega) (by first | (intro z; exfalso; omega) | (intro z; have q := vc; rw [show p67_1 = 0 by omega, c0_86_0 (by omega)] at q; exact ⟨q, vs.2⟩) | assumption | omega) (by omega)
        ·
          refine w_aload_n gz_67_19 rfl ?_
          refine w_getX (v := (x0 + 2)) gz_67_20 t0 rd_8 rfl (by decide) rfl ?_
          refine w_iload gz_67_23 rfl ?_
          refine w_iinc (ls' := [(2, x0), (2, 27), (0, x2), (2, x3), (0, (p6_0 + 1)), (0, p6_1), (9, 0), (9, 0)]) gz_67_25 rfl gm_67 rfl rfl rfl ⟨by omega, by omega⟩ ?_
          refine w_iload gz_67_28 rfl ?_
          refine w_iast gz_67_30 (ix_8_2 t0) rd_43 (by omega) (by omega) (by omega) (by omega) (fun h95 fh95 => ?_)
          have gh95 : my_fr [(8, 0), (8, 1), (42, -1), (43, -1), (44, -1)] h h95 := my_fr.up gh_6_0 (ix_8_2 t0) fh95 rfl
          have gxh95 : my_fx x0 3 h h95 := my_fx.up gx_6_0 fh95 (by omega)
          have Ln_h95 : Ln h95 := Ln_ag (my_ag.up fh95 (ix_8_2 t0) rfl) n_Ln_6_0
          have Td_h95 : Td h95 x2 := Td_ag (my_ag.up fh95 (ix_8_2 t0) rfl) n_Ln_6_0 n_Td_6_0
          refine w_aload_n gz_67_31 rfl ?_
          refine w_iload gz_67_32 rfl ?_
          refine w_aald gz_67_34 is_27 rd_22 rfl (by omega) (by omega) (fun v96 ev96 tv96 => ?_)
          have a27 : h95 27 p6_1 = h 27 p6_1 := my_fr.at gh95 is_27 rfl
          have a1 : h95 v96 1 = h v96 1 := my_fr.at gh95 tv96 rfl
          have a3 : v96 = h 27 p6_1 := by omega
          refine v_getI (j := 1) gz_67_35 rfl tv96 rd_4 rfl (fun v97 ev97 pv97 qv97 => ?_)
          have a4 : v97 = h (h 27 p6_1) 1 := by rw [← a3]; omega
          refine w_istore (ls' := [(2, x0), (2, 27), (0, x2), (2, x3), (0, (p6_0 + 1)), (0, v97), (9, 0), (9, 0)]) gz_67_38 gm_67 rfl rfl rfl ?_
          refine w_goto (t := 6) gz_67_40 rfl ?_
          exact ih_6_0 ((p6_0 + 1)) (v97) h95 (gh95) (gxh95) (by omega) (by omega) (by omega) (by omega) Ln_h95 Td_h95 (by first | exact Sc_0 htold (by omega) (by omega) | (rw [a4]; exact Sc_s sc_6_0 (by omega) (by omega) n_Ln fh95) | omega) (by first | (intro z; exfalso; omega) | (intro _; exact Sc_c0 (by omega) sc_6_0 c0_6_0 fh95) | (intro z; rw [ca]; exact c0_86_0 z) | (intro z; rw [ca]; exact c0_67_0 z) | (intro z; rw [ca]; exact c0_6_0 z) | exact c0_67_0 | assumption | omega) (by omega)
  refine w_iconst gz_67_0 (by decide) ?_
  refine w_istore (ls' := [(2, x0), (2, 27), (0, x2), (2, x3), (0, 0), (9, 0), (9, 0), (9, 0)]) gz_67_1 gm_67 rfl rfl rfl ?_
  refine w_iload_n gz_67_3 rfl ?_
  refine w_istore (ls' := [(2, x0), (2, 27), (0, x2), (2, x3), (0, 0), (0, x2), (9, 0), (9, 0)]) gz_67_4 gm_67 rfl rfl rfl ?_
  exact J6_0 7 (0) (x2) h (my_fr.rf) (my_fx.rf) (by omega) (by omega) (by omega) (by omega) n_Ln n_Td (by first | exact Sc_0 htold (by omega) (by omega) | (rw [a4]; exact Sc_s sc_6_0 (by omega) (by omega) n_Ln ) | omega) (by first | (intro z; exfalso; omega) | (intro _; exact Sc_c0 (by omega) sc_6_0 c0_6_0 ) | (intro z; rw [ca]; exact c0_86_0 z) | (intro z; rw [ca]; exact c0_67_0 z) | (intro z; rw [ca]; exact c0_6_0 z) | exact c0_67_0 | assumption | omega) (by omega)
end MYNView_show5
