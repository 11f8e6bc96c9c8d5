/-! contracts, printed by wip/gen/gy.py -/
section MYNView_few5_v8_36
theorem c_View_few5_v8_36 {l : Launch} {rho : Nat → Int32} {d : Nat} {h : my_H} {Q : my_H → my_V → Prop} {x0 x1 x2 x3 : Int} (t0 : my_is 8 x0) (t1 : my_is 36 x1) (a2 : 0 ≤ x2) (b2 : x2 ≤ 40) (a3 : 0 ≤ x3) (b3 : x3 ≤ 8) (m3_0 : 0 ≤ x3 % 17) (m3_1 : x3 % 17 ≤ 8) (hf : ∀ j : Int, 0 ≤ j → j < x3 → 0 ≤ h x1 (x2 + j) ∧ h x1 (x2 + j) < h x0 1) (k0 : ∀ (h' : my_H), my_fr [(8, 1), (42, -1)] h h' → my_fx x0 3 h h' → h' x0 0 = h x0 0 → h' x0 1 = x3 → zqL (zqE h' x0 x3) (h x0 0).toNat = (zqL (zqE h x0 (h x0 1)) (h x0 0).toNat).filterMap (zqO2 (fun _ => 0) (h x0 1) (3, 0, 0, x3, (fun j => h x1 (x2 + j)))) → Q h' (9, 0)) : wp l rho (d + 2) 71 0 [(2, x0), (2, x1), (0, x2), (0, x3), (9, 0), (9, 0), (9, 0)] [] h Q := by
  refine v_know (x := x0) (j := 0) (b := 0) rfl t0 rd_8 rfl (fun ka0_0 eka0_0 pka0_0 qka0_0 => ?_)
  have J3_0 : ∀ (n : Nat) (p3_0 : Int) (h3_0 : my_H), my_fr [(8, 1), (42, -1)] h h3_0 → my_fx x0 3 h h3_0 → 0 ≤ p3_0 → p3_0 ≤ 11 → p3_0 ≤ ka0_0 → h3_0 x0 0 = ka0_0 → FewR h h3_0 x0 (h x0 1) x3 (fun j => h x1 (x2 + j)) p3_0 → 12 - p3_0 ≤ (n : Int) → wp l rho (d + 2) 71 3 [(2, x0), (2, x1), (0, x2), (0, x3), (0, p3_0), (9, 0), (9, 0)] [] h3_0 Q := by
    intro n
    induction n with
    | zero => intro p3_0 h3_0 gh_3_0 gx_3_0 q0_3_0 q1_3_0 q2_3_0 ca0_0_3_0 fr_3_0 hm_3_0; exfalso; omega
    | succ n ih_3_0 =>
      intro p3_0 h3_0 gh_3_0 gx_3_0 q0_3_0 q1_3_0 q2_3_0 ca0_0_3_0 fr_3_0 hm_3_0
      have J23_0 : ∀ (n : Nat) (p23_0 : Int) (h23_0 : my_H), my_fr [(8, 1), (42, -1)] h h23_0 → my_fx x0 3 h h23_0 → p3_0 ≤ 10 → 0 ≤ p23_0 → p23_0 ≤ 8 → 1 ≤ ka0_0 → p23_0 ≤ x3 → p3_0 ≤ (ka0_0 - 1) → h23_0 x0 0 = ka0_0 → FewI h h23_0 x0 (h x0 1) x3 (fun j => h x1 (x2 + j)) p3_0 p23_0 → 9 - p23_0 ≤ (n : Int) → wp l rho (d + 2) 71 23 [(2, x0), (2, x1), (0, x2), (0, x3), (0, p3_0), (0, p23_0), (9, 0)] [] h23_0 Q := by
        intro n
        induction n with
        | zero => intro p23_0 h23_0 gh_23_0 gx_23_0 q0_23_0 q1_23_0 q2_23_0 q3_23_0 q4_23_0 q5_23_0 ca0_0_23_0 fi_23_0 hm_23_0; exfalso; omega
        | succ n ih_23_0 =>
          intro p23_0 h23_0 gh_23_0 gx_23_0 q0_23_0 q1_23_0 q2_23_0 q3_23_0 q4_23_0 q5_23_0 ca0_0_23_0 fi_23_0 hm_23_0
          refine w_iload gz_71_23 rfl ?_
          refine w_iload_n gz_71_25 rfl ?_
          refine w_icge (t := 93) gz_71_26 rfl (fun u1 => ?_) (fun u1 => ?_)
          ·
            refine w_iinc (ls' := [(2, x0), (2, x1), (0, x2), (0, x3), (0, (p3_0 + 1)), (0, p23_0), (9, 0)]) gz_71_93 rfl gm_71 rfl rfl rfl ⟨by omega, by omega⟩ ?_
            refine w_goto (t := 3) gz_71_96 rfl ?_
            refine w_weak (ls' := [(2, x0), (2, x1), (0, x2), (0, x3), (0, (p3_0 + 1)), (9, 0), (9, 0)]) (wk_e (wk_e (wk_e (wk_e (wk_e (wk_9 (wk_9 wk_n))))))) ?_
            exact ih_3_0 ((p3_0 + 1)) h23_0 (gh_23_0) (gx_23_0) (by omega) (by omega) (by omega) (ca0_0_23_0.trans (by omega)) (by first | exact FmI_0 (fun _ => rfl) | exact FewI_e hf (by omega) fi_23_0 | assumption | omega) (by omega)
          ·
            refine w_sipush gz_71_29 (by decide) ?_
            refine w_aload_n gz_71_32 rfl ?_
            refine w_iload_n gz_71_33 rfl ?_
            refine w_iload gz_71_34 rfl ?_
            refine w_iadd gz_71_36 ⟨by omega, by omega⟩ ?_
            have hi2 : 0 ≤ (x2 + p23_0) := by omega
            have hi3 : (x2 + p23_0) ≤ 47 := by omega
            refine w_iald gz_71_37 t1 rd_36 (by omega) (by omega) (fun v4 ev4 pv4 qv4 => ?_)
            obtain ⟨pv, epv⟩ : ∃ z : Int, z = v4 := ⟨_, rfl⟩
            have ep : h x1 (x2 + p23_0) = pv := by
              have z := my_fr.at (j := x2 + p23_0) gh_23_0 t1 rfl
              rw [← z, show x2 + p23_0 = (x2 + p23_0) by omega]
              omega
            refine w_iadd gz_71_38 ⟨by omega, by omega⟩ ?_
            refine w_istore (ls' := [(2, x0), (2, x1), (0, x2), (0, x3), (0, p3_0), (0, p23_0), (0, (187 + v4))]) gz_71_39 gm_71 rfl rfl rfl ?_
            refine w_aload_n gz_71_41 rfl ?_
            refine w_getX (v := (x0 + 1)) gz_71_42 t0 rd_8 rfl (by decide) rfl ?_
            refine w_iload gz_71_45 rfl ?_
            refine w_bipush gz_71_47 (by decide) ?_
            refine w_imul gz_71_49 ⟨by omega, by omega⟩ ?_
            refine w_iload gz_71_50 rfl ?_
            refine w_iadd gz_71_52 ⟨by omega, by omega⟩ ?_
            refine w_aload_n gz_71_53 rfl ?_
            refine w_getX (v := (x0 + 1)) gz_71_54 t0 rd_8 rfl (by decide) rfl ?_
            refine w_iload gz_71_57 rfl ?_
            refine w_gldA gz_71_59 (ix_8_1 t0) rd_42 (by omega) (by omega) (fun v7 ev7 pv7 qv7 => ?_)
            have eb : v7 = h23_0 (x0 + 1) (187 + h x1 (x2 + p23_0)) := by
              rw [ep, show 187 + pv = (187 + v4) by omega]
              omega
            refine w_gstV gz_71_60 (ix_8_1 t0) rd_42 (by omega) (by omega) (by omega) (fun h8 fh8 => ?_)
            have gh8 : my_fr [(8, 1), (42, -1)] h h8 := my_fr.up gh_23_0 (ix_8_1 t0) fh8 rfl
            have gxh8 : my_fx x0 3 h h8 := my_fx.up gx_23_0 fh8 (by omega)
            refine w_aload_n gz_71_61 rfl ?_
            refine w_getX (v := (x0 + 1)) gz_71_62 t0 rd_8 rfl (by decide) rfl ?_
            refine w_iload gz_71_65 rfl ?_
            refine w_bipush gz_71_67 (by decide) ?_
            refine w_imul gz_71_69 ⟨by omega, by omega⟩ ?_
            refine w_bipush gz_71_70 (by decide) ?_
            refine w_iadd gz_71_72 ⟨by omega, by omega⟩ ?_
            refine w_iload gz_71_73 rfl ?_
            refine w_iadd gz_71_75 ⟨by omega, by omega⟩ ?_
            refine w_aload_n gz_71_76 rfl ?_
            refine w_getX (v := (x0 + 1)) gz_71_77 t0 rd_8 rfl (by decide) rfl ?_
            refine w_iload gz_71_80 rfl ?_
            refine w_bipush gz_71_82 (by decide) ?_
            refine w_iadd gz_71_84 ⟨by omega, by omega⟩ ?_
            refine w_gldS gz_71_85 (ix_8_1 t0) rd_42 (by omega) (by omega) (by omega) (by omega) (fun v11 ev11 pv11 qv11 => ?_)
            refine w_gstS gz_71_86 (ix_8_1 t0) rd_42 (by omega) (by omega) (by omega) (by omega) (by omega) (by omega) (fun h12 fh12 => ?_)
            have gh12 : my_fr [(8, 1), (42, -1)] h h12 := my_fr.up gh8 (ix_8_1 t0) fh12 rfl
            have gxh12 : my_fx x0 3 h h12 := my_fx.up gxh8 fh12 (by omega)
            refine w_iinc (ls' := [(2, x0), (2, x1), (0, x2), (0, x3), (0, p3_0), (0, (p23_0 + 1)), (0, (187 + v4))]) gz_71_87 rfl gm_71 rfl rfl rfl ⟨by omega, by omega⟩ ?_
            refine w_goto (t := 23) gz_71_90 rfl ?_
            refine w_weak (ls' := [(2, x0), (2, x1), (0, x2), (0, x3), (0, p3_0), (0, (p23_0 + 1)), (9, 0)]) (wk_e (wk_e (wk_e (wk_e (wk_e (wk_e (wk_9 wk_n))))))) ?_
            exact ih_23_0 ((p23_0 + 1)) h12 (gh12) (gxh12) (by omega) (by omega) (by omega) (by omega) (by omega) (by omega) (((my_up_role fh12 t0 (ix_8_1 t0) rfl).trans ((my_up_role fh8 t0 (ix_8_1 t0) rfl).trans ca0_0_23_0)).trans (by omega)) (by first | exact FewI_0 (by omega) (by omega) fr_3_0 no_such_copy | exact FewI_s (by omega) (by omega) (by omega) (by omega) (by show 0 ≤ h x1 (x2 + p23_0); omega) (by show h x1 (x2 + p23_0) ≤ 7; omega) fi_23_0 fh8 eb fh12 (by omega) | assumption | omega) (by omega)
      refine w_iload gz_71_3 rfl ?_
      refine w_aload_n gz_71_5 rfl ?_
      refine v_getI (j := 0) gz_71_6 rfl t0 rd_8 rfl (fun v13 ev13 pv13 qv13 => ?_)
      have zv13 := ev13.trans ca0_0_3_0
      refine w_icge (t := 99) gz_71_9 rfl (fun u14 => ?_) (fun u14 => ?_)
      ·
        refine w_aload_n gz_71_99 rfl ?_
        refine w_iload_n gz_71_100 rfl ?_
        refine v_putI (j := 1) gz_71_101 rfl t0 rd_8 rfl (by omega) (by omega) rfl (fun h15 fh15 => ?_)
        have gh15 : my_fr [(8, 1), (42, -1)] h h15 := my_fr.up gh_3_0 t0 fh15 rfl
        have gxh15 : my_fx x0 3 h h15 := my_fx.up gx_3_0 fh15 (by omega)
        have ce16 : h15 x0 0 = v13 := ((my_up_fld fh15 (by decide)).trans ev13.symm)
        have ce17 : h15 x0 1 = x3 := (my_up_self fh15)
        have ga : ∀ j : Int, h15 (x0 + 1) j = h3_0 (x0 + 1) j := fun j => ((my_up_role fh15 (ix_8_1 t0) t0 rfl).trans (rfl : h3_0 (x0 + 1) j = h3_0 (x0 + 1) j))
        exact w_vret gz_71_104 gm_71 (k0 h15 (gh15) (gxh15) (by first | (have q := fr_3_0.2.2.2; rw [show p3_0.toNat = (h x0 0).toNat by omega] at q; exact (zqL_cg (fun i _ => zqE_cg (by omega) (fun j _ _ => ga j))).trans q) | assumption | omega) (by first | (have q := fr_3_0.2.2.2; rw [show p3_0.toNat = (h x0 0).toNat by omega] at q; exact (zqL_cg (fun i _ => zqE_cg (by omega) (fun j _ _ => ga j))).trans q) | assumption | omega) (by first | (have q := fr_3_0.2.2.2; rw [show p3_0.toNat = (h x0 0).toNat by omega] at q; exact (zqL_cg (fun i _ => zqE_cg (by omega) (fun j _ _ => ga j))).trans q) | assumption | omega))
      ·
        refine w_aload_n gz_71_12 rfl ?_
        refine w_iload gz_71_13 rfl ?_
        refine w_bipush gz_71_15 (by decide) ?_
        refine w_inv (k := 0) (as := [(0, 11), (0, p3_0)]) (r := []) (x := x0) (ls0 := [(2, x0), (0, p3_0), (0, 11)]) gz_71_17 gm_72 rfl t0 rd_8 rfl rfl rfl rfl rfl ?_
        refine w_iload_n gz_72_0 rfl ?_
        refine w_iload_n gz_72_1 rfl ?_
        refine w_iceq (t := 26) gz_72_2 rfl (fun u18 => by exfalso; omega) (fun u18 => ?_)
        refine w_aload_n gz_72_5 rfl ?_
        refine w_getX (v := (x0 + 1)) gz_72_6 t0 rd_8 rfl (by decide) rfl ?_
        refine w_iload_n gz_72_9 rfl ?_
        refine w_bipush gz_72_10 (by decide) ?_
        refine w_imul gz_72_12 ⟨by omega, by omega⟩ ?_
        refine w_aload_n gz_72_13 rfl ?_
        refine w_getX (v := (x0 + 1)) gz_72_14 t0 rd_8 rfl (by decide) rfl ?_
        refine w_iload_n gz_72_17 rfl ?_
        refine w_bipush gz_72_18 (by decide) ?_
        refine w_imul gz_72_20 ⟨by omega, by omega⟩ ?_
        refine w_bipush gz_72_21 (by decide) ?_
        refine w_cpG gz_72_23 (ix_8_1 t0) rd_42 (ix_8_1 t0) rd_42 (by omega) (by omega) (by omega) (by omega) (by omega) rfl (by omega) (fun h21 fh21 => ?_)
        have gh21 : my_fr [(8, 1), (42, -1)] h h21 := my_fr.cp gh_3_0 (ix_8_1 t0) fh21 rfl
        have gxh21 : my_fx x0 3 h h21 := my_fx.cp gx_3_0 fh21 (by omega)
        refine w_vret gz_72_26 gm_72 ?_
        show wp l rho (d + 2) 71 20 [(2, x0), (2, x1), (0, x2), (0, x3), (0, p3_0), (9, 0), (9, 0)] [] h21 Q
        refine w_iconst gz_71_20 (by decide) ?_
        refine w_istore (ls' := [(2, x0), (2, x1), (0, x2), (0, x3), (0, p3_0), (0, 0), (9, 0)]) gz_71_21 gm_71 rfl rfl rfl ?_
        exact J23_0 9 (0) h21 (gh21) (gxh21) (by omega) (by omega) (by omega) (by omega) (by omega) (by omega) (((my_cp_role fh21 t0 (ix_8_1 t0) rfl).trans ev13.symm).trans (by omega)) (by first | exact FewI_0 (by omega) (by omega) fr_3_0 fh21 | exact FewI_s (by omega) (by omega) (by omega) (by omega) (by show 0 ≤ h x1 (x2 + p23_0); omega) (by show h x1 (x2 + p23_0) ≤ 7; omega) fi_23_0 no_such_saying eb no_such_saying (by omega) | assumption | omega) (by omega)
  refine w_iconst gz_71_0 (by decide) ?_
  refine w_istore (ls' := [(2, x0), (2, x1), (0, x2), (0, x3), (0, 0), (9, 0), (9, 0)]) gz_71_1 gm_71 rfl rfl rfl ?_
  exact J3_0 12 (0) h (my_fr.rf) (my_fx.rf) (by omega) (by omega) (by omega) (eka0_0.symm.trans (by omega)) (by first | exact FmI_0 (fun _ => rfl) | exact FewI_e hf (by omega) fi_23_0 | assumption | omega) (by omega)
theorem c_View_few5_v8_45 {l : Launch} {rho : Nat → Int32} {d : Nat} {h : my_H} {Q : my_H → my_V → Prop} {x0 x3 : Int} (t0 : my_is 8 x0) (a3 : 0 ≤ x3) (b3 : x3 ≤ 4) (m3_0 : 0 ≤ x3 % 17) (m3_1 : x3 % 17 ≤ 4) (hf : ∀ j : Int, 0 ≤ j → j < x3 → 0 ≤ h 119 (0 + j) ∧ h 119 (0 + j) < h x0 1) (k0 : ∀ (h' : my_H), my_fr [(8, 1), (42, -1)] h h' → my_fx x0 3 h h' → 0 ≤ h' x0 1 → h' x0 1 ≤ 4 → h' x0 0 = h x0 0 → h' x0 1 = x3 → zqL (zqE h' x0 x3) (h x0 0).toNat = (zqL (zqE h x0 (h x0 1)) (h x0 0).toNat).filterMap (zqO2 (fun _ => 0) (h x0 1) (3, 0, 0, x3, (fun j => h 119 (0 + j)))) → Q h' (9, 0)) : wp l rho (d + 2) 71 0 [(2, x0), (2, 119), (0, 0), (0, x3), (9, 0), (9, 0), (9, 0)] [] h Q := by
  refine v_know (x := x0) (j := 0) (b := 0) rfl t0 rd_8 rfl (fun ka0_0 eka0_0 pka0_0 qka0_0 => ?_)
  have J3_0 : ∀ (n : Nat) (p3_0 : Int) (h3_0 : my_H), my_fr [(8, 1), (42, -1)] h h3_0 → my_fx x0 3 h h3_0 → 0 ≤ p3_0 → p3_0 ≤ 11 → p3_0 ≤ ka0_0 → h3_0 x0 0 = ka0_0 → FewR h h3_0 x0 (h x0 1) x3 (fun j => h 119 (0 + j)) p3_0 → 12 - p3_0 ≤ (n : Int) → wp l rho (d + 2) 71 3 [(2, x0), (2, 119), (0, 0), (0, x3), (0, p3_0), (9, 0), (9, 0)] [] h3_0 Q := by
    intro n
    induction n with
    | zero => intro p3_0 h3_0 gh_3_0 gx_3_0 q0_3_0 q1_3_0 q2_3_0 ca0_0_3_0 fr_3_0 hm_3_0; exfalso; omega
    | succ n ih_3_0 =>
      intro p3_0 h3_0 gh_3_0 gx_3_0 q0_3_0 q1_3_0 q2_3_0 ca0_0_3_0 fr_3_0 hm_3_0
      have J23_0 : ∀ (n : Nat) (p23_0 : Int) (h23_0 : my_H), my_fr [(8, 1), (42, -1)] h h23_0 → my_fx x0 3 h h23_0 → p3_0 ≤ 10 → 0 ≤ p23_0 → p23_0 ≤ 4 → 1 ≤ ka0_0 → p23_0 ≤ x3 → p3_0 ≤ (ka0_0 - 1) → h23_0 x0 0 = ka0_0 → FewI h h23_0 x0 (h x0 1) x3 (fun j => h 119 (0 + j)) p3_0 p23_0 → 5 - p23_0 ≤ (n : Int) → wp l rho (d + 2) 71 23 [(2, x0), (2, 119), (0, 0), (0, x3), (0, p3_0), (0, p23_0), (9, 0)] [] h23_0 Q := by
        intro n
        induction n with
        | zero => intro p23_0 h23_0 gh_23_0 gx_23_0 q0_23_0 q1_23_0 q2_23_0 q3_23_0 q4_23_0 q5_23_0 ca0_0_23_0 fi_23_0 hm_23_0; exfalso; omega
        | succ n ih_23_0 =>
          intro p23_0 h23_0 gh_23_0 gx_23_0 q0_23_0 q1_23_0 q2_23_0 q3_23_0 q4_23_0 q5_23_0 ca0_0_23_0 fi_23_0 hm_23_0
          refine w_iload gz_71_23 rfl ?_
          refine w_iload_n gz_71_25 rfl ?_
          refine w_icge (t := 93) gz_71_26 rfl (fun u1 => ?_) (fun u1 => ?_)
          ·
            refine w_iinc (ls' := [(2, x0), (2, 119), (0, 0), (0, x3), (0, (p3_0 + 1)), (0, p23_0), (9, 0)]) gz_71_93 rfl gm_71 rfl rfl rfl ⟨by omega, by omega⟩ ?_
            refine w_goto (t := 3) gz_71_96 rfl ?_
            refine w_weak (ls' := [(2, x0), (2, 119), (0, 0), (0, x3), (0, (p3_0 + 1)), (9, 0), (9, 0)]) (wk_e (wk_e (wk_e (wk_e (wk_e (wk_9 (wk_9 wk_n))))))) ?_
            exact ih_3_0 ((p3_0 + 1)) h23_0 (gh_23_0) (gx_23_0) (by omega) (by omega) (by omega) (ca0_0_23_0.trans (by omega)) (by first | exact FmI_0 (fun _ => rfl) | exact FewI_e hf (by omega) fi_23_0 | assumption | omega) (by omega)
          ·
            refine w_sipush gz_71_29 (by decide) ?_
            refine w_aload_n gz_71_32 rfl ?_
            refine w_iload_n gz_71_33 rfl ?_
            refine w_iload gz_71_34 rfl ?_
            refine w_iadd gz_71_36 ⟨by omega, by omega⟩ ?_
            have hi2 : 0 ≤ (0 + p23_0) := by omega
            have hi3 : (0 + p23_0) ≤ 47 := by omega
            refine w_iald gz_71_37 is_119 rd_45 (by omega) (by omega) (fun v4 ev4 pv4 qv4 => ?_)
            obtain ⟨pv, epv⟩ : ∃ z : Int, z = v4 := ⟨_, rfl⟩
            have ep : h 119 (0 + p23_0) = pv := by
              have z := my_fr.at (j := 0 + p23_0) gh_23_0 is_119 rfl
              rw [← z, show 0 + p23_0 = (0 + p23_0) by omega]
              omega
            refine w_iadd gz_71_38 ⟨by omega, by omega⟩ ?_
            refine w_istore (ls' := [(2, x0), (2, 119), (0, 0), (0, x3), (0, p3_0), (0, p23_0), (0, (187 + v4))]) gz_71_39 gm_71 rfl rfl rfl ?_
            refine w_aload_n gz_71_41 rfl ?_
            refine w_getX (v := (x0 + 1)) gz_71_42 t0 rd_8 rfl (by decide) rfl ?_
            refine w_iload gz_71_45 rfl ?_
            refine w_bipush gz_71_47 (by decide) ?_
            refine w_imul gz_71_49 ⟨by omega, by omega⟩ ?_
            refine w_iload gz_71_50 rfl ?_
            refine w_iadd gz_71_52 ⟨by omega, by omega⟩ ?_
            refine w_aload_n gz_71_53 rfl ?_
            refine w_getX (v := (x0 + 1)) gz_71_54 t0 rd_8 rfl (by decide) rfl ?_
            refine w_iload gz_71_57 rfl ?_
            refine w_gldA gz_71_59 (ix_8_1 t0) rd_42 (by omega) (by omega) (fun v7 ev7 pv7 qv7 => ?_)
            have eb : v7 = h23_0 (x0 + 1) (187 + h 119 (0 + p23_0)) := by
              rw [ep, show 187 + pv = (187 + v4) by omega]
              omega
            refine w_gstV gz_71_60 (ix_8_1 t0) rd_42 (by omega) (by omega) (by omega) (fun h8 fh8 => ?_)
            have gh8 : my_fr [(8, 1), (42, -1)] h h8 := my_fr.up gh_23_0 (ix_8_1 t0) fh8 rfl
            have gxh8 : my_fx x0 3 h h8 := my_fx.up gx_23_0 fh8 (by omega)
            refine w_aload_n gz_71_61 rfl ?_
            refine w_getX (v := (x0 + 1)) gz_71_62 t0 rd_8 rfl (by decide) rfl ?_
            refine w_iload gz_71_65 rfl ?_
            refine w_bipush gz_71_67 (by decide) ?_
            refine w_imul gz_71_69 ⟨by omega, by omega⟩ ?_
            refine w_bipush gz_71_70 (by decide) ?_
            refine w_iadd gz_71_72 ⟨by omega, by omega⟩ ?_
            refine w_iload gz_71_73 rfl ?_
            refine w_iadd gz_71_75 ⟨by omega, by omega⟩ ?_
            refine w_aload_n gz_71_76 rfl ?_
            refine w_getX (v := (x0 + 1)) gz_71_77 t0 rd_8 rfl (by decide) rfl ?_
            refine w_iload gz_71_80 rfl ?_
            refine w_bipush gz_71_82 (by decide) ?_
            refine w_iadd gz_71_84 ⟨by omega, by omega⟩ ?_
            refine w_gldS gz_71_85 (ix_8_1 t0) rd_42 (by omega) (by omega) (by omega) (by omega) (fun v11 ev11 pv11 qv11 => ?_)
            refine w_gstS gz_71_86 (ix_8_1 t0) rd_42 (by omega) (by omega) (by omega) (by omega) (by omega) (by omega) (fun h12 fh12 => ?_)
            have gh12 : my_fr [(8, 1), (42, -1)] h h12 := my_fr.up gh8 (ix_8_1 t0) fh12 rfl
            have gxh12 : my_fx x0 3 h h12 := my_fx.up gxh8 fh12 (by omega)
            refine w_iinc (ls' := [(2, x0), (2, 119), (0, 0), (0, x3), (0, p3_0), (0, (p23_0 + 1)), (0, (187 + v4))]) gz_71_87 rfl gm_71 rfl rfl rfl ⟨by omega, by omega⟩ ?_
            refine w_goto (t := 23) gz_71_90 rfl ?_
            refine w_weak (ls' := [(2, x0), (2, 119), (0, 0), (0, x3), (0, p3_0), (0, (p23_0 + 1)), (9, 0)]) (wk_e (wk_e (wk_e (wk_e (wk_e (wk_e (wk_9 wk_n))))))) ?_
            exact ih_23_0 ((p23_0 + 1)) h12 (gh12) (gxh12) (by omega) (by omega) (by omega) (by omega) (by omega) (by omega) (((my_up_role fh12 t0 (ix_8_1 t0) rfl).trans ((my_up_role fh8 t0 (ix_8_1 t0) rfl).trans ca0_0_23_0)).trans (by omega)) (by first | exact FewI_0 (by omega) (by omega) fr_3_0 no_such_copy | exact FewI_s (by omega) (by omega) (by omega) (by omega) (by show 0 ≤ h 119 (0 + p23_0); omega) (by show h 119 (0 + p23_0) ≤ 7; omega) fi_23_0 fh8 eb fh12 (by omega) | assumption | omega) (by omega)
      refine w_iload gz_71_3 rfl ?_
      refine w_aload_n gz_71_5 rfl ?_
      refine v_getI (j := 0) gz_71_6 rfl t0 rd_8 rfl (fun v13 ev13 pv13 qv13 => ?_)
      have zv13 := ev13.trans ca0_0_3_0
      refine w_icge (t := 99) gz_71_9 rfl (fun u14 => ?_) (fun u14 => ?_)
      ·
        refine w_aload_n gz_71_99 rfl ?_
        refine w_iload_n gz_71_100 rfl ?_
        refine v_putI (j := 1) gz_71_101 rfl t0 rd_8 rfl (by omega) (by omega) rfl (fun h15 fh15 => ?_)
        have gh15 : my_fr [(8, 1), (42, -1)] h h15 := my_fr.up gh_3_0 t0 fh15 rfl
        have gxh15 : my_fx x0 3 h h15 := my_fx.up gx_3_0 fh15 (by omega)
        have ce16 : h15 x0 0 = v13 := ((my_up_fld fh15 (by decide)).trans ev13.symm)
        have ce17 : h15 x0 1 = x3 := (my_up_self fh15)
        have ga : ∀ j : Int, h15 (x0 + 1) j = h3_0 (x0 + 1) j := fun j => ((my_up_role fh15 (ix_8_1 t0) t0 rfl).trans (rfl : h3_0 (x0 + 1) j = h3_0 (x0 + 1) j))
        have c18 := (my_up_self fh15)
        exact w_vret gz_71_104 gm_71 (k0 h15 (gh15) (gxh15) (by omega) (by omega) (by first | (have q := fr_3_0.2.2.2; rw [show p3_0.toNat = (h x0 0).toNat by omega] at q; exact (zqL_cg (fun i _ => zqE_cg (by omega) (fun j _ _ => ga j))).trans q) | assumption | omega) (by first | (have q := fr_3_0.2.2.2; rw [show p3_0.toNat = (h x0 0).toNat by omega] at q; exact (zqL_cg (fun i _ => zqE_cg (by omega) (fun j _ _ => ga j))).trans q) | assumption | omega) (by first | (have q := fr_3_0.2.2.2; rw [show p3_0.toNat = (h x0 0).toNat by omega] at q; exact (zqL_cg (fun i _ => zqE_cg (by omega) (fun j _ _ => ga j))).trans q) | assumption | omega))
      ·
        refine w_aload_n gz_71_12 rfl ?_
        refine w_iload gz_71_13 rfl ?_
        refine w_bipush gz_71_15 (by decide) ?_
        refine w_inv (k := 0) (as := [(0, 11), (0, p3_0)]) (r := []) (x := x0) (ls0 := [(2, x0), (0, p3_0), (0, 11)]) gz_71_17 gm_72 rfl t0 rd_8 rfl rfl rfl rfl rfl ?_
        refine w_iload_n gz_72_0 rfl ?_
        refine w_iload_n gz_72_1 rfl ?_
        refine w_iceq (t := 26) gz_72_2 rfl (fun u19 => by exfalso; omega) (fun u19 => ?_)
        refine w_aload_n gz_72_5 rfl ?_
        refine w_getX (v := (x0 + 1)) gz_72_6 t0 rd_8 rfl (by decide) rfl ?_
        refine w_iload_n gz_72_9 rfl ?_
        refine w_bipush gz_72_10 (by decide) ?_
        refine w_imul gz_72_12 ⟨by omega, by omega⟩ ?_
        refine w_aload_n gz_72_13 rfl ?_
        refine w_getX (v := (x0 + 1)) gz_72_14 t0 rd_8 rfl (by decide) rfl ?_
        refine w_iload_n gz_72_17 rfl ?_
        refine w_bipush gz_72_18 (by decide) ?_
        refine w_imul gz_72_20 ⟨by omega, by omega⟩ ?_
        refine w_bipush gz_72_21 (by decide) ?_
        refine w_cpG gz_72_23 (ix_8_1 t0) rd_42 (ix_8_1 t0) rd_42 (by omega) (by omega) (by omega) (by omega) (by omega) rfl (by omega) (fun h22 fh22 => ?_)
        have gh22 : my_fr [(8, 1), (42, -1)] h h22 := my_fr.cp gh_3_0 (ix_8_1 t0) fh22 rfl
        have gxh22 : my_fx x0 3 h h22 := my_fx.cp gx_3_0 fh22 (by omega)
        refine w_vret gz_72_26 gm_72 ?_
        show wp l rho (d + 2) 71 20 [(2, x0), (2, 119), (0, 0), (0, x3), (0, p3_0), (9, 0), (9, 0)] [] h22 Q
        refine w_iconst gz_71_20 (by decide) ?_
        refine w_istore (ls' := [(2, x0), (2, 119), (0, 0), (0, x3), (0, p3_0), (0, 0), (9, 0)]) gz_71_21 gm_71 rfl rfl rfl ?_
        exact J23_0 5 (0) h22 (gh22) (gxh22) (by omega) (by omega) (by omega) (by omega) (by omega) (by omega) (((my_cp_role fh22 t0 (ix_8_1 t0) rfl).trans ev13.symm).trans (by omega)) (by first | exact FewI_0 (by omega) (by omega) fr_3_0 fh22 | exact FewI_s (by omega) (by omega) (by omega) (by omega) (by show 0 ≤ h 119 (0 + p23_0); omega) (by show h 119 (0 + p23_0) ≤ 7; omega) fi_23_0 no_such_saying eb no_such_saying (by omega) | assumption | omega) (by omega)
  refine w_iconst gz_71_0 (by decide) ?_
  refine w_istore (ls' := [(2, x0), (2, 119), (0, 0), (0, x3), (0, 0), (9, 0), (9, 0)]) gz_71_1 gm_71 rfl rfl rfl ?_
  exact J3_0 12 (0) h (my_fr.rf) (my_fx.rf) (by omega) (by omega) (by omega) (eka0_0.symm.trans (by omega)) (by first | exact FmI_0 (fun _ => rfl) | exact FewI_e hf (by omega) fi_23_0 | assumption | omega) (by omega)
end MYNView_few5_v8_36
