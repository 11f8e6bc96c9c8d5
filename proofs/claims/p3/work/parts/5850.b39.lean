/-! contracts, printed by wip/gen/gy.py -/
section MYNView_cut5
theorem c_View_cut5 {l : Launch} {rho : Nat → Int32} {d : Nat} {h : my_H} {Q : my_H → my_V → Prop} {x0 x1 x2 x3 : Int} (t0 : my_is 8 x0) (a1 : 0 ≤ x1) (b1 : x1 ≤ 5) (m1_0 : 0 ≤ x1 % 17) (m1_1 : x1 % 17 ≤ 5) (a2 : 0 ≤ x2) (b2 : x2 ≤ 7) (m2_0 : 0 ≤ x2 % 17) (m2_1 : x2 % 17 ≤ 7) (a3 : 0 ≤ x3) (b3 : x3 ≤ 199) (hk : x1 ≤ 2) (hc : x2 < h x0 1) (k0 : ∀ (h' : my_H), my_fr [(8, 0), (42, -1)] h h' → my_fx x0 3 h h' → h' x0 0 ≤ h x0 0 → h' x0 1 = h x0 1 → zqL (zqE h' x0 (h x0 1)) (h' x0 0).toNat = (zqL (zqE h x0 (h x0 1)) (h x0 0).toNat).filterMap (zqO2 (fun _ => 0) (h x0 1) (x1, x2, x3, 0, (fun _ => 0))) → Q h' (9, 0)) : wp l rho (d + 2) 77 0 [(2, x0), (0, x1), (0, x2), (0, x3), (9, 0), (9, 0)] [] h Q := by
  refine v_know (x := x0) (j := 0) (b := 0) rfl t0 rd_8 rfl (fun ka0_0 eka0_0 pka0_0 qka0_0 => ?_)
  refine v_know (x := x0) (j := 1) (b := 1) rfl t0 rd_8 rfl (fun ka0_1 eka0_1 pka0_1 qka0_1 => ?_)
  have J6_0 : ∀ (n : Nat) (p6_0 p6_1 : Int) (h6_0 : my_H), my_fr [(8, 0), (42, -1)] h h6_0 → my_fx x0 3 h h6_0 → 0 ≤ p6_0 → p6_0 ≤ 11 → 0 ≤ p6_1 → p6_1 ≤ 11 → p6_0 ≤ p6_1 → p6_0 ≤ ka0_0 → p6_1 ≤ ka0_0 → h6_0 x0 0 = ka0_0 → h6_0 x0 1 = ka0_1 → FmI h h6_0 x0 (h x0 1) (h x0 1) (zqO2 (fun _ => 0) (h x0 1) (x1, x2, x3, 0, (fun _ => 0))) p6_0 p6_1 → 12 - p6_1 ≤ (n : Int) → wp l rho (d + 2) 77 6 [(2, x0), (0, x1), (0, x2), (0, x3), (0, p6_0), (0, p6_1)] [] h6_0 Q := by
    intro n
    induction n with
    | zero => intro p6_0 p6_1 h6_0 gh_6_0 gx_6_0 q0_6_0 q1_6_0 q2_6_0 q3_6_0 q4_6_0 q5_6_0 q6_6_0 ca0_0_6_0 ca0_1_6_0 fm_6_0 hm_6_0; exfalso; omega
    | succ n ih_6_0 =>
      intro p6_0 p6_1 h6_0 gh_6_0 gx_6_0 q0_6_0 q1_6_0 q2_6_0 q3_6_0 q4_6_0 q5_6_0 q6_6_0 ca0_0_6_0 ca0_1_6_0 fm_6_0 hm_6_0
      refine w_iload gz_77_6 rfl ?_
      refine w_aload_n gz_77_8 rfl ?_
      refine v_getI (j := 0) gz_77_9 rfl t0 rd_8 rfl (fun v1 ev1 pv1 qv1 => ?_)
      have zv1 := ev1.trans ca0_0_6_0
      refine w_icge (t := 47) gz_77_12 rfl (fun u2 => ?_) (fun u2 => ?_)
      ·
        refine w_aload_n gz_77_47 rfl ?_
        refine w_iload gz_77_48 rfl ?_
        refine v_putI (j := 0) gz_77_50 rfl t0 rd_8 rfl (by omega) (by omega) rfl (fun h3 fh3 => ?_)
        have gh3 : my_fr [(8, 0), (42, -1)] h h3 := my_fr.up gh_6_0 t0 fh3 rfl
        have gxh3 : my_fx x0 3 h h3 := my_fx.up gx_6_0 fh3 (by omega)
        have ce4 : h3 x0 0 = p6_0 := (my_up_self fh3)
        have ce5 : h3 x0 1 = ka0_1 := ((my_up_fld fh3 (by decide)).trans ca0_1_6_0)
        have ga : ∀ j : Int, h3 (x0 + 1) j = h6_0 (x0 + 1) j := fun j => ((my_up_role fh3 (ix_8_1 t0) t0 rfl).trans (rfl : h6_0 (x0 + 1) j = h6_0 (x0 + 1) j))
        exact w_vret gz_77_53 gm_77 (k0 h3 (gh3) (gxh3) (by first | (have q := fm_6_0.2.2.2; rw [show p6_1.toNat = (h x0 0).toNat by omega] at q; rw [show (h3 x0 0).toNat = p6_0.toNat by omega]; exact (zqL_cg (fun i _ => zqE_cg (by omega) (fun j _ _ => ga j))).trans q) | assumption | omega) (by first | (have q := fm_6_0.2.2.2; rw [show p6_1.toNat = (h x0 0).toNat by omega] at q; rw [show (h3 x0 0).toNat = p6_0.toNat by omega]; exact (zqL_cg (fun i _ => zqE_cg (by omega) (fun j _ _ => ga j))).trans q) | assumption | omega) (by first | (have q := fm_6_0.2.2.2; rw [show p6_1.toNat = (h x0 0).toNat by omega] at q; rw [show (h3 x0 0).toNat = p6_0.toNat by omega]; exact (zqL_cg (fun i _ => zqE_cg (by omega) (fun j _ _ => ga j))).trans q) | assumption | omega))
      ·
        refine w_iload_n gz_77_15 rfl ?_
        refine w_aload_n gz_77_16 rfl ?_
        refine w_iload gz_77_17 rfl ?_
        refine w_iload_n gz_77_19 rfl ?_
        refine w_inv (k := 0) (as := [(0, x2), (0, p6_1)]) (r := [(0, x1)]) (x := x0) (ls0 := [(2, x0), (0, p6_1), (0, x2)]) gz_77_20 gm_74 rfl t0 rd_8 rfl rfl rfl rfl rfl ?_
        refine w_aload_n gz_74_0 rfl ?_
        refine w_getX (v := (x0 + 1)) gz_74_1 t0 rd_8 rfl (by decide) rfl ?_
        refine w_iload_n gz_74_4 rfl ?_
        refine w_bipush gz_74_5 (by decide) ?_
        refine w_imul gz_74_7 ⟨by omega, by omega⟩ ?_
        refine w_iload_n gz_74_8 rfl ?_
        refine w_iadd gz_74_9 ⟨by omega, by omega⟩ ?_
        refine w_gldA gz_74_10 (ix_8_1 t0) rd_42 (by omega) (by omega) (fun v7 ev7 pv7 qv7 => ?_)
        refine w_iret gz_74_11 gm_74 ?_
        show wp l rho (d + 2) 77 23 [(2, x0), (0, x1), (0, x2), (0, x3), (0, p6_0), (0, p6_1)] [(0, v7), (0, x1)] h6_0 Q
        have cv : h6_0 (x0 + 1) (17 * p6_1 + x2) = v7 := by
          rw [show 17 * p6_1 + x2 = p6_1 * 17 + x2 by omega]
          omega
        refine w_iload_n gz_77_23 rfl ?_
        refine w_inS (k := 0) (as := [(0, x3), (0, v7), (0, x1)]) (r := []) (ls0 := [(0, x1), (0, v7), (0, x3)]) gz_77_24 gm_78 rfl rfl rfl rfl rfl rfl ?_
        refine w_iload_n gz_78_0 rfl ?_
        refine w_ifne (t := 17) gz_78_1 rfl (fun u8 => ?_) (fun u8 => ?_)
        ·
          refine w_iload_n gz_78_17 rfl ?_
          refine w_iconst gz_78_18 (by decide) ?_
          refine w_icne (t := 35) gz_78_19 rfl (fun u9 => ?_) (fun u9 => ?_)
          ·
            refine w_iload_n gz_78_35 rfl ?_
            refine w_iload_n gz_78_36 rfl ?_
            refine w_icle (t := 44) gz_78_37 rfl (fun u10 => ?_) (fun u10 => ?_)
            ·
              refine w_iconst gz_78_44 (by decide) ?_
              refine w_bret gz_78_45 gm_78 (by omega) (by omega) ?_
              show wp l rho (d + 2) 77 27 [(2, x0), (0, x1), (0, x2), (0, x3), (0, p6_0), (0, p6_1)] [(0, 0)] h6_0 Q
              refine w_ifeq (t := 41) gz_77_27 rfl (fun u11 => ?_) (fun u11 => by exfalso; omega)
              refine w_iinc (ls' := [(2, x0), (0, x1), (0, x2), (0, x3), (0, p6_0), (0, (p6_1 + 1))]) gz_77_41 rfl gm_77 rfl rfl rfl ⟨by omega, by omega⟩ ?_
              refine w_goto (t := 6) gz_77_44 rfl ?_
              exact ih_6_0 (p6_0) ((p6_1 + 1)) h6_0 (gh_6_0) (gx_6_0) (by omega) (by omega) (by omega) (by omega) (by omega) (by omega) (by omega) (ev1.symm.trans (by omega)) (ca0_1_6_0.trans (by omega)) (by first | exact FmI_0 (fun _ => rfl) | exact CutI_s (p0 := (x1, x2, x3, 0, (fun _ => 0))) (by omega) (by omega) (by show x1 ≠ 3; omega) (by show x1 ≠ 4; omega) (by omega) (by omega) fm_6_0 (by show zqPass x1 _ x3; rw [cv]; exact ⟨fun z => by omega, fun z => by omega, fun z => by omega⟩) (by omega) | exact CutI_m (p0 := (x1, x2, x3, 0, (fun _ => 0))) (by omega) (by omega) (by show x1 ≠ 3; omega) (by show x1 ≠ 4; omega) (by omega) (by omega) fm_6_0 (by show zqPass x1 _ x3; rw [cv]; exact ⟨fun z => by omega, fun z => by omega, fun z => by omega⟩) (by omega) no_such_copy | exact CutI_n (p0 := (x1, x2, x3, 0, (fun _ => 0))) (by omega) (by omega) (by show x1 ≠ 3; omega) (by show x1 ≠ 4; omega) (by omega) (by omega) fm_6_0 (by show ¬ zqPass x1 _ x3; rw [cv]; intro z; have z1 := z.1; have z2 := z.2.1; have z3 := z.2.2; omega) | assumption | omega) (by omega)
            ·
              refine w_iconst gz_78_40 (by decide) ?_
              refine w_goto (t := 45) gz_78_41 rfl ?_
              refine w_bret gz_78_45 gm_78 (by omega) (by omega) ?_
              show wp l rho (d + 2) 77 27 [(2, x0), (0, x1), (0, x2), (0, x3), (0, p6_0), (0, p6_1)] [(0, 1)] h6_0 Q
              refine w_ifeq (t := 41) gz_77_27 rfl (fun u12 => by exfalso; omega) (fun u12 => ?_)
              refine w_aload_n gz_77_30 rfl ?_
              refine w_iload gz_77_31 rfl ?_
              refine w_iload gz_77_33 rfl ?_
              refine w_iinc (ls' := [(2, x0), (0, x1), (0, x2), (0, x3), (0, (p6_0 + 1)), (0, p6_1)]) gz_77_35 rfl gm_77 rfl rfl rfl ⟨by omega, by omega⟩ ?_
              refine w_inv (k := 0) (as := [(0, p6_0), (0, p6_1)]) (r := []) (x := x0) (ls0 := [(2, x0), (0, p6_1), (0, p6_0)]) gz_77_38 gm_72 rfl t0 rd_8 rfl rfl rfl rfl rfl ?_
              refine w_iload_n gz_72_0 rfl ?_
              refine w_iload_n gz_72_1 rfl ?_
              refine w_iceq (t := 26) gz_72_2 rfl (fun u13 => ?_) (fun u13 => ?_)
              ·
                refine w_vret gz_72_26 gm_72 ?_
                show wp l rho (d + 2) 77 41 [(2, x0), (0, x1), (0, x2), (0, x3), (0, (p6_0 + 1)), (0, p6_1)] [] h6_0 Q
                refine w_iinc (ls' := [(2, x0), (0, x1), (0, x2), (0, x3), (0, (p6_0 + 1)), (0, (p6_1 + 1))]) gz_77_41 rfl gm_77 rfl rfl rfl ⟨by omega, by omega⟩ ?_
                refine w_goto (t := 6) gz_77_44 rfl ?_
                exact ih_6_0 ((p6_0 + 1)) ((p6_1 + 1)) h6_0 (gh_6_0) (gx_6_0) (by omega) (by omega) (by omega) (by omega) (by omega) (by omega) (by omega) (ev1.symm.trans (by omega)) (ca0_1_6_0.trans (by omega)) (by first | exact FmI_0 (fun _ => rfl) | exact CutI_s (p0 := (x1, x2, x3, 0, (fun _ => 0))) (by omega) (by omega) (by show x1 ≠ 3; omega) (by show x1 ≠ 4; omega) (by omega) (by omega) fm_6_0 (by show zqPass x1 _ x3; rw [cv]; exact ⟨fun z => by omega, fun z => by omega, fun z => by omega⟩) (by omega) | exact CutI_m (p0 := (x1, x2, x3, 0, (fun _ => 0))) (by omega) (by omega) (by show x1 ≠ 3; omega) (by show x1 ≠ 4; omega) (by omega) (by omega) fm_6_0 (by show zqPass x1 _ x3; rw [cv]; exact ⟨fun z => by omega, fun z => by omega, fun z => by omega⟩) (by omega) no_such_copy | exact CutI_n (p0 := (x1, x2, x3, 0, (fun _ => 0))) (by omega) (by omega) (by show x1 ≠ 3; omega) (by show x1 ≠ 4; omega) (by omega) (by omega) fm_6_0 (by show ¬ zqPass x1 _ x3; rw [cv]; intro z; have z1 := z.1; have z2 := z.2.1; have z3 := z.2.2; omega) | assumption | omega) (by omega)
              ·
                refine w_aload_n gz_72_5 rfl ?_
                refine w_getX (v := (x0 + 1)) gz_72_6 t0 rd_8 rfl (by decide) rfl ?_
                refine w_iload_n gz_72_9 rfl ?_
                refine w_bipush gz_72_10 (by decide) ?_
                refine w_imul gz_72_12 ⟨by omega, by omega⟩ ?_
                refine w_aload_n gz_72_13 rfl ?_
                refine w_getX (v := (x0 + 1)) gz_72_14 t0 rd_8 rfl (by decide) rfl ?_
                refine w_iload_n gz_72_17 rfl ?_
                refine w_bipush gz_72_18 (by decide) ?_
                refine w_imul gz_72_20 ⟨by omega, by omega⟩ ?_
                refine w_bipush gz_72_21 (by decide) ?_
                refine w_cpG gz_72_23 (ix_8_1 t0) rd_42 (ix_8_1 t0) rd_42 (by omega) (by omega) (by omega) (by omega) (by omega) rfl (by omega) (fun h16 fh16 => ?_)
                have gh16 : my_fr [(8, 0), (42, -1)] h h16 := my_fr.cp gh_6_0 (ix_8_1 t0) fh16 rfl
                have gxh16 : my_fx x0 3 h h16 := my_fx.cp gx_6_0 fh16 (by omega)
                refine w_vret gz_72_26 gm_72 ?_
                show wp l rho (d + 2) 77 41 [(2, x0), (0, x1), (0, x2), (0, x3), (0, (p6_0 + 1)), (0, p6_1)] [] h16 Q
                refine w_iinc (ls' := [(2, x0), (0, x1), (0, x2), (0, x3), (0, (p6_0 + 1)), (0, (p6_1 + 1))]) gz_77_41 rfl gm_77 rfl rfl rfl ⟨by omega, by omega⟩ ?_
                refine w_goto (t := 6) gz_77_44 rfl ?_
                exact ih_6_0 ((p6_0 + 1)) ((p6_1 + 1)) h16 (gh16) (gxh16) (by omega) (by omega) (by omega) (by omega) (by omega) (by omega) (by omega) (((my_cp_role fh16 t0 (ix_8_1 t0) rfl).trans ev1.symm).trans (by omega)) (((my_cp_role fh16 t0 (ix_8_1 t0) rfl).trans ca0_1_6_0).trans (by omega)) (by first | exact FmI_0 (fun _ => rfl) | exact CutI_s (p0 := (x1, x2, x3, 0, (fun _ => 0))) (by omega) (by omega) (by show x1 ≠ 3; omega) (by show x1 ≠ 4; omega) (by omega) (by omega) fm_6_0 (by show zqPass x1 _ x3; rw [cv]; exact ⟨fun z => by omega, fun z => by omega, fun z => by omega⟩) (by omega) | exact CutI_m (p0 := (x1, x2, x3, 0, (fun _ => 0))) (by omega) (by omega) (by show x1 ≠ 3; omega) (by show x1 ≠ 4; omega) (by omega) (by omega) fm_6_0 (by show zqPass x1 _ x3; rw [cv]; exact ⟨fun z => by omega, fun z => by omega, fun z => by omega⟩) (by omega) fh16 | exact CutI_n (p0 := (x1, x2, x3, 0, (fun _ => 0))) (by omega) (by omega) (by show x1 ≠ 3; omega) (by show x1 ≠ 4; omega) (by omega) (by omega) fm_6_0 (by show ¬ zqPass x1 _ x3; rw [cv]; intro z; have z1 := z.1; have z2 := z.2.1; have z3 := z.2.2; omega) | assumption | omega) (by omega)
          ·
            refine w_iload_n gz_78_22 rfl ?_
            refine w_iload_n gz_78_23 rfl ?_
            refine w_icne (t := 31) gz_78_24 rfl (fun u17 => ?_) (fun u17 => ?_)
            ·
              refine w_iconst gz_78_31 (by decide) ?_
              refine w_goto (t := 45) gz_78_32 rfl ?_
              refine w_bret gz_78_45 gm_78 (by omega) (by omega) ?_
              show wp l rho (d + 2) 77 27 [(2, x0), (0, x1), (0, x2), (0, x3), (0, p6_0), (0, p6_1)] [(0, 0)] h6_0 Q
              refine w_ifeq (t := 41) gz_77_27 rfl (fun u18 => ?_) (fun u18 => by exfalso; omega)
              refine w_iinc (ls' := [(2, x0), (0, x1), (0, x2), (0, x3), (0, p6_0), (0, (p6_1 + 1))]) gz_77_41 rfl gm_77 rfl rfl rfl ⟨by omega, by omega⟩ ?_
              refine w_goto (t := 6) gz_77_44 rfl ?_
              exact ih_6_0 (p6_0) ((p6_1 + 1)) h6_0 (gh_6_0) (gx_6_0) (by omega) (by omega) (by omega) (by omega) (by omega) (by omega) (by omega) (ev1.symm.trans (by omega)) (ca0_1_6_0.trans (by omega)) (by first | exact FmI_0 (fun _ => rfl) | exact CutI_s (p0 := (x1, x2, x3, 0, (fun _ => 0))) (by omega) (by omega) (by show x1 ≠ 3; omega) (by show x1 ≠ 4; omega) (by omega) (by omega) fm_6_0 (by show zqPass x1 _ x3; rw [cv]; exact ⟨fun z => by omega, fun z => by omega, fun z => by omega⟩) (by omega) | exact CutI_m (p0 := (x1, x2, x3, 0, (fun _ => 0))) (by omega) (by omega) (by show x1 ≠ 3; omega) (by show x1 ≠ 4; omega) (by omega) (by omega) fm_6_0 (by show zqPass x1 _ x3; rw [cv]; exact ⟨fun z => by omega, fun z => by omega, fun z => by omega⟩) (by omega) no_such_copy | exact CutI_n (p0 := (x1, x2, x3, 0, (fun _ => 0))) (by omega) (by omega) (by show x1 ≠ 3; omega) (by show x1 ≠ 4; omega) (by omega) (by omega) fm_6_0 (by show ¬ zqPass x1 _ x3; rw [cv]; intro z; have z1 := z.1; have z2 := z.2.1; have z3 := z.2.2; omega) | assumption | omega) (by omega)
            ·
              refine w_iconst gz_78_27 (by decide) ?_
              refine w_goto (t := 45) gz_78_28 rfl ?_
              refine w_bret gz_78_45 gm_78 (by omega) (by omega) ?_
              show wp l rho (d + 2) 77 27 [(2, x0), (0, x1), (0, x2), (0, x3), (0, p6_0), (0, p6_1)] [(0, 1)] h6_0 Q
              refine w_ifeq (t := 41) gz_77_27 rfl (fun u19 => by exfalso; omega) (fun u19 => ?_)
              refine w_aload_n gz_77_30 rfl ?_
              refine w_iload gz_77_31 rfl ?_
              refine w_iload gz_77_33 rfl ?_
              refine w_iinc (ls' := [(2, x0), (0, x1), (0, x2), (0, x3), (0, (p6_0 + 1)), (0, p6_1)]) gz_77_35 rfl gm_77 rfl rfl rfl ⟨by omega, by omega⟩ ?_
              refine w_inv (k := 0) (as := [(0, p6_0), (0, p6_1)]) (r := []) (x := x0) (ls0 := [(2, x0), (0, p6_1), (0, p6_0)]) gz_77_38 gm_72 rfl t0 rd_8 rfl rfl rfl rfl rfl ?_
              refine w_iload_n gz_72_0 rfl ?_
              refine w_iload_n gz_72_1 rfl ?_
              refine w_iceq (t := 26) gz_72_2 rfl (fun u20 => ?_) (fun u20 => ?_)
              ·
                refine w_vret gz_72_26 gm_72 ?_
                show wp l rho (d + 2) 77 41 [(2, x0), (0, x1), (0, x2), (0, x3), (0, (p6_0 + 1)), (0, p6_1)] [] h6_0 Q
                refine w_iinc (ls' := [(2, x0), (0, x1), (0, x2), (0, x3), (0, (p6_0 + 1)), (0, (p6_1 + 1))]) gz_77_41 rfl gm_77 rfl rfl rfl ⟨by omega, by omega⟩ ?_
                refine w_goto (t := 6) gz_77_44 rfl ?_
                exact ih_6_0 ((p6_0 + 1)) ((p6_1 + 1)) h6_0 (gh_6_0) (gx_6_0) (by omega) (by omega) (by omega) (by omega) (by omega) (by omega) (by omega) (ev1.symm.trans (by omega)) (ca0_1_6_0.trans (by omega)) (by first | exact FmI_0 (fun _ => rfl) | exact CutI_s (p0 := (x1, x2, x3, 0, (fun _ => 0))) (by omega) (by omega) (by show x1 ≠ 3; omega) (by show x1 ≠ 4; omega) (by omega) (by omega) fm_6_0 (by show zqPass x1 _ x3; rw [cv]; exact ⟨fun z => by omega, fun z => by omega, fun z => by omega⟩) (by omega) | exact CutI_m (p0 := (x1, x2, x3, 0, (fun _ => 0))) (by omega) (by omega) (by show x1 ≠ 3; omega) (by show x1 ≠ 4; omega) (by omega) (by omega) fm_6_0 (by show zqPass x1 _ x3; rw [cv]; exact ⟨fun z => by omega, fun z => by omega, fun z => by omega⟩) (by omega) no_such_copy | exact CutI_n (p0 := (x1, x2, x3, 0, (fun _ => 0))) (by omega) (by omega) (by show x1 ≠ 3; omega) (by show x1 ≠ 4; omega) (by omega) (by omega) fm_6_0 (by show ¬ zqPass x1 _ x3; rw [cv]; intro z; have z1 := z.1; have z2 := z.2.1; have z3 := z.2.2; omega) | assumption | omega) (by omega)
              ·
                refine w_aload_n gz_72_5 rfl ?_
                refine w_getX (v := (x0 + 1)) gz_72_6 t0 rd_8 rfl (by decide) rfl ?_
                refine w_iload_n gz_72_9 rfl ?_
                refine w_bipush gz_72_10 (by decide) ?_
                refine w_imul gz_72_12 ⟨by omega, by omega⟩ ?_
                refine w_aload_n gz_72_13 rfl ?_
                refine w_getX (v := (x0 + 1)) gz_72_14 t0 rd_8 rfl (by decide) rfl ?_
                refine w_iload_n gz_72_17 rfl ?_
                refine w_bipush gz_72_18 (by decide) ?_
                refine w_imul gz_72_20 ⟨by omega, by omega⟩ ?_
                refine w_bipush gz_72_21 (by decide) ?_
                refine w_cpG gz_72_23 (ix_8_1 t0) rd_42 (ix_8_1 t0) rd_42 (by omega) (by omega) (by omega) (by omega) (by omega) rfl (by omega) (fun h23 fh23 => ?_)
                have gh23 : my_fr [(8, 0), (42, -1)] h h23 := my_fr.cp gh_6_0 (ix_8_1 t0) fh23 rfl
                have gxh23 : my_fx x0 3 h h23 := my_fx.cp gx_6_0 fh23 (by omega)
                refine w_vret gz_72_26 gm_72 ?_
                show wp l rho (d + 2) 77 41 [(2, x0), (0, x1), (0, x2), (0, x3), (0, (p6_0 + 1)), (0, p6_1)] [] h23 Q
                refine w_iinc (ls' := [(2, x0), (0, x1), (0, x2), (0, x3), (0, (p6_0 + 1)), (0, (p6_1 + 1))]) gz_77_41 rfl gm_77 rfl rfl rfl ⟨by omega, by omega⟩ ?_
                refine w_goto (t := 6) gz_77_44 rfl ?_
                exact ih_6_0 ((p6_0 + 1)) ((p6_1 + 1)) h23 (gh23) (gxh23) (by omega) (by omega) (by omega) (by omega) (by omega) (by omega) (by omega) (((my_cp_role fh23 t0 (ix_8_1 t0) rfl).trans ev1.symm).trans (by omega)) (((my_cp_role fh23 t0 (ix_8_1 t0) rfl).trans ca0_1_6_0).trans (by omega)) (by first | exact FmI_0 (fun _ => rfl) | exact CutI_s (p0 := (x1, x2, x3, 0, (fun _ => 0))) (by omega) (by omega) (by show x1 ≠ 3; omega) (by show x1 ≠ 4; omega) (by omega) (by omega) fm_6_0 (by show zqPass x1 _ x3; rw [cv]; exact ⟨fun z => by omega, fun z => by omega, fun z => by omega⟩) (by omega) | exact CutI_m (p0 := (x1, x2, x3, 0, (fun _ => 0))) (by omega) (by omega) (by show x1 ≠ 3; omega) (by show x1 ≠ 4; omega) (by omega) (by omega) fm_6_0 (by show zqPass x1 _ x3; rw [cv]; exact ⟨fun z => by omega, fun z => by omega, fun z => by omega⟩) (by omega) fh23 | exact CutI_n (p0 := (x1, x2, x3, 0, (fun _ => 0))) (by omega) (by omega) (by show x1 ≠ 3; omega) (by show x1 ≠ 4; omega) (by omega) (by omega) fm_6_0 (by show ¬ zqPass x1 _ x3; rw [cv]; intro z; have z1 := z.1; have z2 := z.2.1; have z3 := z.2.2; omega) | assumption | omega) (by omega)
        ·
          refine w_iload_n gz_78_4 rfl ?_
          refine w_iload_n gz_78_5 rfl ?_
          refine w_icge (t := 13) gz_78_6 rfl (fun u24 => ?_) (fun u24 => ?_)
          ·
            refine w_iconst gz_78_13 (by decide) ?_
            refine w_goto (t := 45) gz_78_14 rfl ?_
            refine w_bret gz_78_45 gm_78 (by omega) (by omega) ?_
            show wp l rho (d + 2) 77 27 [(2, x0), (0, x1), (0, x2), (0, x3), (0, p6_0), (0, p6_1)] [(0, 0)] h6_0 Q
            refine w_ifeq (t := 41) gz_77_27 rfl (fun u25 => ?_) (fun u25 => by exfalso; omega)
            refine w_iinc (ls' := [(2, x0), (0, x1), (0, x2), (0, x3), (0, p6_0), (0, (p6_1 + 1))]) gz_77_41 rfl gm_77 rfl rfl rfl ⟨by omega, by omega⟩ ?_
            refine w_goto (t := 6) gz_77_44 rfl ?_
            exact ih_6_0 (p6_0) ((p6_1 + 1)) h6_0 (gh_6_0) (gx_6_0) (by omega) (by omega) (by omega) (by omega) (by omega) (by omega) (by omega) (ev1.symm.trans (by omega)) (ca0_1_6_0.trans (by omega)) (by first | exact FmI_0 (fun _ => rfl) | exact CutI_s (p0 := (x1, x2, x3, 0, (fun _ => 0))) (by omega) (by omega) (by show x1 ≠ 3; omega) (by show x1 ≠ 4; omega) (by omega) (by omega) fm_6_0 (by show zqPass x1 _ x3; rw [cv]; exact ⟨fun z => by omega, fun z => by omega, fun z => by omega⟩) (by omega) | exact CutI_m (p0 := (x1, x2, x3, 0, (fun _ => 0))) (by omega) (by omega) (by show x1 ≠ 3; omega) (by show x1 ≠ 4; omega) (by omega) (by omega) fm_6_0 (by show zqPass x1 _ x3; rw [cv]; exact ⟨fun z => by omega, fun z => by omega, fun z => by omega⟩) (by omega) no_such_copy | exact CutI_n (p0 := (x1, x2, x3, 0, (fun _ => 0))) (by omega) (by omega) (by show x1 ≠ 3; omega) (by show x1 ≠ 4; omega) (by omega) (by omega) fm_6_0 (by show ¬ zqPass x1 _ x3; rw [cv]; intro z; have z1 := z.1; have z2 := z.2.1; have z3 := z.2.2; omega) | assumption | omega) (by omega)
          ·
            refine w_iconst gz_78_9 (by decide) ?_
            refine w_goto (t := 45) gz_78_10 rfl ?_
            refine w_bret gz_78_45 gm_78 (by omega) (by omega) ?_
            show wp l rho (d + 2) 77 27 [(2, x0), (0, x1), (0, x2), (0, x3), (0, p6_0), (0, p6_1)] [(0, 1)] h6_0 Q
            refine w_ifeq (t := 41) gz_77_27 rfl (fun u26 => by exfalso; omega) (fun u26 => ?_)
            refine w_aload_n gz_77_30 rfl ?_
            refine w_iload gz_77_31 rfl ?_
            refine w_iload gz_77_33 rfl ?_
            refine w_iinc (ls' := [(2, x0), (0, x1), (0, x2), (0, x3), (0, (p6_0 + 1)), (0, p6_1)]) gz_77_35 rfl gm_77 rfl rfl rfl ⟨by omega, by omega⟩ ?_
            refine w_inv (k := 0) (as := [(0, p6_0), (0, p6_1)]) (r := []) (x := x0) (ls0 := [(2, x0), (0, p6_1), (0, p6_0)]) gz_77_38 gm_72 rfl t0 rd_8 rfl rfl rfl rfl rfl ?_
            refine w_iload_n gz_72_0 rfl ?_
            refine w_iload_n gz_72_1 rfl ?_
            refine w_iceq (t := 26) gz_72_2 rfl (fun u27 => ?_) (fun u27 => ?_)
            ·
              refine w_vret gz_72_26 gm_72 ?_
              show wp l rho (d + 2) 77 41 [(2, x0), (0, x1), (0, x2), (0, x3), (0, (p6_0 + 1)), (0, p6_1)] [] h6_0 Q
              refine w_iinc (ls' := [(2, x0), (0, x1), (0, x2), (0, x3), (0, (p6_0 + 1)), (0, (p6_1 + 1))]) gz_77_41 rfl gm_77 rfl rfl rfl ⟨by omega, by omega⟩ ?_
              refine w_goto (t := 6) gz_77_44 rfl ?_
              exact ih_6_0 ((p6_0 + 1)) ((p6_1 + 1)) h6_0 (gh_6_0) (gx_6_0) (by omega) (by omega) (by omega) (by omega) (by omega) (by omega) (by omega) (ev1.symm.trans (by omega)) (ca0_1_6_0.trans (by omega)) (by first | exact FmI_0 (fun _ => rfl) | exact CutI_s (p0 := (x1, x2, x3, 0, (fun _ => 0))) (by omega) (by omega) (by show x1 ≠ 3; omega) (by show x1 ≠ 4; omega) (by omega) (by omega) fm_6_0 (by show zqPass x1 _ x3; rw [cv]; exact ⟨fun z => by omega, fun z => by omega, fun z => by omega⟩) (by omega) | exact CutI_m (p0 := (x1, x2, x3, 0, (fun _ => 0))) (by omega) (by omega) (by show x1 ≠ 3; omega) (by show x1 ≠ 4; omega) (by omega) (by omega) fm_6_0 (by show zqPass x1 _ x3; rw [cv]; exact ⟨fun z => by omega, fun z => by omega, fun z => by omega⟩) (by omega) no_such_copy | exact CutI_n (p0 := (x1, x2, x3, 0, (fun _ => 0))) (by omega) (by omega) (by show x1 ≠ 3; omega) (by show x1 ≠ 4; omega) (by omega) (by omega) fm_6_0 (by show ¬ zqPass x1 _ x3; rw [cv]; intro z; have z1 := z.1; have z2 := z.2.1; have z3 := z.2.2; omega) | assumption | omega) (by omega)
            ·
              refine w_aload_n gz_72_5 rfl ?_
              refine w_getX (v := (x0 + 1)) gz_72_6 t0 rd_8 rfl (by decide) rfl ?_
              refine w_iload_n gz_72_9 rfl ?_
              refine w_bipush gz_72_10 (by decide) ?_
              refine w_imul gz_72_12 ⟨by omega, by omega⟩ ?_
              refine w_aload_n gz_72_13 rfl ?_
              refine w_getX (v := (x0 + 1)) gz_72_14 t0 rd_8 rfl (by decide) rfl ?_
              refine w_iload_n gz_72_17 rfl ?_
              refine w_bipush gz_72_18 (by decide) ?_
              refine w_imul gz_72_20 ⟨by omega, by omega⟩ ?_
              refine w_bipush gz_72_21 (by decide) ?_
              refine w_cpG gz_72_23 (ix_8_1 t0) rd_42 (ix_8_1 t0) rd_42 (by omega) (by omega) (by omega) (by omega) (by omega) rfl (by omega) (fun h30 fh30 => ?_)
              have gh30 : my_fr [(8, 0), (42, -1)] h h30 := my_fr.cp gh_6_0 (ix_8_1 t0) fh30 rfl
              have gxh30 : my_fx x0 3 h h30 := my_fx.cp gx_6_0 fh30 (by omega)
              refine w_vret gz_72_26 gm_72 ?_
              show wp l rho (d + 2) 77 41 [(2, x0), (0, x1), (0, x2), (0, x3), (0, (p6_0 + 1)), (0, p6_1)] [] h30 Q
              refine w_iinc (ls' := [(2, x0), (0, x1), (0, x2), (0, x3), (0, (p6_0 + 1)), (0, (p6_1 + 1))]) gz_77_41 rfl gm_77 rfl rfl rfl ⟨by omega, by omega⟩ ?_
              refine w_goto (t := 6) gz_77_44 rfl ?_
              exact ih_6_0 ((p6_0 + 1)) ((p6_1 + 1)) h30 (gh30) (gxh30) (by omega) (by omega) (by omega) (by omega) (by omega) (by omega) (by omega) (((my_cp_role fh30 t0 (ix_8_1 t0) rfl).trans ev1.symm).trans (by omega)) (((my_cp_role fh30 t0 (ix_8_1 t0) rfl).trans ca0_1_6_0).trans (by omega)) (by first | exact FmI_0 (fun _ => rfl) | exact CutI_s (p0 := (x1, x2, x3, 0, (fun _ => 0))) (by omega) (by omega) (by show x1 ≠ 3; omega) (by show x1 ≠ 4; omega) (by omega) (by omega) fm_6_0 (by show zqPass x1 _ x3; rw [cv]; exact ⟨fun z => by omega, fun z => by omega, fun z => by omega⟩) (by omega) | exact CutI_m (p0 := (x1, x2, x3, 0, (fun _ => 0))) (by omega) (by omega) (by show x1 ≠ 3; omega) (by show x1 ≠ 4; omega) (by omega) (by omega) fm_6_0 (by show zqPass x1 _ x3; rw [cv]; exact ⟨fun z => by omega, fun z => by omega, fun z => by omega⟩) (by omega) fh30 | exact CutI_n (p0 := (x1, x2, x3, 0, (fun _ => 0))) (by omega) (by omega) (by show x1 ≠ 3; omega) (by show x1 ≠ 4; omega) (by omega) (by omega) fm_6_0 (by show ¬ zqPass x1 _ x3; rw [cv]; intro z; have z1 := z.1; have z2 := z.2.1; have z3 := z.2.2; omega) | assumption | omega) (by omega)
  refine w_iconst gz_77_0 (by decide) ?_
  refine w_istore (ls' := [(2, x0), (0, x1), (0, x2), (0, x3), (0, 0), (9, 0)]) gz_77_1 gm_77 rfl rfl rfl ?_
  refine w_iconst gz_77_3 (by decide) ?_
  refine w_istore (ls' := [(2, x0), (0, x1), (0, x2), (0, x3), (0, 0), (0, 0)]) gz_77_4 gm_77 rfl rfl rfl ?_
  exact J6_0 12 (0) (0) h (my_fr.rf) (my_fx.rf) (by omega) (by omega) (by omega) (by omega) (by omega) (by omega) (by omega) (eka0_0.symm.trans (by omega)) (eka0_1.symm.trans (by omega)) (by first | exact FmI_0 (fun _ => rfl) | exact CutI_s (p0 := (x1, x2, x3, 0, (fun _ => 0))) (by omega) (by omega) (by show x1 ≠ 3; omega) (by show x1 ≠ 4; omega) (by omega) (by omega) fm_6_0 (by show zqPass x1 _ x3; rw [cv]; exact ⟨fun z => by omega, fun z => by omega, fun z => by omega⟩) (by omega) | exact CutI_m (p0 := (x1, x2, x3, 0, (fun _ => 0))) (by omega) (by omega) (by show x1 ≠ 3; omega) (by show x1 ≠ 4; omega) (by omega) (by omega) fm_6_0 (by show zqPass x1 _ x3; rw [cv]; exact ⟨fun z => by omega, fun z => by omega, fun z => by omega⟩) (by omega) no_such_copy | exact CutI_n (p0 := (x1, x2, x3, 0, (fun _ => 0))) (by omega) (by omega) (by show x1 ≠ 3; omega) (by show x1 ≠ 4; omega) (by omega) (by omega) fm_6_0 (by show ¬ zqPass x1 _ x3; rw [cv]; intro z; have z1 := z.1; have z2 := z.2.1; have z3 := z.2.2; omega) | assumption | omega) (by omega)
end MYNView_cut5
