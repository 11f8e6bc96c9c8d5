/-! contracts, printed by wip/gen/gy.py -/
section MYNLens_startOnWall
theorem c_Lens_startOnWall {l : Launch} {rho : Nat → Int32} {d : Nat} {h : my_H} {Q : my_H → my_V → Prop} {x0 x1 x2 : Int} (t0 : my_is 4 x0) (a1 : 0 ≤ x1) (b1 : x1 ≤ 2) (a2 : 0 ≤ x2) (b2 : x2 ≤ 4) (k0 : ∀ (h' : my_H), my_fr [(4, 1), (4, 2), (4, 3), (4, 4), (4, 5), (4, 6), (4, 7), (4, 8), (4, 9), (37, -1), (38, -1)] h h' → my_fx x0 8 h h' → h' x0 1 = (-1) → 0 ≤ h' x0 4 → h' x0 4 ≤ 4 → h' x0 5 = 0 → h' x0 7 = 0 → h' x0 8 = 0 → h' x0 9 = 0 → h' x0 1 = -1 → h' x0 3 = x2 → h' x0 4 = x2 → h' x0 9 = 0 → Q h' (9, 0)) : wp l rho (d + 1) 45 0 [(2, x0), (0, x1), (0, x2), (9, 0)] [] h Q := by
  have J49_0 : ∀ (n : Nat) (p49_0 p49_1 : Int) (h49_0 : my_H), my_fr [(4, 1), (4, 2), (4, 3), (4, 4), (4, 5), (4, 6), (4, 7), (4, 8), (4, 9), (37, -1), (38, -1)] h h49_0 → my_fx x0 8 h h49_0 → 0 ≤ p49_0 → p49_0 ≤ 4 → h49_0 x0 1 = (-1) → h49_0 x0 2 = x1 → h49_0 x0 3 = x2 → h49_0 x0 4 = x2 → h49_0 x0 5 = 0 → h49_0 x0 6 = p49_1 → h49_0 x0 7 = 0 → h49_0 x0 8 = 0 → h49_0 x0 9 = 0 → h49_0 x0 1 = -1 → h49_0 x0 3 = x2 → h49_0 x0 4 = x2 → h49_0 x0 9 = 0 → 5 - p49_0 ≤ (n : Int) → wp l rho (d + 1) 45 49 [(2, x0), (0, x1), (0, x2), (0, p49_0)] [] h49_0 Q := by
    intro n
    induction n with
    | zero => intro p49_0 p49_1 h49_0 gh_49_0 gx_49_0 q0_49_0 q1_49_0 ca0_1_49_0 ca0_2_49_0 ca0_3_49_0 ca0_4_49_0 ca0_5_49_0 ca0_6_49_0 ca0_7_49_0 ca0_8_49_0 ca0_9_49_0 w1_49_0 w3_49_0 w4_49_0 w9_49_0 hm_49_0; exfalso; omega
    | succ n ih_49_0 =>
      intro p49_0 p49_1 h49_0 gh_49_0 gx_49_0 q0_49_0 q1_49_0 ca0_1_49_0 ca0_2_49_0 ca0_3_49_0 ca0_4_49_0 ca0_5_49_0 ca0_6_49_0 ca0_7_49_0 ca0_8_49_0 ca0_9_49_0 w1_49_0 w3_49_0 w4_49_0 w9_49_0 hm_49_0
      refine w_iload_n gz_45_49 rfl ?_
      refine w_iconst gz_45_50 (by decide) ?_
      refine w_icge (t := 78) gz_45_51 rfl (fun u1 => ?_) (fun u1 => ?_)
      ·
        have ce2 : h49_0 x0 1 = (-1) := ca0_1_49_0
        have ce3 : h49_0 x0 3 = x2 := ca0_3_49_0
        have ce4 : h49_0 x0 4 = x2 := ca0_4_49_0
        have ce5 : h49_0 x0 9 = 0 := ca0_9_49_0
        have c6 := ca0_1_49_0
        have c7 := ca0_4_49_0
        have c8 := ca0_5_49_0
        have c9 := ca0_7_49_0
        have c10 := ca0_8_49_0
        have c11 := ca0_9_49_0
        exact w_vret gz_45_78 gm_45 (k0 h49_0 (gh_49_0) (gx_49_0) (by omega) (by omega) (by omega) (by omega) (by omega) (by omega) (by omega) (by first | assumption | omega | (subst_vars; omega)) (by first | assumption | omega | (subst_vars; omega)) (by first | assumption | omega | (subst_vars; omega)) (by first | assumption | omega | (subst_vars; omega)))
      ·
        refine w_aload_n gz_45_54 rfl ?_
        refine w_getX (v := (x0 + 7)) gz_45_55 t0 rd_4 rfl (by decide) rfl ?_
        refine w_iload_n gz_45_58 rfl ?_
        refine w_iconst gz_45_59 (by decide) ?_
        refine w_iast gz_45_60 (ix_4_7 t0) rd_38 (by omega) (by omega) (by omega) (by omega) (fun h13 fh13 => ?_)
        have gh13 : my_fr [(4, 1), (4, 2), (4, 3), (4, 4), (4, 5), (4, 6), (4, 7), (4, 8), (4, 9), (37, -1), (38, -1)] h h13 := my_fr.up gh_49_0 (ix_4_7 t0) fh13 rfl
        have gxh13 : my_fx x0 8 h h13 := my_fx.up gx_49_0 fh13 (by omega)
        refine w_aload_n gz_45_61 rfl ?_
        refine w_getX (v := (x0 + 6)) gz_45_62 t0 rd_4 rfl (by decide) rfl ?_
        refine w_iload_n gz_45_65 rfl ?_
        refine w_iload_n gz_45_66 rfl ?_
        refine w_iload_n gz_45_67 rfl ?_
        refine w_inS (k := 0) (as := [(0, p49_0), (0, x1)]) (r := [(0, p49_0), (2, (x0 + 6))]) (ls0 := [(0, x1), (0, p49_0)]) gz_45_68 gm_29 rfl rfl rfl rfl rfl rfl ?_
        refine w_iload_n gz_29_0 rfl ?_
        refine w_iconst gz_29_1 (by decide) ?_
        refine w_imul gz_29_2 ⟨by omega, by omega⟩ ?_
        refine w_iload_n gz_29_3 rfl ?_
        refine w_iadd gz_29_4 ⟨by omega, by omega⟩ ?_
        refine w_iret gz_29_5 gm_29 ?_
        show wp l rho (d + 1) 45 71 [(2, x0), (0, x1), (0, x2), (0, p49_0)] [(0, ((x1 * 4) + p49_0)), (0, p49_0), (2, (x0 + 6))] h13 Q
        refine w_iast gz_45_71 (ix_4_6 t0) rd_37 (by omega) (by omega) (by omega) (by omega) (fun h15 fh15 => ?_)
        have gh15 : my_fr [(4, 1), (4, 2), (4, 3), (4, 4), (4, 5), (4, 6), (4, 7), (4, 8), (4, 9), (37, -1), (38, -1)] h h15 := my_fr.up gh13 (ix_4_6 t0) fh15 rfl
        have gxh15 : my_fx x0 8 h h15 := my_fx.up gxh13 fh15 (by omega)
        refine w_iinc (ls' := [(2, x0), (0, x1), (0, x2), (0, (p49_0 + 1))]) gz_45_72 rfl gm_45 rfl rfl rfl ⟨by omega, by omega⟩ ?_
        refine w_goto (t := 49) gz_45_75 rfl ?_
        have ce16 : h15 x0 1 = (-1) := ((my_up_role fh15 t0 (ix_4_6 t0) rfl).trans ((my_up_role fh13 t0 (ix_4_7 t0) rfl).trans ca0_1_49_0))
        have ce17 : h15 x0 3 = x2 := ((my_up_role fh15 t0 (ix_4_6 t0) rfl).trans ((my_up_role fh13 t0 (ix_4_7 t0) rfl).trans ca0_3_49_0))
        have ce18 : h15 x0 4 = x2 := ((my_up_role fh15 t0 (ix_4_6 t0) rfl).trans ((my_up_role fh13 t0 (ix_4_7 t0) rfl).trans ca0_4_49_0))
        have ce19 : h15 x0 9 = 0 := ((my_up_role fh15 t0 (ix_4_6 t0) rfl).trans ((my_up_role fh13 t0 (ix_4_7 t0) rfl).trans ca0_9_49_0))
        exact ih_49_0 ((p49_0 + 1)) (p49_1) h15 (gh15) (gxh15) (by omega) (by omega) (((my_up_role fh15 t0 (ix_4_6 t0) rfl).trans ((my_up_role fh13 t0 (ix_4_7 t0) rfl).trans ca0_1_49_0)).trans (by omega)) (((my_up_role fh15 t0 (ix_4_6 t0) rfl).trans ((my_up_role fh13 t0 (ix_4_7 t0) rfl).trans ca0_2_49_0)).trans (by omega)) (((my_up_role fh15 t0 (ix_4_6 t0) rfl).trans ((my_up_role fh13 t0 (ix_4_7 t0) rfl).trans ca0_3_49_0)).trans (by omega)) (((my_up_role fh15 t0 (ix_4_6 t0) rfl).trans ((my_up_role fh13 t0 (ix_4_7 t0) rfl).trans ca0_4_49_0)).trans (by omega)) (((my_up_role fh15 t0 (ix_4_6 t0) rfl).trans ((my_up_role fh13 t0 (ix_4_7 t0) rfl).trans ca0_5_49_0)).trans (by omega)) (((my_up_role fh15 t0 (ix_4_6 t0) rfl).trans ((my_up_role fh13 t0 (ix_4_7 t0) rfl).trans ca0_6_49_0)).trans (by omega)) (((my_up_role fh15 t0 (ix_4_6 t0) rfl).trans ((my_up_role fh13 t0 (ix_4_7 t0) rfl).trans ca0_7_49_0)).trans (by omega)) (((my_up_role fh15 t0 (ix_4_6 t0) rfl).trans ((my_up_role fh13 t0 (ix_4_7 t0) rfl).trans ca0_8_49_0)).trans (by omega)) (((my_up_role fh15 t0 (ix_4_6 t0) rfl).trans ((my_up_role fh13 t0 (ix_4_7 t0) rfl).trans ca0_9_49_0)).trans (by omega)) (by first | assumption | omega | (subst_vars; omega)) (by first | assumption | omega | (subst_vars; omega)) (by first | assumption | omega | (subst_vars; omega)) (by first | assumption | omega | (subst_vars; omega)) (by omega)
  refine w_aload_n gz_45_0 rfl ?_
  refine w_iconst gz_45_1 (by decide) ?_
  refine v_putI (j := 1) gz_45_2 rfl t0 rd_4 rfl (by omega) (by omega) rfl (fun h20 fh20 => ?_)
  have gh20 : my_fr [(4, 1), (4, 2), (4, 3), (4, 4), (4, 5), (4, 6), (4, 7), (4, 8), (4, 9), (37, -1), (38, -1)] h h20 := my_fr.up my_fr.rf t0 fh20 rfl
  have gxh20 : my_fx x0 8 h h20 := my_fx.up my_fx.rf fh20 (by omega)
  refine w_aload_n gz_45_5 rfl ?_
  refine w_iload_n gz_45_6 rfl ?_
  refine v_putI (j := 2) gz_45_7 rfl t0 rd_4 rfl (by omega) (by omega) rfl (fun h21 fh21 => ?_)
  have gh21 : my_fr [(4, 1), (4, 2), (4, 3), (4, 4), (4, 5), (4, 6), (4, 7), (4, 8), (4, 9), (37, -1), (38, -1)] h h21 := my_fr.up gh20 t0 fh21 rfl
  have gxh21 : my_fx x0 8 h h21 := my_fx.up gxh20 fh21 (by omega)
  refine w_aload_n gz_45_10 rfl ?_
  refine w_iload_n gz_45_11 rfl ?_
  refine v_putI (j := 3) gz_45_12 rfl t0 rd_4 rfl (by omega) (by omega) rfl (fun h22 fh22 => ?_)
  have gh22 : my_fr [(4, 1), (4, 2), (4, 3), (4, 4), (4, 5), (4, 6), (4, 7), (4, 8), (4, 9), (37, -1), (38, -1)] h h22 := my_fr.up gh21 t0 fh22 rfl
  have gxh22 : my_fx x0 8 h h22 := my_fx.up gxh21 fh22 (by omega)
  refine w_aload_n gz_45_15 rfl ?_
  refine w_iload_n gz_45_16 rfl ?_
  refine v_putI (j := 4) gz_45_17 rfl t0 rd_4 rfl (by omega) (by omega) rfl (fun h23 fh23 => ?_)
  have gh23 : my_fr [(4, 1), (4, 2), (4, 3), (4, 4), (4, 5), (4, 6), (4, 7), (4, 8), (4, 9), (37, -1), (38, -1)] h h23 := my_fr.up gh22 t0 fh23 rfl
  have gxh23 : my_fx x0 8 h h23 := my_fx.up gxh22 fh23 (by omega)
  refine w_aload_n gz_45_20 rfl ?_
  refine w_iconst gz_45_21 (by decide) ?_
  refine v_putA (j := 5) gz_45_22 rfl t0 rd_4 rfl rfl (fun h24 fh24 => ?_)
  have gh24 : my_fr [(4, 1), (4, 2), (4, 3), (4, 4), (4, 5), (4, 6), (4, 7), (4, 8), (4, 9), (37, -1), (38, -1)] h h24 := my_fr.up gh23 t0 fh24 rfl
  have gxh24 : my_fx x0 8 h h24 := my_fx.up gxh23 fh24 (by omega)
  refine w_aload_n gz_45_25 rfl ?_
  refine w_iconst gz_45_26 (by decide) ?_
  refine w_iload_n gz_45_27 rfl ?_
  refine w_ianyL gz_45_28 (fun v25 pv25 qv25 => ?_)
  refine v_putA (j := 6) gz_45_29 rfl t0 rd_4 rfl rfl (fun h26 fh26 => ?_)
  have gh26 : my_fr [(4, 1), (4, 2), (4, 3), (4, 4), (4, 5), (4, 6), (4, 7), (4, 8), (4, 9), (37, -1), (38, -1)] h h26 := my_fr.up gh24 t0 fh26 rfl
  have gxh26 : my_fx x0 8 h h26 := my_fx.up gxh24 fh26 (by omega)
  refine w_aload_n gz_45_32 rfl ?_
  refine w_iconst gz_45_33 (by decide) ?_
  refine v_putB (j := 7) gz_45_34 rfl t0 rd_4 rfl (by omega) (by omega) rfl (fun h27 fh27 => ?_)
  have gh27 : my_fr [(4, 1), (4, 2), (4, 3), (4, 4), (4, 5), (4, 6), (4, 7), (4, 8), (4, 9), (37, -1), (38, -1)] h h27 := my_fr.up gh26 t0 fh27 rfl
  have gxh27 : my_fx x0 8 h h27 := my_fx.up gxh26 fh27 (by omega)
  refine w_aload_n gz_45_37 rfl ?_
  refine w_iconst gz_45_38 (by decide) ?_
  refine v_putA (j := 8) gz_45_39 rfl t0 rd_4 rfl rfl (fun h28 fh28 => ?_)
  have gh28 : my_fr [(4, 1), (4, 2), (4, 3), (4, 4), (4, 5), (4, 6), (4, 7), (4, 8), (4, 9), (37, -1), (38, -1)] h h28 := my_fr.up gh27 t0 fh28 rfl
  have gxh28 : my_fx x0 8 h h28 := my_fx.up gxh27 fh28 (by omega)
  refine w_aload_n gz_45_42 rfl ?_
  refine w_iconst gz_45_43 (by decide) ?_
  refine v_putI (j := 9) gz_45_44 rfl t0 rd_4 rfl (by omega) (by omega) rfl (fun h29 fh29 => ?_)
  have gh29 : my_fr [(4, 1), (4, 2), (4, 3), (4, 4), (4, 5), (4, 6), (4, 7), (4, 8), (4, 9), (37, -1), (38, -1)] h h29 := my_fr.up gh28 t0 fh29 rfl
  have gxh29 : my_fx x0 8 h h29 := my_fx.up gxh28 fh29 (by omega)
  refine w_iconst gz_45_47 (by decide) ?_
  refine w_istore_n (ls' := [(2, x0), (0, x1), (0, x2), (0, 0)]) gz_45_48 gm_45 rfl rfl rfl ?_
  have ce30 : h29 x0 1 = (-1) := ((my_up_fld fh29 (by decide)).trans ((my_up_fld fh28 (by decide)).trans ((my_up_fld fh27 (by decide)).trans ((my_up_fld fh26 (by decide)).trans ((my_up_fld fh24 (by decide)).trans ((my_up_fld fh23 (by decide)).trans ((my_up_fld fh22 (by decide)).trans ((my_up_fld fh21 (by decide)).trans (my_up_self fh20)))))))))
  have ce31 : h29 x0 3 = x2 := ((my_up_fld fh29 (by decide)).trans ((my_up_fld fh28 (by decide)).trans ((my_up_fld fh27 (by decide)).trans ((my_up_fld fh26 (by decide)).trans ((my_up_fld fh24 (by decide)).trans ((my_up_fld fh23 (by decide)).trans (my_up_self fh22)))))))
  have ce32 : h29 x0 4 = x2 := ((my_up_fld fh29 (by decide)).trans ((my_up_fld fh28 (by decide)).trans ((my_up_fld fh27 (by decide)).trans ((my_up_fld fh26 (by decide)).trans ((my_up_fld fh24 (by decide)).trans (my_up_self fh23))))))
  have ce33 : h29 x0 9 = 0 := (my_up_self fh29)
  exact J49_0 5 (0) (v25) h29 (gh29) (gxh29) (by omega) (by omega) (((my_up_fld fh29 (by decide)).trans ((my_up_fld fh28 (by decide)).trans ((my_up_fld fh27 (by decide)).trans ((my_up_fld fh26 (by decide)).trans ((my_up_fld fh24 (by decide)).trans ((my_up_fld fh23 (by decide)).trans ((my_up_fld fh22 (by decide)).trans ((my_up_fld fh21 (by decide)).trans (my_up_self fh20))))))))).trans (by omega)) (((my_up_fld fh29 (by decide)).trans ((my_up_fld fh28 (by decide)).trans ((my_up_fld fh27 (by decide)).trans ((my_up_fld fh26 (by decide)).trans ((my_up_fld fh24 (by decide)).trans ((my_up_fld fh23 (by decide)).trans ((my_up_fld fh22 (by decide)).trans (my_up_self fh21)))))))).trans (by omega)) (((my_up_fld fh29 (by decide)).trans ((my_up_fld fh28 (by decide)).trans ((my_up_fld fh27 (by decide)).trans ((my_up_fld fh26 (by decide)).trans ((my_up_fld fh24 (by decide)).trans ((my_up_fld fh23 (by decide)).trans (my_up_self fh22))))))).trans (by omega)) (((my_up_fld fh29 (by decide)).trans ((my_up_fld fh28 (by decide)).trans ((my_up_fld fh27 (by decide)).trans ((my_up_fld fh26 (by decide)).trans ((my_up_fld fh24 (by decide)).trans (my_up_self fh23)))))).trans (by omega)) (((my_up_fld fh29 (by decide)).trans ((my_up_fld fh28 (by decide)).trans ((my_up_fld fh27 (by decide)).trans ((my_up_fld fh26 (by decide)).trans (my_up_self fh24))))).trans (by omega)) (((my_up_fld fh29 (by decide)).trans ((my_up_fld fh28 (by decide)).trans ((my_up_fld fh27 (by decide)).trans (my_up_self fh26)))).trans (by omega)) (((my_up_fld fh29 (by decide)).trans ((my_up_fld fh28 (by decide)).trans (my_up_self fh27))).trans (by omega)) (((my_up_fld fh29 (by decide)).trans (my_up_self fh28)).trans (by omega)) ((my_up_self fh29).trans (by omega)) (by first | assumption | omega | (subst_vars; omega)) (by first | assumption | omega | (subst_vars; omega)) (by first | assumption | omega | (subst_vars; omega)) (by first | assumption | omega | (subst_vars; omega)) (by omega)
theorem c_Reader_endsHere_f0 {l : Launch} {rho : Nat → Int32} {d : Nat} {h : my_H} {Q : my_H → my_V → Prop} (cf : h 82 9 = 0) (k0 : ∀ (h' : my_H), my_fr [(5, 5), (5, 6), (5, 7), (5, 8), (5, 9)] h h' → 1 ≤ h' 82 9 → h' 82 9 ≤ 16001 → Q h' (0, 0)) (k1 : ∀ (h' : my_H), my_fr [(5, 5), (5, 6), (5, 7), (5, 8), (5, 9)] h h' → h' 82 9 = 0 → Q h' (0, 1)) : wp l rho (d + 2) 47 0 [(2, 82)] [] h Q := by
  refine w_aload_n gz_47_0 rfl ?_
  refine v_getI (j := 6) gz_47_1 rfl is_82 rd_5 rfl (fun v1 ev1 pv1 qv1 => ?_)
  refine w_iconst gz_47_4 (by decide) ?_
  refine w_iceq (t := 15) gz_47_5 rfl (fun u2 => ?_) (fun u2 => ?_)
  ·
    refine w_aload_n gz_47_15 rfl ?_
    refine w_inv (k := 2) (as := []) (r := []) (x := 82) (ls0 := [(2, 82), (9, 0), (9, 0)]) gz_47_16 gm_37 rfl is_82 rd_5 rfl rfl rfl rfl rfl (c_Reader_nextToken_f0 (d := d)  (cf.trans (by omega)) (fun h3 frh3 w4 w5 w6 => ?_))
    have gh3 : my_fr [(5, 5), (5, 6), (5, 7), (5, 8), (5, 9)] h h3 := my_fr.tr my_fr.rf (frh3.mo rfl)
    show wp l rho (d + 2) 47 19 [(2, 82)] [] h3 Q
    refine w_iconst gz_47_19 (by decide) ?_
    have c7 := ((my_fr.at frh3 is_82 rfl).trans cf)
    exact w_bret gz_47_20 gm_47 (by omega) (by omega) (k1 h3 (gh3) (by omega))
  ·
    refine w_aload_n gz_47_8 rfl ?_
    refine w_iconst gz_47_9 (by decide) ?_
    refine w_inv (k := 0) (as := [(0, 1)]) (r := []) (x := 82) (ls0 := [(2, 82), (0, 1)]) gz_47_10 gm_42 rfl is_82 rd_5 rfl rfl rfl rfl rfl ?_
    refine w_aload_n gz_42_0 rfl ?_
    refine v_getI (j := 9) gz_42_1 rfl is_82 rd_5 rfl (fun v8 ev8 pv8 qv8 => ?_)
    have zv8 := ev8.trans cf
    refine w_ifne (t := 20) gz_42_4 rfl (fun u9 => by exfalso; omega) (fun u9 => ?_)
    refine w_aload_n gz_42_7 rfl ?_
    refine w_iload_n gz_42_8 rfl ?_
    refine w_bipush gz_42_9 (by decide) ?_
    refine w_aload_n gz_42_11 rfl ?_
    refine v_getI (j := 7) gz_42_12 rfl is_82 rd_5 rfl (fun v10 ev10 pv10 qv10 => ?_)
    refine w_imul gz_42_15 ⟨by omega, by omega⟩ ?_
    refine w_iadd gz_42_16 ⟨by omega, by omega⟩ ?_
    refine v_putI (j := 9) gz_42_17 rfl is_82 rd_5 rfl (by omega) (by omega) rfl (fun h11 fh11 => ?_)
    have gh11 : my_fr [(5, 5), (5, 6), (5, 7), (5, 8), (5, 9)] h h11 := my_fr.up my_fr.rf is_82 fh11 rfl
    refine w_vret gz_42_20 gm_42 ?_
    show wp l rho (d + 2) 47 13 [(2, 82)] [] h11 Q
    refine w_iconst gz_47_13 (by decide) ?_
    have c12 := (my_up_self fh11)
    exact w_bret gz_47_14 gm_47 (by omega) (by omega) (k0 h11 (gh11) (by omega) (by omega))
theorem c_Lens_startOnWindow {l : Launch} {rho : Nat → Int32} {d : Nat} {h : my_H} {Q : my_H → my_V → Prop} {x0 x1 x2 : Int} (t0 : my_is 4 x0) (a1 : 0 ≤ x1) (b1 : x1 ≤ 4) (t2 : my_is 4 x2) (hne : x2 < x0 ∨ x0 + 8 < x2) (k0 : ∀ (h' : my_H), my_fr [(4, 1), (4, 2), (4, 3), (4, 4), (4, 5), (4, 6), (4, 7), (4, 8), (4, 9), (37, -1), (38, -1)] h h' → my_fx x0 8 h h' → 0 ≤ h' x0 1 → h' x0 1 ≤ 4 → h' x0 9 = 0 → h' x0 1 = x1 → h' x0 3 = h x2 3 → h' x0 4 = h x2 4 → h' x0 9 = 0 → Q h' (9, 0)) : wp l rho (d + 1) 48 0 [(2, x0), (0, x1), (2, x2)] [] h Q := by
  refine v_know (x := x2) (j := 3) (b := 3) rfl t2 rd_4 rfl (fun ka2_3 eka2_3 pka2_3 qka2_3 => ?_)
  refine v_know (x := x2) (j := 4) (b := 4) rfl t2 rd_4 rfl (fun ka2_4 eka2_4 pka2_4 qka2_4 => ?_)
  refine w_aload_n gz_48_0 rfl ?_
  refine w_iload_n gz_48_1 rfl ?_
  refine v_putI (j := 1) gz_48_2 rfl t0 rd_4 rfl (by omega) (by omega) rfl (fun h1 fh1 => ?_)
  have gh1 : my_fr [(4, 1), (4, 2), (4, 3), (4, 4), (4, 5), (4, 6), (4, 7), (4, 8), (4, 9), (37, -1), (38, -1)] h h1 := my_fr.up my_fr.rf t0 fh1 rfl
  have gxh1 : my_fx x0 8 h h1 := my_fx.up my_fx.rf fh1 (by omega)
  refine w_aload_n gz_48_5 rfl ?_
  refine w_aload_n gz_48_6 rfl ?_
  refine v_getI (j := 2) gz_48_7 rfl t2 rd_4 rfl (fun v2 ev2 pv2 qv2 => ?_)
  refine v_putI (j := 2) gz_48_10 rfl t0 rd_4 rfl (by omega) (by omega) rfl (fun h3 fh3 => ?_)
  have gh3 : my_fr [(4, 1), (4, 2), (4, 3), (4, 4), (4, 5), (4, 6), (4, 7), (4, 8), (4, 9), (37, -1), (38, -1)] h h3 := my_fr.up gh1 t0 fh3 rfl
  have gxh3 : my_fx x0 8 h h3 := my_fx.up gxh1 fh3 (by omega)
  refine w_aload_n gz_48_13 rfl ?_
  refine w_aload_n gz_48_14 rfl ?_
  refine v_getI (j := 3) gz_48_15 rfl t2 rd_4 rfl (fun v4 ev4 pv4 qv4 => ?_)
  have zv4 := ev4.trans ((my_up_fld fh3 (by decide)).trans ((my_up_fld fh1 (by decide)).trans eka2_3.symm))
  refine v_putI (j := 3) gz_48_18 rfl t0 rd_4 rfl (by omega) (by omega) rfl (fun h5 fh5 => ?_)
  have gh5 : my_fr [(4, 1), (4, 2), (4, 3), (4, 4), (4, 5), (4, 6), (4, 7), (4, 8), (4, 9), (37, -1), (38, -1)] h h5 := my_fr.up gh3 t0 fh5 rfl
  have gxh5 : my_fx x0 8 h h5 := my_fx.up gxh3 fh5 (by omega)
  refine w_aload_n gz_48_21 rfl ?_
  refine w_aload_n gz_48_22 rfl ?_
  refine v_getI (j := 4) gz_48_23 rfl t2 rd_4 rfl (fun v6 ev6 pv6 qv6 => ?_)
  have zv6 := ev6.trans ((my_up_fld fh5 (by decide)).trans ((my_up_fld fh3 (by decide)).trans ((my_up_fld fh1 (by decide)).trans eka2_4.symm)))
  refine v_putI (j := 4) gz_48_26 rfl t0 rd_4 rfl (by omega) (by omega) rfl (fun h7 fh7 => ?_)
  have gh7 : my_fr [(4, 1), (4, 2), (4, 3), (4, 4), (4, 5), (4, 6), (4, 7), (4, 8), (4, 9), (37, -1), (38, -1)] h h7 := my_fr.up gh5 t0 fh7 rfl
  have gxh7 : my_fx x0 8 h h7 := my_fx.up gxh5 fh7 (by omega)
  refine w_aload_n gz_48_29 rfl ?_
  refine w_aload_n gz_48_30 rfl ?_
  refine v_getI (j := 5) gz_48_31 rfl t2 rd_4 rfl (fun v8 ev8 pv8 qv8 => ?_)
  refine v_putA (j := 5) gz_48_34 rfl t0 rd_4 rfl rfl (fun h9 fh9 => ?_)
  have gh9 : my_fr [(4, 1), (4, 2), (4, 3), (4, 4), (4, 5), (4, 6), (4, 7), (4, 8), (4, 9), (37, -1), (38, -1)] h h9 := my_fr.up gh7 t0 fh9 rfl
  have gxh9 : my_fx x0 8 h h9 := my_fx.up gxh7 fh9 (by omega)
  refine w_aload_n gz_48_37 rfl ?_
  refine w_aload_n gz_48_38 rfl ?_
  refine v_getI (j := 6) gz_48_39 rfl t2 rd_4 rfl (fun v10 ev10 pv10 qv10 => ?_)
  refine v_putA (j := 6) gz_48_42 rfl t0 rd_4 rfl rfl (fun h11 fh11 => ?_)
  have gh11 : my_fr [(4, 1), (4, 2), (4, 3), (4, 4), (4, 5), (4, 6), (4, 7), (4, 8), (4, 9), (37, -1), (38, -1)] h h11 := my_fr.up gh9 t0 fh11 rfl
  have gxh11 : my_fx x0 8 h h11 := my_fx.up gxh9 fh11 (by omega)
  refine w_aload_n gz_48_45 rfl ?_
  refine w_aload_n gz_48_46 rfl ?_
  refine v_getI (j := 7) gz_48_47 rfl t2 rd_4 rfl (fun v12 ev12 pv12 qv12 => ?_)
  refine v_putB (j := 7) gz_48_50 rfl t0 rd_4 rfl (by omega) (by omega) rfl (fun h13 fh13 => ?_)
  have gh13 : my_fr [(4, 1), (4, 2), (4, 3), (4, 4), (4, 5), (4, 6), (4, 7), (4, 8), (4, 9), (37, -1), (38, -1)] h h13 := my_fr.up gh11 t0 fh13 rfl
  have gxh13 : my_fx x0 8 h h13 := my_fx.up gxh11 fh13 (by omega)
  refine w_aload_n gz_48_53 rfl ?_
  refine w_aload_n gz_48_54 rfl ?_
  refine v_getI (j := 8) gz_48_55 rfl t2 rd_4 rfl (fun v14 ev14 pv14 qv14 => ?_)
  refine v_putA (j := 8) gz_48_58 rfl t0 rd_4 rfl rfl (fun h15 fh15 => ?_)
  have gh15 : my_fr [(4, 1), (4, 2), (4, 3), (4, 4), (4, 5), (4, 6), (4, 7), (4, 8), (4, 9), (37, -1), (38, -1)] h h15 := my_fr.up gh13 t0 fh15 rfl
  have gxh15 : my_fx x0 8 h h15 := my_fx.up gxh13 fh15 (by omega)
  refine w_aload_n gz_48_61 rfl ?_
  refine w_iconst gz_48_62 (by decide) ?_
  refine v_putI (j := 9) gz_48_63 rfl t0 rd_4 rfl (by omega) (by omega) rfl (fun h16 fh16 => ?_)
  have gh16 : my_fr [(4, 1), (4, 2), (4, 3), (4, 4), (4, 5), (4, 6), (4, 7), (4, 8), (4, 9), (37, -1), (38, -1)] h h16 := my_fr.up gh15 t0 fh16 rfl
  have gxh16 : my_fx x0 8 h h16 := my_fx.up gxh15 fh16 (by omega)
  refine w_aload_n gz_48_66 rfl ?_
  refine w_getX (v := (x2 + 7)) gz_48_67 t2 rd_4 rfl (by decide) rfl ?_
  refine w_iconst gz_48_70 (by decide) ?_
  refine w_aload_n gz_48_71 rfl ?_
  refine w_getX (v := (x0 + 7)) gz_48_72 t0 rd_4 rfl (by decide) rfl ?_
  refine w_iconst gz_48_75 (by decide) ?_
  refine w_iconst gz_48_76 (by decide) ?_
  refine w_cpU gz_48_77 (ix_4_7 t2) rd_38 (ix_4_7 t0) rd_38 (by omega) (by omega) (by omega) (by omega) (by omega) rfl (by decide) (by decide) (fun h19 fh19 => ?_)
  have gh19 : my_fr [(4, 1), (4, 2), (4, 3), (4, 4), (4, 5), (4, 6), (4, 7), (4, 8), (4, 9), (37, -1), (38, -1)] h h19 := my_fr.cp gh16 (ix_4_7 t0) fh19 rfl
  have gxh19 : my_fx x0 8 h h19 := my_fx.cp gxh16 fh19 (by omega)
  refine w_aload_n gz_48_80 rfl ?_
  refine w_getX (v := (x2 + 6)) gz_48_81 t2 rd_4 rfl (by decide) rfl ?_
  refine w_iconst gz_48_84 (by decide) ?_
  refine w_aload_n gz_48_85 rfl ?_
  refine w_getX (v := (x0 + 6)) gz_48_86 t0 rd_4 rfl (by decide) rfl ?_
  refine w_iconst gz_48_89 (by decide) ?_
  refine w_bipush gz_48_90 (by decide) ?_
  refine w_cpU gz_48_92 (ix_4_6 t2) rd_37 (ix_4_6 t0) rd_37 (by omega) (by omega) (by omega) (by omega) (by omega) rfl (by decide) (by decide) (fun h22 fh22 => ?_)
  have gh22 : my_fr [(4, 1), (4, 2), (4, 3), (4, 4), (4, 5), (4, 6), (4, 7), (4, 8), (4, 9), (37, -1), (38, -1)] h h22 := my_fr.cp gh19 (ix_4_6 t0) fh22 rfl
  have gxh22 : my_fx x0 8 h h22 := my_fx.cp gxh19 fh22 (by omega)
  have ce23 : h22 x0 1 = x1 := ((my_cp_role fh22 t0 (ix_4_6 t0) rfl).trans ((my_cp_role fh19 t0 (ix_4_7 t0) rfl).trans ((my_up_fld fh16 (by decide)).trans ((my_up_fld fh15 (by decide)).trans ((my_up_fld fh13 (by decide)).trans ((my_up_fld fh11 (by decide)).trans ((my_up_fld fh9 (by decide)).trans ((my_up_fld fh7 (by decide)).trans ((my_up_fld fh5 (by decide)).trans ((my_up_fld fh3 (by decide)).trans (my_up_self fh1)))))))))))
  have ce24 : h22 x0 3 = v4 := ((my_cp_role fh22 t0 (ix_4_6 t0) rfl).trans ((my_cp_role fh19 t0 (ix_4_7 t0) rfl).trans ((my_up_fld fh16 (by decide)).trans ((my_up_fld fh15 (by decide)).trans ((my_up_fld fh13 (by decide)).trans ((my_up_fld fh11 (by decide)).trans ((my_up_fld fh9 (by decide)).trans ((my_up_fld fh7 (by decide)).trans (my_up_self fh5)))))))))
  have ce25 : h22 x0 4 = v6 := ((my_cp_role fh22 t0 (ix_4_6 t0) rfl).trans ((my_cp_role fh19 t0 (ix_4_7 t0) rfl).trans ((my_up_fld fh16 (by decide)).trans ((my_up_fld fh15 (by decide)).trans ((my_up_fld fh13 (by decide)).trans ((my_up_fld fh11 (by decide)).trans ((my_up_fld fh9 (by decide)).trans (my_up_self fh7))))))))
  have ce26 : h22 x0 9 = 0 := ((my_cp_role fh22 t0 (ix_4_6 t0) rfl).trans ((my_cp_role fh19 t0 (ix_4_7 t0) rfl).trans (my_up_self fh16)))
  have c27 := ((my_cp_role fh22 t0 (ix_4_6 t0) rfl).trans ((my_cp_role fh19 t0 (ix_4_7 t0) rfl).trans ((my_up_fld fh16 (by decide)).trans ((my_up_fld fh15 (by decide)).trans ((my_up_fld fh13 (by decide)).trans ((my_up_fld fh11 (by decide)).trans ((my_up_fld fh9 (by decide)).trans ((my_up_fld fh7 (by decide)).trans ((my_up_fld fh5 (by decide)).trans ((my_up_fld fh3 (by decide)).trans (my_up_self fh1)))))))))))
  have c28 := ((my_cp_role fh22 t0 (ix_4_6 t0) rfl).trans ((my_cp_role fh19 t0 (ix_4_7 t0) rfl).trans (my_up_self fh16)))
  exact w_vret gz_48_95 gm_48 (k0 h22 (gh22) (gxh22) (by omega) (by omega) (by omega) (by first | assumption | omega | (subst_vars; omega)) (by first | assumption | omega | (subst_vars; omega)) (by first | assumption | omega | (subst_vars; omega)) (by first | assumption | omega | (subst_vars; omega)))
theorem c_Reader_takeNumber_f0 {l : Launch} {rho : Nat → Int32} {d : Nat} {h : my_H} {Q : my_H → my_V → Prop} {x1 : Int} (a1 : 0 ≤ x1) (b1 : x1 ≤ 200) (cf : h 82 9 = 0) (k0 : ∀ (h' : my_H), my_fr [(5, 5), (5, 6), (5, 7), (5, 8), (5, 9)] h h' → 1 ≤ h' 82 9 → h' 82 9 ≤ 16004 → Q h' (0, (-1))) (k1 : ∀ (h' : my_H) (y : Int), my_fr [(5, 5), (5, 6), (5, 7), (5, 8), (5, 9)] h h' → 0 ≤ y → y ≤ 199 → y ≤ (x1 - 1) → 1 ≤ x1 → h' 82 9 = 0 → Q h' (0, y)) : wp l rho (d + 2) 51 0 [(2, 82), (0, x1), (9, 0)] [] h Q := by
  refine w_aload_n gz_51_0 rfl ?_
  refine w_iload_n gz_51_1 rfl ?_
  refine w_inv (k := 0) (as := [(0, x1)]) (r := []) (x := 82) (ls0 := [(2, 82), (0, x1)]) gz_51_2 gm_44 rfl is_82 rd_5 rfl rfl rfl rfl rfl ?_
  refine w_aload_n gz_44_0 rfl ?_
  refine v_getI (j := 6) gz_44_1 rfl is_82 rd_5 rfl (fun v1 ev1 pv1 qv1 => ?_)
  refine w_iconst gz_44_4 (by decide) ?_
  refine w_iceq (t := 15) gz_44_5 rfl (fun u2 => ?_) (fun u2 => ?_)
  ·
    refine w_aload_n gz_44_15 rfl ?_
    refine v_getI (j := 8) gz_44_16 rfl is_82 rd_5 rfl (fun v3 ev3 pv3 qv3 => ?_)
    refine w_iload_n gz_44_19 rfl ?_
    refine w_iclt (t := 30) gz_44_20 rfl (fun u4 => ?_) (fun u4 => ?_)
    ·
      refine w_aload_n gz_44_30 rfl ?_
      refine v_getI (j := 9) gz_44_31 rfl is_82 rd_5 rfl (fun v5 ev5 pv5 qv5 => ?_)
      have zv5 := ev5.trans cf
      refine w_ifne (t := 44) gz_44_34 rfl (fun u6 => by exfalso; omega) (fun u6 => ?_)
      refine w_aload_n gz_44_37 rfl ?_
      refine v_getI (j := 8) gz_44_38 rfl is_82 rd_5 rfl (fun v7 ev7 pv7 qv7 => ?_)
      have zv7 := ev7.trans ev3.symm
      refine w_goto (t := 45) gz_44_41 rfl ?_
      refine w_iret gz_44_45 gm_44 ?_
      show wp l rho (d + 2) 51 5 [(2, 82), (0, x1), (9, 0)] [(0, v7)] h Q
      refine w_istore_n (ls' := [(2, 82), (0, x1), (0, v7)]) gz_51_5 gm_51 rfl rfl rfl ?_
      refine w_iload_n gz_51_6 rfl ?_
      refine w_iconst gz_51_7 (by decide) ?_
      refine w_iceq (t := 15) gz_51_8 rfl (fun u8 => by exfalso; omega) (fun u8 => ?_)
      refine w_aload_n gz_51_11 rfl ?_
      refine w_inv (k := 2) (as := []) (r := []) (x := 82) (ls0 := [(2, 82), (9, 0), (9, 0)]) gz_51_12 gm_37 rfl is_82 rd_5 rfl rfl rfl rfl rfl (c_Reader_nextToken_f0 (d := d)  (ev5.symm.trans (by omega)) (fun h9 frh9 w10 w11 w12 => ?_))
      have gh9 : my_fr [(5, 5), (5, 6), (5, 7), (5, 8), (5, 9)] h h9 := my_fr.tr my_fr.rf (frh9.mo rfl)
      show wp l rho (d + 2) 51 15 [(2, 82), (0, x1), (0, v7)] [] h9 Q
      refine w_iload_n gz_51_15 rfl ?_
      have c13 := ((my_fr.at frh9 is_82 rfl).trans ev5.symm)
      exact w_iret gz_51_16 gm_51 (k1 h9 (v7) (gh9) (by omega) (by omega) (by omega) (by omega) (by omega))
    ·
      refine w_aload_n gz_44_23 rfl ?_
      refine w_iconst gz_44_24 (by decide) ?_
      refine w_inv (k := 0) (as := [(0, 4)]) (r := []) (x := 82) (ls0 := [(2, 82), (0, 4)]) gz_44_25 gm_42 rfl is_82 rd_5 rfl rfl rfl rfl rfl ?_
      refine w_aload_n gz_42_0 rfl ?_
      refine v_getI (j := 9) gz_42_1 rfl is_82 rd_5 rfl (fun v14 ev14 pv14 qv14 => ?_)
      have zv14 := ev14.trans cf
      refine w_ifne (t := 20) gz_42_4 rfl (fun u15 => by exfalso; omega) (fun u15 => ?_)
      refine w_aload_n gz_42_7 rfl ?_
      refine w_iload_n gz_42_8 rfl ?_
      refine w_bipush gz_42_9 (by decide) ?_
      refine w_aload_n gz_42_11 rfl ?_
      refine v_getI (j := 7) gz_42_12 rfl is_82 rd_5 rfl (fun v16 ev16 pv16 qv16 => ?_)
      refine w_imul gz_42_15 ⟨by omega, by omega⟩ ?_
      refine w_iadd gz_42_16 ⟨by omega, by omega⟩ ?_
      refine v_putI (j := 9) gz_42_17 rfl is_82 rd_5 rfl (by omega) (by omega) rfl (fun h17 fh17 => ?_)
      have gh17 : my_fr [(5, 5), (5, 6), (5, 7), (5, 8), (5, 9)] h h17 := my_fr.up my_fr.rf is_82 fh17 rfl
      refine w_vret gz_42_20 gm_42 ?_
      show wp l rho (d + 1) 44 28 [(2, 82), (0, x1)] [] h17 _
      refine w_iconst gz_44_28 (by decide) ?_
      refine w_iret gz_44_29 gm_44 ?_
      show wp l rho (d + 2) 51 5 [(2, 82), (0, x1), (9, 0)] [(0, (-1))] h17 Q
      refine w_istore_n (ls' := [(2, 82), (0, x1), (0, (-1))]) gz_51_5 gm_51 rfl rfl rfl ?_
      refine w_iload_n gz_51_6 rfl ?_
      refine w_iconst gz_51_7 (by decide) ?_
      refine w_iceq (t := 15) gz_51_8 rfl (fun u18 => ?_) (fun u18 => by exfalso; omega)
      refine w_iload_n gz_51_15 rfl ?_
      have c19 := (my_up_self fh17)
      exact w_iret gz_51_16 gm_51 (k0 h17 (gh17) (by omega) (by omega))
  ·
    refine w_aload_n gz_44_8 rfl ?_
    refine w_iconst gz_44_9 (by decide) ?_
    refine w_inv (k := 0) (as := [(0, 1)]) (r := []) (x := 82) (ls0 := [(2, 82), (0, 1)]) gz_44_10 gm_42 rfl is_82 rd_5 rfl rfl rfl rfl rfl ?_
    refine w_aload_n gz_42_0 rfl ?_
    refine v_getI (j := 9) gz_42_1 rfl is_82 rd_5 rfl (fun v20 ev20 pv20 qv20 => ?_)
    have zv20 := ev20.trans cf
    refine w_ifne (t := 20) gz_42_4 rfl (fun u21 => by exfalso; omega) (fun u21 => ?_)
    refine w_aload_n gz_42_7 rfl ?_
    refine w_iload_n gz_42_8 rfl ?_
    refine w_bipush gz_42_9 (by decide) ?_
    refine w_aload_n gz_42_11 rfl ?_
    refine v_getI (j := 7) gz_42_12 rfl is_82 rd_5 rfl (fun v22 ev22 pv22 qv22 => ?_)
    refine w_imul gz_42_15 ⟨by omega, by omega⟩ ?_
    refine w_iadd gz_42_16 ⟨by omega, by omega⟩ ?_
    refine v_putI (j := 9) gz_42_17 rfl is_82 rd_5 rfl (by omega) (by omega) rfl (fun h23 fh23 => ?_)
    have gh23 : my_fr [(5, 5), (5, 6), (5, 7), (5, 8), (5, 9)] h h23 := my_fr.up my_fr.rf is_82 fh23 rfl
    refine w_vret gz_42_20 gm_42 ?_
    show wp l rho (d + 1) 44 13 [(2, 82), (0, x1)] [] h23 _
    refine w_iconst gz_44_13 (by decide) ?_
    refine w_iret gz_44_14 gm_44 ?_
    show wp l rho (d + 2) 51 5 [(2, 82), (0, x1), (9, 0)] [(0, (-1))] h23 Q
    refine w_istore_n (ls' := [(2, 82), (0, x1), (0, (-1))]) gz_51_5 gm_51 rfl rfl rfl ?_
    refine w_iload_n gz_51_6 rfl ?_
    refine w_iconst gz_51_7 (by decide) ?_
    refine w_iceq (t := 15) gz_51_8 rfl (fun u24 => ?_) (fun u24 => by exfalso; omega)
    refine w_iload_n gz_51_15 rfl ?_
    have c25 := (my_up_self fh23)
    exact w_iret gz_51_16 gm_51 (k0 h23 (gh23) (by omega) (by omega))
theorem c_Lens_addCut {l : Launch} {rho : Nat → Int32} {d : Nat} {h : my_H} {Q : my_H → my_V → Prop} {x0 x1 x2 x3 : Int} (t0 : my_is 4 x0) (a1 : 0 ≤ x1) (b1 : x1 ≤ 2) (a2 : 0 ≤ x2) (b2 : x2 ≤ 7) (a3 : 0 ≤ x3) (b3 : x3 ≤ 199) (hs5 : h x0 9 ≤ 5) (k0 : ∀ (h' : my_H), my_fr [(4, 5), (4, 8), (4, 9), (32, -1), (33, -1), (34, -1), (35, -1)] h h' → my_fx x0 8 h h' → 1 ≤ h' x0 9 → h' x0 9 ≤ 6 → AddS h h' x0 x1 x3 0 → Q h' (9, 0)) : wp l rho (d + 1) 53 0 [(2, x0), (0, x1), (0, x2), (0, x3)] [] h Q := by
  refine v_know (x := x0) (j := 9) (b := 9) rfl t0 rd_4 rfl (fun ka0_9 eka0_9 pka0_9 qka0_9 => ?_)
  refine v_know (x := x0) (j := 4) (b := 4) rfl t0 rd_4 rfl (fun ka0_4 eka0_4 pka0_4 qka0_4 => ?_)
  refine v_know (x := x0) (j := 1) (b := 1) rfl t0 rd_4 rfl (fun ka0_1 eka0_1 pka0_1 qka0_1 => ?_)
  refine v_know (x := x0) (j := 3) (b := 3) rfl t0 rd_4 rfl (fun ka0_3 eka0_3 pka0_3 qka0_3 => ?_)
  refine w_aload_n gz_53_0 rfl ?_
  refine w_iload_n gz_53_1 rfl ?_
  refine w_inv (k := 0) (as := [(0, x2)]) (r := []) (x := x0) (ls0 := [(2, x0), (0, x2)]) gz_53_2 gm_54 rfl t0 rd_4 rfl rfl rfl rfl rfl ?_
  refine w_aload_n gz_54_0 rfl ?_
  refine w_getX (v := (x0 + 6)) gz_54_1 t0 rd_4 rfl (by decide) rfl ?_
  refine w_iload_n gz_54_4 rfl ?_
  refine w_iald gz_54_5 (ix_4_6 t0) rd_37 (by omega) (by omega) (fun v2 ev2 pv2 qv2 => ?_)
  refine w_iconst gz_54_6 (by decide) ?_
  refine w_iceq (t := 30) gz_54_7 rfl (fun u3 => ?_) (fun u3 => ?_)
  ·
    refine w_vret gz_54_30 gm_54 ?_
    show wp l rho (d + 1) 53 5 [(2, x0), (0, x1), (0, x2), (0, x3)] [] h Q
    have a1 : ∀ j : Int, h (x0 + 1) j = h (x0 + 1) j := fun j => my_ag.at (my_ag.rf : my_ag AgF h h) (ix_4_1 t0) rfl
    have a3 : ∀ j : Int, h (x0 + 3) j = h (x0 + 3) j := fun j => my_ag.at (my_ag.rf : my_ag AgF h h) (ix_4_3 t0) rfl
    have a4 : ∀ j : Int, h (x0 + 4) j = h (x0 + 4) j := fun j => my_ag.at (my_ag.rf : my_ag AgF h h) (ix_4_4 t0) rfl
    have b1 : h x0 1 = h x0 1 := my_ag.at (my_ag.rf : my_ag AgF h h) t0 rfl
    have b3 : h x0 3 = h x0 3 := my_ag.at (my_ag.rf : my_ag AgF h h) t0 rfl
    have b9 : h x0 9 = h x0 9 := my_ag.at (my_ag.rf : my_ag AgF h h) t0 rfl
    have b4 : h x0 4 = h x0 4 := my_ag.at (my_ag.rf : my_ag AgF h h) t0 rfl
    refine w_aload_n gz_53_5 rfl ?_
    refine w_iload_n gz_53_6 rfl ?_
    refine w_iload_n gz_53_7 rfl ?_
    refine w_iload_n gz_53_8 rfl ?_
    refine w_iconst gz_53_9 (by decide) ?_
    refine w_inv (k := 0) (as := [(0, 0), (0, x3), (0, x2), (0, x1)]) (r := []) (x := x0) (ls0 := [(2, x0), (0, x1), (0, x2), (0, x3), (0, 0)]) gz_53_10 gm_55 rfl t0 rd_4 rfl rfl rfl rfl rfl ?_
    refine w_aload_n gz_55_0 rfl ?_
    refine w_getX (v := (x0 + 1)) gz_55_1 t0 rd_4 rfl (by decide) rfl ?_
    refine w_aload_n gz_55_4 rfl ?_
    refine v_getI (j := 9) gz_55_5 rfl t0 rd_4 rfl (fun v5 ev5 pv5 qv5 => ?_)
    have zv5 := ev5.trans eka0_9.symm
    refine w_iload_n gz_55_8 rfl ?_
    have hi6 : 0 ≤ v5 := by omega
    have hi7 : v5 ≤ 5 := by omega
    refine w_iast gz_55_9 (ix_4_1 t0) rd_32 (by omega) (by omega) (by omega) (by omega) (fun h8 fh8 => ?_)
    have gh8 : my_fr [(4, 5), (4, 8), (4, 9), (32, -1), (33, -1), (34, -1), (35, -1)] h h8 := my_fr.up my_fr.rf (ix_4_1 t0) fh8 rfl
    have gxh8 : my_fx x0 8 h h8 := my_fx.up my_fx.rf fh8 (by omega)
    refine w_aload_n gz_55_10 rfl ?_
    refine w_getX (v := (x0 + 2)) gz_55_11 t0 rd_4 rfl (by decide) rfl ?_
    refine w_aload_n gz_55_14 rfl ?_
    refine v_getI (j := 9) gz_55_15 rfl t0 rd_4 rfl (fun v10 ev10 pv10 qv10 => ?_)
    have zv10 := ev10.trans ((my_up_role fh8 t0 (ix_4_1 t0) rfl).trans ev5.symm)
    refine w_iload_n gz_55_18 rfl ?_
    refine w_iast gz_55_19 (ix_4_2 t0) rd_33 (by omega) (by omega) (by omega) (by omega) (fun h11 fh11 => ?_)
    have gh11 : my_fr [(4, 5), (4, 8), (4, 9), (32, -1), (33, -1), (34, -1), (35, -1)] h h11 := my_fr.up gh8 (ix_4_2 t0) fh11 rfl
    have gxh11 : my_fx x0 8 h h11 := my_fx.up gxh8 fh11 (by omega)
    refine w_aload_n gz_55_20 rfl ?_
    refine w_getX (v := (x0 + 3)) gz_55_21 t0 rd_4 rfl (by decide) rfl ?_
    refine w_aload_n gz_55_24 rfl ?_
    refine v_getI (j := 9) gz_55_25 rfl t0 rd_4 rfl (fun v13 ev13 pv13 qv13 => ?_)
    have zv13 := ev13.trans ((my_up_role fh11 t0 (ix_4_2 t0) rfl).trans ev10.symm)
    refine w_iload_n gz_55_28 rfl ?_
    refine w_iast gz_55_29 (ix_4_3 t0) rd_34 (by omega) (by omega) (by omega) (by omega) (fun h14 fh14 => ?_)
    have gh14 : my_fr [(4, 5), (4, 8), (4, 9), (32, -1), (33, -1), (34, -1), (35, -1)] h h14 := my_fr.up gh11 (ix_4_3 t0) fh14 rfl
    have gxh14 : my_fx x0 8 h h14 := my_fx.up gxh11 fh14 (by omega)
    refine w_aload_n gz_55_30 rfl ?_
    refine w_getX (v := (x0 + 4)) gz_55_31 t0 rd_4 rfl (by decide) rfl ?_
    refine w_aload_n gz_55_34 rfl ?_
    refine v_getI (j := 9) gz_55_35 rfl t0 rd_4 rfl (fun v16 ev16 pv16 qv16 => ?_)
    have zv16 := ev16.trans ((my_up_role fh14 t0 (ix_4_3 t0) rfl).trans ev13.symm)
    refine w_iload gz_55_38 rfl ?_
    refine w_iast gz_55_40 (ix_4_4 t0) rd_35 (by omega) (by omega) (by omega) (by omega) (fun h17 fh17 => ?_)
    have gh17 : my_fr [(4, 5), (4, 8), (4, 9), (32, -1), (33, -1), (34, -1), (35, -1)] h h17 := my_fr.up gh14 (ix_4_4 t0) fh17 rfl
    have gxh17 : my_fx x0 8 h h17 := my_fx.up gxh14 fh17 (by omega)
    refine w_aload_n gz_55_41 rfl ?_
    refine w_dup gz_55_42 rfl ?_
    refine v_getI (j := 9) gz_55_43 rfl t0 rd_4 rfl (fun v18 ev18 pv18 qv18 => ?_)
    have zv18 := ev18.trans ((my_up_role fh17 t0 (ix_4_4 t0) rfl).trans ev16.symm)
    refine w_iconst gz_55_46 (by decide) ?_
    refine w_iadd gz_55_47 ⟨by omega, by omega⟩ ?_
    refine v_putI (j := 9) gz_55_48 rfl t0 rd_4 rfl (by omega) (by omega) rfl (fun h19 fh19 => ?_)
    have gh19 : my_fr [(4, 5), (4, 8), (4, 9), (32, -1), (33, -1), (34, -1), (35, -1)] h h19 := my_fr.up gh17 t0 fh19 rfl
    have gxh19 : my_fx x0 8 h h19 := my_fx.up gxh17 fh19 (by omega)
    refine w_aload_n gz_55_51 rfl ?_
    refine w_dup gz_55_52 rfl ?_
    refine v_getI (j := 5) gz_55_53 rfl t0 rd_4 rfl (fun v20 ev20 pv20 qv20 => ?_)
    refine w_iconst gz_55_56 (by decide) ?_
    refine w_ianyA gz_55_57 (fun v21 pv21 qv21 => ?_)
    refine v_putA (j := 5) gz_55_58 rfl t0 rd_4 rfl rfl (fun h22 fh22 => ?_)
    have gh22 : my_fr [(4, 5), (4, 8), (4, 9), (32, -1), (33, -1), (34, -1), (35, -1)] h h22 := my_fr.up gh19 t0 fh22 rfl
    have gxh22 : my_fx x0 8 h h22 := my_fx.up gxh19 fh22 (by omega)
    refine w_vret gz_55_61 gm_55 ?_
    show wp l rho (d + 1) 53 13 [(2, x0), (0, x1), (0, x2), (0, x3)] [] h22 Q
    have c23 := ((my_up_fld fh22 (by decide)).trans (my_up_self fh19))
    exact w_vret gz_53_13 gm_53 (k0 h22 (gh22) (gxh22) (by omega) (by omega) (by unfold AddS ln_st; refine ⟨?_, ?_, ?_, ?_, fun j hj => ⟨?_, ?_, ?_⟩, ?_, ?_, ?_⟩ <;> simp only [fh22, fh19, fh17, fh14, fh11, fh8, my_up, and_self, true_and, and_true, if_true, a1, a3, a4, b1, b3, b9, b4] <;> (repeat (first | rw [if_neg (by omega)] | rw [if_pos (by omega)])) <;> (try omega)))
  ·
    refine w_aload_n gz_54_10 rfl ?_
    refine w_dup gz_54_11 rfl ?_
    refine v_getI (j := 8) gz_54_12 rfl t0 rd_4 rfl (fun v24 ev24 pv24 qv24 => ?_)
    refine w_iconst gz_54_15 (by decide) ?_
    refine w_aload_n gz_54_16 rfl ?_
    refine w_getX (v := (x0 + 6)) gz_54_17 t0 rd_4 rfl (by decide) rfl ?_
    refine w_iload_n gz_54_20 rfl ?_
    refine w_iald gz_54_21 (ix_4_6 t0) rd_37 (by omega) (by omega) (fun v26 ev26 pv26 qv26 => ?_)
    have zv26 := ev26.trans ev2.symm
    refine w_bipush gz_54_22 (by decide) ?_
    refine w_irem gz_54_24 (by omega) (by decide) ?_
    refine w_ianyL gz_54_25 (fun v27 pv27 qv27 => ?_)
    refine w_ianyO gz_54_26 (fun v28 pv28 qv28 => ?_)
    refine v_putA (j := 8) gz_54_27 rfl t0 rd_4 rfl rfl (fun h29 fh29 => ?_)
    have gh29 : my_fr [(4, 5), (4, 8), (4, 9), (32, -1), (33, -1), (34, -1), (35, -1)] h h29 := my_fr.up my_fr.rf t0 fh29 rfl
    have gxh29 : my_fx x0 8 h h29 := my_fx.up my_fx.rf fh29 (by omega)
    have AgL_h29 : my_ag AgF h h29 := AgL_ag (my_ag.up fh29 t0 rfl) (my_ag.rf : my_ag AgF h h)
    refine w_vret gz_54_30 gm_54 ?_
    show wp l rho (d + 1) 53 5 [(2, x0), (0, x1), (0, x2), (0, x3)] [] h29 Q
    have a1 : ∀ j : Int, h29 (x0 + 1) j = h (x0 + 1) j := fun j => my_ag.at AgL_h29 (ix_4_1 t0) rfl
    have a3 : ∀ j : Int, h29 (x0 + 3) j = h (x0 + 3) j := fun j => my_ag.at AgL_h29 (ix_4_3 t0) rfl
    have a4 : ∀ j : Int, h29 (x0 + 4) j = h (x0 + 4) j := fun j => my_ag.at AgL_h29 (ix_4_4 t0) rfl
    have b1 : h29 x0 1 = h x0 1 := my_ag.at AgL_h29 t0 rfl
    have b3 : h29 x0 3 = h x0 3 := my_ag.at AgL_h29 t0 rfl
    have b9 : h29 x0 9 = h x0 9 := my_ag.at AgL_h29 t0 rfl
    have b4 : h29 x0 4 = h x0 4 := my_ag.at AgL_h29 t0 rfl
    refine w_aload_n gz_53_5 rfl ?_
    refine w_iload_n gz_53_6 rfl ?_
    refine w_iload_n gz_53_7 rfl ?_
    refine w_iload_n gz_53_8 rfl ?_
    refine w_iconst gz_53_9 (by decide) ?_
    refine w_inv (k := 0) (as := [(0, 0), (0, x3), (0, x2), (0, x1)]) (r := []) (x := x0) (ls0 := [(2, x0), (0, x1), (0, x2), (0, x3), (0, 0)]) gz_53_10 gm_55 rfl t0 rd_4 rfl rfl rfl rfl rfl ?_
    refine w_aload_n gz_55_0 rfl ?_
    refine w_getX (v := (x0 + 1)) gz_55_1 t0 rd_4 rfl (by decide) rfl ?_
    refine w_aload_n gz_55_4 rfl ?_
    refine v_getI (j := 9) gz_55_5 rfl t0 rd_4 rfl (fun v31 ev31 pv31 qv31 => ?_)
    have zv31 := ev31.trans ((my_up_fld fh29 (by decide)).trans eka0_9.symm)
    refine w_iload_n gz_55_8 rfl ?_
    have hi32 : 0 ≤ v31 := by omega
    have hi33 : v31 ≤ 5 := by omega
    refine w_iast gz_55_9 (ix_4_1 t0) rd_32 (by omega) (by omega) (by omega) (by omega) (fun h34 fh34 => ?_)
    have gh34 : my_fr [(4, 5), (4, 8), (4, 9), (32, -1), (33, -1), (34, -1), (35, -1)] h h34 := my_fr.up gh29 (ix_4_1 t0) fh34 rfl
    have gxh34 : my_fx x0 8 h h34 := my_fx.up gxh29 fh34 (by omega)
    refine w_aload_n gz_55_10 rfl ?_
    refine w_getX (v := (x0 + 2)) gz_55_11 t0 rd_4 rfl (by decide) rfl ?_
    refine w_aload_n gz_55_14 rfl ?_
    refine v_getI (j := 9) gz_55_15 rfl t0 rd_4 rfl (fun v36 ev36 pv36 qv36 => ?_)
    have zv36 := ev36.trans ((my_up_role fh34 t0 (ix_4_1 t0) rfl).trans ev31.symm)
    refine w_iload_n gz_55_18 rfl ?_
    refine w_iast gz_55_19 (ix_4_2 t0) rd_33 (by omega) (by omega) (by omega) (by omega) (fun h37 fh37 => ?_)
    have gh37 : my_fr [(4, 5), (4, 8), (4, 9), (32, -1), (33, -1), (34, -1), (35, -1)] h h37 := my_fr.up gh34 (ix_4_2 t0) fh37 rfl
    have gxh37 : my_fx x0 8 h h37 := my_fx.up gxh34 fh37 (by omega)
    refine w_aload_n gz_55_20 rfl ?_
    refine w_getX (v := (x0 + 3)) gz_55_21 t0 rd_4 rfl (by decide) rfl ?_
    refine w_aload_n gz_55_24 rfl ?_
    refine v_getI (j := 9) gz_55_25 rfl t0 rd_4 rfl (fun v39 ev39 pv39 qv39 => ?_)
    have zv39 := ev39.trans ((my_up_role fh37 t0 (ix_4_2 t0) rfl).trans ev36.symm)
    refine w_iload_n gz_55_28 rfl ?_
    refine w_iast gz_55_29 (ix_4_3 t0) rd_34 (by omega) (by omega) (by omega) (by omega) (fun h40 fh40 => ?_)
    have gh40 : my_fr [(4, 5), (4, 8), (4, 9), (32, -1), (33, -1), (34, -1), (35, -1)] h h40 := my_fr.up gh37 (ix_4_3 t0) fh40 rfl
    have gxh40 : my_fx x0 8 h h40 := my_fx.up gxh37 fh40 (by omega)
    refine w_aload_n gz_55_30 rfl ?_
    refine w_getX (v := (x0 + 4)) gz_55_31 t0 rd_4 rfl (by decide) rfl ?_
    refine w_aload_n gz_55_34 rfl ?_
    refine v_getI (j := 9) gz_55_35 rfl t0 rd_4 rfl (fun v42 ev42 pv42 qv42 => ?_)
    have zv42 := ev42.trans ((my_up_role fh40 t0 (ix_4_3 t0) rfl).trans ev39.symm)
    refine w_iload gz_55_38 rfl ?_
    refine w_iast gz_55_40 (ix_4_4 t0) rd_35 (by omega) (by omega) (by omega) (by omega) (fun h43 fh43 => ?_)
    have gh43 : my_fr [(4, 5), (4, 8), (4, 9), (32, -1), (33, -1), (34, -1), (35, -1)] h h43 := my_fr.up gh40 (ix_4_4 t0) fh43 rfl
    have gxh43 : my_fx x0 8 h h43 := my_fx.up gxh40 fh43 (by omega)
    refine w_aload_n gz_55_41 rfl ?_
    refine w_dup gz_55_42 rfl ?_
    refine v_getI (j := 9) gz_55_43 rfl t0 rd_4 rfl (fun v44 ev44 pv44 qv44 => ?_)
    have zv44 := ev44.trans ((my_up_role fh43 t0 (ix_4_4 t0) rfl).trans ev42.symm)
    refine w_iconst gz_55_46 (by decide) ?_
    refine w_iadd gz_55_47 ⟨by omega, by omega⟩ ?_
    refine v_putI (j := 9) gz_55_48 rfl t0 rd_4 rfl (by omega) (by omega) rfl (fun h45 fh45 => ?_)
    have gh45 : my_fr [(4, 5), (4, 8), (4, 9), (32, -1), (33, -1), (34, -1), (35, -1)] h h45 := my_fr.up gh43 t0 fh45 rfl
    have gxh45 : my_fx x0 8 h h45 := my_fx.up gxh43 fh45 (by omega)
    refine w_aload_n gz_55_51 rfl ?_
    refine w_dup gz_55_52 rfl ?_
    refine v_getI (j := 5) gz_55_53 rfl t0 rd_4 rfl (fun v46 ev46 pv46 qv46 => ?_)
    refine w_iconst gz_55_56 (by decide) ?_
    refine w_ianyA gz_55_57 (fun v47 pv47 qv47 => ?_)
    refine v_putA (j := 5) gz_55_58 rfl t0 rd_4 rfl rfl (fun h48 fh48 => ?_)
    have gh48 : my_fr [(4, 5), (4, 8), (4, 9), (32, -1), (33, -1), (34, -1), (35, -1)] h h48 := my_fr.up gh45 t0 fh48 rfl
    have gxh48 : my_fx x0 8 h h48 := my_fx.up gxh45 fh48 (by omega)
    refine w_vret gz_55_61 gm_55 ?_
    show wp l rho (d + 1) 53 13 [(2, x0), (0, x1), (0, x2), (0, x3)] [] h48 Q
    have c49 := ((my_up_fld fh48 (by decide)).trans (my_up_self fh45))
    exact w_vret gz_53_13 gm_53 (k0 h48 (gh48) (gxh48) (by omega) (by omega) (by unfold AddS ln_st; refine ⟨?_, ?_, ?_, ?_, fun j hj => ⟨?_, ?_, ?_⟩, ?_, ?_, ?_⟩ <;> simp only [fh48, fh45, fh43, fh40, fh37, fh34, fh29, my_up, and_self, true_and, and_true, if_true, a1, a3, a4, b1, b3, b9, b4] <;> (repeat (first | rw [if_neg (by omega)] | rw [if_pos (by omega)])) <;> (try omega)))
theorem c_Lens_isPicked {l : Launch} {rho : Nat → Int32} {d : Nat} {h : my_H} {Q : my_H → my_V → Prop} {x0 x1 x2 : Int} (t0 : my_is 4 x0) (a1 : 0 ≤ x1) (b1 : x1 ≤ 7) (a2 : 0 ≤ x2) (b2 : x2 ≤ 8) (hs5 : h x0 9 ≤ 5) (k0 : (∀ n : Int, 0 ≤ n → n < x2 → h (x0 + 5) (h x0 9 * 8 + n) ≠ x1) → Q h (0, 0)) (k1 : 1 ≤ x2 → Q h (0, 1)) : wp l rho d 57 0 [(2, x0), (0, x1), (0, x2), (9, 0)] [] h Q := by
  refine v_know (x := x0) (j := 9) (b := 9) rfl t0 rd_4 rfl (fun ka0_9 eka0_9 pka0_9 qka0_9 => ?_)
  have J2_0 : ∀ (n : Nat) (p2_0 : Int), 0 ≤ p2_0 → p2_0 ≤ 8 → p2_0 ≤ x2 → h x0 9 = ka0_9 → (∀ n : Int, 0 ≤ n → n < p2_0 → h (x0 + 5) (h x0 9 * 8 + n) ≠ x1) → 9 - p2_0 ≤ (n : Int) → wp l rho d 57 2 [(2, x0), (0, x1), (0, x2), (0, p2_0)] [] h Q := by
    intro n
    induction n with
    | zero => intro p2_0 q0_2_0 q1_2_0 q2_2_0 ca0_9_2_0 np_2_0 hm_2_0; exfalso; omega
    | succ n ih_2_0 =>
      intro p2_0 q0_2_0 q1_2_0 q2_2_0 ca0_9_2_0 np_2_0 hm_2_0
      refine w_iload_n gz_57_2 rfl ?_
      refine w_iload_n gz_57_3 rfl ?_
      refine w_icge (t := 33) gz_57_4 rfl (fun u1 => ?_) (fun u1 => ?_)
      ·
        refine w_iconst gz_57_33 (by decide) ?_
        exact w_bret gz_57_34 gm_57 (by omega) (by omega) (k0 (by intro n a b; exact np_2_0 n a (by omega)))
      ·
        refine w_aload_n gz_57_7 rfl ?_
        refine w_getX (v := (x0 + 5)) gz_57_8 t0 rd_4 rfl (by decide) rfl ?_
        refine w_aload_n gz_57_11 rfl ?_
        refine v_getI (j := 9) gz_57_12 rfl t0 rd_4 rfl (fun v3 ev3 pv3 qv3 => ?_)
        have zv3 := ev3.trans ca0_9_2_0
        refine w_bipush gz_57_15 (by decide) ?_
        refine w_imul gz_57_17 ⟨by omega, by omega⟩ ?_
        refine w_iload_n gz_57_18 rfl ?_
        refine w_iadd gz_57_19 ⟨by omega, by omega⟩ ?_
        have hi4 : 0 ≤ ((v3 * 8) + p2_0) := by omega
        have hi5 : ((v3 * 8) + p2_0) ≤ 47 := by omega
        refine w_iald gz_57_20 (ix_4_5 t0) rd_36 (by omega) (by omega) (fun v6 ev6 pv6 qv6 => ?_)
        refine w_iload_n gz_57_21 rfl ?_
        refine w_icne (t := 27) gz_57_22 rfl (fun u7 => ?_) (fun u7 => ?_)
        ·
          refine w_iinc (ls' := [(2, x0), (0, x1), (0, x2), (0, (p2_0 + 1))]) gz_57_27 rfl gm_57 rfl rfl rfl ⟨by omega, by omega⟩ ?_
          refine w_goto (t := 2) gz_57_30 rfl ?_
          exact ih_2_0 ((p2_0 + 1)) (by omega) (by omega) (by omega) (ev3.symm.trans (by omega)) (by first | (intro n a b; omega) | (intro n a b; rcases (by omega : n = p2_0 ∨ n < p2_0) with q | q <;> first | exact np_2_0 n a q | (subst_vars; omega))) (by omega)
        ·
          refine w_iconst gz_57_25 (by decide) ?_
          exact w_bret gz_57_26 gm_57 (by omega) (by omega) (k1 (by omega))
  refine w_iconst gz_57_0 (by decide) ?_
  refine w_istore_n (ls' := [(2, x0), (0, x1), (0, x2), (0, 0)]) gz_57_1 gm_57 rfl rfl rfl ?_
  exact J2_0 9 (0) (by omega) (by omega) (by omega) (eka0_9.symm.trans (by omega)) (by first | (intro n a b; omega) | (intro n a b; rcases (by omega : n = p2_0 ∨ n < p2_0) with q | q <;> first | exact np_2_0 n a q | (subst_vars; omega))) (by omega)
theorem c_Lens_addFew {l : Launch} {rho : Nat → Int32} {d : Nat} {h : my_H} {Q : my_H → my_V → Prop} {x0 x1 : Int} (t0 : my_is 4 x0) (a1 : 1 ≤ x1) (b1 : x1 ≤ 8) (hs5 : h x0 9 ≤ 5) (k0 : ∀ (h' : my_H), my_fr [(4, 4), (4, 5), (4, 9), (32, -1), (33, -1), (34, -1), (35, -1), (37, -1), (39, -1)] h h' → my_fx x0 8 h h' → 1 ≤ h' x0 4 → h' x0 4 ≤ 8 → 1 ≤ h' x0 9 → h' x0 9 ≤ 6 → AddS h h' x0 3 0 x1 → Q h' (9, 0)) : wp l rho (d + 1) 59 0 [(2, x0), (0, x1), (9, 0)] [] h Q := by
  refine v_know (x := x0) (j := 9) (b := 9) rfl t0 rd_4 rfl (fun ka0_9 eka0_9 pka0_9 qka0_9 => ?_)
  have J17_0 : ∀ (n : Nat) (p17_0 : Int) (h17_0 : my_H), my_fr [(4, 4), (4, 5), (4, 9), (32, -1), (33, -1), (34, -1), (35, -1), (37, -1), (39, -1)] h h17_0 → my_fx x0 8 h h17_0 → 0 ≤ p17_0 → p17_0 ≤ 8 → p17_0 ≤ x1 → h17_0 x0 9 = ka0_9 → my_ag AgF h h17_0 → 9 - p17_0 ≤ (n : Int) → wp l rho (d + 1) 59 17 [(2, x0), (0, x1), (0, p17_0)] [] h17_0 Q := by
    intro n
    induction n with
    | zero => intro p17_0 h17_0 gh_17_0 gx_17_0 q0_17_0 q1_17_0 q2_17_0 ca0_9_17_0 n_AgL_17_0 hm_17_0; exfalso; omega
    | succ n ih_17_0 =>
      intro p17_0 h17_0 gh_17_0 gx_17_0 q0_17_0 q1_17_0 q2_17_0 ca0_9_17_0 n_AgL_17_0 hm_17_0
      have a1 : ∀ j : Int, h17_0 (x0 + 1) j = h (x0 + 1) j := fun j => my_ag.at n_AgL_17_0 (ix_4_1 t0) rfl
      have a3 : ∀ j : Int, h17_0 (x0 + 3) j = h (x0 + 3) j := fun j => my_ag.at n_AgL_17_0 (ix_4_3 t0) rfl
      have a4 : ∀ j : Int, h17_0 (x0 + 4) j = h (x0 + 4) j := fun j => my_ag.at n_AgL_17_0 (ix_4_4 t0) rfl
      have b1 : h17_0 x0 1 = h x0 1 := my_ag.at n_AgL_17_0 t0 rfl
      have b3 : h17_0 x0 3 = h x0 3 := my_ag.at n_AgL_17_0 t0 rfl
      have b9 : h17_0 x0 9 = h x0 9 := my_ag.at n_AgL_17_0 t0 rfl
      have b4 : h17_0 x0 4 = h x0 4 := my_ag.at n_AgL_17_0 t0 rfl
      refine w_iload_n gz_59_17 rfl ?_
      refine w_iload_n gz_59_18 rfl ?_
      refine w_icge (t := 53) gz_59_19 rfl (fun u1 => ?_) (fun u1 => ?_)
      ·
        refine w_aload_n gz_59_53 rfl ?_
        refine w_iload_n gz_59_54 rfl ?_
        refine v_putI (j := 4) gz_59_55 rfl t0 rd_4 rfl (by omega) (by omega) rfl (fun h2 fh2 => ?_)
        have gh2 : my_fr [(4, 4), (4, 5), (4, 9), (32, -1), (33, -1), (34, -1), (35, -1), (37, -1), (39, -1)] h h2 := my_fr.up gh_17_0 t0 fh2 rfl
        have gxh2 : my_fx x0 8 h h2 := my_fx.up gx_17_0 fh2 (by omega)
        refine w_aload_n gz_59_58 rfl ?_
        refine w_iconst gz_59_59 (by decide) ?_
        refine w_iconst gz_59_60 (by decide) ?_
        refine w_iconst gz_59_61 (by decide) ?_
        refine w_iload_n gz_59_62 rfl ?_
        refine w_inv (k := 0) (as := [(0, x1), (0, 0), (0, 0), (0, 3)]) (r := []) (x := x0) (ls0 := [(2, x0), (0, 3), (0, 0), (0, 0), (0, x1)]) gz_59_63 gm_55 rfl t0 rd_4 rfl rfl rfl rfl rfl ?_
        refine w_aload_n gz_55_0 rfl ?_
        refine w_getX (v := (x0 + 1)) gz_55_1 t0 rd_4 rfl (by decide) rfl ?_
        refine w_aload_n gz_55_4 rfl ?_
        refine v_getI (j := 9) gz_55_5 rfl t0 rd_4 rfl (fun v4 ev4 pv4 qv4 => ?_)
        have zv4 := ev4.trans ((my_up_fld fh2 (by decide)).trans ca0_9_17_0)
        refine w_iload_n gz_55_8 rfl ?_
        have hi5 : 0 ≤ v4 := by omega
        have hi6 : v4 ≤ 5 := by omega
        refine w_iast gz_55_9 (ix_4_1 t0) rd_32 (by omega) (by omega) (by omega) (by omega) (fun h7 fh7 => ?_)
        have gh7 : my_fr [(4, 4), (4, 5), (4, 9), (32, -1), (33, -1), (34, -1), (35, -1), (37, -1), (39, -1)] h h7 := my_fr.up gh2 (ix_4_1 t0) fh7 rfl
        have gxh7 : my_fx x0 8 h h7 := my_fx.up gxh2 fh7 (by omega)
        refine w_aload_n gz_55_10 rfl ?_
        refine w_getX (v := (x0 + 2)) gz_55_11 t0 rd_4 rfl (by decide) rfl ?_
        refine w_aload_n gz_55_14 rfl ?_
        refine v_getI (j := 9) gz_55_15 rfl t0 rd_4 rfl (fun v9 ev9 pv9 qv9 => ?_)
        have zv9 := ev9.trans ((my_up_role fh7 t0 (ix_4_1 t0) rfl).trans ev4.symm)
        refine w_iload_n gz_55_18 rfl ?_
        refine w_iast gz_55_19 (ix_4_2 t0) rd_33 (by omega) (by omega) (by omega) (by omega) (fun h10 fh10 => ?_)
        have gh10 : my_fr [(4, 4), (4, 5), (4, 9), (32, -1), (33, -1), (34, -1), (35, -1), (37, -1), (39, -1)] h h10 := my_fr.up gh7 (ix_4_2 t0) fh10 rfl
        have gxh10 : my_fx x0 8 h h10 := my_fx.up gxh7 fh10 (by omega)
        refine w_aload_n gz_55_20 rfl ?_
        refine w_getX (v := (x0 + 3)) gz_55_21 t0 rd_4 rfl (by decide) rfl ?_
        refine w_aload_n gz_55_24 rfl ?_
        refine v_getI (j := 9) gz_55_25 rfl t0 rd_4 rfl (fun v12 ev12 pv12 qv12 => ?_)
        have zv12 := ev12.trans ((my_up_role fh10 t0 (ix_4_2 t0) rfl).trans ev9.symm)
        refine w_iload_n gz_55_28 rfl ?_
        refine w_iast gz_55_29 (ix_4_3 t0) rd_34 (by omega) (by omega) (by omega) (by omega) (fun h13 fh13 => ?_)
        have gh13 : my_fr [(4, 4), (4, 5), (4, 9), (32, -1), (33, -1), (34, -1), (35, -1), (37, -1), (39, -1)] h h13 := my_fr.up gh10 (ix_4_3 t0) fh13 rfl
        have gxh13 : my_fx x0 8 h h13 := my_fx.up gxh10 fh13 (by omega)
        refine w_aload_n gz_55_30 rfl ?_
        refine w_getX (v := (x0 + 4)) gz_55_31 t0 rd_4 rfl (by decide) rfl ?_
        refine w_aload_n gz_55_34 rfl ?_
        refine v_getI (j := 9) gz_55_35 rfl t0 rd_4 rfl (fun v15 ev15 pv15 qv15 => ?_)
        have zv15 := ev15.trans ((my_up_role fh13 t0 (ix_4_3 t0) rfl).trans ev12.symm)
        refine w_iload gz_55_38 rfl ?_
        refine w_iast gz_55_40 (ix_4_4 t0) rd_35 (by omega) (by omega) (by omega) (by omega) (fun h16 fh16 => ?_)
        have gh16 : my_fr [(4, 4), (4, 5), (4, 9), (32, -1), (33, -1), (34, -1), (35, -1), (37, -1), (39, -1)] h h16 := my_fr.up gh13 (ix_4_4 t0) fh16 rfl
        have gxh16 : my_fx x0 8 h h16 := my_fx.up gxh13 fh16 (by omega)
        refine w_aload_n gz_55_41 rfl ?_
        refine w_dup gz_55_42 rfl ?_
        refine v_getI (j := 9) gz_55_43 rfl t0 rd_4 rfl (fun v17 ev17 pv17 qv17 => ?_)
        have zv17 := ev17.trans ((my_up_role fh16 t0 (ix_4_4 t0) rfl).trans ev15.symm)
        refine w_iconst gz_55_46 (by decide) ?_
        refine w_iadd gz_55_47 ⟨by omega, by omega⟩ ?_
        refine v_putI (j := 9) gz_55_48 rfl t0 rd_4 rfl (by omega) (by omega) rfl (fun h18 fh18 => ?_)
        have gh18 : my_fr [(4, 4), (4, 5), (4, 9), (32, -1), (33, -1), (34, -1), (35, -1), (37, -1), (39, -1)] h h18 := my_fr.up gh16 t0 fh18 rfl
        have gxh18 : my_fx x0 8 h h18 := my_fx.up gxh16 fh18 (by omega)
        refine w_aload_n gz_55_51 rfl ?_
        refine w_dup gz_55_52 rfl ?_
        refine v_getI (j := 5) gz_55_53 rfl t0 rd_4 rfl (fun v19 ev19 pv19 qv19 => ?_)
        refine w_iconst gz_55_56 (by decide) ?_
        refine w_ianyA gz_55_57 (fun v20 pv20 qv20 => ?_)
        refine v_putA (j := 5) gz_55_58 rfl t0 rd_4 rfl rfl (fun h21 fh21 => ?_)
        have gh21 : my_fr [(4, 4), (4, 5), (4, 9), (32, -1), (33, -1), (34, -1), (35, -1), (37, -1), (39, -1)] h h21 := my_fr.up gh18 t0 fh21 rfl
        have gxh21 : my_fx x0 8 h h21 := my_fx.up gxh18 fh21 (by omega)
        refine w_vret gz_55_61 gm_55 ?_
        show wp l rho (d + 1) 59 66 [(2, x0), (0, x1), (0, p17_0)] [] h21 Q
        have c22 := ((my_up_fld fh21 (by decide)).trans ((my_up_fld fh18 (by decide)).trans ((my_up_role fh16 t0 (ix_4_4 t0) rfl).trans ((my_up_role fh13 t0 (ix_4_3 t0) rfl).trans ((my_up_role fh10 t0 (ix_4_2 t0) rfl).trans ((my_up_role fh7 t0 (ix_4_1 t0) rfl).trans (my_up_self fh2)))))))
        have c23 := ((my_up_fld fh21 (by decide)).trans (my_up_self fh18))
        exact w_vret gz_59_66 gm_59 (k0 h21 (gh21) (gxh21) (by omega) (by omega) (by omega) (by omega) (by unfold AddS ln_st; refine ⟨?_, ?_, ?_, ?_, fun j hj => ⟨?_, ?_, ?_⟩, ?_, ?_, ?_⟩ <;> simp only [fh21, fh18, fh16, fh13, fh10, fh7, fh2, my_up, and_self, true_and, and_true, if_true, a1, a3, a4, b1, b3, b9, b4] <;> (repeat (first | rw [if_neg (by omega)] | rw [if_pos (by omega)])) <;> (try omega)))
      ·
        refine w_aload_n gz_59_22 rfl ?_
        refine w_getX (v := (x0 + 6)) gz_59_23 t0 rd_4 rfl (by decide) rfl ?_
        refine w_iload_n gz_59_26 rfl ?_
        refine w_aload_n gz_59_27 rfl ?_
        refine w_getX (v := (x0 + 8)) gz_59_28 t0 rd_4 rfl (by decide) rfl ?_
        refine w_aload_n gz_59_31 rfl ?_
        refine w_getX (v := (x0 + 5)) gz_59_32 t0 rd_4 rfl (by decide) rfl ?_
        refine w_aload_n gz_59_35 rfl ?_
        refine v_getI (j := 9) gz_59_36 rfl t0 rd_4 rfl (fun v27 ev27 pv27 qv27 => ?_)
        have zv27 := ev27.trans ca0_9_17_0
        refine w_bipush gz_59_39 (by decide) ?_
        refine w_imul gz_59_41 ⟨by omega, by omega⟩ ?_
        refine w_iload_n gz_59_42 rfl ?_
        refine w_iadd gz_59_43 ⟨by omega, by omega⟩ ?_
        have hi28 : 0 ≤ ((v27 * 8) + p17_0) := by omega
        have hi29 : ((v27 * 8) + p17_0) ≤ 47 := by omega
        refine w_iald gz_59_44 (ix_4_5 t0) rd_36 (by omega) (by omega) (fun v30 ev30 pv30 qv30 => ?_)
        refine w_iald gz_59_45 (ix_4_8 t0) rd_39 (by omega) (by omega) (fun v31 ev31 pv31 qv31 => ?_)
        refine w_iast gz_59_46 (ix_4_6 t0) rd_37 (by omega) (by omega) (by omega) (by omega) (fun h32 fh32 => ?_)
        have gh32 : my_fr [(4, 4), (4, 5), (4, 9), (32, -1), (33, -1), (34, -1), (35, -1), (37, -1), (39, -1)] h h32 := my_fr.up gh_17_0 (ix_4_6 t0) fh32 rfl
        have gxh32 : my_fx x0 8 h h32 := my_fx.up gx_17_0 fh32 (by omega)
        have AgL_h32 : my_ag AgF h h32 := AgL_ag (my_ag.up fh32 (ix_4_6 t0) rfl) n_AgL_17_0
        refine w_iinc (ls' := [(2, x0), (0, x1), (0, (p17_0 + 1))]) gz_59_47 rfl gm_59 rfl rfl rfl ⟨by omega, by omega⟩ ?_
        refine w_goto (t := 17) gz_59_50 rfl ?_
        exact ih_17_0 ((p17_0 + 1)) h32 (gh32) (gxh32) (by omega) (by omega) (by omega) (((my_up_role fh32 t0 (ix_4_6 t0) rfl).trans ev27.symm).trans (by omega)) AgL_h32 (by omega)
  refine w_aload_n gz_59_0 rfl ?_
  refine w_getX (v := (x0 + 6)) gz_59_1 t0 rd_4 rfl (by decide) rfl ?_
  refine w_iconst gz_59_4 (by decide) ?_
  refine w_aload_n gz_59_5 rfl ?_
  refine w_getX (v := (x0 + 8)) gz_59_6 t0 rd_4 rfl (by decide) rfl ?_
  refine w_iconst gz_59_9 (by decide) ?_
  refine w_bipush gz_59_10 (by decide) ?_
  refine w_cpU gz_59_12 (ix_4_6 t0) rd_37 (ix_4_8 t0) rd_39 (by omega) (by omega) (by omega) (by omega) (by omega) rfl (by decide) (by decide) (fun h35 fh35 => ?_)
  have gh35 : my_fr [(4, 4), (4, 5), (4, 9), (32, -1), (33, -1), (34, -1), (35, -1), (37, -1), (39, -1)] h h35 := my_fr.cp my_fr.rf (ix_4_8 t0) fh35 rfl
  have gxh35 : my_fx x0 8 h h35 := my_fx.cp my_fx.rf fh35 (by omega)
  have AgL_h35 : my_ag AgF h h35 := AgL_ag (my_ag.cp fh35 (ix_4_8 t0) rfl) (my_ag.rf : my_ag AgF h h)
  refine w_iconst gz_59_15 (by decide) ?_
  refine w_istore_n (ls' := [(2, x0), (0, x1), (0, 0)]) gz_59_16 gm_59 rfl rfl rfl ?_
  exact J17_0 9 (0) h35 (gh35) (gxh35) (by omega) (by omega) (by omega) (((my_cp_role fh35 t0 (ix_4_8 t0) rfl).trans eka0_9.symm).trans (by omega)) AgL_h35 (by omega)
theorem c_Lens_addJoin {l : Launch} {rho : Nat → Int32} {d : Nat} {h : my_H} {Q : my_H → my_V → Prop} {x0 x1 x2 x3 : Int} (t0 : my_is 4 x0) (a1 : 0 ≤ x1) (b1 : x1 ≤ 2) (a2 : 1 ≤ x2) (b2 : x2 ≤ 4) (a3 : 0 ≤ x3) (b3 : x3 ≤ 7) (hs5 : h x0 9 ≤ 5) (hj : h x0 4 + x2 ≤ 9) (k0 : ∀ (h' : my_H), my_fr [(4, 4), (4, 5), (4, 6), (4, 8), (4, 9), (32, -1), (33, -1), (34, -1), (35, -1), (37, -1)] h h' → my_fx x0 8 h h' → 1 ≤ h' x0 9 → h' x0 9 ≤ 6 → AddS h h' x0 4 x1 x2 → Q h' (9, 0)) : wp l rho (d + 1) 61 0 [(2, x0), (0, x1), (0, x2), (0, x3), (9, 0)] [] h Q := by
  refine v_know (x := x0) (j := 9) (b := 9) rfl t0 rd_4 rfl (fun ka0_9 eka0_9 pka0_9 qka0_9 => ?_)
  refine v_know (x := x0) (j := 4) (b := 4) rfl t0 rd_4 rfl (fun ka0_4 eka0_4 pka0_4 qka0_4 => ?_)
  have J8_0 : ∀ (n : Nat) (p8_0 : Int) (h8_0 : my_H), my_fr [(4, 4), (4, 5), (4, 6), (4, 8), (4, 9), (32, -1), (33, -1), (34, -1), (35, -1), (37, -1)] h h8_0 → my_fx x0 8 h h8_0 → 1 ≤ p8_0 → p8_0 ≤ 4 → p8_0 ≤ x2 → h8_0 x0 4 = ka0_4 → h8_0 x0 9 = ka0_9 → my_ag AgF h h8_0 → 5 - p8_0 ≤ (n : Int) → wp l rho (d + 1) 61 8 [(2, x0), (0, x1), (0, x2), (0, x3), (0, p8_0)] [] h8_0 Q := by
    intro n
    induction n with
    | zero => intro p8_0 h8_0 gh_8_0 gx_8_0 q0_8_0 q1_8_0 q2_8_0 ca0_4_8_0 ca0_9_8_0 n_AgL_8_0 hm_8_0; exfalso; omega
    | succ n ih_8_0 =>
      intro p8_0 h8_0 gh_8_0 gx_8_0 q0_8_0 q1_8_0 q2_8_0 ca0_4_8_0 ca0_9_8_0 n_AgL_8_0 hm_8_0
      have a1 : ∀ j : Int, h8_0 (x0 + 1) j = h (x0 + 1) j := fun j => my_ag.at n_AgL_8_0 (ix_4_1 t0) rfl
      have a3 : ∀ j : Int, h8_0 (x0 + 3) j = h (x0 + 3) j := fun j => my_ag.at n_AgL_8_0 (ix_4_3 t0) rfl
      have a4 : ∀ j : Int, h8_0 (x0 + 4) j = h (x0 + 4) j := fun j => my_ag.at n_AgL_8_0 (ix_4_4 t0) rfl
      have b1 : h8_0 x0 1 = h x0 1 := my_ag.at n_AgL_8_0 t0 rfl
      have b3 : h8_0 x0 3 = h x0 3 := my_ag.at n_AgL_8_0 t0 rfl
      have b9 : h8_0 x0 9 = h x0 9 := my_ag.at n_AgL_8_0 t0 rfl
      have b4 : h8_0 x0 4 = h x0 4 := my_ag.at n_AgL_8_0 t0 rfl
      refine w_iload gz_61_8 rfl ?_
      refine w_iload_n gz_61_10 rfl ?_
      refine w_icge (t := 43) gz_61_11 rfl (fun u1 => ?_) (fun u1 => ?_)
      ·
        refine w_aload_n gz_61_43 rfl ?_
        refine w_dup gz_61_44 rfl ?_
        refine v_getI (j := 4) gz_61_45 rfl t0 rd_4 rfl (fun v2 ev2 pv2 qv2 => ?_)
        have zv2 := ev2.trans ca0_4_8_0
        refine w_iload_n gz_61_48 rfl ?_
        refine w_iconst gz_61_49 (by decide) ?_
        refine w_isub gz_61_50 ⟨by omega, by omega⟩ ?_
        refine w_iadd gz_61_51 ⟨by omega, by omega⟩ ?_
        have hi3 : 0 ≤ (v2 + (x2 - 1)) := by omega
        have hi4 : (v2 + (x2 - 1)) ≤ 8 := by omega
        refine v_putI (j := 4) gz_61_52 rfl t0 rd_4 rfl (by omega) (by omega) rfl (fun h5 fh5 => ?_)
        have gh5 : my_fr [(4, 4), (4, 5), (4, 6), (4, 8), (4, 9), (32, -1), (33, -1), (34, -1), (35, -1), (37, -1)] h h5 := my_fr.up gh_8_0 t0 fh5 rfl
        have gxh5 : my_fx x0 8 h h5 := my_fx.up gx_8_0 fh5 (by omega)
        refine w_aload_n gz_61_55 rfl ?_
        refine w_dup gz_61_56 rfl ?_
        refine v_getI (j := 6) gz_61_57 rfl t0 rd_4 rfl (fun v6 ev6 pv6 qv6 => ?_)
        refine w_iconst gz_61_60 (by decide) ?_
        refine w_iload_n gz_61_61 rfl ?_
        refine w_ianyL gz_61_62 (fun v7 pv7 qv7 => ?_)
        refine w_ianyO gz_61_63 (fun v8 pv8 qv8 => ?_)
        refine v_putA (j := 6) gz_61_64 rfl t0 rd_4 rfl rfl (fun h9 fh9 => ?_)
        have gh9 : my_fr [(4, 4), (4, 5), (4, 6), (4, 8), (4, 9), (32, -1), (33, -1), (34, -1), (35, -1), (37, -1)] h h9 := my_fr.up gh5 t0 fh9 rfl
        have gxh9 : my_fx x0 8 h h9 := my_fx.up gxh5 fh9 (by omega)
        refine w_aload_n gz_61_67 rfl ?_
        refine w_iconst gz_61_68 (by decide) ?_
        refine w_iload_n gz_61_69 rfl ?_
        refine w_iload_n gz_61_70 rfl ?_
        refine w_iload_n gz_61_71 rfl ?_
        refine w_inv (k := 0) (as := [(0, x2), (0, x1), (0, x3), (0, 4)]) (r := []) (x := x0) (ls0 := [(2, x0), (0, 4), (0, x3), (0, x1), (0, x2)]) gz_61_72 gm_55 rfl t0 rd_4 rfl rfl rfl rfl rfl ?_
        refine w_aload_n gz_55_0 rfl ?_
        refine w_getX (v := (x0 + 1)) gz_55_1 t0 rd_4 rfl (by decide) rfl ?_
        refine w_aload_n gz_55_4 rfl ?_
        refine v_getI (j := 9) gz_55_5 rfl t0 rd_4 rfl (fun v11 ev11 pv11 qv11 => ?_)
        have zv11 := ev11.trans ((my_up_fld fh9 (by decide)).trans ((my_up_fld fh5 (by decide)).trans ca0_9_8_0))
        refine w_iload_n gz_55_8 rfl ?_
        have hi12 : 0 ≤ v11 := by omega
        have hi13 : v11 ≤ 5 := by omega
        refine w_iast gz_55_9 (ix_4_1 t0) rd_32 (by omega) (by omega) (by omega) (by omega) (fun h14 fh14 => ?_)
        have gh14 : my_fr [(4, 4), (4, 5), (4, 6), (4, 8), (4, 9), (32, -1), (33, -1), (34, -1), (35, -1), (37, -1)] h h14 := my_fr.up gh9 (ix_4_1 t0) fh14 rfl
        have gxh14 : my_fx x0 8 h h14 := my_fx.up gxh9 fh14 (by omega)
        refine w_aload_n gz_55_10 rfl ?_
        refine w_getX (v := (x0 + 2)) gz_55_11 t0 rd_4 rfl (by decide) rfl ?_
        refine w_aload_n gz_55_14 rfl ?_
        refine v_getI (j := 9) gz_55_15 rfl t0 rd_4 rfl (fun v16 ev16 pv16 qv16 => ?_)
        have zv16 := ev16.trans ((my_up_role fh14 t0 (ix_4_1 t0) rfl).trans ev11.symm)
        refine w_iload_n gz_55_18 rfl ?_
        refine w_iast gz_55_19 (ix_4_2 t0) rd_33 (by omega) (by omega) (by omega) (by omega) (fun h17 fh17 => ?_)
        have gh17 : my_fr [(4, 4), (4, 5), (4, 6), (4, 8), (4, 9), (32, -1), (33, -1), (34, -1), (35, -1), (37, -1)] h h17 := my_fr.up gh14 (ix_4_2 t0) fh17 rfl
        have gxh17 : my_fx x0 8 h h17 := my_fx.up gxh14 fh17 (by omega)
        refine w_aload_n gz_55_20 rfl ?_
        refine w_getX (v := (x0 + 3)) gz_55_21 t0 rd_4 rfl (by decide) rfl ?_
        refine w_aload_n gz_55_24 rfl ?_
        refine v_getI (j := 9) gz_55_25 rfl t0 rd_4 rfl (fun v19 ev19 pv19 qv19 => ?_)
        have zv19 := ev19.trans ((my_up_role fh17 t0 (ix_4_2 t0) rfl).trans ev16.symm)
        refine w_iload_n gz_55_28 rfl ?_
        refine w_iast gz_55_29 (ix_4_3 t0) rd_34 (by omega) (by omega) (by omega) (by omega) (fun h20 fh20 => ?_)
        have gh20 : my_fr [(4, 4), (4, 5), (4, 6), (4, 8), (4, 9), (32, -1), (33, -1), (34, -1), (35, -1), (37, -1)] h h20 := my_fr.up gh17 (ix_4_3 t0) fh20 rfl
        have gxh20 : my_fx x0 8 h h20 := my_fx.up gxh17 fh20 (by omega)
        refine w_aload_n gz_55_30 rfl ?_
        refine w_getX (v := (x0 + 4)) gz_55_31 t0 rd_4 rfl (by decide) rfl ?_
        refine w_aload_n gz_55_34 rfl ?_
        refine v_getI (j := 9) gz_55_35 rfl t0 rd_4 rfl (fun v22 ev22 pv22 qv22 => ?_)
        have zv22 := ev22.trans ((my_up_role fh20 t0 (ix_4_3 t0) rfl).trans ev19.symm)
        refine w_iload gz_55_38 rfl ?_
        refine w_iast gz_55_40 (ix_4_4 t0) rd_35 (by omega) (by omega) (by omega) (by omega) (fun h23 fh23 => ?_)
        have gh23 : my_fr [(4, 4), (4, 5), (4, 6), (4, 8), (4, 9), (32, -1), (33, -1), (34, -1), (35, -1), (37, -1)] h h23 := my_fr.up gh20 (ix_4_4 t0) fh23 rfl
        have gxh23 : my_fx x0 8 h h23 := my_fx.up gxh20 fh23 (by omega)
        refine w_aload_n gz_55_41 rfl ?_
        refine w_dup gz_55_42 rfl ?_
        refine v_getI (j := 9) gz_55_43 rfl t0 rd_4 rfl (fun v24 ev24 pv24 qv24 => ?_)
        have zv24 := ev24.trans ((my_up_role fh23 t0 (ix_4_4 t0) rfl).trans ev22.symm)
        refine w_iconst gz_55_46 (by decide) ?_
        refine w_iadd gz_55_47 ⟨by omega, by omega⟩ ?_
        refine v_putI (j := 9) gz_55_48 rfl t0 rd_4 rfl (by omega) (by omega) rfl (fun h25 fh25 => ?_)
        have gh25 : my_fr [(4, 4), (4, 5), (4, 6), (4, 8), (4, 9), (32, -1), (33, -1), (34, -1), (35, -1), (37, -1)] h h25 := my_fr.up gh23 t0 fh25 rfl
        have gxh25 : my_fx x0 8 h h25 := my_fx.up gxh23 fh25 (by omega)
        refine w_aload_n gz_55_51 rfl ?_
        refine w_dup gz_55_52 rfl ?_
        refine v_getI (j := 5) gz_55_53 rfl t0 rd_4 rfl (fun v26 ev26 pv26 qv26 => ?_)
        refine w_iconst gz_55_56 (by decide) ?_
        refine w_ianyA gz_55_57 (fun v27 pv27 qv27 => ?_)
        refine v_putA (j := 5) gz_55_58 rfl t0 rd_4 rfl rfl (fun h28 fh28 => ?_)
        have gh28 : my_fr [(4, 4), (4, 5), (4, 6), (4, 8), (4, 9), (32, -1), (33, -1), (34, -1), (35, -1), (37, -1)] h h28 := my_fr.up gh25 t0 fh28 rfl
        have gxh28 : my_fx x0 8 h h28 := my_fx.up gxh25 fh28 (by omega)
        refine w_vret gz_55_61 gm_55 ?_
        show wp l rho (d + 1) 61 75 [(2, x0), (0, x1), (0, x2), (0, x3), (0, p8_0)] [] h28 Q
        have c29 := ((my_up_fld fh28 (by decide)).trans (my_up_self fh25))
        exact w_vret gz_61_75 gm_61 (k0 h28 (gh28) (gxh28) (by omega) (by omega) (by unfold AddS ln_st; refine ⟨?_, ?_, ?_, ?_, fun j hj => ⟨?_, ?_, ?_⟩, ?_, ?_, ?_⟩ <;> simp only [fh28, fh25, fh23, fh20, fh17, fh14, fh9, fh5, my_up, and_self, true_and, and_true, if_true, a1, a3, a4, b1, b3, b9, b4] <;> (repeat (first | rw [if_neg (by omega)] | rw [if_pos (by omega)])) <;> (try omega)))
      ·
        refine w_aload_n gz_61_14 rfl ?_
        refine w_getX (v := (x0 + 6)) gz_61_15 t0 rd_4 rfl (by decide) rfl ?_
        refine w_aload_n gz_61_18 rfl ?_
        refine v_getI (j := 4) gz_61_19 rfl t0 rd_4 rfl (fun v31 ev31 pv31 qv31 => ?_)
        have zv31 := ev31.trans ca0_4_8_0
        refine w_iload gz_61_22 rfl ?_
        refine w_iadd gz_61_24 ⟨by omega, by omega⟩ ?_
        refine w_iconst gz_61_25 (by decide) ?_
        refine w_isub gz_61_26 ⟨by omega, by omega⟩ ?_
        refine w_bipush gz_61_27 (by decide) ?_
        refine w_iload_n gz_61_29 rfl ?_
        refine w_iload gz_61_30 rfl ?_
        refine w_inS (k := 0) (as := [(0, p8_0), (0, x1)]) (r := [(0, 16), (0, ((v31 + p8_0) - 1)), (2, (x0 + 6))]) (ls0 := [(0, x1), (0, p8_0)]) gz_61_32 gm_29 rfl rfl rfl rfl rfl rfl ?_
        refine w_iload_n gz_29_0 rfl ?_
        refine w_iconst gz_29_1 (by decide) ?_
        refine w_imul gz_29_2 ⟨by omega, by omega⟩ ?_
        refine w_iload_n gz_29_3 rfl ?_
        refine w_iadd gz_29_4 ⟨by omega, by omega⟩ ?_
        refine w_iret gz_29_5 gm_29 ?_
        show wp l rho (d + 1) 61 35 [(2, x0), (0, x1), (0, x2), (0, x3), (0, p8_0)] [(0, ((x1 * 4) + p8_0)), (0, 16), (0, ((v31 + p8_0) - 1)), (2, (x0 + 6))] h8_0 Q
        refine w_iadd gz_61_35 ⟨by omega, by omega⟩ ?_
        have hi32 : 0 ≤ ((v31 + p8_0) - 1) := by omega
        have hi33 : ((v31 + p8_0) - 1) ≤ 7 := by omega
        refine w_iast gz_61_36 (ix_4_6 t0) rd_37 (by omega) (by omega) (by omega) (by omega) (fun h34 fh34 => ?_)
        have gh34 : my_fr [(4, 4), (4, 5), (4, 6), (4, 8), (4, 9), (32, -1), (33, -1), (34, -1), (35, -1), (37, -1)] h h34 := my_fr.up gh_8_0 (ix_4_6 t0) fh34 rfl
        have gxh34 : my_fx x0 8 h h34 := my_fx.up gx_8_0 fh34 (by omega)
        have AgL_h34 : my_ag AgF h h34 := AgL_ag (my_ag.up fh34 (ix_4_6 t0) rfl) n_AgL_8_0
        refine w_iinc (ls' := [(2, x0), (0, x1), (0, x2), (0, x3), (0, (p8_0 + 1))]) gz_61_37 rfl gm_61 rfl rfl rfl ⟨by omega, by omega⟩ ?_
        refine w_goto (t := 8) gz_61_40 rfl ?_
        exact ih_8_0 ((p8_0 + 1)) h34 (gh34) (gxh34) (by omega) (by omega) (by omega) (((my_up_role fh34 t0 (ix_4_6 t0) rfl).trans ev31.symm).trans (by omega)) (((my_up_role fh34 t0 (ix_4_6 t0) rfl).trans ca0_9_8_0).trans (by omega)) AgL_h34 (by omega)
  refine w_aload_n gz_61_0 rfl ?_
  refine w_iload_n gz_61_1 rfl ?_
  refine w_inv (k := 0) (as := [(0, x3)]) (r := []) (x := x0) (ls0 := [(2, x0), (0, x3)]) gz_61_2 gm_54 rfl t0 rd_4 rfl rfl rfl rfl rfl ?_
  refine w_aload_n gz_54_0 rfl ?_
  refine w_getX (v := (x0 + 6)) gz_54_1 t0 rd_4 rfl (by decide) rfl ?_
  refine w_iload_n gz_54_4 rfl ?_
  refine w_iald gz_54_5 (ix_4_6 t0) rd_37 (by omega) (by omega) (fun v36 ev36 pv36 qv36 => ?_)
  refine w_iconst gz_54_6 (by decide) ?_
  refine w_iceq (t := 30) gz_54_7 rfl (fun u37 => ?_) (fun u37 => ?_)
  ·
    refine w_vret gz_54_30 gm_54 ?_
    show wp l rho (d + 1) 61 5 [(2, x0), (0, x1), (0, x2), (0, x3), (9, 0)] [] h Q
    refine w_iconst gz_61_5 (by decide) ?_
    refine w_istore (ls' := [(2, x0), (0, x1), (0, x2), (0, x3), (0, 1)]) gz_61_6 gm_61 rfl rfl rfl ?_
    exact J8_0 4 (1) h (my_fr.rf) (my_fx.rf) (by omega) (by omega) (by omega) (eka0_4.symm.trans (by omega)) (eka0_9.symm.trans (by omega)) (my_ag.rf : my_ag AgF h h) (by omega)
  ·
    refine w_aload_n gz_54_10 rfl ?_
    refine w_dup gz_54_11 rfl ?_
    refine v_getI (j := 8) gz_54_12 rfl t0 rd_4 rfl (fun v38 ev38 pv38 qv38 => ?_)
    refine w_iconst gz_54_15 (by decide) ?_
    refine w_aload_n gz_54_16 rfl ?_
    refine w_getX (v := (x0 + 6)) gz_54_17 t0 rd_4 rfl (by decide) rfl ?_
    refine w_iload_n gz_54_20 rfl ?_
    refine w_iald gz_54_21 (ix_4_6 t0) rd_37 (by omega) (by omega) (fun v40 ev40 pv40 qv40 => ?_)
    have zv40 := ev40.trans ev36.symm
    refine w_bipush gz_54_22 (by decide) ?_
    refine w_irem gz_54_24 (by omega) (by decide) ?_
    refine w_ianyL gz_54_25 (fun v41 pv41 qv41 => ?_)
    refine w_ianyO gz_54_26 (fun v42 pv42 qv42 => ?_)
    refine v_putA (j := 8) gz_54_27 rfl t0 rd_4 rfl rfl (fun h43 fh43 => ?_)
    have gh43 : my_fr [(4, 4), (4, 5), (4, 6), (4, 8), (4, 9), (32, -1), (33, -1), (34, -1), (35, -1), (37, -1)] h h43 := my_fr.up my_fr.rf t0 fh43 rfl
    have gxh43 : my_fx x0 8 h h43 := my_fx.up my_fx.rf fh43 (by omega)
    have AgL_h43 : my_ag AgF h h43 := AgL_ag (my_ag.up fh43 t0 rfl) (my_ag.rf : my_ag AgF h h)
    refine w_vret gz_54_30 gm_54 ?_
    show wp l rho (d + 1) 61 5 [(2, x0), (0, x1), (0, x2), (0, x3), (9, 0)] [] h43 Q
    refine w_iconst gz_61_5 (by decide) ?_
    refine w_istore (ls' := [(2, x0), (0, x1), (0, x2), (0, x3), (0, 1)]) gz_61_6 gm_61 rfl rfl rfl ?_
    exact J8_0 4 (1) h43 (gh43) (gxh43) (by omega) (by omega) (by omega) (((my_up_fld fh43 (by decide)).trans eka0_4.symm).trans (by omega)) (((my_up_fld fh43 (by decide)).trans eka0_9.symm).trans (by omega)) AgL_h43 (by omega)
theorem c_Lens_addSum {l : Launch} {rho : Nat → Int32} {d : Nat} {h : my_H} {Q : my_H → my_V → Prop} {x0 x1 x2 : Int} (t0 : my_is 4 x0) (a1 : 0 ≤ x1) (b1 : x1 ≤ 7) (a2 : 0 ≤ x2) (b2 : x2 ≤ 7) (hs5 : h x0 9 ≤ 5) (k0 : ∀ (h' : my_H), my_fr [(4, 4), (4, 5), (4, 7), (4, 8), (4, 9), (32, -1), (33, -1), (34, -1), (35, -1), (37, -1)] h h' → my_fx x0 8 h h' → h' x0 4 = 2 → h' x0 7 = 1 → 1 ≤ h' x0 9 → h' x0 9 ≤ 6 → AddS h h' x0 5 x2 0 → Q h' (9, 0)) : wp l rho (d + 1) 63 0 [(2, x0), (0, x1), (0, x2)] [] h Q := by
  refine v_know (x := x0) (j := 9) (b := 9) rfl t0 rd_4 rfl (fun ka0_9 eka0_9 pka0_9 qka0_9 => ?_)
  refine v_know (x := x0) (j := 4) (b := 4) rfl t0 rd_4 rfl (fun ka0_4 eka0_4 pka0_4 qka0_4 => ?_)
  refine v_know (x := x0) (j := 1) (b := 1) rfl t0 rd_4 rfl (fun ka0_1 eka0_1 pka0_1 qka0_1 => ?_)
  refine v_know (x := x0) (j := 3) (b := 3) rfl t0 rd_4 rfl (fun ka0_3 eka0_3 pka0_3 qka0_3 => ?_)
  refine w_aload_n gz_63_0 rfl ?_
  refine w_iload_n gz_63_1 rfl ?_
  refine w_inv (k := 0) (as := [(0, x1)]) (r := []) (x := x0) (ls0 := [(2, x0), (0, x1)]) gz_63_2 gm_54 rfl t0 rd_4 rfl rfl rfl rfl rfl ?_
  refine w_aload_n gz_54_0 rfl ?_
  refine w_getX (v := (x0 + 6)) gz_54_1 t0 rd_4 rfl (by decide) rfl ?_
  refine w_iload_n gz_54_4 rfl ?_
  refine w_iald gz_54_5 (ix_4_6 t0) rd_37 (by omega) (by omega) (fun v2 ev2 pv2 qv2 => ?_)
  refine w_iconst gz_54_6 (by decide) ?_
  refine w_iceq (t := 30) gz_54_7 rfl (fun u3 => ?_) (fun u3 => ?_)
  ·
    refine w_vret gz_54_30 gm_54 ?_
    show wp l rho (d + 1) 63 5 [(2, x0), (0, x1), (0, x2)] [] h Q
    refine w_aload_n gz_63_5 rfl ?_
    refine w_iload_n gz_63_6 rfl ?_
    refine w_inv (k := 0) (as := [(0, x2)]) (r := []) (x := x0) (ls0 := [(2, x0), (0, x2)]) gz_63_7 gm_54 rfl t0 rd_4 rfl rfl rfl rfl rfl ?_
    refine w_aload_n gz_54_0 rfl ?_
    refine w_getX (v := (x0 + 6)) gz_54_1 t0 rd_4 rfl (by decide) rfl ?_
    refine w_iload_n gz_54_4 rfl ?_
    refine w_iald gz_54_5 (ix_4_6 t0) rd_37 (by omega) (by omega) (fun v5 ev5 pv5 qv5 => ?_)
    refine w_iconst gz_54_6 (by decide) ?_
    refine w_iceq (t := 30) gz_54_7 rfl (fun u6 => ?_) (fun u6 => ?_)
    ·
      refine w_vret gz_54_30 gm_54 ?_
      show wp l rho (d + 1) 63 10 [(2, x0), (0, x1), (0, x2)] [] h Q
      have a1 : ∀ j : Int, h (x0 + 1) j = h (x0 + 1) j := fun j => my_ag.at (my_ag.rf : my_ag AgF h h) (ix_4_1 t0) rfl
      have a3 : ∀ j : Int, h (x0 + 3) j = h (x0 + 3) j := fun j => my_ag.at (my_ag.rf : my_ag AgF h h) (ix_4_3 t0) rfl
      have a4 : ∀ j : Int, h (x0 + 4) j = h (x0 + 4) j := fun j => my_ag.at (my_ag.rf : my_ag AgF h h) (ix_4_4 t0) rfl
      have b1 : h x0 1 = h x0 1 := my_ag.at (my_ag.rf : my_ag AgF h h) t0 rfl
      have b3 : h x0 3 = h x0 3 := my_ag.at (my_ag.rf : my_ag AgF h h) t0 rfl
      have b9 : h x0 9 = h x0 9 := my_ag.at (my_ag.rf : my_ag AgF h h) t0 rfl
      have b4 : h x0 4 = h x0 4 := my_ag.at (my_ag.rf : my_ag AgF h h) t0 rfl
      refine w_aload_n gz_63_10 rfl ?_
      refine w_getX (v := (x0 + 6)) gz_63_11 t0 rd_4 rfl (by decide) rfl ?_
      refine w_iconst gz_63_14 (by decide) ?_
      refine w_iconst gz_63_15 (by decide) ?_
      refine w_iast gz_63_16 (ix_4_6 t0) rd_37 (by omega) (by omega) (by omega) (by omega) (fun h8 fh8 => ?_)
      have gh8 : my_fr [(4, 4), (4, 5), (4, 7), (4, 8), (4, 9), (32, -1), (33, -1), (34, -1), (35, -1), (37, -1)] h h8 := my_fr.up my_fr.rf (ix_4_6 t0) fh8 rfl
      have gxh8 : my_fx x0 8 h h8 := my_fx.up my_fx.rf fh8 (by omega)
      have AgL_h8 : my_ag AgF h h8 := AgL_ag (my_ag.up fh8 (ix_4_6 t0) rfl) (my_ag.rf : my_ag AgF h h)
      refine w_aload_n gz_63_17 rfl ?_
      refine w_getX (v := (x0 + 6)) gz_63_18 t0 rd_4 rfl (by decide) rfl ?_
      refine w_iconst gz_63_21 (by decide) ?_
      refine w_iconst gz_63_22 (by decide) ?_
      refine w_iast gz_63_23 (ix_4_6 t0) rd_37 (by omega) (by omega) (by omega) (by omega) (fun h10 fh10 => ?_)
      have gh10 : my_fr [(4, 4), (4, 5), (4, 7), (4, 8), (4, 9), (32, -1), (33, -1), (34, -1), (35, -1), (37, -1)] h h10 := my_fr.up gh8 (ix_4_6 t0) fh10 rfl
      have gxh10 : my_fx x0 8 h h10 := my_fx.up gxh8 fh10 (by omega)
      have AgL_h10 : my_ag AgF h h10 := AgL_ag (my_ag.up fh10 (ix_4_6 t0) rfl) AgL_h8
      refine w_aload_n gz_63_24 rfl ?_
      refine w_iconst gz_63_25 (by decide) ?_
      refine v_putI (j := 4) gz_63_26 rfl t0 rd_4 rfl (by omega) (by omega) rfl (fun h11 fh11 => ?_)
      have gh11 : my_fr [(4, 4), (4, 5), (4, 7), (4, 8), (4, 9), (32, -1), (33, -1), (34, -1), (35, -1), (37, -1)] h h11 := my_fr.up gh10 t0 fh11 rfl
      have gxh11 : my_fx x0 8 h h11 := my_fx.up gxh10 fh11 (by omega)
      refine w_aload_n gz_63_29 rfl ?_
      refine w_iconst gz_63_30 (by decide) ?_
      refine v_putB (j := 7) gz_63_31 rfl t0 rd_4 rfl (by omega) (by omega) rfl (fun h12 fh12 => ?_)
      have gh12 : my_fr [(4, 4), (4, 5), (4, 7), (4, 8), (4, 9), (32, -1), (33, -1), (34, -1), (35, -1), (37, -1)] h h12 := my_fr.up gh11 t0 fh12 rfl
      have gxh12 : my_fx x0 8 h h12 := my_fx.up gxh11 fh12 (by omega)
      refine w_aload_n gz_63_34 rfl ?_
      refine w_iconst gz_63_35 (by decide) ?_
      refine w_iload_n gz_63_36 rfl ?_
      refine w_iload_n gz_63_37 rfl ?_
      refine w_iconst gz_63_38 (by decide) ?_
      refine w_inv (k := 0) (as := [(0, 0), (0, x2), (0, x1), (0, 5)]) (r := []) (x := x0) (ls0 := [(2, x0), (0, 5), (0, x1), (0, x2), (0, 0)]) gz_63_39 gm_55 rfl t0 rd_4 rfl rfl rfl rfl rfl ?_
      refine w_aload_n gz_55_0 rfl ?_
      refine w_getX (v := (x0 + 1)) gz_55_1 t0 rd_4 rfl (by decide) rfl ?_
      refine w_aload_n gz_55_4 rfl ?_
      refine v_getI (j := 9) gz_55_5 rfl t0 rd_4 rfl (fun v14 ev14 pv14 qv14 => ?_)
      have zv14 := ev14.trans ((my_up_fld fh12 (by decide)).trans ((my_up_fld fh11 (by decide)).trans ((my_up_role fh10 t0 (ix_4_6 t0) rfl).trans ((my_up_role fh8 t0 (ix_4_6 t0) rfl).trans eka0_9.symm))))
      refine w_iload_n gz_55_8 rfl ?_
      have hi15 : 0 ≤ v14 := by omega
      have hi16 : v14 ≤ 5 := by omega
      refine w_iast gz_55_9 (ix_4_1 t0) rd_32 (by omega) (by omega) (by omega) (by omega) (fun h17 fh17 => ?_)
      have gh17 : my_fr [(4, 4), (4, 5), (4, 7), (4, 8), (4, 9), (32, -1), (33, -1), (34, -1), (35, -1), (37, -1)] h h17 := my_fr.up gh12 (ix_4_1 t0) fh17 rfl
      have gxh17 : my_fx x0 8 h h17 := my_fx.up gxh12 fh17 (by omega)
      refine w_aload_n gz_55_10 rfl ?_
      refine w_getX (v := (x0 + 2)) gz_55_11 t0 rd_4 rfl (by decide) rfl ?_
      refine w_aload_n gz_55_14 rfl ?_
      refine v_getI (j := 9) gz_55_15 rfl t0 rd_4 rfl (fun v19 ev19 pv19 qv19 => ?_)
      have zv19 := ev19.trans ((my_up_role fh17 t0 (ix_4_1 t0) rfl).trans ev14.symm)
      refine w_iload_n gz_55_18 rfl ?_
      refine w_iast gz_55_19 (ix_4_2 t0) rd_33 (by omega) (by omega) (by omega) (by omega) (fun h20 fh20 => ?_)
      have gh20 : my_fr [(4, 4), (4, 5), (4, 7), (4, 8), (4, 9), (32, -1), (33, -1), (34, -1), (35, -1), (37, -1)] h h20 := my_fr.up gh17 (ix_4_2 t0) fh20 rfl
      have gxh20 : my_fx x0 8 h h20 := my_fx.up gxh17 fh20 (by omega)
      refine w_aload_n gz_55_20 rfl ?_
      refine w_getX (v := (x0 + 3)) gz_55_21 t0 rd_4 rfl (by decide) rfl ?_
      refine w_aload_n gz_55_24 rfl ?_
      refine v_getI (j := 9) gz_55_25 rfl t0 rd_4 rfl (fun v22 ev22 pv22 qv22 => ?_)
      have zv22 := ev22.trans ((my_up_role fh20 t0 (ix_4_2 t0) rfl).trans ev19.symm)
      refine w_iload_n gz_55_28 rfl ?_
      refine w_iast gz_55_29 (ix_4_3 t0) rd_34 (by omega) (by omega) (by omega) (by omega) (fun h23 fh23 => ?_)
      have gh23 : my_fr [(4, 4), (4, 5), (4, 7), (4, 8), (4, 9), (32, -1), (33, -1), (34, -1), (35, -1), (37, -1)] h h23 := my_fr.up gh20 (ix_4_3 t0) fh23 rfl
      have gxh23 : my_fx x0 8 h h23 := my_fx.up gxh20 fh23 (by omega)
      refine w_aload_n gz_55_30 rfl ?_
      refine w_getX (v := (x0 + 4)) gz_55_31 t0 rd_4 rfl (by decide) rfl ?_
      refine w_aload_n gz_55_34 rfl ?_
      refine v_getI (j := 9) gz_55_35 rfl t0 rd_4 rfl (fun v25 ev25 pv25 qv25 => ?_)
      have zv25 := ev25.trans ((my_up_role fh23 t0 (ix_4_3 t0) rfl).trans ev22.symm)
      refine w_iload gz_55_38 rfl ?_
      refine w_iast gz_55_40 (ix_4_4 t0) rd_35 (by omega) (by omega) (by omega) (by omega) (fun h26 fh26 => ?_)
      have gh26 : my_fr [(4, 4), (4, 5), (4, 7), (4, 8), (4, 9), (32, -1), (33, -1), (34, -1), (35, -1), (37, -1)] h h26 := my_fr.up gh23 (ix_4_4 t0) fh26 rfl
      have gxh26 : my_fx x0 8 h h26 := my_fx.up gxh23 fh26 (by omega)
      refine w_aload_n gz_55_41 rfl ?_
      refine w_dup gz_55_42 rfl ?_
      refine v_getI (j := 9) gz_55_43 rfl t0 rd_4 rfl (fun v27 ev27 pv27 qv27 => ?_)
      have zv27 := ev27.trans ((my_up_role fh26 t0 (ix_4_4 t0) rfl).trans ev25.symm)
      refine w_iconst gz_55_46 (by decide) ?_
      refine w_iadd gz_55_47 ⟨by omega, by omega⟩ ?_
      refine v_putI (j := 9) gz_55_48 rfl t0 rd_4 rfl (by omega) (by omega) rfl (fun h28 fh28 => ?_)
      have gh28 : my_fr [(4, 4), (4, 5), (4, 7), (4, 8), (4, 9), (32, -1), (33, -1), (34, -1), (35, -1), (37, -1)] h h28 := my_fr.up gh26 t0 fh28 rfl
      have gxh28 : my_fx x0 8 h h28 := my_fx.up gxh26 fh28 (by omega)
      refine w_aload_n gz_55_51 rfl ?_
      refine w_dup gz_55_52 rfl ?_
      refine v_getI (j := 5) gz_55_53 rfl t0 rd_4 rfl (fun v29 ev29 pv29 qv29 => ?_)
      refine w_iconst gz_55_56 (by decide) ?_
      refine w_ianyA gz_55_57 (fun v30 pv30 qv30 => ?_)
      refine v_putA (j := 5) gz_55_58 rfl t0 rd_4 rfl rfl (fun h31 fh31 => ?_)
      have gh31 : my_fr [(4, 4), (4, 5), (4, 7), (4, 8), (4, 9), (32, -1), (33, -1), (34, -1), (35, -1), (37, -1)] h h31 := my_fr.up gh28 t0 fh31 rfl
      have gxh31 : my_fx x0 8 h h31 := my_fx.up gxh28 fh31 (by omega)
      refine w_vret gz_55_61 gm_55 ?_
      show wp l rho (d + 1) 63 42 [(2, x0), (0, x1), (0, x2)] [] h31 Q
      have c32 := ((my_up_fld fh31 (by decide)).trans ((my_up_fld fh28 (by decide)).trans ((my_up_role fh26 t0 (ix_4_4 t0) rfl).trans ((my_up_role fh23 t0 (ix_4_3 t0) rfl).trans ((my_up_role fh20 t0 (ix_4_2 t0) rfl).trans ((my_up_role fh17 t0 (ix_4_1 t0) rfl).trans ((my_up_fld fh12 (by decide)).trans (my_up_self fh11))))))))
      have c33 := ((my_up_fld fh31 (by decide)).trans ((my_up_fld fh28 (by decide)).trans ((my_up_role fh26 t0 (ix_4_4 t0) rfl).trans ((my_up_role fh23 t0 (ix_4_3 t0) rfl).trans ((my_up_role fh20 t0 (ix_4_2 t0) rfl).trans ((my_up_role fh17 t0 (ix_4_1 t0) rfl).trans (my_up_self fh12)))))))
      have c34 := ((my_up_fld fh31 (by decide)).trans (my_up_self fh28))
      exact w_vret gz_63_42 gm_63 (k0 h31 (gh31) (gxh31) (by omega) (by omega) (by omega) (by omega) (by unfold AddS ln_st; refine ⟨?_, ?_, ?_, ?_, fun j hj => ⟨?_, ?_, ?_⟩, ?_, ?_, ?_⟩ <;> simp only [fh31, fh28, fh26, fh23, fh20, fh17, fh12, fh11, fh10, fh8, my_up, and_self, true_and, and_true, if_true, a1, a3, a4, b1, b3, b9, b4] <;> (repeat (first | rw [if_neg (by omega)] | rw [if_pos (by omega)])) <;> (try omega)))
    ·
      refine w_aload_n gz_54_10 rfl ?_
      refine w_dup gz_54_11 rfl ?_
      refine v_getI (j := 8) gz_54_12 rfl t0 rd_4 rfl (fun v35 ev35 pv35 qv35 => ?_)
      refine w_iconst gz_54_15 (by decide) ?_
      refine w_aload_n gz_54_16 rfl ?_
      refine w_getX (v := (x0 + 6)) gz_54_17 t0 rd_4 rfl (by decide) rfl ?_
      refine w_iload_n gz_54_20 rfl ?_
      refine w_iald gz_54_21 (ix_4_6 t0) rd_37 (by omega) (by omega) (fun v37 ev37 pv37 qv37 => ?_)
      have zv37 := ev37.trans ev5.symm
      refine w_bipush gz_54_22 (by decide) ?_
      refine w_irem gz_54_24 (by omega) (by decide) ?_
      refine w_ianyL gz_54_25 (fun v38 pv38 qv38 => ?_)
      refine w_ianyO gz_54_26 (fun v39 pv39 qv39 => ?_)
      refine v_putA (j := 8) gz_54_27 rfl t0 rd_4 rfl rfl (fun h40 fh40 => ?_)
      have gh40 : my_fr [(4, 4), (4, 5), (4, 7), (4, 8), (4, 9), (32, -1), (33, -1), (34, -1), (35, -1), (37, -1)] h h40 := my_fr.up my_fr.rf t0 fh40 rfl
      have gxh40 : my_fx x0 8 h h40 := my_fx.up my_fx.rf fh40 (by omega)
      have AgL_h40 : my_ag AgF h h40 := AgL_ag (my_ag.up fh40 t0 rfl) (my_ag.rf : my_ag AgF h h)
      refine w_vret gz_54_30 gm_54 ?_
      show wp l rho (d + 1) 63 10 [(2, x0), (0, x1), (0, x2)] [] h40 Q
      have a1 : ∀ j : Int, h40 (x0 + 1) j = h (x0 + 1) j := fun j => my_ag.at AgL_h40 (ix_4_1 t0) rfl
      have a3 : ∀ j : Int, h40 (x0 + 3) j = h (x0 + 3) j := fun j => my_ag.at AgL_h40 (ix_4_3 t0) rfl
      have a4 : ∀ j : Int, h40 (x0 + 4) j = h (x0 + 4) j := fun j => my_ag.at AgL_h40 (ix_4_4 t0) rfl
      have b1 : h40 x0 1 = h x0 1 := my_ag.at AgL_h40 t0 rfl
      have b3 : h40 x0 3 = h x0 3 := my_ag.at AgL_h40 t0 rfl
      have b9 : h40 x0 9 = h x0 9 := my_ag.at AgL_h40 t0 rfl
      have b4 : h40 x0 4 = h x0 4 := my_ag.at AgL_h40 t0 rfl
      refine w_aload_n gz_63_10 rfl ?_
      refine w_getX (v := (x0 + 6)) gz_63_11 t0 rd_4 rfl (by decide) rfl ?_
      refine w_iconst gz_63_14 (by decide) ?_
      refine w_iconst gz_63_15 (by decide) ?_
      refine w_iast gz_63_16 (ix_4_6 t0) rd_37 (by omega) (by omega) (by omega) (by omega) (fun h42 fh42 => ?_)
      have gh42 : my_fr [(4, 4), (4, 5), (4, 7), (4, 8), (4, 9), (32, -1), (33, -1), (34, -1), (35, -1), (37, -1)] h h42 := my_fr.up gh40 (ix_4_6 t0) fh42 rfl
      have gxh42 : my_fx x0 8 h h42 := my_fx.up gxh40 fh42 (by omega)
      have AgL_h42 : my_ag AgF h h42 := AgL_ag (my_ag.up fh42 (ix_4_6 t0) rfl) AgL_h40
      refine w_aload_n gz_63_17 rfl ?_
      refine w_getX (v := (x0 + 6)) gz_63_18 t0 rd_4 rfl (by decide) rfl ?_
      refine w_iconst gz_63_21 (by decide) ?_
      refine w_iconst gz_63_22 (by decide) ?_
      refine w_iast gz_63_23 (ix_4_6 t0) rd_37 (by omega) (by omega) (by omega) (by omega) (fun h44 fh44 => ?_)
      have gh44 : my_fr [(4, 4), (4, 5), (4, 7), (4, 8), (4, 9), (32, -1), (33, -1), (34, -1), (35, -1), (37, -1)] h h44 := my_fr.up gh42 (ix_4_6 t0) fh44 rfl
      have gxh44 : my_fx x0 8 h h44 := my_fx.up gxh42 fh44 (by omega)
      have AgL_h44 : my_ag AgF h h44 := AgL_ag (my_ag.up fh44 (ix_4_6 t0) rfl) AgL_h42
      refine w_aload_n gz_63_24 rfl ?_
      refine w_iconst gz_63_25 (by decide) ?_
      refine v_putI (j := 4) gz_63_26 rfl t0 rd_4 rfl (by omega) (by omega) rfl (fun h45 fh45 => ?_)
      have gh45 : my_fr [(4, 4), (4, 5), (4, 7), (4, 8), (4, 9), (32, -1), (33, -1), (34, -1), (35, -1), (37, -1)] h h45 := my_fr.up gh44 t0 fh45 rfl
      have gxh45 : my_fx x0 8 h h45 := my_fx.up gxh44 fh45 (by omega)
      refine w_aload_n gz_63_29 rfl ?_
      refine w_iconst gz_63_30 (by decide) ?_
      refine v_putB (j := 7) gz_63_31 rfl t0 rd_4 rfl (by omega) (by omega) rfl (fun h46 fh46 => ?_)
      have gh46 : my_fr [(4, 4), (4, 5), (4, 7), (4, 8), (4, 9), (32, -1), (33, -1), (34, -1), (35, -1), (37, -1)] h h46 := my_fr.up gh45 t0 fh46 rfl
      have gxh46 : my_fx x0 8 h h46 := my_fx.up gxh45 fh46 (by omega)
      refine w_aload_n gz_63_34 rfl ?_
      refine w_iconst gz_63_35 (by decide) ?_
      refine w_iload_n gz_63_36 rfl ?_
      refine w_iload_n gz_63_37 rfl ?_
      refine w_iconst gz_63_38 (by decide) ?_
      refine w_inv (k := 0) (as := [(0, 0), (0, x2), (0, x1), (0, 5)]) (r := []) (x := x0) (ls0 := [(2, x0), (0, 5), (0, x1), (0, x2), (0, 0)]) gz_63_39 gm_55 rfl t0 rd_4 rfl rfl rfl rfl rfl ?_
      refine w_aload_n gz_55_0 rfl ?_
      refine w_getX (v := (x0 + 1)) gz_55_1 t0 rd_4 rfl (by decide) rfl ?_
      refine w_aload_n gz_55_4 rfl ?_
      refine v_getI (j := 9) gz_55_5 rfl t0 rd_4 rfl (fun v48 ev48 pv48 qv48 => ?_)
      have zv48 := ev48.trans ((my_up_fld fh46 (by decide)).trans ((my_up_fld fh45 (by decide)).trans ((my_up_role fh44 t0 (ix_4_6 t0) rfl).trans ((my_up_role fh42 t0 (ix_4_6 t0) rfl).trans ((my_up_fld fh40 (by decide)).trans eka0_9.symm)))))
      refine w_iload_n gz_55_8 rfl ?_
      have hi49 : 0 ≤ v48 := by omega
      have hi50 : v48 ≤ 5 := by omega
      refine w_iast gz_55_9 (ix_4_1 t0) rd_32 (by omega) (by omega) (by omega) (by omega) (fun h51 fh51 => ?_)
      have gh51 : my_fr [(4, 4), (4, 5), (4, 7), (4, 8), (4, 9), (32, -1), (33, -1), (34, -1), (35, -1), (37, -1)] h h51 := my_fr.up gh46 (ix_4_1 t0) fh51 rfl
      have gxh51 : my_fx x0 8 h h51 := my_fx.up gxh46 fh51 (by omega)
      refine w_aload_n gz_55_10 rfl ?_
      refine w_getX (v := (x0 + 2)) gz_55_11 t0 rd_4 rfl (by decide) rfl ?_
      refine w_aload_n gz_55_14 rfl ?_
      refine v_getI (j := 9) gz_55_15 rfl t0 rd_4 rfl (fun v53 ev53 pv53 qv53 => ?_)
      have zv53 := ev53.trans ((my_up_role fh51 t0 (ix_4_1 t0) rfl).trans ev48.symm)
      refine w_iload_n gz_55_18 rfl ?_
      refine w_iast gz_55_19 (ix_4_2 t0) rd_33 (by omega) (by omega) (by omega) (by omega) (fun h54 fh54 => ?_)
      have gh54 : my_fr [(4, 4), (4, 5), (4, 7), (4, 8), (4, 9), (32, -1), (33, -1), (34, -1), (35, -1), (37, -1)] h h54 := my_fr.up gh51 (ix_4_2 t0) fh54 rfl
      have gxh54 : my_fx x0 8 h h54 := my_fx.up gxh51 fh54 (by omega)
      refine w_aload_n gz_55_20 rfl ?_
      refine w_getX (v := (x0 + 3)) gz_55_21 t0 rd_4 rfl (by decide) rfl ?_
      refine w_aload_n gz_55_24 rfl ?_
      refine v_getI (j := 9) gz_55_25 rfl t0 rd_4 rfl (fun v56 ev56 pv56 qv56 => ?_)
      have zv56 := ev56.trans ((my_up_role fh54 t0 (ix_4_2 t0) rfl).trans ev53.symm)
      refine w_iload_n gz_55_28 rfl ?_
      refine w_iast gz_55_29 (ix_4_3 t0) rd_34 (by omega) (by omega) (by omega) (by omega) (fun h57 fh57 => ?_)
      have gh57 : my_fr [(4, 4), (4, 5), (4, 7), (4, 8), (4, 9), (32, -1), (33, -1), (34, -1), (35, -1), (37, -1)] h h57 := my_fr.up gh54 (ix_4_3 t0) fh57 rfl
      have gxh57 : my_fx x0 8 h h57 := my_fx.up gxh54 fh57 (by omega)
      refine w_aload_n gz_55_30 rfl ?_
      refine w_getX (v := (x0 + 4)) gz_55_31 t0 rd_4 rfl (by decide) rfl ?_
      refine w_aload_n gz_55_34 rfl ?_
      refine v_getI (j := 9) gz_55_35 rfl t0 rd_4 rfl (fun v59 ev59 pv59 qv59 => ?_)
      have zv59 := ev59.trans ((my_up_role fh57 t0 (ix_4_3 t0) rfl).trans ev56.symm)
      refine w_iload gz_55_38 rfl ?_
      refine w_iast gz_55_40 (ix_4_4 t0) rd_35 (by omega) (by omega) (by omega) (by omega) (fun h60 fh60 => ?_)
      have gh60 : my_fr [(4, 4), (4, 5), (4, 7), (4, 8), (4, 9), (32, -1), (33, -1), (34, -1), (35, -1), (37, -1)] h h60 := my_fr.up gh57 (ix_4_4 t0) fh60 rfl
      have gxh60 : my_fx x0 8 h h60 := my_fx.up gxh57 fh60 (by omega)
      refine w_aload_n gz_55_41 rfl ?_
      refine w_dup gz_55_42 rfl ?_
      refine v_getI (j := 9) gz_55_43 rfl t0 rd_4 rfl (fun v61 ev61 pv61 qv61 => ?_)
      have zv61 := ev61.trans ((my_up_role fh60 t0 (ix_4_4 t0) rfl).trans ev59.symm)
      refine w_iconst gz_55_46 (by decide) ?_
      refine w_iadd gz_55_47 ⟨by omega, by omega⟩ ?_
      refine v_putI (j := 9) gz_55_48 rfl t0 rd_4 rfl (by omega) (by omega) rfl (fun h62 fh62 => ?_)
      have gh62 : my_fr [(4, 4), (4, 5), (4, 7), (4, 8), (4, 9), (32, -1), (33, -1), (34, -1), (35, -1), (37, -1)] h h62 := my_fr.up gh60 t0 fh62 rfl
      have gxh62 : my_fx x0 8 h h62 := my_fx.up gxh60 fh62 (by omega)
      refine w_aload_n gz_55_51 rfl ?_
      refine w_dup gz_55_52 rfl ?_
      refine v_getI (j := 5) gz_55_53 rfl t0 rd_4 rfl (fun v63 ev63 pv63 qv63 => ?_)
      refine w_iconst gz_55_56 (by decide) ?_
      refine w_ianyA gz_55_57 (fun v64 pv64 qv64 => ?_)
      refine v_putA (j := 5) gz_55_58 rfl t0 rd_4 rfl rfl (fun h65 fh65 => ?_)
      have gh65 : my_fr [(4, 4), (4, 5), (4, 7), (4, 8), (4, 9), (32, -1), (33, -1), (34, -1), (35, -1), (37, -1)] h h65 := my_fr.up gh62 t0 fh65 rfl
      have gxh65 : my_fx x0 8 h h65 := my_fx.up gxh62 fh65 (by omega)
      refine w_vret gz_55_61 gm_55 ?_
      show wp l rho (d + 1) 63 42 [(2, x0), (0, x1), (0, x2)] [] h65 Q
      have c66 := ((my_up_fld fh65 (by decide)).trans ((my_up_fld fh62 (by decide)).trans ((my_up_role fh60 t0 (ix_4_4 t0) rfl).trans ((my_up_role fh57 t0 (ix_4_3 t0) rfl).trans ((my_up_role fh54 t0 (ix_4_2 t0) rfl).trans ((my_up_role fh51 t0 (ix_4_1 t0) rfl).trans ((my_up_fld fh46 (by decide)).trans (my_up_self fh45))))))))
      have c67 := ((my_up_fld fh65 (by decide)).trans ((my_up_fld fh62 (by decide)).trans ((my_up_role fh60 t0 (ix_4_4 t0) rfl).trans ((my_up_role fh57 t0 (ix_4_3 t0) rfl).trans ((my_up_role fh54 t0 (ix_4_2 t0) rfl).trans ((my_up_role fh51 t0 (ix_4_1 t0) rfl).trans (my_up_self fh46)))))))
      have c68 := ((my_up_fld fh65 (by decide)).trans (my_up_self fh62))
      exact w_vret gz_63_42 gm_63 (k0 h65 (gh65) (gxh65) (by omega) (by omega) (by omega) (by omega) (by unfold AddS ln_st; refine ⟨?_, ?_, ?_, ?_, fun j hj => ⟨?_, ?_, ?_⟩, ?_, ?_, ?_⟩ <;> simp only [fh65, fh62, fh60, fh57, fh54, fh51, fh46, fh45, fh44, fh42, fh40, my_up, and_self, true_and, and_true, if_true, a1, a3, a4, b1, b3, b9, b4] <;> (repeat (first | rw [if_neg (by omega)] | rw [if_pos (by omega)])) <;> (try omega)))
  ·
    refine w_aload_n gz_54_10 rfl ?_
    refine w_dup gz_54_11 rfl ?_
    refine v_getI (j := 8) gz_54_12 rfl t0 rd_4 rfl (fun v69 ev69 pv69 qv69 => ?_)
    refine w_iconst gz_54_15 (by decide) ?_
    refine w_aload_n gz_54_16 rfl ?_
    refine w_getX (v := (x0 + 6)) gz_54_17 t0 rd_4 rfl (by decide) rfl ?_
    refine w_iload_n gz_54_20 rfl ?_
    refine w_iald gz_54_21 (ix_4_6 t0) rd_37 (by omega) (by omega) (fun v71 ev71 pv71 qv71 => ?_)
    have zv71 := ev71.trans ev2.symm
    refine w_bipush gz_54_22 (by decide) ?_
    refine w_irem gz_54_24 (by omega) (by decide) ?_
    refine w_ianyL gz_54_25 (fun v72 pv72 qv72 => ?_)
    refine w_ianyO gz_54_26 (fun v73 pv73 qv73 => ?_)
    refine v_putA (j := 8) gz_54_27 rfl t0 rd_4 rfl rfl (fun h74 fh74 => ?_)
    have gh74 : my_fr [(4, 4), (4, 5), (4, 7), (4, 8), (4, 9), (32, -1), (33, -1), (34, -1), (35, -1), (37, -1)] h h74 := my_fr.up my_fr.rf t0 fh74 rfl
    have gxh74 : my_fx x0 8 h h74 := my_fx.up my_fx.rf fh74 (by omega)
    have AgL_h74 : my_ag AgF h h74 := AgL_ag (my_ag.up fh74 t0 rfl) (my_ag.rf : my_ag AgF h h)
    refine w_vret gz_54_30 gm_54 ?_
    show wp l rho (d + 1) 63 5 [(2, x0), (0, x1), (0, x2)] [] h74 Q
    refine w_aload_n gz_63_5 rfl ?_
    refine w_iload_n gz_63_6 rfl ?_
    refine w_inv (k := 0) (as := [(0, x2)]) (r := []) (x := x0) (ls0 := [(2, x0), (0, x2)]) gz_63_7 gm_54 rfl t0 rd_4 rfl rfl rfl rfl rfl ?_
    refine w_aload_n gz_54_0 rfl ?_
    refine w_getX (v := (x0 + 6)) gz_54_1 t0 rd_4 rfl (by decide) rfl ?_
    refine w_iload_n gz_54_4 rfl ?_
    refine w_iald gz_54_5 (ix_4_6 t0) rd_37 (by omega) (by omega) (fun v76 ev76 pv76 qv76 => ?_)
    refine w_iconst gz_54_6 (by decide) ?_
    refine w_iceq (t := 30) gz_54_7 rfl (fun u77 => ?_) (fun u77 => ?_)
    ·
      refine w_vret gz_54_30 gm_54 ?_
      show wp l rho (d + 1) 63 10 [(2, x0), (0, x1), (0, x2)] [] h74 Q
      have a1 : ∀ j : Int, h74 (x0 + 1) j = h (x0 + 1) j := fun j => my_ag.at AgL_h74 (ix_4_1 t0) rfl
      have a3 : ∀ j : Int, h74 (x0 + 3) j = h (x0 + 3) j := fun j => my_ag.at AgL_h74 (ix_4_3 t0) rfl
      have a4 : ∀ j : Int, h74 (x0 + 4) j = h (x0 + 4) j := fun j => my_ag.at AgL_h74 (ix_4_4 t0) rfl
      have b1 : h74 x0 1 = h x0 1 := my_ag.at AgL_h74 t0 rfl
      have b3 : h74 x0 3 = h x0 3 := my_ag.at AgL_h74 t0 rfl
      have b9 : h74 x0 9 = h x0 9 := my_ag.at AgL_h74 t0 rfl
      have b4 : h74 x0 4 = h x0 4 := my_ag.at AgL_h74 t0 rfl
      refine w_aload_n gz_63_10 rfl ?_
      refine w_getX (v := (x0 + 6)) gz_63_11 t0 rd_4 rfl (by decide) rfl ?_
      refine w_iconst gz_63_14 (by decide) ?_
      refine w_iconst gz_63_15 (by decide) ?_
      refine w_iast gz_63_16 (ix_4_6 t0) rd_37 (by omega) (by omega) (by omega) (by omega) (fun h79 fh79 => ?_)
      have gh79 : my_fr [(4, 4), (4, 5), (4, 7), (4, 8), (4, 9), (32, -1), (33, -1), (34, -1), (35, -1), (37, -1)] h h79 := my_fr.up gh74 (ix_4_6 t0) fh79 rfl
      have gxh79 : my_fx x0 8 h h79 := my_fx.up gxh74 fh79 (by omega)
      have AgL_h79 : my_ag AgF h h79 := AgL_ag (my_ag.up fh79 (ix_4_6 t0) rfl) AgL_h74
      refine w_aload_n gz_63_17 rfl ?_
      refine w_getX (v := (x0 + 6)) gz_63_18 t0 rd_4 rfl (by decide) rfl ?_
      refine w_iconst gz_63_21 (by decide) ?_
      refine w_iconst gz_63_22 (by decide) ?_
      refine w_iast gz_63_23 (ix_4_6 t0) rd_37 (by omega) (by omega) (by omega) (by omega) (fun h81 fh81 => ?_)
      have gh81 : my_fr [(4, 4), (4, 5), (4, 7), (4, 8), (4, 9), (32, -1), (33, -1), (34, -1), (35, -1), (37, -1)] h h81 := my_fr.up gh79 (ix_4_6 t0) fh81 rfl
      have gxh81 : my_fx x0 8 h h81 := my_fx.up gxh79 fh81 (by omega)
      have AgL_h81 : my_ag AgF h h81 := AgL_ag (my_ag.up fh81 (ix_4_6 t0) rfl) AgL_h79
      refine w_aload_n gz_63_24 rfl ?_
      refine w_iconst gz_63_25 (by decide) ?_
      refine v_putI (j := 4) gz_63_26 rfl t0 rd_4 rfl (by omega) (by omega) rfl (fun h82 fh82 => ?_)
      have gh82 : my_fr [(4, 4), (4, 5), (4, 7), (4, 8), (4, 9), (32, -1), (33, -1), (34, -1), (35, -1), (37, -1)] h h82 := my_fr.up gh81 t0 fh82 rfl
      have gxh82 : my_fx x0 8 h h82 := my_fx.up gxh81 fh82 (by omega)
      refine w_aload_n gz_63_29 rfl ?_
      refine w_iconst gz_63_30 (by decide) ?_
      refine v_putB (j := 7) gz_63_31 rfl t0 rd_4 rfl (by omega) (by omega) rfl (fun h83 fh83 => ?_)
      have gh83 : my_fr [(4, 4), (4, 5), (4, 7), (4, 8), (4, 9), (32, -1), (33, -1), (34, -1), (35, -1), (37, -1)] h h83 := my_fr.up gh82 t0 fh83 rfl
      have gxh83 : my_fx x0 8 h h83 := my_fx.up gxh82 fh83 (by omega)
      refine w_aload_n gz_63_34 rfl ?_
      refine w_iconst gz_63_35 (by decide) ?_
      refine w_iload_n gz_63_36 rfl ?_
      refine w_iload_n gz_63_37 rfl ?_
      refine w_iconst gz_63_38 (by decide) ?_
      refine w_inv (k := 0) (as := [(0, 0), (0, x2), (0, x1), (0, 5)]) (r := []) (x := x0) (ls0 := [(2, x0), (0, 5), (0, x1), (0, x2), (0, 0)]) gz_63_39 gm_55 rfl t0 rd_4 rfl rfl rfl rfl rfl ?_
      refine w_aload_n gz_55_0 rfl ?_
      refine w_getX (v := (x0 + 1)) gz_55_1 t0 rd_4 rfl (by decide) rfl ?_
      refine w_aload_n gz_55_4 rfl ?_
      refine v_getI (j := 9) gz_55_5 rfl t0 rd_4 rfl (fun v85 ev85 pv85 qv85 => ?_)
      have zv85 := ev85.trans ((my_up_fld fh83 (by decide)).trans ((my_up_fld fh82 (by decide)).trans ((my_up_role fh81 t0 (ix_4_6 t0) rfl).trans ((my_up_role fh79 t0 (ix_4_6 t0) rfl).trans ((my_up_fld fh74 (by decide)).trans eka0_9.symm)))))
      refine w_iload_n gz_55_8 rfl ?_
      have hi86 : 0 ≤ v85 := by omega
      have hi87 : v85 ≤ 5 := by omega
      refine w_iast gz_55_9 (ix_4_1 t0) rd_32 (by omega) (by omega) (by omega) (by omega) (fun h88 fh88 => ?_)
      have gh88 : my_fr [(4, 4), (4, 5), (4, 7), (4, 8), (4, 9), (32, -1), (33, -1), (34, -1), (35, -1), (37, -1)] h h88 := my_fr.up gh83 (ix_4_1 t0) fh88 rfl
      have gxh88 : my_fx x0 8 h h88 := my_fx.up gxh83 fh88 (by omega)
      refine w_aload_n gz_55_10 rfl ?_
      refine w_getX (v := (x0 + 2)) gz_55_11 t0 rd_4 rfl (by decide) rfl ?_
      refine w_aload_n gz_55_14 rfl ?_
      refine v_getI (j := 9) gz_55_15 rfl t0 rd_4 rfl (fun v90 ev90 pv90 qv90 => ?_)
      have zv90 := ev90.trans ((my_up_role fh88 t0 (ix_4_1 t0) rfl).trans ev85.symm)
      refine w_iload_n gz_55_18 rfl ?_
      refine w_iast gz_55_19 (ix_4_2 t0) rd_33 (by omega) (by omega) (by omega) (by omega) (fun h91 fh91 => ?_)
      have gh91 : my_fr [(4, 4), (4, 5), (4, 7), (4, 8), (4, 9), (32, -1), (33, -1), (34, -1), (35, -1), (37, -1)] h h91 := my_fr.up gh88 (ix_4_2 t0) fh91 rfl
      have gxh91 : my_fx x0 8 h h91 := my_fx.up gxh88 fh91 (by omega)
      refine w_aload_n gz_55_20 rfl ?_
      refine w_getX (v := (x0 + 3)) gz_55_21 t0 rd_4 rfl (by decide) rfl ?_
      refine w_aload_n gz_55_24 rfl ?_
      refine v_getI (j := 9) gz_55_25 rfl t0 rd_4 rfl (fun v93 ev93 pv93 qv93 => ?_)
      have zv93 := ev93.trans ((my_up_role fh91 t0 (ix_4_2 t0) rfl).trans ev90.symm)
      refine w_iload_n gz_55_28 rfl ?_
      refine w_iast gz_55_29 (ix_4_3 t0) rd_34 (by omega) (by omega) (by omega) (by omega) (fun h94 fh94 => ?_)
      have gh94 : my_fr [(4, 4), (4, 5), (4, 7), (4, 8), (4, 9), (32, -1), (33, -1), (34, -1), (35, -1), (37, -1)] h h94 := my_fr.up gh91 (ix_4_3 t0) fh94 rfl
      have gxh94 : my_fx x0 8 h h94 := my_fx.up gxh91 fh94 (by omega)
      refine w_aload_n gz_55_30 rfl ?_
      refine w_getX (v := (x0 + 4)) gz_55_31 t0 rd_4 rfl (by decide) rfl ?_
      refine w_aload_n gz_55_34 rfl ?_
      refine v_getI (j := 9) gz_55_35 rfl t0 rd_4 rfl (fun v96 ev96 pv96 qv96 => ?_)
      have zv96 := ev96.trans ((my_up_role fh94 t0 (ix_4_3 t0) rfl).trans ev93.symm)
      refine w_iload gz_55_38 rfl ?_
      refine w_iast gz_55_40 (ix_4_4 t0) rd_35 (by omega) (by omega) (by omega) (by omega) (fun h97 fh97 => ?_)
      have gh97 : my_fr [(4, 4), (4, 5), (4, 7), (4, 8), (4, 9), (32, -1), (33, -1), (34, -1), (35, -1), (37, -1)] h h97 := my_fr.up gh94 (ix_4_4 t0) fh97 rfl
      have gxh97 : my_fx x0 8 h h97 := my_fx.up gxh94 fh97 (by omega)
      refine w_aload_n gz_55_41 rfl ?_
      refine w_dup gz_55_42 rfl ?_
      refine v_getI (j := 9) gz_55_43 rfl t0 rd_4 rfl (fun v98 ev98 pv98 qv98 => ?_)
      have zv98 := ev98.trans ((my_up_role fh97 t0 (ix_4_4 t0) rfl).trans ev96.symm)
      refine w_iconst gz_55_46 (by decide) ?_
      refine w_iadd gz_55_47 ⟨by omega, by omega⟩ ?_
      refine v_putI (j := 9) gz_55_48 rfl t0 rd_4 rfl (by omega) (by omega) rfl (fun h99 fh99 => ?_)
      have gh99 : my_fr [(4, 4), (4, 5), (4, 7), (4, 8), (4, 9), (32, -1), (33, -1), (34, -1), (35, -1), (37, -1)] h h99 := my_fr.up gh97 t0 fh99 rfl
      have gxh99 : my_fx x0 8 h h99 := my_fx.up gxh97 fh99 (by omega)
      refine w_aload_n gz_55_51 rfl ?_
      refine w_dup gz_55_52 rfl ?_
      refine v_getI (j := 5) gz_55_53 rfl t0 rd_4 rfl (fun v100 ev100 pv100 qv100 => ?_)
      refine w_iconst gz_55_56 (by decide) ?_
      refine w_ianyA gz_55_57 (fun v101 pv101 qv101 => ?_)
      refine v_putA (j := 5) gz_55_58 rfl t0 rd_4 rfl rfl (fun h102 fh102 => ?_)
      have gh102 : my_fr [(4, 4), (4, 5), (4, 7), (4, 8), (4, 9), (32, -1), (33, -1), (34, -1), (35, -1), (37, -1)] h h102 := my_fr.up gh99 t0 fh102 rfl
      have gxh102 : my_fx x0 8 h h102 := my_fx.up gxh99 fh102 (by omega)
      refine w_vret gz_55_61 gm_55 ?_
      show wp l rho (d + 1) 63 42 [(2, x0), (0, x1), (0, x2)] [] h102 Q
      have c103 := ((my_up_fld fh102 (by decide)).trans ((my_up_fld fh99 (by decide)).trans ((my_up_role fh97 t0 (ix_4_4 t0) rfl).trans ((my_up_role fh94 t0 (ix_4_3 t0) rfl).trans ((my_up_role fh91 t0 (ix_4_2 t0) rfl).trans ((my_up_role fh88 t0 (ix_4_1 t0) rfl).trans ((my_up_fld fh83 (by decide)).trans (my_up_self fh82))))))))
      have c104 := ((my_up_fld fh102 (by decide)).trans ((my_up_fld fh99 (by decide)).trans ((my_up_role fh97 t0 (ix_4_4 t0) rfl).trans ((my_up_role fh94 t0 (ix_4_3 t0) rfl).trans ((my_up_role fh91 t0 (ix_4_2 t0) rfl).trans ((my_up_role fh88 t0 (ix_4_1 t0) rfl).trans (my_up_self fh83)))))))
      have c105 := ((my_up_fld fh102 (by decide)).trans (my_up_self fh99))
      exact w_vret gz_63_42 gm_63 (k0 h102 (gh102) (gxh102) (by omega) (by omega) (by omega) (by omega) (by unfold AddS ln_st; refine ⟨?_, ?_, ?_, ?_, fun j hj => ⟨?_, ?_, ?_⟩, ?_, ?_, ?_⟩ <;> simp only [fh102, fh99, fh97, fh94, fh91, fh88, fh83, fh82, fh81, fh79, fh74, my_up, and_self, true_and, and_true, if_true, a1, a3, a4, b1, b3, b9, b4] <;> (repeat (first | rw [if_neg (by omega)] | rw [if_pos (by omega)])) <;> (try omega)))
    ·
      refine w_aload_n gz_54_10 rfl ?_
      refine w_dup gz_54_11 rfl ?_
      refine v_getI (j := 8) gz_54_12 rfl t0 rd_4 rfl (fun v106 ev106 pv106 qv106 => ?_)
      have zv106 := ev106.trans (my_up_self fh74)
      refine w_iconst gz_54_15 (by decide) ?_
      refine w_aload_n gz_54_16 rfl ?_
      refine w_getX (v := (x0 + 6)) gz_54_17 t0 rd_4 rfl (by decide) rfl ?_
      refine w_iload_n gz_54_20 rfl ?_
      refine w_iald gz_54_21 (ix_4_6 t0) rd_37 (by omega) (by omega) (fun v108 ev108 pv108 qv108 => ?_)
      have zv108 := ev108.trans ev76.symm
      refine w_bipush gz_54_22 (by decide) ?_
      refine w_irem gz_54_24 (by omega) (by decide) ?_
      refine w_ianyL gz_54_25 (fun v109 pv109 qv109 => ?_)
      refine w_ianyO gz_54_26 (fun v110 pv110 qv110 => ?_)
      refine v_putA (j := 8) gz_54_27 rfl t0 rd_4 rfl rfl (fun h111 fh111 => ?_)
      have gh111 : my_fr [(4, 4), (4, 5), (4, 7), (4, 8), (4, 9), (32, -1), (33, -1), (34, -1), (35, -1), (37, -1)] h h111 := my_fr.up gh74 t0 fh111 rfl
      have gxh111 : my_fx x0 8 h h111 := my_fx.up gxh74 fh111 (by omega)
      have AgL_h111 : my_ag AgF h h111 := AgL_ag (my_ag.up fh111 t0 rfl) AgL_h74
      refine w_vret gz_54_30 gm_54 ?_
      show wp l rho (d + 1) 63 10 [(2, x0), (0, x1), (0, x2)] [] h111 Q
      have a1 : ∀ j : Int, h111 (x0 + 1) j = h (x0 + 1) j := fun j => my_ag.at AgL_h111 (ix_4_1 t0) rfl
      have a3 : ∀ j : Int, h111 (x0 + 3) j = h (x0 + 3) j := fun j => my_ag.at AgL_h111 (ix_4_3 t0) rfl
      have a4 : ∀ j : Int, h111 (x0 + 4) j = h (x0 + 4) j := fun j => my_ag.at AgL_h111 (ix_4_4 t0) rfl
      have b1 : h111 x0 1 = h x0 1 := my_ag.at AgL_h111 t0 rfl
      have b3 : h111 x0 3 = h x0 3 := my_ag.at AgL_h111 t0 rfl
      have b9 : h111 x0 9 = h x0 9 := my_ag.at AgL_h111 t0 rfl
      have b4 : h111 x0 4 = h x0 4 := my_ag.at AgL_h111 t0 rfl
      refine w_aload_n gz_63_10 rfl ?_
      refine w_getX (v := (x0 + 6)) gz_63_11 t0 rd_4 rfl (by decide) rfl ?_
      refine w_iconst gz_63_14 (by decide) ?_
      refine w_iconst gz_63_15 (by decide) ?_
      refine w_iast gz_63_16 (ix_4_6 t0) rd_37 (by omega) (by omega) (by omega) (by omega) (fun h113 fh113 => ?_)
      have gh113 : my_fr [(4, 4), (4, 5), (4, 7), (4, 8), (4, 9), (32, -1), (33, -1), (34, -1), (35, -1), (37, -1)] h h113 := my_fr.up gh111 (ix_4_6 t0) fh113 rfl
      have gxh113 : my_fx x0 8 h h113 := my_fx.up gxh111 fh113 (by omega)
      have AgL_h113 : my_ag AgF h h113 := AgL_ag (my_ag.up fh113 (ix_4_6 t0) rfl) AgL_h111
      refine w_aload_n gz_63_17 rfl ?_
      refine w_getX (v := (x0 + 6)) gz_63_18 t0 rd_4 rfl (by decide) rfl ?_
      refine w_iconst gz_63_21 (by decide) ?_
      refine w_iconst gz_63_22 (by decide) ?_
      refine w_iast gz_63_23 (ix_4_6 t0) rd_37 (by omega) (by omega) (by omega) (by omega) (fun h115 fh115 => ?_)
      have gh115 : my_fr [(4, 4), (4, 5), (4, 7), (4, 8), (4, 9), (32, -1), (33, -1), (34, -1), (35, -1), (37, -1)] h h115 := my_fr.up gh113 (ix_4_6 t0) fh115 rfl
      have gxh115 : my_fx x0 8 h h115 := my_fx.up gxh113 fh115 (by omega)
      have AgL_h115 : my_ag AgF h h115 := AgL_ag (my_ag.up fh115 (ix_4_6 t0) rfl) AgL_h113
      refine w_aload_n gz_63_24 rfl ?_
      refine w_iconst gz_63_25 (by decide) ?_
      refine v_putI (j := 4) gz_63_26 rfl t0 rd_4 rfl (by omega) (by omega) rfl (fun h116 fh116 => ?_)
      have gh116 : my_fr [(4, 4), (4, 5), (4, 7), (4, 8), (4, 9), (32, -1), (33, -1), (34, -1), (35, -1), (37, -1)] h h116 := my_fr.up gh115 t0 fh116 rfl
      have gxh116 : my_fx x0 8 h h116 := my_fx.up gxh115 fh116 (by omega)
      refine w_aload_n gz_63_29 rfl ?_
      refine w_iconst gz_63_30 (by decide) ?_
      refine v_putB (j := 7) gz_63_31 rfl t0 rd_4 rfl (by omega) (by omega) rfl (fun h117 fh117 => ?_)
      have gh117 : my_fr [(4, 4), (4, 5), (4, 7), (4, 8), (4, 9), (32, -1), (33, -1), (34, -1), (35, -1), (37, -1)] h h117 := my_fr.up gh116 t0 fh117 rfl
      have gxh117 : my_fx x0 8 h h117 := my_fx.up gxh116 fh117 (by omega)
      refine w_aload_n gz_63_34 rfl ?_
      refine w_iconst gz_63_35 (by decide) ?_
      refine w_iload_n gz_63_36 rfl ?_
      refine w_iload_n gz_63_37 rfl ?_
      refine w_iconst gz_63_38 (by decide) ?_
      refine w_inv (k := 0) (as := [(0, 0), (0, x2), (0, x1), (0, 5)]) (r := []) (x := x0) (ls0 := [(2, x0), (0, 5), (0, x1), (0, x2), (0, 0)]) gz_63_39 gm_55 rfl t0 rd_4 rfl rfl rfl rfl rfl ?_
      refine w_aload_n gz_55_0 rfl ?_
      refine w_getX (v := (x0 + 1)) gz_55_1 t0 rd_4 rfl (by decide) rfl ?_
      refine w_aload_n gz_55_4 rfl ?_
      refine v_getI (j := 9) gz_55_5 rfl t0 rd_4 rfl (fun v119 ev119 pv119 qv119 => ?_)
      have zv119 := ev119.trans ((my_up_fld fh117 (by decide)).trans ((my_up_fld fh116 (by decide)).trans ((my_up_role fh115 t0 (ix_4_6 t0) rfl).trans ((my_up_role fh113 t0 (ix_4_6 t0) rfl).trans ((my_up_fld fh111 (by decide)).trans ((my_up_fld fh74 (by decide)).trans eka0_9.symm))))))
      refine w_iload_n gz_55_8 rfl ?_
      have hi120 : 0 ≤ v119 := by omega
      have hi121 : v119 ≤ 5 := by omega
      refine w_iast gz_55_9 (ix_4_1 t0) rd_32 (by omega) (by omega) (by omega) (by omega) (fun h122 fh122 => ?_)
      have gh122 : my_fr [(4, 4), (4, 5), (4, 7), (4, 8), (4, 9), (32, -1), (33, -1), (34, -1), (35, -1), (37, -1)] h h122 := my_fr.up gh117 (ix_4_1 t0) fh122 rfl
      have gxh122 : my_fx x0 8 h h122 := my_fx.up gxh117 fh122 (by omega)
      refine w_aload_n gz_55_10 rfl ?_
      refine w_getX (v := (x0 + 2)) gz_55_11 t0 rd_4 rfl (by decide) rfl ?_
      refine w_aload_n gz_55_14 rfl ?_
      refine v_getI (j := 9) gz_55_15 rfl t0 rd_4 rfl (fun v124 ev124 pv124 qv124 => ?_)
      have zv124 := ev124.trans ((my_up_role fh122 t0 (ix_4_1 t0) rfl).trans ev119.symm)
      refine w_iload_n gz_55_18 rfl ?_
      refine w_iast gz_55_19 (ix_4_2 t0) rd_33 (by omega) (by omega) (by omega) (by omega) (fun h125 fh125 => ?_)
      have gh125 : my_fr [(4, 4), (4, 5), (4, 7), (4, 8), (4, 9), (32, -1), (33, -1), (34, -1), (35, -1), (37, -1)] h h125 := my_fr.up gh122 (ix_4_2 t0) fh125 rfl
      have gxh125 : my_fx x0 8 h h125 := my_fx.up gxh122 fh125 (by omega)
      refine w_aload_n gz_55_20 rfl ?_
      refine w_getX (v := (x0 + 3)) gz_55_21 t0 rd_4 rfl (by decide) rfl ?_
      refine w_aload_n gz_55_24 rfl ?_
      refine v_getI (j := 9) gz_55_25 rfl t0 rd_4 rfl (fun v127 ev127 pv127 qv127 => ?_)
      have zv127 := ev127.trans ((my_up_role fh125 t0 (ix_4_2 t0) rfl).trans ev124.symm)
      refine w_iload_n gz_55_28 rfl ?_
      refine w_iast gz_55_29 (ix_4_3 t0) rd_34 (by omega) (by omega) (by omega) (by omega) (fun h128 fh128 => ?_)
      have gh128 : my_fr [(4, 4), (4, 5), (4, 7), (4, 8), (4, 9), (32, -1), (33, -1), (34, -1), (35, -1), (37, -1)] h h128 := my_fr.up gh125 (ix_4_3 t0) fh128 rfl
      have gxh128 : my_fx x0 8 h h128 := my_fx.up gxh125 fh128 (by omega)
      refine w_aload_n gz_55_30 rfl ?_
      refine w_getX (v := (x0 + 4)) gz_55_31 t0 rd_4 rfl (by decide) rfl ?_
      refine w_aload_n gz_55_34 rfl ?_
      refine v_getI (j := 9) gz_55_35 rfl t0 rd_4 rfl (fun v130 ev130 pv130 qv130 => ?_)
      have zv130 := ev130.trans ((my_up_role fh128 t0 (ix_4_3 t0) rfl).trans ev127.symm)
      refine w_iload gz_55_38 rfl ?_
      refine w_iast gz_55_40 (ix_4_4 t0) rd_35 (by omega) (by omega) (by omega) (by omega) (fun h131 fh131 => ?_)
      have gh131 : my_fr [(4, 4), (4, 5), (4, 7), (4, 8), (4, 9), (32, -1), (33, -1), (34, -1), (35, -1), (37, -1)] h h131 := my_fr.up gh128 (ix_4_4 t0) fh131 rfl
      have gxh131 : my_fx x0 8 h h131 := my_fx.up gxh128 fh131 (by omega)
      refine w_aload_n gz_55_41 rfl ?_
      refine w_dup gz_55_42 rfl ?_
      refine v_getI (j := 9) gz_55_43 rfl t0 rd_4 rfl (fun v132 ev132 pv132 qv132 => ?_)
      have zv132 := ev132.trans ((my_up_role fh131 t0 (ix_4_4 t0) rfl).trans ev130.symm)
      refine w_iconst gz_55_46 (by decide) ?_
      refine w_iadd gz_55_47 ⟨by omega, by omega⟩ ?_
      refine v_putI (j := 9) gz_55_48 rfl t0 rd_4 rfl (by omega) (by omega) rfl (fun h133 fh133 => ?_)
      have gh133 : my_fr [(4, 4), (4, 5), (4, 7), (4, 8), (4, 9), (32, -1), (33, -1), (34, -1), (35, -1), (37, -1)] h h133 := my_fr.up gh131 t0 fh133 rfl
      have gxh133 : my_fx x0 8 h h133 := my_fx.up gxh131 fh133 (by omega)
      refine w_aload_n gz_55_51 rfl ?_
      refine w_dup gz_55_52 rfl ?_
      refine v_getI (j := 5) gz_55_53 rfl t0 rd_4 rfl (fun v134 ev134 pv134 qv134 => ?_)
      refine w_iconst gz_55_56 (by decide) ?_
      refine w_ianyA gz_55_57 (fun v135 pv135 qv135 => ?_)
      refine v_putA (j := 5) gz_55_58 rfl t0 rd_4 rfl rfl (fun h136 fh136 => ?_)
      have gh136 : my_fr [(4, 4), (4, 5), (4, 7), (4, 8), (4, 9), (32, -1), (33, -1), (34, -1), (35, -1), (37, -1)] h h136 := my_fr.up gh133 t0 fh136 rfl
      have gxh136 : my_fx x0 8 h h136 := my_fx.up gxh133 fh136 (by omega)
      refine w_vret gz_55_61 gm_55 ?_
      show wp l rho (d + 1) 63 42 [(2, x0), (0, x1), (0, x2)] [] h136 Q
      have c137 := ((my_up_fld fh136 (by decide)).trans ((my_up_fld fh133 (by decide)).trans ((my_up_role fh131 t0 (ix_4_4 t0) rfl).trans ((my_up_role fh128 t0 (ix_4_3 t0) rfl).trans ((my_up_role fh125 t0 (ix_4_2 t0) rfl).trans ((my_up_role fh122 t0 (ix_4_1 t0) rfl).trans ((my_up_fld fh117 (by decide)).trans (my_up_self fh116))))))))
      have c138 := ((my_up_fld fh136 (by decide)).trans ((my_up_fld fh133 (by decide)).trans ((my_up_role fh131 t0 (ix_4_4 t0) rfl).trans ((my_up_role fh128 t0 (ix_4_3 t0) rfl).trans ((my_up_role fh125 t0 (ix_4_2 t0) rfl).trans ((my_up_role fh122 t0 (ix_4_1 t0) rfl).trans (my_up_self fh117)))))))
      have c139 := ((my_up_fld fh136 (by decide)).trans (my_up_self fh133))
      exact w_vret gz_63_42 gm_63 (k0 h136 (gh136) (gxh136) (by omega) (by omega) (by omega) (by omega) (by unfold AddS ln_st; refine ⟨?_, ?_, ?_, ?_, fun j hj => ⟨?_, ?_, ?_⟩, ?_, ?_, ?_⟩ <;> simp only [fh136, fh133, fh131, fh128, fh125, fh122, fh117, fh116, fh115, fh113, fh111, fh74, my_up, and_self, true_and, and_true, if_true, a1, a3, a4, b1, b3, b9, b4] <;> (repeat (first | rw [if_neg (by omega)] | rw [if_pos (by omega)])) <;> (try omega)))
theorem c_View_copyCells {l : Launch} {rho : Nat → Int32} {d : Nat} {h : my_H} {Q : my_H → my_V → Prop} {x0 x1 x2 x3 x4 : Int} (t0 : my_is 8 x0) (t1 : my_is 6 x1) (a2 : 0 ≤ x2) (b2 : x2 ≤ 239) (a3 : 0 ≤ x3) (b3 : x3 ≤ 186) (m3_0 : 0 ≤ x3 % 17) (m3_1 : x3 % 17 ≤ 8) (a4 : 0 ≤ x4) (b4 : x4 ≤ 4) (m4_0 : 0 ≤ x4 % 17) (m4_1 : x4 % 17 ≤ 4) (hw1 : x2 + x4 ≤ 240) (hw2 : x3 % 17 + x4 ≤ 8) (k0 : ∀ (h' : my_H), my_fr [(42, -1)] h h' → my_fx x0 3 h h' → Q h' (9, 0)) : wp l rho d 70 0 [(2, x0), (2, x1), (0, x2), (0, x3), (0, x4), (9, 0)] [] h Q := by
  have J3_0 : ∀ (n : Nat) (p3_0 : Int) (h3_0 : my_H), my_fr [(42, -1)] h h3_0 → my_fx x0 3 h h3_0 → 0 ≤ p3_0 → p3_0 ≤ 4 → p3_0 ≤ x4 → 5 - p3_0 ≤ (n : Int) → wp l rho d 70 3 [(2, x0), (2, x1), (0, x2), (0, x3), (0, x4), (0, p3_0)] [] h3_0 Q := by
    intro n
    induction n with
    | zero => intro p3_0 h3_0 gh_3_0 gx_3_0 q0_3_0 q1_3_0 q2_3_0 hm_3_0; exfalso; omega
    | succ n ih_3_0 =>
      intro p3_0 h3_0 gh_3_0 gx_3_0 q0_3_0 q1_3_0 q2_3_0 hm_3_0
      refine w_iload gz_70_3 rfl ?_
      refine w_iload gz_70_5 rfl ?_
      refine w_icge (t := 50) gz_70_7 rfl (fun u1 => ?_) (fun u1 => ?_)
      ·
        exact w_vret gz_70_50 gm_70 (k0 h3_0 (gh_3_0) (gx_3_0))
      ·
        refine w_aload_n gz_70_10 rfl ?_
        refine w_getX (v := (x0 + 1)) gz_70_11 t0 rd_8 rfl (by decide) rfl ?_
        refine w_iload_n gz_70_14 rfl ?_
        refine w_iload gz_70_15 rfl ?_
        refine w_iadd gz_70_17 ⟨by omega, by omega⟩ ?_
        refine w_aload_n gz_70_18 rfl ?_
        refine w_getX (v := (x1 + 1)) gz_70_19 t1 rd_6 rfl (by decide) rfl ?_
        refine w_iload_n gz_70_22 rfl ?_
        refine w_iload gz_70_23 rfl ?_
        refine w_iadd gz_70_25 ⟨by omega, by omega⟩ ?_
        have hi4 : 0 ≤ (x2 + p3_0) := by omega
        have hi5 : (x2 + p3_0) ≤ 239 := by omega
        refine w_iald gz_70_26 (ix_6_1 t1) rd_30 (by omega) (by omega) (fun v6 ev6 pv6 qv6 => ?_)
        have hi7 : 0 ≤ (x3 + p3_0) := by omega
        have hi8 : (x3 + p3_0) ≤ 203 := by omega
        refine w_gstV gz_70_27 (ix_8_1 t0) rd_42 (by omega) (by omega) (by omega) (fun h9 fh9 => ?_)
        have gh9 : my_fr [(42, -1)] h h9 := my_fr.up gh_3_0 (ix_8_1 t0) fh9 rfl
        have gxh9 : my_fx x0 3 h h9 := my_fx.up gx_3_0 fh9 (by omega)
        refine w_aload_n gz_70_28 rfl ?_
        refine w_getX (v := (x0 + 1)) gz_70_29 t0 rd_8 rfl (by decide) rfl ?_
        refine w_iload_n gz_70_32 rfl ?_
        refine w_bipush gz_70_33 (by decide) ?_
        refine w_iadd gz_70_35 ⟨by omega, by omega⟩ ?_
        refine w_iload gz_70_36 rfl ?_
        refine w_iadd gz_70_38 ⟨by omega, by omega⟩ ?_
        refine w_iload_n gz_70_39 rfl ?_
        refine w_iload gz_70_40 rfl ?_
        refine w_iadd gz_70_42 ⟨by omega, by omega⟩ ?_
        have hi11 : 0 ≤ ((x3 + 8) + p3_0) := by omega
        have hi12 : ((x3 + 8) + p3_0) ≤ 203 := by omega
        have hi13 : 0 ≤ (x2 + p3_0) := by omega
        have hi14 : (x2 + p3_0) ≤ 239 := by omega
        refine w_gstS gz_70_43 (ix_8_1 t0) rd_42 (by omega) (by omega) (by omega) (by omega) (by omega) (by omega) (fun h15 fh15 => ?_)
        have gh15 : my_fr [(42, -1)] h h15 := my_fr.up gh9 (ix_8_1 t0) fh15 rfl
        have gxh15 : my_fx x0 3 h h15 := my_fx.up gxh9 fh15 (by omega)
        refine w_iinc (ls' := [(2, x0), (2, x1), (0, x2), (0, x3), (0, x4), (0, (p3_0 + 1))]) gz_70_44 rfl gm_70 rfl rfl rfl ⟨by omega, by omega⟩ ?_
        refine w_goto (t := 3) gz_70_47 rfl ?_
        exact ih_3_0 ((p3_0 + 1)) h15 (gh15) (gxh15) (by omega) (by omega) (by omega) (by omega)
  refine w_iconst gz_70_0 (by decide) ?_
  refine w_istore (ls' := [(2, x0), (2, x1), (0, x2), (0, x3), (0, x4), (0, 0)]) gz_70_1 gm_70 rfl rfl rfl ?_
  exact J3_0 5 (0) h (my_fr.rf) (my_fx.rf) (by omega) (by omega) (by omega) (by omega)
theorem c_View_few_v8_36 {l : Launch} {rho : Nat → Int32} {d : Nat} {h : my_H} {Q : my_H → my_V → Prop} {x0 x1 x2 x3 : Int} (t0 : my_is 8 x0) (t1 : my_is 36 x1) (a2 : 0 ≤ x2) (b2 : x2 ≤ 40) (a3 : 0 ≤ x3) (b3 : x3 ≤ 8) (m3_0 : 0 ≤ x3 % 17) (m3_1 : x3 % 17 ≤ 8) (k0 : ∀ (h' : my_H), my_fr [(8, 1), (42, -1)] h h' → my_fx x0 3 h h' → h' x0 0 = h x0 0 → h' x0 1 = x3 → Q h' (9, 0)) : wp l rho (d + 2) 71 0 [(2, x0), (2, x1), (0, x2), (0, x3), (9, 0), (9, 0), (9, 0)] [] h Q := by
  refine v_know (x := x0) (j := 0) (b := 0) rfl t0 rd_8 rfl (fun ka0_0 eka0_0 pka0_0 qka0_0 => ?_)
  have J3_0 : ∀ (n : Nat) (p3_0 : Int) (h3_0 : my_H), my_fr [(8, 1), (42, -1)] h h3_0 → my_fx x0 3 h h3_0 → 0 ≤ p3_0 → p3_0 ≤ 11 → p3_0 ≤ ka0_0 → h3_0 x0 0 = ka0_0 → 12 - p3_0 ≤ (n : Int) → wp l rho (d + 2) 71 3 [(2, x0), (2, x1), (0, x2), (0, x3), (0, p3_0), (9, 0), (9, 0)] [] h3_0 Q := by
    intro n
    induction n with
    | zero => intro p3_0 h3_0 gh_3_0 gx_3_0 q0_3_0 q1_3_0 q2_3_0 ca0_0_3_0 hm_3_0; exfalso; omega
    | succ n ih_3_0 =>
      intro p3_0 h3_0 gh_3_0 gx_3_0 q0_3_0 q1_3_0 q2_3_0 ca0_0_3_0 hm_3_0
      have J23_0 : ∀ (n : Nat) (p23_0 : Int) (h23_0 : my_H), my_fr [(8, 1), (42, -1)] h h23_0 → my_fx x0 3 h h23_0 → p3_0 ≤ 10 → 0 ≤ p23_0 → p23_0 ≤ 8 → 1 ≤ ka0_0 → p23_0 ≤ x3 → p3_0 ≤ (ka0_0 - 1) → h23_0 x0 0 = ka0_0 → 9 - p23_0 ≤ (n : Int) → wp l rho (d + 2) 71 23 [(2, x0), (2, x1), (0, x2), (0, x3), (0, p3_0), (0, p23_0), (9, 0)] [] h23_0 Q := by
        intro n
        induction n with
        | zero => intro p23_0 h23_0 gh_23_0 gx_23_0 q0_23_0 q1_23_0 q2_23_0 q3_23_0 q4_23_0 q5_23_0 ca0_0_23_0 hm_23_0; exfalso; omega
        | succ n ih_23_0 =>
          intro p23_0 h23_0 gh_23_0 gx_23_0 q0_23_0 q1_23_0 q2_23_0 q3_23_0 q4_23_0 q5_23_0 ca0_0_23_0 hm_23_0
          refine w_iload gz_71_23 rfl ?_
          refine w_iload_n gz_71_25 rfl ?_
          refine w_icge (t := 93) gz_71_26 rfl (fun u1 => ?_) (fun u1 => ?_)
          ·
            refine w_iinc (ls' := [(2, x0), (2, x1), (0, x2), (0, x3), (0, (p3_0 + 1)), (0, p23_0), (9, 0)]) gz_71_93 rfl gm_71 rfl rfl rfl ⟨by omega, by omega⟩ ?_
            refine w_goto (t := 3) gz_71_96 rfl ?_
            refine w_weak (ls' := [(2, x0), (2, x1), (0, x2), (0, x3), (0, (p3_0 + 1)), (9, 0), (9, 0)]) (wk_e (wk_e (wk_e (wk_e (wk_e (wk_9 (wk_9 wk_n))))))) ?_
            exact ih_3_0 ((p3_0 + 1)) h23_0 (gh_23_0) (gx_23_0) (by omega) (by omega) (by omega) (ca0_0_23_0.trans (by omega)) (by omega)
          ·
            refine w_sipush gz_71_29 (by decide) ?_
            refine w_aload_n gz_71_32 rfl ?_
            refine w_iload_n gz_71_33 rfl ?_
            refine w_iload gz_71_34 rfl ?_
            refine w_iadd gz_71_36 ⟨by omega, by omega⟩ ?_
            have hi2 : 0 ≤ (x2 + p23_0) := by omega
            have hi3 : (x2 + p23_0) ≤ 47 := by omega
            refine w_iald gz_71_37 t1 rd_36 (by omega) (by omega) (fun v4 ev4 pv4 qv4 => ?_)
            refine w_iadd gz_71_38 ⟨by omega, by omega⟩ ?_
            refine w_istore (ls' := [(2, x0), (2, x1), (0, x2), (0, x3), (0, p3_0), (0, p23_0), (0, (187 + v4))]) gz_71_39 gm_71 rfl rfl rfl ?_
            refine w_aload_n gz_71_41 rfl ?_
            refine w_getX (v := (x0 + 1)) gz_71_42 t0 rd_8 rfl (by decide) rfl ?_
            refine w_iload gz_71_45 rfl ?_
            refine w_bipush gz_71_47 (by decide) ?_
            refine w_imul gz_71_49 ⟨by omega, by omega⟩ ?_
            refine w_iload gz_71_50 rfl ?_
            refine w_iadd gz_71_52 ⟨by omega, by omega⟩ ?_
            refine w_aload_n gz_71_53 rfl ?_
            refine w_getX (v := (x0 + 1)) gz_71_54 t0 rd_8 rfl (by decide) rfl ?_
            refine w_iload gz_71_57 rfl ?_
            refine w_gldA gz_71_59 (ix_8_1 t0) rd_42 (by omega) (by omega) (fun v7 ev7 pv7 qv7 => ?_)
            refine w_gstV gz_71_60 (ix_8_1 t0) rd_42 (by omega) (by omega) (by omega) (fun h8 fh8 => ?_)
            have gh8 : my_fr [(8, 1), (42, -1)] h h8 := my_fr.up gh_23_0 (ix_8_1 t0) fh8 rfl
            have gxh8 : my_fx x0 3 h h8 := my_fx.up gx_23_0 fh8 (by omega)
            refine w_aload_n gz_71_61 rfl ?_
            refine w_getX (v := (x0 + 1)) gz_71_62 t0 rd_8 rfl (by decide) rfl ?_
            refine w_iload gz_71_65 rfl ?_
            refine w_bipush gz_71_67 (by decide) ?_
            refine w_imul gz_71_69 ⟨by omega, by omega⟩ ?_
            refine w_bipush gz_71_70 (by decide) ?_
            refine w_iadd gz_71_72 ⟨by omega, by omega⟩ ?_
            refine w_iload gz_71_73 rfl ?_
            refine w_iadd gz_71_75 ⟨by omega, by omega⟩ ?_
            refine w_aload_n gz_71_76 rfl ?_
            refine w_getX (v := (x0 + 1)) gz_71_77 t0 rd_8 rfl (by decide) rfl ?_
            refine w_iload gz_71_80 rfl ?_
            refine w_bipush gz_71_82 (by decide) ?_
            refine w_iadd gz_71_84 ⟨by omega, by omega⟩ ?_
            refine w_gldS gz_71_85 (ix_8_1 t0) rd_42 (by omega) (by omega) (by omega) (by omega) (fun v11 ev11 pv11 qv11 => ?_)
            refine w_gstS gz_71_86 (ix_8_1 t0) rd_42 (by omega) (by omega) (by omega) (by omega) (by omega) (by omega) (fun h12 fh12 => ?_)
            have gh12 : my_fr [(8, 1), (42, -1)] h h12 := my_fr.up gh8 (ix_8_1 t0) fh12 rfl
            have gxh12 : my_fx x0 3 h h12 := my_fx.up gxh8 fh12 (by omega)
            refine w_iinc (ls' := [(2, x0), (2, x1), (0, x2), (0, x3), (0, p3_0), (0, (p23_0 + 1)), (0, (187 + v4))]) gz_71_87 rfl gm_71 rfl rfl rfl ⟨by omega, by omega⟩ ?_
            refine w_goto (t := 23) gz_71_90 rfl ?_
            refine w_weak (ls' := [(2, x0), (2, x1), (0, x2), (0, x3), (0, p3_0), (0, (p23_0 + 1)), (9, 0)]) (wk_e (wk_e (wk_e (wk_e (wk_e (wk_e (wk_9 wk_n))))))) ?_
            exact ih_23_0 ((p23_0 + 1)) h12 (gh12) (gxh12) (by omega) (by omega) (by omega) (by omega) (by omega) (by omega) (((my_up_role fh12 t0 (ix_8_1 t0) rfl).trans ((my_up_role fh8 t0 (ix_8_1 t0) rfl).trans ca0_0_23_0)).trans (by omega)) (by omega)
      refine w_iload gz_71_3 rfl ?_
      refine w_aload_n gz_71_5 rfl ?_
      refine v_getI (j := 0) gz_71_6 rfl t0 rd_8 rfl (fun v13 ev13 pv13 qv13 => ?_)
      have zv13 := ev13.trans ca0_0_3_0
      refine w_icge (t := 99) gz_71_9 rfl (fun u14 => ?_) (fun u14 => ?_)
      ·
        refine w_aload_n gz_71_99 rfl ?_
        refine w_iload_n gz_71_100 rfl ?_
        refine v_putI (j := 1) gz_71_101 rfl t0 rd_8 rfl (by omega) (by omega) rfl (fun h15 fh15 => ?_)
        have gh15 : my_fr [(8, 1), (42, -1)] h h15 := my_fr.up gh_3_0 t0 fh15 rfl
        have gxh15 : my_fx x0 3 h h15 := my_fx.up gx_3_0 fh15 (by omega)
        have ce16 : h15 x0 0 = v13 := ((my_up_fld fh15 (by decide)).trans ev13.symm)
        have ce17 : h15 x0 1 = x3 := (my_up_self fh15)
        exact w_vret gz_71_104 gm_71 (k0 h15 (gh15) (gxh15) (by first | assumption | omega | (subst_vars; omega)) (by first | assumption | omega | (subst_vars; omega)))
      ·
        refine w_aload_n gz_71_12 rfl ?_
        refine w_iload gz_71_13 rfl ?_
        refine w_bipush gz_71_15 (by decide) ?_
        refine w_inv (k := 0) (as := [(0, 11), (0, p3_0)]) (r := []) (x := x0) (ls0 := [(2, x0), (0, p3_0), (0, 11)]) gz_71_17 gm_72 rfl t0 rd_8 rfl rfl rfl rfl rfl ?_
        refine w_iload_n gz_72_0 rfl ?_
        refine w_iload_n gz_72_1 rfl ?_
        refine w_iceq (t := 26) gz_72_2 rfl (fun u18 => by exfalso; omega) (fun u18 => ?_)
        refine w_aload_n gz_72_5 rfl ?_
        refine w_getX (v := (x0 + 1)) gz_72_6 t0 rd_8 rfl (by decide) rfl ?_
        refine w_iload_n gz_72_9 rfl ?_
        refine w_bipush gz_72_10 (by decide) ?_
        refine w_imul gz_72_12 ⟨by omega, by omega⟩ ?_
        refine w_aload_n gz_72_13 rfl ?_
        refine w_getX (v := (x0 + 1)) gz_72_14 t0 rd_8 rfl (by decide) rfl ?_
        refine w_iload_n gz_72_17 rfl ?_
        refine w_bipush gz_72_18 (by decide) ?_
        refine w_imul gz_72_20 ⟨by omega, by omega⟩ ?_
        refine w_bipush gz_72_21 (by decide) ?_
        refine w_cpG gz_72_23 (ix_8_1 t0) rd_42 (ix_8_1 t0) rd_42 (by omega) (by omega) (by omega) (by omega) (by omega) rfl (by omega) (fun h21 fh21 => ?_)
        have gh21 : my_fr [(8, 1), (42, -1)] h h21 := my_fr.cp gh_3_0 (ix_8_1 t0) fh21 rfl
        have gxh21 : my_fx x0 3 h h21 := my_fx.cp gx_3_0 fh21 (by omega)
        refine w_vret gz_72_26 gm_72 ?_
        show wp l rho (d + 2) 71 20 [(2, x0), (2, x1), (0, x2), (0, x3), (0, p3_0), (9, 0), (9, 0)] [] h21 Q
        refine w_iconst gz_71_20 (by decide) ?_
        refine w_istore (ls' := [(2, x0), (2, x1), (0, x2), (0, x3), (0, p3_0), (0, 0), (9, 0)]) gz_71_21 gm_71 rfl rfl rfl ?_
        exact J23_0 9 (0) h21 (gh21) (gxh21) (by omega) (by omega) (by omega) (by omega) (by omega) (by omega) (((my_cp_role fh21 t0 (ix_8_1 t0) rfl).trans ev13.symm).trans (by omega)) (by omega)
  refine w_iconst gz_71_0 (by decide) ?_
  refine w_istore (ls' := [(2, x0), (2, x1), (0, x2), (0, x3), (0, 0), (9, 0), (9, 0)]) gz_71_1 gm_71 rfl rfl rfl ?_
  exact J3_0 12 (0) h (my_fr.rf) (my_fx.rf) (by omega) (by omega) (by omega) (eka0_0.symm.trans (by omega)) (by omega)
theorem c_View_few_v8_45 {l : Launch} {rho : Nat → Int32} {d : Nat} {h : my_H} {Q : my_H → my_V → Prop} {x0 x3 : Int} (t0 : my_is 8 x0) (a3 : 0 ≤ x3) (b3 : x3 ≤ 4) (m3_0 : 0 ≤ x3 % 17) (m3_1 : x3 % 17 ≤ 4) (k0 : ∀ (h' : my_H), my_fr [(8, 1), (42, -1)] h h' → my_fx x0 3 h h' → 0 ≤ h' x0 1 → h' x0 1 ≤ 4 → h' x0 0 = h x0 0 → h' x0 1 = x3 → Q h' (9, 0)) : wp l rho (d + 2) 71 0 [(2, x0), (2, 119), (0, 0), (0, x3), (9, 0), (9, 0), (9, 0)] [] h Q := by
  refine v_know (x := x0) (j := 0) (b := 0) rfl t0 rd_8 rfl (fun ka0_0 eka0_0 pka0_0 qka0_0 => ?_)
  have J3_0 : ∀ (n : Nat) (p3_0 : Int) (h3_0 : my_H), my_fr [(8, 1), (42, -1)] h h3_0 → my_fx x0 3 h h3_0 → 0 ≤ p3_0 → p3_0 ≤ 11 → p3_0 ≤ ka0_0 → h3_0 x0 0 = ka0_0 → 12 - p3_0 ≤ (n : Int) → wp l rho (d + 2) 71 3 [(2, x0), (2, 119), (0, 0), (0, x3), (0, p3_0), (9, 0), (9, 0)] [] h3_0 Q := by
    intro n
    induction n with
    | zero => intro p3_0 h3_0 gh_3_0 gx_3_0 q0_3_0 q1_3_0 q2_3_0 ca0_0_3_0 hm_3_0; exfalso; omega
    | succ n ih_3_0 =>
      intro p3_0 h3_0 gh_3_0 gx_3_0 q0_3_0 q1_3_0 q2_3_0 ca0_0_3_0 hm_3_0
      have J23_0 : ∀ (n : Nat) (p23_0 : Int) (h23_0 : my_H), my_fr [(8, 1), (42, -1)] h h23_0 → my_fx x0 3 h h23_0 → p3_0 ≤ 10 → 0 ≤ p23_0 → p23_0 ≤ 4 → 1 ≤ ka0_0 → p23_0 ≤ x3 → p3_0 ≤ (ka0_0 - 1) → h23_0 x0 0 = ka0_0 → 5 - p23_0 ≤ (n : Int) → wp l rho (d + 2) 71 23 [(2, x0), (2, 119), (0, 0), (0, x3), (0, p3_0), (0, p23_0), (9, 0)] [] h23_0 Q := by
        intro n
        induction n with
        | zero => intro p23_0 h23_0 gh_23_0 gx_23_0 q0_23_0 q1_23_0 q2_23_0 q3_23_0 q4_23_0 q5_23_0 ca0_0_23_0 hm_23_0; exfalso; omega
        | succ n ih_23_0 =>
          intro p23_0 h23_0 gh_23_0 gx_23_0 q0_23_0 q1_23_0 q2_23_0 q3_23_0 q4_23_0 q5_23_0 ca0_0_23_0 hm_23_0
          refine w_iload gz_71_23 rfl ?_
          refine w_iload_n gz_71_25 rfl ?_
          refine w_icge (t := 93) gz_71_26 rfl (fun u1 => ?_) (fun u1 => ?_)
          ·
            refine w_iinc (ls' := [(2, x0), (2, 119), (0, 0), (0, x3), (0, (p3_0 + 1)), (0, p23_0), (9, 0)]) gz_71_93 rfl gm_71 rfl rfl rfl ⟨by omega, by omega⟩ ?_
            refine w_goto (t := 3) gz_71_96 rfl ?_
            refine w_weak (ls' := [(2, x0), (2, 119), (0, 0), (0, x3), (0, (p3_0 + 1)), (9, 0), (9, 0)]) (wk_e (wk_e (wk_e (wk_e (wk_e (wk_9 (wk_9 wk_n))))))) ?_
            exact ih_3_0 ((p3_0 + 1)) h23_0 (gh_23_0) (gx_23_0) (by omega) (by omega) (by omega) (ca0_0_23_0.trans (by omega)) (by omega)
          ·
            refine w_sipush gz_71_29 (by decide) ?_
            refine w_aload_n gz_71_32 rfl ?_
            refine w_iload_n gz_71_33 rfl ?_
            refine w_iload gz_71_34 rfl ?_
            refine w_iadd gz_71_36 ⟨by omega, by omega⟩ ?_
            have hi2 : 0 ≤ (0 + p23_0) := by omega
            have hi3 : (0 + p23_0) ≤ 47 := by omega
            refine w_iald gz_71_37 is_119 rd_45 (by omega) (by omega) (fun v4 ev4 pv4 qv4 => ?_)
            refine w_iadd gz_71_38 ⟨by omega, by omega⟩ ?_
            refine w_istore (ls' := [(2, x0), (2, 119), (0, 0), (0, x3), (0, p3_0), (0, p23_0), (0, (187 + v4))]) gz_71_39 gm_71 rfl rfl rfl ?_
            refine w_aload_n gz_71_41 rfl ?_
            refine w_getX (v := (x0 + 1)) gz_71_42 t0 rd_8 rfl (by decide) rfl ?_
            refine w_iload gz_71_45 rfl ?_
            refine w_bipush gz_71_47 (by decide) ?_
            refine w_imul gz_71_49 ⟨by omega, by omega⟩ ?_
            refine w_iload gz_71_50 rfl ?_
            refine w_iadd gz_71_52 ⟨by omega, by omega⟩ ?_
            refine w_aload_n gz_71_53 rfl ?_
            refine w_getX (v := (x0 + 1)) gz_71_54 t0 rd_8 rfl (by decide) rfl ?_
            refine w_iload gz_71_57 rfl ?_
            refine w_gldA gz_71_59 (ix_8_1 t0) rd_42 (by omega) (by omega) (fun v7 ev7 pv7 qv7 => ?_)
            refine w_gstV gz_71_60 (ix_8_1 t0) rd_42 (by omega) (by omega) (by omega) (fun h8 fh8 => ?_)
            have gh8 : my_fr [(8, 1), (42, -1)] h h8 := my_fr.up gh_23_0 (ix_8_1 t0) fh8 rfl
            have gxh8 : my_fx x0 3 h h8 := my_fx.up gx_23_0 fh8 (by omega)
            refine w_aload_n gz_71_61 rfl ?_
            refine w_getX (v := (x0 + 1)) gz_71_62 t0 rd_8 rfl (by decide) rfl ?_
            refine w_iload gz_71_65 rfl ?_
            refine w_bipush gz_71_67 (by decide) ?_
            refine w_imul gz_71_69 ⟨by omega, by omega⟩ ?_
            refine w_bipush gz_71_70 (by decide) ?_
            refine w_iadd gz_71_72 ⟨by omega, by omega⟩ ?_
            refine w_iload gz_71_73 rfl ?_
            refine w_iadd gz_71_75 ⟨by omega, by omega⟩ ?_
            refine w_aload_n gz_71_76 rfl ?_
            refine w_getX (v := (x0 + 1)) gz_71_77 t0 rd_8 rfl (by decide) rfl ?_
            refine w_iload gz_71_80 rfl ?_
            refine w_bipush gz_71_82 (by decide) ?_
            refine w_iadd gz_71_84 ⟨by omega, by omega⟩ ?_
            refine w_gldS gz_71_85 (ix_8_1 t0) rd_42 (by omega) (by omega) (by omega) (by omega) (fun v11 ev11 pv11 qv11 => ?_)
            refine w_gstS gz_71_86 (ix_8_1 t0) rd_42 (by omega) (by omega) (by omega) (by omega) (by omega) (by omega) (fun h12 fh12 => ?_)
            have gh12 : my_fr [(8, 1), (42, -1)] h h12 := my_fr.up gh8 (ix_8_1 t0) fh12 rfl
            have gxh12 : my_fx x0 3 h h12 := my_fx.up gxh8 fh12 (by omega)
            refine w_iinc (ls' := [(2, x0), (2, 119), (0, 0), (0, x3), (0, p3_0), (0, (p23_0 + 1)), (0, (187 + v4))]) gz_71_87 rfl gm_71 rfl rfl rfl ⟨by omega, by omega⟩ ?_
            refine w_goto (t := 23) gz_71_90 rfl ?_
            refine w_weak (ls' := [(2, x0), (2, 119), (0, 0), (0, x3), (0, p3_0), (0, (p23_0 + 1)), (9, 0)]) (wk_e (wk_e (wk_e (wk_e (wk_e (wk_e (wk_9 wk_n))))))) ?_
            exact ih_23_0 ((p23_0 + 1)) h12 (gh12) (gxh12) (by omega) (by omega) (by omega) (by omega) (by omega) (by omega) (((my_up_role fh12 t0 (ix_8_1 t0) rfl).trans ((my_up_role fh8 t0 (ix_8_1 t0) rfl).trans ca0_0_23_0)).trans (by omega)) (by omega)
      refine w_iload gz_71_3 rfl ?_
      refine w_aload_n gz_71_5 rfl ?_
      refine v_getI (j := 0) gz_71_6 rfl t0 rd_8 rfl (fun v13 ev13 pv13 qv13 => ?_)
      have zv13 := ev13.trans ca0_0_3_0
      refine w_icge (t := 99) gz_71_9 rfl (fun u14 => ?_) (fun u14 => ?_)
      ·
        refine w_aload_n gz_71_99 rfl ?_
        refine w_iload_n gz_71_100 rfl ?_
        refine v_putI (j := 1) gz_71_101 rfl t0 rd_8 rfl (by omega) (by omega) rfl (fun h15 fh15 => ?_)
        have gh15 : my_fr [(8, 1), (42, -1)] h h15 := my_fr.up gh_3_0 t0 fh15 rfl
        have gxh15 : my_fx x0 3 h h15 := my_fx.up gx_3_0 fh15 (by omega)
        have ce16 : h15 x0 0 = v13 := ((my_up_fld fh15 (by decide)).trans ev13.symm)
        have ce17 : h15 x0 1 = x3 := (my_up_self fh15)
        have c18 := (my_up_self fh15)
        exact w_vret gz_71_104 gm_71 (k0 h15 (gh15) (gxh15) (by omega) (by omega) (by first | assumption | omega | (subst_vars; omega)) (by first | assumption | omega | (subst_vars; omega)))
      ·
        refine w_aload_n gz_71_12 rfl ?_
        refine w_iload gz_71_13 rfl ?_
        refine w_bipush gz_71_15 (by decide) ?_
        refine w_inv (k := 0) (as := [(0, 11), (0, p3_0)]) (r := []) (x := x0) (ls0 := [(2, x0), (0, p3_0), (0, 11)]) gz_71_17 gm_72 rfl t0 rd_8 rfl rfl rfl rfl rfl ?_
        refine w_iload_n gz_72_0 rfl ?_
        refine w_iload_n gz_72_1 rfl ?_
        refine w_iceq (t := 26) gz_72_2 rfl (fun u19 => by exfalso; omega) (fun u19 => ?_)
        refine w_aload_n gz_72_5 rfl ?_
        refine w_getX (v := (x0 + 1)) gz_72_6 t0 rd_8 rfl (by decide) rfl ?_
        refine w_iload_n gz_72_9 rfl ?_
        refine w_bipush gz_72_10 (by decide) ?_
        refine w_imul gz_72_12 ⟨by omega, by omega⟩ ?_
        refine w_aload_n gz_72_13 rfl ?_
        refine w_getX (v := (x0 + 1)) gz_72_14 t0 rd_8 rfl (by decide) rfl ?_
        refine w_iload_n gz_72_17 rfl ?_
        refine w_bipush gz_72_18 (by decide) ?_
        refine w_imul gz_72_20 ⟨by omega, by omega⟩ ?_
        refine w_bipush gz_72_21 (by decide) ?_
        refine w_cpG gz_72_23 (ix_8_1 t0) rd_42 (ix_8_1 t0) rd_42 (by omega) (by omega) (by omega) (by omega) (by omega) rfl (by omega) (fun h22 fh22 => ?_)
        have gh22 : my_fr [(8, 1), (42, -1)] h h22 := my_fr.cp gh_3_0 (ix_8_1 t0) fh22 rfl
        have gxh22 : my_fx x0 3 h h22 := my_fx.cp gx_3_0 fh22 (by omega)
        refine w_vret gz_72_26 gm_72 ?_
        show wp l rho (d + 2) 71 20 [(2, x0), (2, 119), (0, 0), (0, x3), (0, p3_0), (9, 0), (9, 0)] [] h22 Q
        refine w_iconst gz_71_20 (by decide) ?_
        refine w_istore (ls' := [(2, x0), (2, 119), (0, 0), (0, x3), (0, p3_0), (0, 0), (9, 0)]) gz_71_21 gm_71 rfl rfl rfl ?_
        exact J23_0 5 (0) h22 (gh22) (gxh22) (by omega) (by omega) (by omega) (by omega) (by omega) (by omega) (((my_cp_role fh22 t0 (ix_8_1 t0) rfl).trans ev13.symm).trans (by omega)) (by omega)
  refine w_iconst gz_71_0 (by decide) ?_
  refine w_istore (ls' := [(2, x0), (2, 119), (0, 0), (0, x3), (0, 0), (9, 0), (9, 0)]) gz_71_1 gm_71 rfl rfl rfl ?_
  exact J3_0 12 (0) h (my_fr.rf) (my_fx.rf) (by omega) (by omega) (by omega) (eka0_0.symm.trans (by omega)) (by omega)
theorem c_View_join {l : Launch} {rho : Nat → Int32} {d : Nat} {h : my_H} {Q : my_H → my_V → Prop} {x0 x1 x2 x3 x4 : Int} (t0 : my_is 8 x0) (t1 : my_is 6 x1) (a2 : 0 ≤ x2) (b2 : x2 ≤ 2) (m2_0 : 0 ≤ x2 % 17) (m2_1 : x2 % 17 ≤ 2) (a3 : 1 ≤ x3) (b3 : x3 ≤ 4) (m3_0 : 1 ≤ x3 % 17) (m3_1 : x3 % 17 ≤ 4) (a4 : 0 ≤ x4) (b4 : x4 ≤ 7) (m4_0 : 0 ≤ x4 % 17) (m4_1 : x4 % 17 ≤ 7) (hj : h x0 1 + x3 ≤ 9) (k0 : ∀ (h' : my_H), my_fr [(8, 0), (8, 1), (42, -1), (44, -1)] h h' → my_fx x0 3 h h' → h' x0 0 ≤ h x0 0 → h' x0 1 = h x0 1 + x3 - 1 → Q h' (9, 0)) : wp l rho (d + 2) 73 0 [(2, x0), (2, x1), (0, x2), (0, x3), (0, x4), (9, 0), (9, 0), (9, 0)] [] h Q := by
  refine v_know (x := x0) (j := 0) (b := 0) rfl t0 rd_8 rfl (fun ka0_0 eka0_0 pka0_0 qka0_0 => ?_)
  refine v_know (x := x0) (j := 1) (b := 1) rfl t0 rd_8 rfl (fun ka0_1 eka0_1 pka0_1 qka0_1 => ?_)
  have J6_0 : ∀ (n : Nat) (p6_0 p6_1 : Int) (h6_0 : my_H), my_fr [(8, 0), (8, 1), (42, -1), (44, -1)] h h6_0 → my_fx x0 3 h h6_0 → 0 ≤ p6_0 → p6_0 ≤ 11 → 0 ≤ p6_1 → p6_1 ≤ 11 → p6_0 ≤ p6_1 → p6_0 ≤ ka0_0 → p6_1 ≤ ka0_0 → h6_0 x0 0 = ka0_0 → h6_0 x0 1 = ka0_1 → 12 - p6_1 ≤ (n : Int) → wp l rho (d + 2) 73 6 [(2, x0), (2, x1), (0, x2), (0, x3), (0, x4), (0, p6_0), (0, p6_1), (9, 0)] [] h6_0 Q := by
    intro n
    induction n with
    | zero => intro p6_0 p6_1 h6_0 gh_6_0 gx_6_0 q0_6_0 q1_6_0 q2_6_0 q3_6_0 q4_6_0 q5_6_0 q6_6_0 ca0_0_6_0 ca0_1_6_0 hm_6_0; exfalso; omega
    | succ n ih_6_0 =>
      intro p6_0 p6_1 h6_0 gh_6_0 gx_6_0 q0_6_0 q1_6_0 q2_6_0 q3_6_0 q4_6_0 q5_6_0 q6_6_0 ca0_0_6_0 ca0_1_6_0 hm_6_0
      have J95_0 : ∀ (p95_0 p95_1 : Int) (h95_0 : my_H), my_fr [(8, 0), (8, 1), (42, -1), (44, -1)] h h95_0 → my_fx x0 3 h h95_0 → 0 ≤ p95_0 → p95_0 ≤ 11 → p6_1 ≤ 10 → 1 ≤ ka0_0 → p6_0 ≤ 10 → p95_0 ≤ (p6_1 + 1) → p95_0 ≤ ka0_0 → p95_0 ≤ (p6_0 + 1) → p6_1 ≤ (ka0_0 - 1) → p6_0 ≤ p95_0 → p6_0 ≤ p6_1 → p6_0 ≤ (ka0_0 - 1) → h95_0 x0 0 = ka0_0 → h95_0 x0 1 = ka0_1 → wp l rho (d + 2) 73 95 [(2, x0), (2, x1), (0, x2), (0, x3), (0, x4), (0, p95_0), (0, p6_1), (0, p95_1)] [] h95_0 Q := by
        intro p95_0 p95_1 h95_0 gh_95_0 gx_95_0 q0_95_0 q1_95_0 q2_95_0 q3_95_0 q4_95_0 q5_95_0 q6_95_0 q7_95_0 q8_95_0 q9_95_0 q10_95_0 q11_95_0 ca0_0_95_0 ca0_1_95_0
        refine w_iinc (ls' := [(2, x0), (2, x1), (0, x2), (0, x3), (0, x4), (0, p95_0), (0, (p6_1 + 1)), (0, p95_1)]) gz_73_95 rfl gm_73 rfl rfl rfl ⟨by omega, by omega⟩ ?_
        refine w_goto (t := 6) gz_73_98 rfl ?_
        refine w_weak (ls' := [(2, x0), (2, x1), (0, x2), (0, x3), (0, x4), (0, p95_0), (0, (p6_1 + 1)), (9, 0)]) (wk_e (wk_e (wk_e (wk_e (wk_e (wk_e (wk_e (wk_9 wk_n)))))))) ?_
        exact ih_6_0 (p95_0) ((p6_1 + 1)) h95_0 (gh_95_0) (gx_95_0) (by omega) (by omega) (by omega) (by omega) (by omega) (by omega) (by omega) (ca0_0_95_0.trans (by omega)) (ca0_1_95_0.trans (by omega)) (by omega)
      refine w_iload gz_73_6 rfl ?_
      refine w_aload_n gz_73_8 rfl ?_
      refine v_getI (j := 0) gz_73_9 rfl t0 rd_8 rfl (fun v1 ev1 pv1 qv1 => ?_)
      have zv1 := ev1.trans ca0_0_6_0
      refine w_icge (t := 101) gz_73_12 rfl (fun u2 => ?_) (fun u2 => ?_)
      ·
        refine w_aload_n gz_73_101 rfl ?_
        refine w_iload gz_73_102 rfl ?_
        refine v_putI (j := 0) gz_73_104 rfl t0 rd_8 rfl (by omega) (by omega) rfl (fun h3 fh3 => ?_)
        have gh3 : my_fr [(8, 0), (8, 1), (42, -1), (44, -1)] h h3 := my_fr.up gh_6_0 t0 fh3 rfl
        have gxh3 : my_fx x0 3 h h3 := my_fx.up gx_6_0 fh3 (by omega)
        refine w_aload_n gz_73_107 rfl ?_
        refine w_dup gz_73_108 rfl ?_
        refine v_getI (j := 1) gz_73_109 rfl t0 rd_8 rfl (fun v4 ev4 pv4 qv4 => ?_)
        have zv4 := ev4.trans ((my_up_fld fh3 (by decide)).trans ca0_1_6_0)
        refine w_iload_n gz_73_112 rfl ?_
        refine w_iconst gz_73_113 (by decide) ?_
        refine w_isub gz_73_114 ⟨by omega, by omega⟩ ?_
        refine w_iadd gz_73_115 ⟨by omega, by omega⟩ ?_
        have hi5 : 0 ≤ (v4 + (x3 - 1)) := by omega
        have hi6 : (v4 + (x3 - 1)) ≤ 8 := by omega
        refine v_putI (j := 1) gz_73_116 rfl t0 rd_8 rfl (by omega) (by omega) rfl (fun h7 fh7 => ?_)
        have gh7 : my_fr [(8, 0), (8, 1), (42, -1), (44, -1)] h h7 := my_fr.up gh3 t0 fh7 rfl
        have gxh7 : my_fx x0 3 h h7 := my_fx.up gxh3 fh7 (by omega)
        have ce8 : h7 x0 0 = p6_0 := ((my_up_fld fh7 (by decide)).trans (my_up_self fh3))
        have ce9 : h7 x0 1 = (v4 + (x3 - 1)) := (my_up_self fh7)
        exact w_vret gz_73_119 gm_73 (k0 h7 (gh7) (gxh7) (by first | assumption | omega | (subst_vars; omega)) (by first | assumption | omega | (subst_vars; omega)))
      ·
        refine w_aload_n gz_73_15 rfl ?_
        refine w_iload gz_73_16 rfl ?_
        refine w_iload gz_73_18 rfl ?_
        refine w_inv (k := 0) (as := [(0, x4), (0, p6_1)]) (r := []) (x := x0) (ls0 := [(2, x0), (0, p6_1), (0, x4)]) gz_73_20 gm_74 rfl t0 rd_8 rfl rfl rfl rfl rfl ?_
        refine w_aload_n gz_74_0 rfl ?_
        refine w_getX (v := (x0 + 1)) gz_74_1 t0 rd_8 rfl (by decide) rfl ?_
        refine w_iload_n gz_74_4 rfl ?_
        refine w_bipush gz_74_5 (by decide) ?_
        refine w_imul gz_74_7 ⟨by omega, by omega⟩ ?_
        refine w_iload_n gz_74_8 rfl ?_
        refine w_iadd gz_74_9 ⟨by omega, by omega⟩ ?_
        refine w_gldA gz_74_10 (ix_8_1 t0) rd_42 (by omega) (by omega) (fun v11 ev11 pv11 qv11 => ?_)
        refine w_iret gz_74_11 gm_74 ?_
        show wp l rho (d + 2) 73 23 [(2, x0), (2, x1), (0, x2), (0, x3), (0, x4), (0, p6_0), (0, p6_1), (9, 0)] [(0, v11)] h6_0 Q
        refine w_istore (ls' := [(2, x0), (2, x1), (0, x2), (0, x3), (0, x4), (0, p6_0), (0, p6_1), (0, v11)]) gz_73_23 gm_73 rfl rfl rfl ?_
        refine w_aload_n gz_73_25 rfl ?_
        refine w_iload_n gz_73_26 rfl ?_
        refine w_iload gz_73_27 rfl ?_
        refine w_inv (k := 0) (as := [(0, v11), (0, x2)]) (r := []) (x := x1) (ls0 := [(2, x1), (0, x2), (0, v11)]) gz_73_29 gm_15 rfl t1 rd_6 rfl rfl rfl rfl rfl ?_
        refine w_iload_n gz_15_0 rfl ?_
        refine w_iflt (t := 31) gz_15_1 rfl (fun u12 => ?_) (fun u12 => ?_)
        ·
          refine w_iconst gz_15_31 (by decide) ?_
          refine w_bret gz_15_32 gm_15 (by omega) (by omega) ?_
          show wp l rho (d + 2) 73 32 [(2, x0), (2, x1), (0, x2), (0, x3), (0, x4), (0, p6_0), (0, p6_1), (0, v11)] [(0, 0)] h6_0 Q
          refine w_ifeq (t := 95) gz_73_32 rfl (fun u13 => ?_) (fun u13 => by exfalso; omega)
          exact J95_0 (p6_0) (v11) h6_0 (gh_6_0) (gx_6_0) (by omega) (by omega) (by omega) (by omega) (by omega) (by omega) (by omega) (by omega) (by omega) (by omega) (by omega) (by omega) (ev1.symm.trans (by omega)) (ca0_1_6_0.trans (by omega))
        ·
          refine w_iload_n gz_15_4 rfl ?_
          refine w_bipush gz_15_5 (by decide) ?_
          refine w_icge (t := 31) gz_15_7 rfl (fun u14 => ?_) (fun u14 => ?_)
          ·
            refine w_iconst gz_15_31 (by decide) ?_
            refine w_bret gz_15_32 gm_15 (by omega) (by omega) ?_
            show wp l rho (d + 2) 73 32 [(2, x0), (2, x1), (0, x2), (0, x3), (0, x4), (0, p6_0), (0, p6_1), (0, v11)] [(0, 0)] h6_0 Q
            refine w_ifeq (t := 95) gz_73_32 rfl (fun u15 => ?_) (fun u15 => by exfalso; omega)
            exact J95_0 (p6_0) (v11) h6_0 (gh_6_0) (gx_6_0) (by omega) (by omega) (by omega) (by omega) (by omega) (by omega) (by omega) (by omega) (by omega) (by omega) (by omega) (by omega) (ev1.symm.trans (by omega)) (ca0_1_6_0.trans (by omega))
          ·
            refine w_aload_n gz_15_10 rfl ?_
            refine w_getX (v := (x1 + 1)) gz_15_11 t1 rd_6 rfl (by decide) rfl ?_
            refine w_iload_n gz_15_14 rfl ?_
            refine w_bipush gz_15_15 (by decide) ?_
            refine w_imul gz_15_17 ⟨by omega, by omega⟩ ?_
            refine w_iload_n gz_15_18 rfl ?_
            refine w_iadd gz_15_19 ⟨by omega, by omega⟩ ?_
            refine w_iconst gz_15_20 (by decide) ?_
            refine w_imul gz_15_21 ⟨by omega, by omega⟩ ?_
            refine w_iald gz_15_22 (ix_6_1 t1) rd_30 (by omega) (by omega) (fun v17 ev17 pv17 qv17 => ?_)
            refine w_iconst gz_15_23 (by decide) ?_
            refine w_iceq (t := 31) gz_15_24 rfl (fun u18 => ?_) (fun u18 => ?_)
            ·
              refine w_iconst gz_15_31 (by decide) ?_
              refine w_bret gz_15_32 gm_15 (by omega) (by omega) ?_
              show wp l rho (d + 2) 73 32 [(2, x0), (2, x1), (0, x2), (0, x3), (0, x4), (0, p6_0), (0, p6_1), (0, v11)] [(0, 0)] h6_0 Q
              refine w_ifeq (t := 95) gz_73_32 rfl (fun u19 => ?_) (fun u19 => by exfalso; omega)
              exact J95_0 (p6_0) (v11) h6_0 (gh_6_0) (gx_6_0) (by omega) (by omega) (by omega) (by omega) (by omega) (by omega) (by omega) (by omega) (by omega) (by omega) (by omega) (by omega) (ev1.symm.trans (by omega)) (ca0_1_6_0.trans (by omega))
            ·
              refine w_iconst gz_15_27 (by decide) ?_
              refine w_goto (t := 32) gz_15_28 rfl ?_
              refine w_bret gz_15_32 gm_15 (by omega) (by omega) ?_
              show wp l rho (d + 2) 73 32 [(2, x0), (2, x1), (0, x2), (0, x3), (0, x4), (0, p6_0), (0, p6_1), (0, v11)] [(0, 1)] h6_0 Q
              refine w_ifeq (t := 95) gz_73_32 rfl (fun u20 => by exfalso; omega) (fun u20 => ?_)
              refine w_aload_n gz_73_35 rfl ?_
              refine w_iload gz_73_36 rfl ?_
              refine w_iload gz_73_38 rfl ?_
              refine w_inv (k := 0) (as := [(0, p6_0), (0, p6_1)]) (r := []) (x := x0) (ls0 := [(2, x0), (0, p6_1), (0, p6_0)]) gz_73_40 gm_72 rfl t0 rd_8 rfl rfl rfl rfl rfl ?_
              refine w_iload_n gz_72_0 rfl ?_
              refine w_iload_n gz_72_1 rfl ?_
              refine w_iceq (t := 26) gz_72_2 rfl (fun u21 => ?_) (fun u21 => ?_)
              ·
                refine w_vret gz_72_26 gm_72 ?_
                show wp l rho (d + 2) 73 43 [(2, x0), (2, x1), (0, x2), (0, x3), (0, x4), (0, p6_0), (0, p6_1), (0, v11)] [] h6_0 Q
                refine w_aload_n gz_73_43 rfl ?_
                refine w_aload_n gz_73_44 rfl ?_
                refine w_iload_n gz_73_45 rfl ?_
                refine w_iload gz_73_46 rfl ?_
                refine w_inS (k := 0) (as := [(0, v11), (0, x2)]) (r := [(2, x1), (2, x0)]) (ls0 := [(0, x2), (0, v11)]) gz_73_48 gm_17 rfl rfl rfl rfl rfl rfl ?_
                refine w_iload_n gz_17_0 rfl ?_
                refine w_bipush gz_17_1 (by decide) ?_
                refine w_imul gz_17_3 ⟨by omega, by omega⟩ ?_
                refine w_iload_n gz_17_4 rfl ?_
                refine w_iadd gz_17_5 ⟨by omega, by omega⟩ ?_
                refine w_iconst gz_17_6 (by decide) ?_
                refine w_imul gz_17_7 ⟨by omega, by omega⟩ ?_
                refine w_iret gz_17_8 gm_17 ?_
                show wp l rho (d + 2) 73 51 [(2, x0), (2, x1), (0, x2), (0, x3), (0, x4), (0, p6_0), (0, p6_1), (0, v11)] [(0, (((x2 * 20) + v11) * 4)), (2, x1), (2, x0)] h6_0 Q
                refine w_iconst gz_73_51 (by decide) ?_
                refine w_iadd gz_73_52 ⟨by omega, by omega⟩ ?_
                refine w_iload gz_73_53 rfl ?_
                refine w_bipush gz_73_55 (by decide) ?_
                refine w_imul gz_73_57 ⟨by omega, by omega⟩ ?_
                refine w_aload_n gz_73_58 rfl ?_
                refine v_getI (j := 1) gz_73_59 rfl t0 rd_8 rfl (fun v22 ev22 pv22 qv22 => ?_)
                have zv22 := ev22.trans ca0_1_6_0
                refine w_iadd gz_73_62 ⟨by omega, by omega⟩ ?_
                refine w_iload_n gz_73_63 rfl ?_
                refine w_iconst gz_73_64 (by decide) ?_
                refine w_isub gz_73_65 ⟨by omega, by omega⟩ ?_
                have hi23 : 0 ≤ ((p6_0 * 17) + v22) := by omega
                have hi24 : ((p6_0 * 17) + v22) ≤ 186 := by omega
                refine w_inv (k := 1) (as := [(0, (x3 - 1)), (0, ((p6_0 * 17) + v22)), (0, ((((x2 * 20) + v11) * 4) + 1)), (2, x1)]) (r := []) (x := x0) (ls0 := [(2, x0), (2, x1), (0, ((((x2 * 20) + v11) * 4) + 1)), (0, ((p6_0 * 17) + v22)), (0, (x3 - 1)), (9, 0)]) gz_73_66 gm_70 rfl t0 rd_8 rfl rfl rfl rfl rfl (c_View_copyCells (d := (d + 1)) (x0 := x0) (x1 := x1) (x2 := ((((x2 * 20) + v11) * 4) + 1)) (x3 := ((p6_0 * 17) + v22)) (x4 := (x3 - 1)) t0 t1 (by omega) (by omega) (by omega) (by omega) (by omega) (by omega) (by omega) (by omega) (by omega) (by omega) (by first | assumption | omega | (subst_vars; omega)) (by first | assumption | omega | (subst_vars; omega)) (fun h25 frh25 fxh25 => ?_))
                have gh25 : my_fr [(8, 0), (8, 1), (42, -1), (44, -1)] h h25 := my_fr.tr gh_6_0 (frh25.mo rfl)
                have gxh25 : my_fx x0 3 h h25 := my_fx.tr gx_6_0 fxh25
                show wp l rho (d + 2) 73 69 [(2, x0), (2, x1), (0, x2), (0, x3), (0, x4), (0, p6_0), (0, p6_1), (0, v11)] [] h25 Q
                refine w_aload_n gz_73_69 rfl ?_
                refine w_getX (v := (x0 + 3)) gz_73_70 t0 rd_8 rfl (by decide) rfl ?_
                refine w_aload_n gz_73_73 rfl ?_
                refine w_iload gz_73_74 rfl ?_
                refine w_inv (k := 0) (as := [(0, p6_0)]) (r := [(2, (x0 + 3))]) (x := x0) (ls0 := [(2, x0), (0, p6_0)]) gz_73_76 gm_75 rfl t0 rd_8 rfl rfl rfl rfl rfl ?_
                refine w_aload_n gz_75_0 rfl ?_
                refine w_getX (v := (x0 + 1)) gz_75_1 t0 rd_8 rfl (by decide) rfl ?_
                refine w_iload_n gz_75_4 rfl ?_
                refine w_bipush gz_75_5 (by decide) ?_
                refine w_imul gz_75_7 ⟨by omega, by omega⟩ ?_
                refine w_bipush gz_75_8 (by decide) ?_
                refine w_iadd gz_75_10 ⟨by omega, by omega⟩ ?_
                refine w_gldT gz_75_11 (ix_8_1 t0) rd_42 (by omega) (by omega) (by omega) (fun v28 ev28 pv28 qv28 => ?_)
                refine w_iret gz_75_12 gm_75 ?_
                show wp l rho (d + 2) 73 79 [(2, x0), (2, x1), (0, x2), (0, x3), (0, x4), (0, p6_0), (0, p6_1), (0, v11)] [(0, v28), (2, (x0 + 3))] h25 Q
                refine w_dup2 gz_73_79 rfl rfl ?_
                refine w_lald gz_73_80 (ix_8_3 t0) rd_44 (by omega) (by omega) (fun v29 ev29 pv29 => ?_)
                refine w_lconst gz_73_81 ?_
                refine w_iload_n gz_73_82 rfl ?_
                refine w_bipush gz_73_83 (by decide) ?_
                refine w_imul gz_73_85 ⟨by omega, by omega⟩ ?_
                refine w_iload gz_73_86 rfl ?_
                refine w_iadd gz_73_88 ⟨by omega, by omega⟩ ?_
                refine w_jshf gz_73_89 (fun _ => rfl) rfl (fun v30 pv30 => ?_)
                refine w_jany2 gz_73_90 (fun _ => rfl) rfl (fun v31 pv31 => ?_)
                refine w_last gz_73_91 (ix_8_3 t0) rd_44 (by omega) (by omega) (fun h32 fh32 => ?_)
                have gh32 : my_fr [(8, 0), (8, 1), (42, -1), (44, -1)] h h32 := my_fr.up gh25 (ix_8_3 t0) fh32 rfl
                have gxh32 : my_fx x0 3 h h32 := my_fx.up gxh25 fh32 (by omega)
                refine w_iinc (ls' := [(2, x0), (2, x1), (0, x2), (0, x3), (0, x4), (0, (p6_0 + 1)), (0, p6_1), (0, v11)]) gz_73_92 rfl gm_73 rfl rfl rfl ⟨by omega, by omega⟩ ?_
                exact J95_0 ((p6_0 + 1)) (v11) h32 (gh32) (gxh32) (by omega) (by omega) (by omega) (by omega) (by omega) (by omega) (by omega) (by omega) (by omega) (by omega) (by omega) (by omega) (((my_up_role fh32 t0 (ix_8_3 t0) rfl).trans ((my_fr.at frh25 t0 rfl).trans ev1.symm)).trans (by omega)) (((my_up_role fh32 t0 (ix_8_3 t0) rfl).trans ((my_fr.at frh25 t0 rfl).trans ev22.symm)).trans (by omega))
              ·
                refine w_aload_n gz_72_5 rfl ?_
                refine w_getX (v := (x0 + 1)) gz_72_6 t0 rd_8 rfl (by decide) rfl ?_
                refine w_iload_n gz_72_9 rfl ?_
                refine w_bipush gz_72_10 (by decide) ?_
                refine w_imul gz_72_12 ⟨by omega, by omega⟩ ?_
                refine w_aload_n gz_72_13 rfl ?_
                refine w_getX (v := (x0 + 1)) gz_72_14 t0 rd_8 rfl (by decide) rfl ?_
                refine w_iload_n gz_72_17 rfl ?_
                refine w_bipush gz_72_18 (by decide) ?_
                refine w_imul gz_72_20 ⟨by omega, by omega⟩ ?_
                refine w_bipush gz_72_21 (by decide) ?_
                refine w_cpG gz_72_23 (ix_8_1 t0) rd_42 (ix_8_1 t0) rd_42 (by omega) (by omega) (by omega) (by omega) (by omega) rfl (by omega) (fun h35 fh35 => ?_)
                have gh35 : my_fr [(8, 0), (8, 1), (42, -1), (44, -1)] h h35 := my_fr.cp gh_6_0 (ix_8_1 t0) fh35 rfl
                have gxh35 : my_fx x0 3 h h35 := my_fx.cp gx_6_0 fh35 (by omega)
                refine w_vret gz_72_26 gm_72 ?_
                show wp l rho (d + 2) 73 43 [(2, x0), (2, x1), (0, x2), (0, x3), (0, x4), (0, p6_0), (0, p6_1), (0, v11)] [] h35 Q
                refine w_aload_n gz_73_43 rfl ?_
                refine w_aload_n gz_73_44 rfl ?_
                refine w_iload_n gz_73_45 rfl ?_
                refine w_iload gz_73_46 rfl ?_
                refine w_inS (k := 0) (as := [(0, v11), (0, x2)]) (r := [(2, x1), (2, x0)]) (ls0 := [(0, x2), (0, v11)]) gz_73_48 gm_17 rfl rfl rfl rfl rfl rfl ?_
                refine w_iload_n gz_17_0 rfl ?_
                refine w_bipush gz_17_1 (by decide) ?_
                refine w_imul gz_17_3 ⟨by omega, by omega⟩ ?_
                refine w_iload_n gz_17_4 rfl ?_
                refine w_iadd gz_17_5 ⟨by omega, by omega⟩ ?_
                refine w_iconst gz_17_6 (by decide) ?_
                refine w_imul gz_17_7 ⟨by omega, by omega⟩ ?_
                refine w_iret gz_17_8 gm_17 ?_
                show wp l rho (d + 2) 73 51 [(2, x0), (2, x1), (0, x2), (0, x3), (0, x4), (0, p6_0), (0, p6_1), (0, v11)] [(0, (((x2 * 20) + v11) * 4)), (2, x1), (2, x0)] h35 Q
                refine w_iconst gz_73_51 (by decide) ?_
                refine w_iadd gz_73_52 ⟨by omega, by omega⟩ ?_
                refine w_iload gz_73_53 rfl ?_
                refine w_bipush gz_73_55 (by decide) ?_
                refine w_imul gz_73_57 ⟨by omega, by omega⟩ ?_
                refine w_aload_n gz_73_58 rfl ?_
                refine v_getI (j := 1) gz_73_59 rfl t0 rd_8 rfl (fun v36 ev36 pv36 qv36 => ?_)
                have zv36 := ev36.trans ((my_cp_role fh35 t0 (ix_8_1 t0) rfl).trans ca0_1_6_0)
                refine w_iadd gz_73_62 ⟨by omega, by omega⟩ ?_
                refine w_iload_n gz_73_63 rfl ?_
                refine w_iconst gz_73_64 (by decide) ?_
                refine w_isub gz_73_65 ⟨by omega, by omega⟩ ?_
                have hi37 : 0 ≤ ((p6_0 * 17) + v36) := by omega
                have hi38 : ((p6_0 * 17) + v36) ≤ 186 := by omega
                refine w_inv (k := 1) (as := [(0, (x3 - 1)), (0, ((p6_0 * 17) + v36)), (0, ((((x2 * 20) + v11) * 4) + 1)), (2, x1)]) (r := []) (x := x0) (ls0 := [(2, x0), (2, x1), (0, ((((x2 * 20) + v11) * 4) + 1)), (0, ((p6_0 * 17) + v36)), (0, (x3 - 1)), (9, 0)]) gz_73_66 gm_70 rfl t0 rd_8 rfl rfl rfl rfl rfl (c_View_copyCells (d := (d + 1)) (x0 := x0) (x1 := x1) (x2 := ((((x2 * 20) + v11) * 4) + 1)) (x3 := ((p6_0 * 17) + v36)) (x4 := (x3 - 1)) t0 t1 (by omega) (by omega) (by omega) (by omega) (by omega) (by omega) (by omega) (by omega) (by omega) (by omega) (by first | assumption | omega | (subst_vars; omega)) (by first | assumption | omega | (subst_vars; omega)) (fun h39 frh39 fxh39 => ?_))
                have gh39 : my_fr [(8, 0), (8, 1), (42, -1), (44, -1)] h h39 := my_fr.tr gh35 (frh39.mo rfl)
                have gxh39 : my_fx x0 3 h h39 := my_fx.tr gxh35 fxh39
                show wp l rho (d + 2) 73 69 [(2, x0), (2, x1), (0, x2), (0, x3), (0, x4), (0, p6_0), (0, p6_1), (0, v11)] [] h39 Q
                refine w_aload_n gz_73_69 rfl ?_
                refine w_getX (v := (x0 + 3)) gz_73_70 t0 rd_8 rfl (by decide) rfl ?_
                refine w_aload_n gz_73_73 rfl ?_
                refine w_iload gz_73_74 rfl ?_
                refine w_inv (k := 0) (as := [(0, p6_0)]) (r := [(2, (x0 + 3))]) (x := x0) (ls0 := [(2, x0), (0, p6_0)]) gz_73_76 gm_75 rfl t0 rd_8 rfl rfl rfl rfl rfl ?_
                refine w_aload_n gz_75_0 rfl ?_
                refine w_getX (v := (x0 + 1)) gz_75_1 t0 rd_8 rfl (by decide) rfl ?_
                refine w_iload_n gz_75_4 rfl ?_
                refine w_bipush gz_75_5 (by decide) ?_
                refine w_imul gz_75_7 ⟨by omega, by omega⟩ ?_
                refine w_bipush gz_75_8 (by decide) ?_
                refine w_iadd gz_75_10 ⟨by omega, by omega⟩ ?_
                refine w_gldT gz_75_11 (ix_8_1 t0) rd_42 (by omega) (by omega) (by omega) (fun v42 ev42 pv42 qv42 => ?_)
                refine w_iret gz_75_12 gm_75 ?_
                show wp l rho (d + 2) 73 79 [(2, x0), (2, x1), (0, x2), (0, x3), (0, x4), (0, p6_0), (0, p6_1), (0, v11)] [(0, v42), (2, (x0 + 3))] h39 Q
                refine w_dup2 gz_73_79 rfl rfl ?_
                refine w_lald gz_73_80 (ix_8_3 t0) rd_44 (by omega) (by omega) (fun v43 ev43 pv43 => ?_)
                refine w_lconst gz_73_81 ?_
                refine w_iload_n gz_73_82 rfl ?_
                refine w_bipush gz_73_83 (by decide) ?_
                refine w_imul gz_73_85 ⟨by omega, by omega⟩ ?_
                refine w_iload gz_73_86 rfl ?_
                refine w_iadd gz_73_88 ⟨by omega, by omega⟩ ?_
                refine w_jshf gz_73_89 (fun _ => rfl) rfl (fun v44 pv44 => ?_)
                refine w_jany2 gz_73_90 (fun _ => rfl) rfl (fun v45 pv45 => ?_)
                refine w_last gz_73_91 (ix_8_3 t0) rd_44 (by omega) (by omega) (fun h46 fh46 => ?_)
                have gh46 : my_fr [(8, 0), (8, 1), (42, -1), (44, -1)] h h46 := my_fr.up gh39 (ix_8_3 t0) fh46 rfl
                have gxh46 : my_fx x0 3 h h46 := my_fx.up gxh39 fh46 (by omega)
                refine w_iinc (ls' := [(2, x0), (2, x1), (0, x2), (0, x3), (0, x4), (0, (p6_0 + 1)), (0, p6_1), (0, v11)]) gz_73_92 rfl gm_73 rfl rfl rfl ⟨by omega, by omega⟩ ?_
                exact J95_0 ((p6_0 + 1)) (v11) h46 (gh46) (gxh46) (by omega) (by omega) (by omega) (by omega) (by omega) (by omega) (by omega) (by omega) (by omega) (by omega) (by omega) (by omega) (((my_up_role fh46 t0 (ix_8_3 t0) rfl).trans ((my_fr.at frh39 t0 rfl).trans ((my_cp_role fh35 t0 (ix_8_1 t0) rfl).trans ev1.symm))).trans (by omega)) (((my_up_role fh46 t0 (ix_8_3 t0) rfl).trans ((my_fr.at frh39 t0 rfl).trans ev36.symm)).trans (by omega))
  refine w_iconst gz_73_0 (by decide) ?_
  refine w_istore (ls' := [(2, x0), (2, x1), (0, x2), (0, x3), (0, x4), (0, 0), (9, 0), (9, 0)]) gz_73_1 gm_73 rfl rfl rfl ?_
  refine w_iconst gz_73_3 (by decide) ?_
  refine w_istore (ls' := [(2, x0), (2, x1), (0, x2), (0, x3), (0, x4), (0, 0), (0, 0), (9, 0)]) gz_73_4 gm_73 rfl rfl rfl ?_
  exact J6_0 12 (0) (0) h (my_fr.rf) (my_fx.rf) (by omega) (by omega) (by omega) (by omega) (by omega) (by omega) (by omega) (eka0_0.symm.trans (by omega)) (eka0_1.symm.trans (by omega)) (by omega)
theorem c_View_sum {l : Launch} {rho : Nat → Int32} {d : Nat} {h : my_H} {Q : my_H → my_V → Prop} {x0 x1 x2 : Int} (t0 : my_is 8 x0) (a1 : 0 ≤ x1) (b1 : x1 ≤ 7) (m1_0 : 0 ≤ x1 % 17) (m1_1 : x1 % 17 ≤ 7) (a2 : 0 ≤ x2) (b2 : x2 ≤ 7) (m2_0 : 0 ≤ x2 % 17) (m2_1 : x2 % 17 ≤ 7) (k0 : ∀ (h' : my_H), my_fr [(8, 0), (8, 1), (42, -1)] h h' → my_fx x0 3 h h' → h' x0 1 = 2 → h' x0 0 ≤ h x0 0 → h' x0 1 = 2 → Q h' (9, 0)) : wp l rho (d + 1) 76 0 [(2, x0), (0, x1), (0, x2), (9, 0), (9, 0), (9, 0), (9, 0), (9, 0), (9, 0)] [] h Q := by
  refine v_know (x := x0) (j := 0) (b := 0) rfl t0 rd_8 rfl (fun ka0_0 eka0_0 pka0_0 qka0_0 => ?_)
  have J5_0 : ∀ (n : Nat) (p5_0 p5_1 : Int) (h5_0 : my_H), my_fr [(8, 0), (8, 1), (42, -1)] h h5_0 → my_fx x0 3 h h5_0 → 0 ≤ p5_0 → p5_0 ≤ 11 → 0 ≤ p5_1 → p5_1 ≤ 11 → p5_0 ≤ p5_1 → p5_0 ≤ ka0_0 → p5_1 ≤ ka0_0 → h5_0 x0 0 = ka0_0 → 12 - p5_1 ≤ (n : Int) → wp l rho (d + 1) 76 5 [(2, x0), (0, x1), (0, x2), (0, p5_0), (0, p5_1), (9, 0), (9, 0), (9, 0), (9, 0)] [] h5_0 Q := by
    intro n
    induction n with
    | zero => intro p5_0 p5_1 h5_0 gh_5_0 gx_5_0 q0_5_0 q1_5_0 q2_5_0 q3_5_0 q4_5_0 q5_5_0 q6_5_0 ca0_0_5_0 hm_5_0; exfalso; omega
    | succ n ih_5_0 =>
      intro p5_0 p5_1 h5_0 gh_5_0 gx_5_0 q0_5_0 q1_5_0 q2_5_0 q3_5_0 q4_5_0 q5_5_0 q6_5_0 ca0_0_5_0 hm_5_0
      have J147_0 : ∀ (p147_0 p147_1 p147_2 p147_3 p147_4 : Int) (h147_0 : my_H), my_fr [(8, 0), (8, 1), (42, -1)] h h147_0 → my_fx x0 3 h h147_0 → 1 ≤ p147_0 → p147_0 ≤ 11 → p5_1 ≤ 10 → 0 ≤ p147_3 → p147_3 ≤ 10 → 0 ≤ p147_4 → p147_4 ≤ 170 → 1 ≤ ka0_0 → p5_0 ≤ 10 → p147_0 ≤ (p147_3 + 10) → p147_0 ≤ (p5_1 + 1) → p147_0 ≤ ka0_0 → p147_0 ≤ (p5_0 + 1) → p147_3 ≤ (p147_0 - 1) → p147_3 ≤ p5_1 → p147_3 ≤ (ka0_0 - 1) → p147_3 ≤ p5_0 → p5_1 ≤ (ka0_0 - 1) → p5_0 ≤ p147_0 → p5_0 ≤ p5_1 → p5_0 ≤ (ka0_0 - 1) → h147_0 x0 0 = ka0_0 → wp l rho (d + 1) 76 147 [(2, x0), (0, x1), (0, x2), (0, p147_0), (0, p5_1), (0, p147_1), (0, p147_2), (0, p147_3), (0, p147_4)] [] h147_0 Q := by
        intro p147_0 p147_1 p147_2 p147_3 p147_4 h147_0 gh_147_0 gx_147_0 q0_147_0 q1_147_0 q2_147_0 q3_147_0 q4_147_0 q5_147_0 q6_147_0 q7_147_0 q8_147_0 q9_147_0 q10_147_0 q11_147_0 q12_147_0 q13_147_0 q14_147_0 q15_147_0 q16_147_0 q17_147_0 q18_147_0 q19_147_0 q20_147_0 ca0_0_147_0
        refine w_iinc (ls' := [(2, x0), (0, x1), (0, x2), (0, p147_0), (0, (p5_1 + 1)), (0, p147_1), (0, p147_2), (0, p147_3), (0, p147_4)]) gz_76_147 rfl gm_76 rfl rfl rfl ⟨by omega, by omega⟩ ?_
        refine w_goto (t := 5) gz_76_150 rfl ?_
        refine w_weak (ls' := [(2, x0), (0, x1), (0, x2), (0, p147_0), (0, (p5_1 + 1)), (9, 0), (9, 0), (9, 0), (9, 0)]) (wk_e (wk_e (wk_e (wk_e (wk_e (wk_9 (wk_9 (wk_9 (wk_9 wk_n))))))))) ?_
        exact ih_5_0 (p147_0) ((p5_1 + 1)) h147_0 (gh_147_0) (gx_147_0) (by omega) (by omega) (by omega) (by omega) (by omega) (by omega) (by omega) (ca0_0_147_0.trans (by omega)) (by omega)
      have J59_0 : ∀ (p59_0 p59_1 p59_2 : Int) (h59_0 : my_H), my_fr [(8, 0), (8, 1), (42, -1)] h h59_0 → my_fx x0 3 h h59_0 → p5_0 ≤ 10 → p5_1 ≤ 10 → 0 ≤ p59_2 → p59_2 ≤ 10 → 1 ≤ ka0_0 → p59_2 ≤ p5_0 → p59_2 ≤ p5_1 → p59_2 ≤ (ka0_0 - 1) → p5_0 ≤ p5_1 → p5_0 ≤ (ka0_0 - 1) → p5_1 ≤ (ka0_0 - 1) → h59_0 x0 0 = ka0_0 → wp l rho (d + 1) 76 59 [(2, x0), (0, x1), (0, x2), (0, p5_0), (0, p5_1), (0, p59_0), (0, p59_1), (0, p59_2), (9, 0)] [] h59_0 Q := by
        intro p59_0 p59_1 p59_2 h59_0 gh_59_0 gx_59_0 q0_59_0 q1_59_0 q2_59_0 q3_59_0 q4_59_0 q5_59_0 q6_59_0 q7_59_0 q8_59_0 q9_59_0 q10_59_0 ca0_0_59_0
        refine w_iload gz_76_59 rfl ?_
        refine w_bipush gz_76_61 (by decide) ?_
        refine w_imul gz_76_63 ⟨by omega, by omega⟩ ?_
        refine w_istore (ls' := [(2, x0), (0, x1), (0, x2), (0, p5_0), (0, p5_1), (0, p59_0), (0, p59_1), (0, p59_2), (0, (p59_2 * 17))]) gz_76_64 gm_76 rfl rfl rfl ?_
        refine w_iload gz_76_66 rfl ?_
        refine w_iload_n gz_76_68 rfl ?_
        refine w_icge (t := 89) gz_76_69 rfl (fun u1 => ?_) (fun u1 => ?_)
        ·
          refine w_aload_n gz_76_89 rfl ?_
          refine w_getX (v := (x0 + 1)) gz_76_90 t0 rd_8 rfl (by decide) rfl ?_
          refine w_iload gz_76_93 rfl ?_
          refine w_iload gz_76_95 rfl ?_
          refine w_gstV gz_76_97 (ix_8_1 t0) rd_42 (by omega) (by omega) (by omega) (fun h3 fh3 => ?_)
          have gh3 : my_fr [(8, 0), (8, 1), (42, -1)] h h3 := my_fr.up gh_59_0 (ix_8_1 t0) fh3 rfl
          have gxh3 : my_fx x0 3 h h3 := my_fx.up gx_59_0 fh3 (by omega)
          refine w_aload_n gz_76_98 rfl ?_
          refine w_getX (v := (x0 + 1)) gz_76_99 t0 rd_8 rfl (by decide) rfl ?_
          refine w_iload gz_76_102 rfl ?_
          refine w_iconst gz_76_104 (by decide) ?_
          refine w_iadd gz_76_105 ⟨by omega, by omega⟩ ?_
          refine w_iload gz_76_106 rfl ?_
          refine w_gstV gz_76_108 (ix_8_1 t0) rd_42 (by omega) (by omega) (by omega) (fun h5 fh5 => ?_)
          have gh5 : my_fr [(8, 0), (8, 1), (42, -1)] h h5 := my_fr.up gh3 (ix_8_1 t0) fh5 rfl
          have gxh5 : my_fx x0 3 h h5 := my_fx.up gxh3 fh5 (by omega)
          refine w_aload_n gz_76_109 rfl ?_
          refine w_getX (v := (x0 + 1)) gz_76_110 t0 rd_8 rfl (by decide) rfl ?_
          refine w_iload gz_76_113 rfl ?_
          refine w_bipush gz_76_115 (by decide) ?_
          refine w_iadd gz_76_117 ⟨by omega, by omega⟩ ?_
          refine w_iconst gz_76_118 (by decide) ?_
          refine w_gstS gz_76_119 (ix_8_1 t0) rd_42 (by omega) (by omega) (by omega) (by omega) (by omega) (by omega) (fun h7 fh7 => ?_)
          have gh7 : my_fr [(8, 0), (8, 1), (42, -1)] h h7 := my_fr.up gh5 (ix_8_1 t0) fh7 rfl
          have gxh7 : my_fx x0 3 h h7 := my_fx.up gxh5 fh7 (by omega)
          refine w_aload_n gz_76_120 rfl ?_
          refine w_getX (v := (x0 + 1)) gz_76_121 t0 rd_8 rfl (by decide) rfl ?_
          refine w_iload gz_76_124 rfl ?_
          refine w_bipush gz_76_126 (by decide) ?_
          refine w_iadd gz_76_128 ⟨by omega, by omega⟩ ?_
          refine w_iconst gz_76_129 (by decide) ?_
          refine w_iadd gz_76_130 ⟨by omega, by omega⟩ ?_
          refine w_iconst gz_76_131 (by decide) ?_
          refine w_gstS gz_76_132 (ix_8_1 t0) rd_42 (by omega) (by omega) (by omega) (by omega) (by omega) (by omega) (fun h9 fh9 => ?_)
          have gh9 : my_fr [(8, 0), (8, 1), (42, -1)] h h9 := my_fr.up gh7 (ix_8_1 t0) fh9 rfl
          have gxh9 : my_fx x0 3 h h9 := my_fx.up gxh7 fh9 (by omega)
          refine w_aload_n gz_76_133 rfl ?_
          refine w_getX (v := (x0 + 1)) gz_76_134 t0 rd_8 rfl (by decide) rfl ?_
          refine w_iload gz_76_137 rfl ?_
          refine w_bipush gz_76_139 (by decide) ?_
          refine w_iadd gz_76_141 ⟨by omega, by omega⟩ ?_
          refine w_iload_n gz_76_142 rfl ?_
          refine w_iinc (ls' := [(2, x0), (0, x1), (0, x2), (0, (p5_0 + 1)), (0, p5_1), (0, p59_0), (0, p59_1), (0, p59_2), (0, (p59_2 * 17))]) gz_76_143 rfl gm_76 rfl rfl rfl ⟨by omega, by omega⟩ ?_
          refine w_gstT gz_76_146 (ix_8_1 t0) rd_42 (by omega) (by omega) (by omega) (by omega) (by omega) (fun h11 fh11 => ?_)
          have gh11 : my_fr [(8, 0), (8, 1), (42, -1)] h h11 := my_fr.up gh9 (ix_8_1 t0) fh11 rfl
          have gxh11 : my_fx x0 3 h h11 := my_fx.up gxh9 fh11 (by omega)
          exact J147_0 ((p5_0 + 1)) (p59_0) (p59_1) (p59_2) ((p59_2 * 17)) h11 (gh11) (gxh11) (by omega) (by omega) (by omega) (by omega) (by omega) (by omega) (by omega) (by omega) (by omega) (by omega) (by omega) (by omega) (by omega) (by omega) (by omega) (by omega) (by omega) (by omega) (by omega) (by omega) (by omega) (((my_up_role fh11 t0 (ix_8_1 t0) rfl).trans ((my_up_role fh9 t0 (ix_8_1 t0) rfl).trans ((my_up_role fh7 t0 (ix_8_1 t0) rfl).trans ((my_up_role fh5 t0 (ix_8_1 t0) rfl).trans ((my_up_role fh3 t0 (ix_8_1 t0) rfl).trans ca0_0_59_0))))).trans (by omega))
        ·
          refine w_aload_n gz_76_72 rfl ?_
          refine w_getX (v := (x0 + 1)) gz_76_73 t0 rd_8 rfl (by decide) rfl ?_
          refine w_iload gz_76_76 rfl ?_
          refine w_iconst gz_76_78 (by decide) ?_
          refine w_iadd gz_76_79 ⟨by omega, by omega⟩ ?_
          refine w_dup2 gz_76_80 rfl rfl ?_
          refine w_gldA gz_76_81 (ix_8_1 t0) rd_42 (by omega) (by omega) (fun v13 ev13 pv13 qv13 => ?_)
          refine w_iload gz_76_82 rfl ?_
          refine w_ianyA gz_76_84 (fun v14 pv14 qv14 => ?_)
          refine w_gstV gz_76_85 (ix_8_1 t0) rd_42 (by omega) (by omega) (by omega) (fun h15 fh15 => ?_)
          have gh15 : my_fr [(8, 0), (8, 1), (42, -1)] h h15 := my_fr.up gh_59_0 (ix_8_1 t0) fh15 rfl
          have gxh15 : my_fx x0 3 h h15 := my_fx.up gx_59_0 fh15 (by omega)
          refine w_goto (t := 147) gz_76_86 rfl ?_
          exact J147_0 (p5_0) (p59_0) (p59_1) (p59_2) ((p59_2 * 17)) h15 (gh15) (gxh15) (by omega) (by omega) (by omega) (by omega) (by omega) (by omega) (by omega) (by omega) (by omega) (by omega) (by omega) (by omega) (by omega) (by omega) (by omega) (by omega) (by omega) (by omega) (by omega) (by omega) (by omega) (((my_up_role fh15 t0 (ix_8_1 t0) rfl).trans ca0_0_59_0).trans (by omega))
      have J35_0 : ∀ (n : Nat) (p35_0 p35_1 p35_2 : Int) (h35_0 : my_H), my_fr [(8, 0), (8, 1), (42, -1)] h h35_0 → my_fx x0 3 h h35_0 → p5_0 ≤ 10 → p5_1 ≤ 10 → 0 ≤ p35_2 → p35_2 ≤ 10 → 1 ≤ ka0_0 → p35_2 ≤ p5_0 → p35_2 ≤ p5_1 → p35_2 ≤ (ka0_0 - 1) → p5_0 ≤ p5_1 → p5_0 ≤ (ka0_0 - 1) → p5_1 ≤ (ka0_0 - 1) → h35_0 x0 0 = ka0_0 → 11 - p35_2 ≤ (n : Int) → wp l rho (d + 1) 76 35 [(2, x0), (0, x1), (0, x2), (0, p5_0), (0, p5_1), (0, p35_0), (0, p35_1), (0, p35_2), (9, 0)] [] h35_0 Q := by
        intro n
        induction n with
        | zero => intro p35_0 p35_1 p35_2 h35_0 gh_35_0 gx_35_0 q0_35_0 q1_35_0 q2_35_0 q3_35_0 q4_35_0 q5_35_0 q6_35_0 q7_35_0 q8_35_0 q9_35_0 q10_35_0 ca0_0_35_0 hm_35_0; exfalso; omega
        | succ n ih_35_0 =>
          intro p35_0 p35_1 p35_2 h35_0 gh_35_0 gx_35_0 q0_35_0 q1_35_0 q2_35_0 q3_35_0 q4_35_0 q5_35_0 q6_35_0 q7_35_0 q8_35_0 q9_35_0 q10_35_0 ca0_0_35_0 hm_35_0
          refine w_iload gz_76_35 rfl ?_
          refine w_iload_n gz_76_37 rfl ?_
          refine w_icge (t := 59) gz_76_38 rfl (fun u16 => ?_) (fun u16 => ?_)
          ·
            exact J59_0 (p35_0) (p35_1) (p35_2) h35_0 (gh_35_0) (gx_35_0) (by omega) (by omega) (by omega) (by omega) (by omega) (by omega) (by omega) (by omega) (by omega) (by omega) (by omega) (ca0_0_35_0.trans (by omega))
          ·
            refine w_aload_n gz_76_41 rfl ?_
            refine w_iload gz_76_42 rfl ?_
            refine w_iconst gz_76_44 (by decide) ?_
            refine w_inv (k := 0) (as := [(0, 0), (0, p35_2)]) (r := []) (x := x0) (ls0 := [(2, x0), (0, p35_2), (0, 0)]) gz_76_45 gm_74 rfl t0 rd_8 rfl rfl rfl rfl rfl ?_
            refine w_aload_n gz_74_0 rfl ?_
            refine w_getX (v := (x0 + 1)) gz_74_1 t0 rd_8 rfl (by decide) rfl ?_
            refine w_iload_n gz_74_4 rfl ?_
            refine w_bipush gz_74_5 (by decide) ?_
            refine w_imul gz_74_7 ⟨by omega, by omega⟩ ?_
            refine w_iload_n gz_74_8 rfl ?_
            refine w_iadd gz_74_9 ⟨by omega, by omega⟩ ?_
            refine w_gldA gz_74_10 (ix_8_1 t0) rd_42 (by omega) (by omega) (fun v18 ev18 pv18 qv18 => ?_)
            refine w_iret gz_74_11 gm_74 ?_
            show wp l rho (d + 1) 76 48 [(2, x0), (0, x1), (0, x2), (0, p5_0), (0, p5_1), (0, p35_0), (0, p35_1), (0, p35_2), (9, 0)] [(0, v18)] h35_0 Q
            refine w_iload gz_76_48 rfl ?_
            refine w_iceq (t := 59) gz_76_50 rfl (fun u19 => ?_) (fun u19 => ?_)
            ·
              exact J59_0 (p35_0) (p35_1) (p35_2) h35_0 (gh_35_0) (gx_35_0) (by omega) (by omega) (by omega) (by omega) (by omega) (by omega) (by omega) (by omega) (by omega) (by omega) (by omega) (ca0_0_35_0.trans (by omega))
            ·
              refine w_iinc (ls' := [(2, x0), (0, x1), (0, x2), (0, p5_0), (0, p5_1), (0, p35_0), (0, p35_1), (0, (p35_2 + 1)), (9, 0)]) gz_76_53 rfl gm_76 rfl rfl rfl ⟨by omega, by omega⟩ ?_
              refine w_goto (t := 35) gz_76_56 rfl ?_
              exact ih_35_0 (p35_0) (p35_1) ((p35_2 + 1)) h35_0 (gh_35_0) (gx_35_0) (by omega) (by omega) (by omega) (by omega) (by omega) (by omega) (by omega) (by omega) (by omega) (by omega) (by omega) (ca0_0_35_0.trans (by omega)) (by omega)
      refine w_iload gz_76_5 rfl ?_
      refine w_aload_n gz_76_7 rfl ?_
      refine v_getI (j := 0) gz_76_8 rfl t0 rd_8 rfl (fun v20 ev20 pv20 qv20 => ?_)
      have zv20 := ev20.trans ca0_0_5_0
      refine w_icge (t := 153) gz_76_11 rfl (fun u21 => ?_) (fun u21 => ?_)
      ·
        refine w_aload_n gz_76_153 rfl ?_
        refine w_iload_n gz_76_154 rfl ?_
        refine v_putI (j := 0) gz_76_155 rfl t0 rd_8 rfl (by omega) (by omega) rfl (fun h22 fh22 => ?_)
        have gh22 : my_fr [(8, 0), (8, 1), (42, -1)] h h22 := my_fr.up gh_5_0 t0 fh22 rfl
        have gxh22 : my_fx x0 3 h h22 := my_fx.up gx_5_0 fh22 (by omega)
        refine w_aload_n gz_76_158 rfl ?_
        refine w_iconst gz_76_159 (by decide) ?_
        refine v_putI (j := 1) gz_76_160 rfl t0 rd_8 rfl (by omega) (by omega) rfl (fun h23 fh23 => ?_)
        have gh23 : my_fr [(8, 0), (8, 1), (42, -1)] h h23 := my_fr.up gh22 t0 fh23 rfl
        have gxh23 : my_fx x0 3 h h23 := my_fx.up gxh22 fh23 (by omega)
        have ce24 : h23 x0 0 = p5_0 := ((my_up_fld fh23 (by decide)).trans (my_up_self fh22))
        have ce25 : h23 x0 1 = 2 := (my_up_self fh23)
        have c26 := (my_up_self fh23)
        exact w_vret gz_76_163 gm_76 (k0 h23 (gh23) (gxh23) (by omega) (by first | assumption | omega | (subst_vars; omega)) (by first | assumption | omega | (subst_vars; omega)))
      ·
        refine w_aload_n gz_76_14 rfl ?_
        refine w_iload gz_76_15 rfl ?_
        refine w_iload_n gz_76_17 rfl ?_
        refine w_inv (k := 0) (as := [(0, x2), (0, p5_1)]) (r := []) (x := x0) (ls0 := [(2, x0), (0, p5_1), (0, x2)]) gz_76_18 gm_74 rfl t0 rd_8 rfl rfl rfl rfl rfl ?_
        refine w_aload_n gz_74_0 rfl ?_
        refine w_getX (v := (x0 + 1)) gz_74_1 t0 rd_8 rfl (by decide) rfl ?_
        refine w_iload_n gz_74_4 rfl ?_
        refine w_bipush gz_74_5 (by decide) ?_
        refine w_imul gz_74_7 ⟨by omega, by omega⟩ ?_
        refine w_iload_n gz_74_8 rfl ?_
        refine w_iadd gz_74_9 ⟨by omega, by omega⟩ ?_
        refine w_gldA gz_74_10 (ix_8_1 t0) rd_42 (by omega) (by omega) (fun v28 ev28 pv28 qv28 => ?_)
        refine w_iret gz_74_11 gm_74 ?_
        show wp l rho (d + 1) 76 21 [(2, x0), (0, x1), (0, x2), (0, p5_0), (0, p5_1), (9, 0), (9, 0), (9, 0), (9, 0)] [(0, v28)] h5_0 Q
        refine w_istore (ls' := [(2, x0), (0, x1), (0, x2), (0, p5_0), (0, p5_1), (0, v28), (9, 0), (9, 0), (9, 0)]) gz_76_21 gm_76 rfl rfl rfl ?_
        refine w_aload_n gz_76_23 rfl ?_
        refine w_iload gz_76_24 rfl ?_
        refine w_iload_n gz_76_26 rfl ?_
        refine w_inv (k := 0) (as := [(0, x1), (0, p5_1)]) (r := []) (x := x0) (ls0 := [(2, x0), (0, p5_1), (0, x1)]) gz_76_27 gm_74 rfl t0 rd_8 rfl rfl rfl rfl rfl ?_
        refine w_aload_n gz_74_0 rfl ?_
        refine w_getX (v := (x0 + 1)) gz_74_1 t0 rd_8 rfl (by decide) rfl ?_
        refine w_iload_n gz_74_4 rfl ?_
        refine w_bipush gz_74_5 (by decide) ?_
        refine w_imul gz_74_7 ⟨by omega, by omega⟩ ?_
        refine w_iload_n gz_74_8 rfl ?_
        refine w_iadd gz_74_9 ⟨by omega, by omega⟩ ?_
        refine w_gldA gz_74_10 (ix_8_1 t0) rd_42 (by omega) (by omega) (fun v30 ev30 pv30 qv30 => ?_)
        refine w_iret gz_74_11 gm_74 ?_
        show wp l rho (d + 1) 76 30 [(2, x0), (0, x1), (0, x2), (0, p5_0), (0, p5_1), (0, v28), (9, 0), (9, 0), (9, 0)] [(0, v30)] h5_0 Q
        refine w_istore (ls' := [(2, x0), (0, x1), (0, x2), (0, p5_0), (0, p5_1), (0, v28), (0, v30), (9, 0), (9, 0)]) gz_76_30 gm_76 rfl rfl rfl ?_
        refine w_iconst gz_76_32 (by decide) ?_
        refine w_istore (ls' := [(2, x0), (0, x1), (0, x2), (0, p5_0), (0, p5_1), (0, v28), (0, v30), (0, 0), (9, 0)]) gz_76_33 gm_76 rfl rfl rfl ?_
        exact J35_0 11 (v28) (v30) (0) h5_0 (gh_5_0) (gx_5_0) (by omega) (by omega) (by omega) (by omega) (by omega) (by omega) (by omega) (by omega) (by omega) (by omega) (by omega) (ev20.symm.trans (by omega)) (by omega)
  refine w_iconst gz_76_0 (by decide) ?_
  refine w_istore_n (ls' := [(2, x0), (0, x1), (0, x2), (0, 0), (9, 0), (9, 0), (9, 0), (9, 0), (9, 0)]) gz_76_1 gm_76 rfl rfl rfl ?_
  refine w_iconst gz_76_2 (by decide) ?_
  refine w_istore (ls' := [(2, x0), (0, x1), (0, x2), (0, 0), (0, 0), (9, 0), (9, 0), (9, 0), (9, 0)]) gz_76_3 gm_76 rfl rfl rfl ?_
  exact J5_0 12 (0) (0) h (my_fr.rf) (my_fx.rf) (by omega) (by omega) (by omega) (by omega) (by omega) (by omega) (by omega) (eka0_0.symm.trans (by omega)) (by omega)
theorem c_View_cut {l : Launch} {rho : Nat → Int32} {d : Nat} {h : my_H} {Q : my_H → my_V → Prop} {x0 x1 x2 x3 : Int} (t0 : my_is 8 x0) (a1 : 0 ≤ x1) (b1 : x1 ≤ 5) (m1_0 : 0 ≤ x1 % 17) (m1_1 : x1 % 17 ≤ 5) (a2 : 0 ≤ x2) (b2 : x2 ≤ 7) (m2_0 : 0 ≤ x2 % 17) (m2_1 : x2 % 17 ≤ 7) (a3 : 0 ≤ x3) (b3 : x3 ≤ 199) (k0 : ∀ (h' : my_H), my_fr [(8, 0), (42, -1)] h h' → my_fx x0 3 h h' → h' x0 0 ≤ h x0 0 → h' x0 1 = h x0 1 → Q h' (9, 0)) : wp l rho (d + 2) 77 0 [(2, x0), (0, x1), (0, x2), (0, x3), (9, 0), (9, 0)] [] h Q := by
  refine v_know (x := x0) (j := 0) (b := 0) rfl t0 rd_8 rfl (fun ka0_0 eka0_0 pka0_0 qka0_0 => ?_)
  refine v_know (x := x0) (j := 1) (b := 1) rfl t0 rd_8 rfl (fun ka0_1 eka0_1 pka0_1 qka0_1 => ?_)
  have J6_0 : ∀ (n : Nat) (p6_0 p6_1 : Int) (h6_0 : my_H), my_fr [(8, 0), (42, -1)] h h6_0 → my_fx x0 3 h h6_0 → 0 ≤ p6_0 → p6_0 ≤ 11 → 0 ≤ p6_1 → p6_1 ≤ 11 → p6_0 ≤ p6_1 → p6_0 ≤ ka0_0 → p6_1 ≤ ka0_0 → h6_0 x0 0 = ka0_0 → h6_0 x0 1 = ka0_1 → 12 - p6_1 ≤ (n : Int) → wp l rho (d + 2) 77 6 [(2, x0), (0, x1), (0, x2), (0, x3), (0, p6_0), (0, p6_1)] [] h6_0 Q := by
    intro n
    induction n with
    | zero => intro p6_0 p6_1 h6_0 gh_6_0 gx_6_0 q0_6_0 q1_6_0 q2_6_0 q3_6_0 q4_6_0 q5_6_0 q6_6_0 ca0_0_6_0 ca0_1_6_0 hm_6_0; exfalso; omega
    | succ n ih_6_0 =>
      intro p6_0 p6_1 h6_0 gh_6_0 gx_6_0 q0_6_0 q1_6_0 q2_6_0 q3_6_0 q4_6_0 q5_6_0 q6_6_0 ca0_0_6_0 ca0_1_6_0 hm_6_0
      have J41_0 : ∀ (p41_0 : Int) (h41_0 : my_H), my_fr [(8, 0), (42, -1)] h h41_0 → my_fx x0 3 h h41_0 → 0 ≤ p41_0 → p41_0 ≤ 11 → p6_1 ≤ 10 → 1 ≤ ka0_0 → p6_0 ≤ 10 → p41_0 ≤ (p6_1 + 1) → p41_0 ≤ ka0_0 → p41_0 ≤ (p6_0 + 1) → p6_1 ≤ (ka0_0 - 1) → p6_0 ≤ p41_0 → p6_0 ≤ p6_1 → p6_0 ≤ (ka0_0 - 1) → h41_0 x0 0 = ka0_0 → h41_0 x0 1 = ka0_1 → wp l rho (d + 2) 77 41 [(2, x0), (0, x1), (0, x2), (0, x3), (0, p41_0), (0, p6_1)] [] h41_0 Q := by
        intro p41_0 h41_0 gh_41_0 gx_41_0 q0_41_0 q1_41_0 q2_41_0 q3_41_0 q4_41_0 q5_41_0 q6_41_0 q7_41_0 q8_41_0 q9_41_0 q10_41_0 q11_41_0 ca0_0_41_0 ca0_1_41_0
        refine w_iinc (ls' := [(2, x0), (0, x1), (0, x2), (0, x3), (0, p41_0), (0, (p6_1 + 1))]) gz_77_41 rfl gm_77 rfl rfl rfl ⟨by omega, by omega⟩ ?_
        refine w_goto (t := 6) gz_77_44 rfl ?_
        exact ih_6_0 (p41_0) ((p6_1 + 1)) h41_0 (gh_41_0) (gx_41_0) (by omega) (by omega) (by omega) (by omega) (by omega) (by omega) (by omega) (ca0_0_41_0.trans (by omega)) (ca0_1_41_0.trans (by omega)) (by omega)
      refine w_iload gz_77_6 rfl ?_
      refine w_aload_n gz_77_8 rfl ?_
      refine v_getI (j := 0) gz_77_9 rfl t0 rd_8 rfl (fun v1 ev1 pv1 qv1 => ?_)
      have zv1 := ev1.trans ca0_0_6_0
      refine w_icge (t := 47) gz_77_12 rfl (fun u2 => ?_) (fun u2 => ?_)
      ·
        refine w_aload_n gz_77_47 rfl ?_
        refine w_iload gz_77_48 rfl ?_
        refine v_putI (j := 0) gz_77_50 rfl t0 rd_8 rfl (by omega) (by omega) rfl (fun h3 fh3 => ?_)
        have gh3 : my_fr [(8, 0), (42, -1)] h h3 := my_fr.up gh_6_0 t0 fh3 rfl
        have gxh3 : my_fx x0 3 h h3 := my_fx.up gx_6_0 fh3 (by omega)
        have ce4 : h3 x0 0 = p6_0 := (my_up_self fh3)
        have ce5 : h3 x0 1 = ka0_1 := ((my_up_fld fh3 (by decide)).trans ca0_1_6_0)
        exact w_vret gz_77_53 gm_77 (k0 h3 (gh3) (gxh3) (by first | assumption | omega | (subst_vars; omega)) (by first | assumption | omega | (subst_vars; omega)))
      ·
        refine w_iload_n gz_77_15 rfl ?_
        refine w_aload_n gz_77_16 rfl ?_
        refine w_iload gz_77_17 rfl ?_
        refine w_iload_n gz_77_19 rfl ?_
        refine w_inv (k := 0) (as := [(0, x2), (0, p6_1)]) (r := [(0, x1)]) (x := x0) (ls0 := [(2, x0), (0, p6_1), (0, x2)]) gz_77_20 gm_74 rfl t0 rd_8 rfl rfl rfl rfl rfl ?_
        refine w_aload_n gz_74_0 rfl ?_
        refine w_getX (v := (x0 + 1)) gz_74_1 t0 rd_8 rfl (by decide) rfl ?_
        refine w_iload_n gz_74_4 rfl ?_
        refine w_bipush gz_74_5 (by decide) ?_
        refine w_imul gz_74_7 ⟨by omega, by omega⟩ ?_
        refine w_iload_n gz_74_8 rfl ?_
        refine w_iadd gz_74_9 ⟨by omega, by omega⟩ ?_
        refine w_gldA gz_74_10 (ix_8_1 t0) rd_42 (by omega) (by omega) (fun v7 ev7 pv7 qv7 => ?_)
        refine w_iret gz_74_11 gm_74 ?_
        show wp l rho (d + 2) 77 23 [(2, x0), (0, x1), (0, x2), (0, x3), (0, p6_0), (0, p6_1)] [(0, v7), (0, x1)] h6_0 Q
        refine w_iload_n gz_77_23 rfl ?_
        refine w_inS (k := 0) (as := [(0, x3), (0, v7), (0, x1)]) (r := []) (ls0 := [(0, x1), (0, v7), (0, x3)]) gz_77_24 gm_78 rfl rfl rfl rfl rfl rfl ?_
        refine w_iload_n gz_78_0 rfl ?_
        refine w_ifne (t := 17) gz_78_1 rfl (fun u8 => ?_) (fun u8 => ?_)
        ·
          refine w_iload_n gz_78_17 rfl ?_
          refine w_iconst gz_78_18 (by decide) ?_
          refine w_icne (t := 35) gz_78_19 rfl (fun u9 => ?_) (fun u9 => ?_)
          ·
            refine w_iload_n gz_78_35 rfl ?_
            refine w_iload_n gz_78_36 rfl ?_
            refine w_icle (t := 44) gz_78_37 rfl (fun u10 => ?_) (fun u10 => ?_)
            ·
              refine w_iconst gz_78_44 (by decide) ?_
              refine w_bret gz_78_45 gm_78 (by omega) (by omega) ?_
              show wp l rho (d + 2) 77 27 [(2, x0), (0, x1), (0, x2), (0, x3), (0, p6_0), (0, p6_1)] [(0, 0)] h6_0 Q
              refine w_ifeq (t := 41) gz_77_27 rfl (fun u11 => ?_) (fun u11 => by exfalso; omega)
              exact J41_0 (p6_0) h6_0 (gh_6_0) (gx_6_0) (by omega) (by omega) (by omega) (by omega) (by omega) (by omega) (by omega) (by omega) (by omega) (by omega) (by omega) (by omega) (ev1.symm.trans (by omega)) (ca0_1_6_0.trans (by omega))
            ·
              refine w_iconst gz_78_40 (by decide) ?_
              refine w_goto (t := 45) gz_78_41 rfl ?_
              refine w_bret gz_78_45 gm_78 (by omega) (by omega) ?_
              show wp l rho (d + 2) 77 27 [(2, x0), (0, x1), (0, x2), (0, x3), (0, p6_0), (0, p6_1)] [(0, 1)] h6_0 Q
              refine w_ifeq (t := 41) gz_77_27 rfl (fun u12 => by exfalso; omega) (fun u12 => ?_)
              refine w_aload_n gz_77_30 rfl ?_
              refine w_iload gz_77_31 rfl ?_
              refine w_iload gz_77_33 rfl ?_
              refine w_iinc (ls' := [(2, x0), (0, x1), (0, x2), (0, x3), (0, (p6_0 + 1)), (0, p6_1)]) gz_77_35 rfl gm_77 rfl rfl rfl ⟨by omega, by omega⟩ ?_
              refine w_inv (k := 0) (as := [(0, p6_0), (0, p6_1)]) (r := []) (x := x0) (ls0 := [(2, x0), (0, p6_1), (0, p6_0)]) gz_77_38 gm_72 rfl t0 rd_8 rfl rfl rfl rfl rfl ?_
              refine w_iload_n gz_72_0 rfl ?_
              refine w_iload_n gz_72_1 rfl ?_
              refine w_iceq (t := 26) gz_72_2 rfl (fun u13 => ?_) (fun u13 => ?_)
              ·
                refine w_vret gz_72_26 gm_72 ?_
                show wp l rho (d + 2) 77 41 [(2, x0), (0, x1), (0, x2), (0, x3), (0, (p6_0 + 1)), (0, p6_1)] [] h6_0 Q
                exact J41_0 ((p6_0 + 1)) h6_0 (gh_6_0) (gx_6_0) (by omega) (by omega) (by omega) (by omega) (by omega) (by omega) (by omega) (by omega) (by omega) (by omega) (by omega) (by omega) (ev1.symm.trans (by omega)) (ca0_1_6_0.trans (by omega))
              ·
                refine w_aload_n gz_72_5 rfl ?_
                refine w_getX (v := (x0 + 1)) gz_72_6 t0 rd_8 rfl (by decide) rfl ?_
                refine w_iload_n gz_72_9 rfl ?_
                refine w_bipush gz_72_10 (by decide) ?_
                refine w_imul gz_72_12 ⟨by omega, by omega⟩ ?_
                refine w_aload_n gz_72_13 rfl ?_
                refine w_getX (v := (x0 + 1)) gz_72_14 t0 rd_8 rfl (by decide) rfl ?_
                refine w_iload_n gz_72_17 rfl ?_
                refine w_bipush gz_72_18 (by decide) ?_
                refine w_imul gz_72_20 ⟨by omega, by omega⟩ ?_
                refine w_bipush gz_72_21 (by decide) ?_
                refine w_cpG gz_72_23 (ix_8_1 t0) rd_42 (ix_8_1 t0) rd_42 (by omega) (by omega) (by omega) (by omega) (by omega) rfl (by omega) (fun h16 fh16 => ?_)
                have gh16 : my_fr [(8, 0), (42, -1)] h h16 := my_fr.cp gh_6_0 (ix_8_1 t0) fh16 rfl
                have gxh16 : my_fx x0 3 h h16 := my_fx.cp gx_6_0 fh16 (by omega)
                refine w_vret gz_72_26 gm_72 ?_
                show wp l rho (d + 2) 77 41 [(2, x0), (0, x1), (0, x2), (0, x3), (0, (p6_0 + 1)), (0, p6_1)] [] h16 Q
                exact J41_0 ((p6_0 + 1)) h16 (gh16) (gxh16) (by omega) (by omega) (by omega) (by omega) (by omega) (by omega) (by omega) (by omega) (by omega) (by omega) (by omega) (by omega) (((my_cp_role fh16 t0 (ix_8_1 t0) rfl).trans ev1.symm).trans (by omega)) (((my_cp_role fh16 t0 (ix_8_1 t0) rfl).trans ca0_1_6_0).trans (by omega))
          ·
            refine w_iload_n gz_78_22 rfl ?_
            refine w_iload_n gz_78_23 rfl ?_
            refine w_icne (t := 31) gz_78_24 rfl (fun u17 => ?_) (fun u17 => ?_)
            ·
              refine w_iconst gz_78_31 (by decide) ?_
              refine w_goto (t := 45) gz_78_32 rfl ?_
              refine w_bret gz_78_45 gm_78 (by omega) (by omega) ?_
              show wp l rho (d + 2) 77 27 [(2, x0), (0, x1), (0, x2), (0, x3), (0, p6_0), (0, p6_1)] [(0, 0)] h6_0 Q
              refine w_ifeq (t := 41) gz_77_27 rfl (fun u18 => ?_) (fun u18 => by exfalso; omega)
              exact J41_0 (p6_0) h6_0 (gh_6_0) (gx_6_0) (by omega) (by omega) (by omega) (by omega) (by omega) (by omega) (by omega) (by omega) (by omega) (by omega) (by omega) (by omega) (ev1.symm.trans (by omega)) (ca0_1_6_0.trans (by omega))
            ·
              refine w_iconst gz_78_27 (by decide) ?_
              refine w_goto (t := 45) gz_78_28 rfl ?_
              refine w_bret gz_78_45 gm_78 (by omega) (by omega) ?_
              show wp l rho (d + 2) 77 27 [(2, x0), (0, x1), (0, x2), (0, x3), (0, p6_0), (0, p6_1)] [(0, 1)] h6_0 Q
              refine w_ifeq (t := 41) gz_77_27 rfl (fun u19 => by exfalso; omega) (fun u19 => ?_)
              refine w_aload_n gz_77_30 rfl ?_
              refine w_iload gz_77_31 rfl ?_
              refine w_iload gz_77_33 rfl ?_
              refine w_iinc (ls' := [(2, x0), (0, x1), (0, x2), (0, x3), (0, (p6_0 + 1)), (0, p6_1)]) gz_77_35 rfl gm_77 rfl rfl rfl ⟨by omega, by omega⟩ ?_
              refine w_inv (k := 0) (as := [(0, p6_0), (0, p6_1)]) (r := []) (x := x0) (ls0 := [(2, x0), (0, p6_1), (0, p6_0)]) gz_77_38 gm_72 rfl t0 rd_8 rfl rfl rfl rfl rfl ?_
              refine w_iload_n gz_72_0 rfl ?_
              refine w_iload_n gz_72_1 rfl ?_
              refine w_iceq (t := 26) gz_72_2 rfl (fun u20 => ?_) (fun u20 => ?_)
              ·
                refine w_vret gz_72_26 gm_72 ?_
                show wp l rho (d + 2) 77 41 [(2, x0), (0, x1), (0, x2), (0, x3), (0, (p6_0 + 1)), (0, p6_1)] [] h6_0 Q
                exact J41_0 ((p6_0 + 1)) h6_0 (gh_6_0) (gx_6_0) (by omega) (by omega) (by omega) (by omega) (by omega) (by omega) (by omega) (by omega) (by omega) (by omega) (by omega) (by omega) (ev1.symm.trans (by omega)) (ca0_1_6_0.trans (by omega))
              ·
                refine w_aload_n gz_72_5 rfl ?_
                refine w_getX (v := (x0 + 1)) gz_72_6 t0 rd_8 rfl (by decide) rfl ?_
                refine w_iload_n gz_72_9 rfl ?_
                refine w_bipush gz_72_10 (by decide) ?_
                refine w_imul gz_72_12 ⟨by omega, by omega⟩ ?_
                refine w_aload_n gz_72_13 rfl ?_
                refine w_getX (v := (x0 + 1)) gz_72_14 t0 rd_8 rfl (by decide) rfl ?_
                refine w_iload_n gz_72_17 rfl ?_
                refine w_bipush gz_72_18 (by decide) ?_
                refine w_imul gz_72_20 ⟨by omega, by omega⟩ ?_
                refine w_bipush gz_72_21 (by decide) ?_
                refine w_cpG gz_72_23 (ix_8_1 t0) rd_42 (ix_8_1 t0) rd_42 (by omega) (by omega) (by omega) (by omega) (by omega) rfl (by omega) (fun h23 fh23 => ?_)
                have gh23 : my_fr [(8, 0), (42, -1)] h h23 := my_fr.cp gh_6_0 (ix_8_1 t0) fh23 rfl
                have gxh23 : my_fx x0 3 h h23 := my_fx.cp gx_6_0 fh23 (by omega)
                refine w_vret gz_72_26 gm_72 ?_
                show wp l rho (d + 2) 77 41 [(2, x0), (0, x1), (0, x2), (0, x3), (0, (p6_0 + 1)), (0, p6_1)] [] h23 Q
                exact J41_0 ((p6_0 + 1)) h23 (gh23) (gxh23) (by omega) (by omega) (by omega) (by omega) (by omega) (by omega) (by omega) (by omega) (by omega) (by omega) (by omega) (by omega) (((my_cp_role fh23 t0 (ix_8_1 t0) rfl).trans ev1.symm).trans (by omega)) (((my_cp_role fh23 t0 (ix_8_1 t0) rfl).trans ca0_1_6_0).trans (by omega))
        ·
          refine w_iload_n gz_78_4 rfl ?_
          refine w_iload_n gz_78_5 rfl ?_
          refine w_icge (t := 13) gz_78_6 rfl (fun u24 => ?_) (fun u24 => ?_)
          ·
            refine w_iconst gz_78_13 (by decide) ?_
            refine w_goto (t := 45) gz_78_14 rfl ?_
            refine w_bret gz_78_45 gm_78 (by omega) (by omega) ?_
            show wp l rho (d + 2) 77 27 [(2, x0), (0, x1), (0, x2), (0, x3), (0, p6_0), (0, p6_1)] [(0, 0)] h6_0 Q
            refine w_ifeq (t := 41) gz_77_27 rfl (fun u25 => ?_) (fun u25 => by exfalso; omega)
            exact J41_0 (p6_0) h6_0 (gh_6_0) (gx_6_0) (by omega) (by omega) (by omega) (by omega) (by omega) (by omega) (by omega) (by omega) (by omega) (by omega) (by omega) (by omega) (ev1.symm.trans (by omega)) (ca0_1_6_0.trans (by omega))
          ·
            refine w_iconst gz_78_9 (by decide) ?_
            refine w_goto (t := 45) gz_78_10 rfl ?_
            refine w_bret gz_78_45 gm_78 (by omega) (by omega) ?_
            show wp l rho (d + 2) 77 27 [(2, x0), (0, x1), (0, x2), (0, x3), (0, p6_0), (0, p6_1)] [(0, 1)] h6_0 Q
            refine w_ifeq (t := 41) gz_77_27 rfl (fun u26 => by exfalso; omega) (fun u26 => ?_)
            refine w_aload_n gz_77_30 rfl ?_
            refine w_iload gz_77_31 rfl ?_
            refine w_iload gz_77_33 rfl ?_
            refine w_iinc (ls' := [(2, x0), (0, x1), (0, x2), (0, x3), (0, (p6_0 + 1)), (0, p6_1)]) gz_77_35 rfl gm_77 rfl rfl rfl ⟨by omega, by omega⟩ ?_
            refine w_inv (k := 0) (as := [(0, p6_0), (0, p6_1)]) (r := []) (x := x0) (ls0 := [(2, x0), (0, p6_1), (0, p6_0)]) gz_77_38 gm_72 rfl t0 rd_8 rfl rfl rfl rfl rfl ?_
            refine w_iload_n gz_72_0 rfl ?_
            refine w_iload_n gz_72_1 rfl ?_
            refine w_iceq (t := 26) gz_72_2 rfl (fun u27 => ?_) (fun u27 => ?_)
            ·
              refine w_vret gz_72_26 gm_72 ?_
              show wp l rho (d + 2) 77 41 [(2, x0), (0, x1), (0, x2), (0, x3), (0, (p6_0 + 1)), (0, p6_1)] [] h6_0 Q
              exact J41_0 ((p6_0 + 1)) h6_0 (gh_6_0) (gx_6_0) (by omega) (by omega) (by omega) (by omega) (by omega) (by omega) (by omega) (by omega) (by omega) (by omega) (by omega) (by omega) (ev1.symm.trans (by omega)) (ca0_1_6_0.trans (by omega))
            ·
              refine w_aload_n gz_72_5 rfl ?_
              refine w_getX (v := (x0 + 1)) gz_72_6 t0 rd_8 rfl (by decide) rfl ?_
              refine w_iload_n gz_72_9 rfl ?_
              refine w_bipush gz_72_10 (by decide) ?_
              refine w_imul gz_72_12 ⟨by omega, by omega⟩ ?_
              refine w_aload_n gz_72_13 rfl ?_
              refine w_getX (v := (x0 + 1)) gz_72_14 t0 rd_8 rfl (by decide) rfl ?_
              refine w_iload_n gz_72_17 rfl ?_
              refine w_bipush gz_72_18 (by decide) ?_
              refine w_imul gz_72_20 ⟨by omega, by omega⟩ ?_
              refine w_bipush gz_72_21 (by decide) ?_
              refine w_cpG gz_72_23 (ix_8_1 t0) rd_42 (ix_8_1 t0) rd_42 (by omega) (by omega) (by omega) (by omega) (by omega) rfl (by omega) (fun h30 fh30 => ?_)
              have gh30 : my_fr [(8, 0), (42, -1)] h h30 := my_fr.cp gh_6_0 (ix_8_1 t0) fh30 rfl
              have gxh30 : my_fx x0 3 h h30 := my_fx.cp gx_6_0 fh30 (by omega)
              refine w_vret gz_72_26 gm_72 ?_
              show wp l rho (d + 2) 77 41 [(2, x0), (0, x1), (0, x2), (0, x3), (0, (p6_0 + 1)), (0, p6_1)] [] h30 Q
              exact J41_0 ((p6_0 + 1)) h30 (gh30) (gxh30) (by omega) (by omega) (by omega) (by omega) (by omega) (by omega) (by omega) (by omega) (by omega) (by omega) (by omega) (by omega) (((my_cp_role fh30 t0 (ix_8_1 t0) rfl).trans ev1.symm).trans (by omega)) (((my_cp_role fh30 t0 (ix_8_1 t0) rfl).trans ca0_1_6_0).trans (by omega))
  refine w_iconst gz_77_0 (by decide) ?_
  refine w_istore (ls' := [(2, x0), (0, x1), (0, x2), (0, x3), (0, 0), (9, 0)]) gz_77_1 gm_77 rfl rfl rfl ?_
  refine w_iconst gz_77_3 (by decide) ?_
  refine w_istore (ls' := [(2, x0), (0, x1), (0, x2), (0, x3), (0, 0), (0, 0)]) gz_77_4 gm_77 rfl rfl rfl ?_
  exact J6_0 12 (0) (0) h (my_fr.rf) (my_fx.rf) (by omega) (by omega) (by omega) (by omega) (by omega) (by omega) (by omega) (eka0_0.symm.trans (by omega)) (eka0_1.symm.trans (by omega)) (by omega)
theorem c_View_dropRow {l : Launch} {rho : Nat → Int32} {d : Nat} {h : my_H} {Q : my_H → my_V → Prop} {x0 x1 : Int} (t0 : my_is 8 x0) (a1 : 0 ≤ x1) (b1 : x1 ≤ 9) (m1_0 : 0 ≤ x1 % 17) (m1_1 : x1 % 17 ≤ 9) (hd : x1 < h x0 0) (k0 : ∀ (h' : my_H), my_fr [(8, 0), (42, -1)] h h' → my_fx x0 3 h h' → 0 ≤ h' x0 0 → h' x0 0 ≤ 10 → Q h' (9, 0)) : wp l rho (d + 2) 90 0 [(2, x0), (0, x1), (9, 0)] [] h Q := by
  refine v_know (x := x0) (j := 0) (b := 0) rfl t0 rd_8 rfl (fun ka0_0 eka0_0 pka0_0 qka0_0 => ?_)
  have J4_0 : ∀ (n : Nat) (p4_0 : Int) (h4_0 : my_H), my_fr [(8, 0), (42, -1)] h h4_0 → my_fx x0 3 h h4_0 → 1 ≤ p4_0 → p4_0 ≤ 11 → p4_0 ≤ (ka0_0 + 10) → x1 ≤ (p4_0 - 1) → h4_0 x0 0 = ka0_0 → 12 - p4_0 ≤ (n : Int) → wp l rho (d + 2) 90 4 [(2, x0), (0, x1), (0, p4_0)] [] h4_0 Q := by
    intro n
    induction n with
    | zero => intro p4_0 h4_0 gh_4_0 gx_4_0 q0_4_0 q1_4_0 q2_4_0 q3_4_0 ca0_0_4_0 hm_4_0; exfalso; omega
    | succ n ih_4_0 =>
      intro p4_0 h4_0 gh_4_0 gx_4_0 q0_4_0 q1_4_0 q2_4_0 q3_4_0 ca0_0_4_0 hm_4_0
      refine w_iload_n gz_90_4 rfl ?_
      refine w_aload_n gz_90_5 rfl ?_
      refine v_getI (j := 0) gz_90_6 rfl t0 rd_8 rfl (fun v1 ev1 pv1 qv1 => ?_)
      have zv1 := ev1.trans ca0_0_4_0
      refine w_icge (t := 26) gz_90_9 rfl (fun u2 => ?_) (fun u2 => ?_)
      ·
        refine w_aload_n gz_90_26 rfl ?_
        refine w_dup gz_90_27 rfl ?_
        refine v_getI (j := 0) gz_90_28 rfl t0 rd_8 rfl (fun v3 ev3 pv3 qv3 => ?_)
        have zv3 := ev3.trans ev1.symm
        refine w_iconst gz_90_31 (by decide) ?_
        refine w_isub gz_90_32 ⟨by omega, by omega⟩ ?_
        have hi4 : 0 ≤ (v3 - 1) := by omega
        refine v_putI (j := 0) gz_90_33 rfl t0 rd_8 rfl (by omega) (by omega) rfl (fun h5 fh5 => ?_)
        have gh5 : my_fr [(8, 0), (42, -1)] h h5 := my_fr.up gh_4_0 t0 fh5 rfl
        have gxh5 : my_fx x0 3 h h5 := my_fx.up gx_4_0 fh5 (by omega)
        have c6 := (my_up_self fh5)
        exact w_vret gz_90_36 gm_90 (k0 h5 (gh5) (gxh5) (by omega) (by omega))
      ·
        refine w_aload_n gz_90_12 rfl ?_
        refine w_iload_n gz_90_13 rfl ?_
        refine w_iload_n gz_90_14 rfl ?_
        refine w_iconst gz_90_15 (by decide) ?_
        refine w_isub gz_90_16 ⟨by omega, by omega⟩ ?_
        refine w_inv (k := 0) (as := [(0, (p4_0 - 1)), (0, p4_0)]) (r := []) (x := x0) (ls0 := [(2, x0), (0, p4_0), (0, (p4_0 - 1))]) gz_90_17 gm_72 rfl t0 rd_8 rfl rfl rfl rfl rfl ?_
        refine w_iload_n gz_72_0 rfl ?_
        refine w_iload_n gz_72_1 rfl ?_
        refine w_iceq (t := 26) gz_72_2 rfl (fun u7 => by exfalso; omega) (fun u7 => ?_)
        refine w_aload_n gz_72_5 rfl ?_
        refine w_getX (v := (x0 + 1)) gz_72_6 t0 rd_8 rfl (by decide) rfl ?_
        refine w_iload_n gz_72_9 rfl ?_
        refine w_bipush gz_72_10 (by decide) ?_
        refine w_imul gz_72_12 ⟨by omega, by omega⟩ ?_
        refine w_aload_n gz_72_13 rfl ?_
        refine w_getX (v := (x0 + 1)) gz_72_14 t0 rd_8 rfl (by decide) rfl ?_
        refine w_iload_n gz_72_17 rfl ?_
        refine w_bipush gz_72_18 (by decide) ?_
        refine w_imul gz_72_20 ⟨by omega, by omega⟩ ?_
        refine w_bipush gz_72_21 (by decide) ?_
        refine w_cpG gz_72_23 (ix_8_1 t0) rd_42 (ix_8_1 t0) rd_42 (by omega) (by omega) (by omega) (by omega) (by omega) rfl (by omega) (fun h10 fh10 => ?_)
        have gh10 : my_fr [(8, 0), (42, -1)] h h10 := my_fr.cp gh_4_0 (ix_8_1 t0) fh10 rfl
        have gxh10 : my_fx x0 3 h h10 := my_fx.cp gx_4_0 fh10 (by omega)
        refine w_vret gz_72_26 gm_72 ?_
        show wp l rho (d + 2) 90 20 [(2, x0), (0, x1), (0, p4_0)] [] h10 Q
        refine w_iinc (ls' := [(2, x0), (0, x1), (0, (p4_0 + 1))]) gz_90_20 rfl gm_90 rfl rfl rfl ⟨by omega, by omega⟩ ?_
        refine w_goto (t := 4) gz_90_23 rfl ?_
        exact ih_4_0 ((p4_0 + 1)) h10 (gh10) (gxh10) (by omega) (by omega) (by omega) (by omega) (((my_cp_role fh10 t0 (ix_8_1 t0) rfl).trans ev1.symm).trans (by omega)) (by omega)
  refine w_iload_n gz_90_0 rfl ?_
  refine w_iconst gz_90_1 (by decide) ?_
  refine w_iadd gz_90_2 ⟨by omega, by omega⟩ ?_
  refine w_istore_n (ls' := [(2, x0), (0, x1), (0, (x1 + 1))]) gz_90_3 gm_90 rfl rfl rfl ?_
  exact J4_0 11 ((x1 + 1)) h (my_fr.rf) (my_fx.rf) (by omega) (by omega) (by omega) (by omega) (eka0_0.symm.trans (by omega)) (by omega)
end MYNLens_startOnWall
