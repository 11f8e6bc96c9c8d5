/-! contracts, printed by wip/gen/gy.py -/
section MYNLens_addJoin7
theorem c_Lens_addJoin7 {l : Launch} {rho : Nat → Int32} {d : Nat} {h : my_H} {Q : my_H → my_V → Prop} {x0 x1 x2 x3 : Int} (t0 : my_is 4 x0) (a1 : 0 ≤ x1) (b1 : x1 ≤ 2) (a2 : 1 ≤ x2) (b2 : x2 ≤ 4) (a3 : 0 ≤ x3) (b3 : x3 ≤ 7) (hs5 : h x0 9 ≤ 5) (hj : h x0 4 + x2 ≤ 9) (k0 : ∀ (h' : my_H), my_fr [(4, 4), (4, 5), (4, 6), (4, 8), (4, 9), (32, -1), (33, -1), (34, -1), (35, -1), (37, -1)] h h' → my_fx x0 8 h h' → 1 ≤ h' x0 9 → h' x0 9 ≤ 6 → AddS h h' x0 4 x1 x2 → AdE h h' x0 4 x3 x1 x2 → AdD h h' x0 4 x3 x1 x2 → Q h' (9, 0)) : wp l rho (d + 1) 61 0 [(2, x0), (0, x1), (0, x2), (0, x3), (9, 0)] [] h Q := by
  refine v_know (x := x0) (j := 9) (b := 9) rfl t0 rd_4 rfl (fun ka0_9 eka0_9 pka0_9 qka0_9 => ?_)
  refine v_know (x := x0) (j := 4) (b := 4) rfl t0 rd_4 rfl (fun ka0_4 eka0_4 pka0_4 qka0_4 => ?_)
  have J8_0 : ∀ (n : Nat) (p8_0 : Int) (h8_0 : my_H), my_fr [(4, 4), (4, 5), (4, 6), (4, 8), (4, 9), (32, -1), (33, -1), (34, -1), (35, -1), (37, -1)] h h8_0 → my_fx x0 8 h h8_0 → 1 ≤ p8_0 → p8_0 ≤ 4 → p8_0 ≤ x2 → h8_0 x0 4 = ka0_4 → h8_0 x0 9 = ka0_9 → my_ag AgF h h8_0 → (∃ g1 : my_H, UsE h g1 x0 x3 ∧ OjI g1 h8_0 x0 x1 (h x0 4) p8_0) → 5 - p8_0 ≤ (n : Int) → wp l rho (d + 1) 61 8 [(2, x0), (0, x1), (0, x2), (0, x3), (0, p8_0)] [] h8_0 Q := by
    intro n
    induction n with
    | zero => intro p8_0 h8_0 gh_8_0 gx_8_0 q0_8_0 q1_8_0 q2_8_0 ca0_4_8_0 ca0_9_8_0 n_AgL_8_0 oj_8_0 hm_8_0; exfalso; omega
    | succ n ih_8_0 =>
      intro p8_0 h8_0 gh_8_0 gx_8_0 q0_8_0 q1_8_0 q2_8_0 ca0_4_8_0 ca0_9_8_0 n_AgL_8_0 oj_8_0 hm_8_0
      have a1 : ∀ j : Int, h8_0 (x0 + 1) j = h (x0 + 1) j := fun j => my_ag.at n_AgL_8_0 (ix_4_1 t0) rfl
      have a3 : ∀ j : Int, h8_0 (x0 + 3) j = h (x0 + 3) j := fun j => my_ag.at n_AgL_8_0 (ix_4_3 t0) rfl
      have a4 : ∀ j : Int, h8_0 (x0 + 4) j = h (x0 + 4) j := fun j => my_ag.at n_AgL_8_0 (ix_4_4 t0) rfl
      have b1 : h8_0 x0 1 = h x0 1 := my_ag.at n_AgL_8_0 t0 rfl
      have b3 : h8_0 x0 3 = h x0 3 := my_ag.at n_AgL_8_0 t0 rfl
      have b9 : h8_0 x0 9 = h x0 9 := my_ag.at n_AgL_8_0 t0 rfl
      have b4 : h8_0 x0 4 = h x0 4 := my_ag.at n_AgL_8_0 t0 rfl
      refine w_iload gz_61_8 rfl ?_
      refine w_iload_n gz_61_10 rfl ?_
      refine w_icge (t := 43) gz_61_11 rfl (fun u1 => ?_) (fun u1 => ?_)
      ·
        refine w_aload_n gz_61_43 rfl ?_
        refine w_dup gz_61_44 rfl ?_
        refine v_getI (j := 4) gz_61_45 rfl t0 rd_4 rfl (fun v2 ev2 pv2 qv2 => ?_)
        have zv2 := ev2.trans ca0_4_8_0
        refine w_iload_n gz_61_48 rfl ?_
        refine w_iconst gz_61_49 (by decide) ?_
        refine w_isub gz_61_50 ⟨by omega, by omega⟩ ?_
        refine w_iadd gz_61_51 ⟨by omega, by omega⟩ ?_
        have hi3 : 0 ≤ (v2 + (x2 - 1)) := by omega
        have hi4 : (v2 + (x2 - 1)) ≤ 8 := by omega
        refine v_putI (j := 4) gz_61_52 rfl t0 rd_4 rfl (by omega) (by omega) rfl (fun h5 fh5 => ?_)
        have gh5 : my_fr [(4, 4), (4, 5), (4, 6), (4, 8), (4, 9), (32, -1), (33, -1), (34, -1), (35, -1), (37, -1)] h h5 := my_fr.up gh_8_0 t0 fh5 rfl
        have gxh5 : my_fx x0 8 h h5 := my_fx.up gx_8_0 fh5 (by omega)
        refine w_aload_n gz_61_55 rfl ?_
        refine w_dup gz_61_56 rfl ?_
        refine v_getI (j := 6) gz_61_57 rfl t0 rd_4 rfl (fun v6 ev6 pv6 qv6 => ?_)
        refine w_iconst gz_61_60 (by decide) ?_
        refine w_iload_n gz_61_61 rfl ?_
        refine w_ishlX gz_61_62 (fun v7 ev7 pv7 qv7 => ?_)
        refine w_iorX gz_61_63 (fun v8 ev8 pv8 qv8 => ?_)
        refine v_putA (j := 6) gz_61_64 rfl t0 rd_4 rfl rfl (fun h9 fh9 => ?_)
        have gh9 : my_fr [(4, 4), (4, 5), (4, 6), (4, 8), (4, 9), (32, -1), (33, -1), (34, -1), (35, -1), (37, -1)] h h9 := my_fr.up gh5 t0 fh9 rfl
        have gxh9 : my_fx x0 8 h h9 := my_fx.up gxh5 fh9 (by omega)
        refine w_aload_n gz_61_67 rfl ?_
        refine w_iconst gz_61_68 (by decide) ?_
        refine w_iload_n gz_61_69 rfl ?_
        refine w_iload_n gz_61_70 rfl ?_
        refine w_iload_n gz_61_71 rfl ?_
        refine w_inv (k := 0) (as := [(0, x2), (0, x1), (0, x3), (0, 4)]) (r := []) (x := x0) (ls0 := [(2, x0), (0, 4), (0, x3), (0, x1), (0, x2)]) gz_61_72 gm_55 rfl t0 rd_4 rfl rfl rfl rfl rfl ?_
        refine w_aload_n gz_55_0 rfl ?_
        refine w_getX (v := (x0 + 1)) gz_55_1 t0 rd_4 rfl (by decide) rfl ?_
        refine w_aload_n gz_55_4 rfl ?_
        refine v_getI (j := 9) gz_55_5 rfl t0 rd_4 rfl (fun v11 ev11 pv11 qv11 => ?_)
        have zv11 := ev11.trans ((my_up_fld fh9 (by decide)).trans ((my_up_fld fh5 (by decide)).trans ca0_9_8_0))
        refine w_iload_n gz_55_8 rfl ?_
        have hi12 : 0 ≤ v11 := by omega
        have hi13 : v11 ≤ 5 := by omega
        refine w_iast gz_55_9 (ix_4_1 t0) rd_32 (by omega) (by omega) (by omega) (by omega) (fun h14 fh14 => ?_)
        have gh14 : my_fr [(4, 4), (4, 5), (4, 6), (4, 8), (4, 9), (32, -1), (33, -1), (34, -1), (35, -1), (37, -1)] h h14 := my_fr.up gh9 (ix_4_1 t0) fh14 rfl
        have gxh14 : my_fx x0 8 h h14 := my_fx.up gxh9 fh14 (by omega)
        refine w_aload_n gz_55_10 rfl ?_
        refine w_getX (v := (x0 + 2)) gz_55_11 t0 rd_4 rfl (by decide) rfl ?_
        refine w_aload_n gz_55_14 rfl ?_
        refine v_getI (j := 9) gz_55_15 rfl t0 rd_4 rfl (fun v16 ev16 pv16 qv16 => ?_)
        have zv16 := ev16.trans ((my_up_role fh14 t0 (ix_4_1 t0) rfl).trans ev11.symm)
        refine w_iload_n gz_55_18 rfl ?_
        refine w_iast gz_55_19 (ix_4_2 t0) rd_33 (by omega) (by omega) (by omega) (by omega) (fun h17 fh17 => ?_)
        have gh17 : my_fr [(4, 4), (4, 5), (4, 6), (4, 8), (4, 9), (32, -1), (33, -1), (34, -1), (35, -1), (37, -1)] h h17 := my_fr.up gh14 (ix_4_2 t0) fh17 rfl
        have gxh17 : my_fx x0 8 h h17 := my_fx.up gxh14 fh17 (by omega)
        refine w_aload_n gz_55_20 rfl ?_
        refine w_getX (v := (x0 + 3)) gz_55_21 t0 rd_4 rfl (by decide) rfl ?_
        refine w_aload_n gz_55_24 rfl ?_
        refine v_getI (j := 9) gz_55_25 rfl t0 rd_4 rfl (fun v19 ev19 pv19 qv19 => ?_)
        have zv19 := ev19.trans ((my_up_role fh17 t0 (ix_4_2 t0) rfl).trans ev16.symm)
        refine w_iload_n gz_55_28 rfl ?_
        refine w_iast gz_55_29 (ix_4_3 t0) rd_34 (by omega) (by omega) (by omega) (by omega) (fun h20 fh20 => ?_)
        have gh20 : my_fr [(4, 4), (4, 5), (4, 6), (4, 8), (4, 9), (32, -1), (33, -1), (34, -1), (35, -1), (37, -1)] h h20 := my_fr.up gh17 (ix_4_3 t0) fh20 rfl
        have gxh20 : my_fx x0 8 h h20 := my_fx.up gxh17 fh20 (by omega)
        refine w_aload_n gz_55_30 rfl ?_
        refine w_getX (v := (x0 + 4)) gz_55_31 t0 rd_4 rfl (by decide) rfl ?_
        refine w_aload_n gz_55_34 rfl ?_
        refine v_getI (j := 9) gz_55_35 rfl t0 rd_4 rfl (fun v22 ev22 pv22 qv22 => ?_)
        have zv22 := ev22.trans ((my_up_role fh20 t0 (ix_4_3 t0) rfl).trans ev19.symm)
        refine w_iload gz_55_38 rfl ?_
        refine w_iast gz_55_40 (ix_4_4 t0) rd_35 (by omega) (by omega) (by omega) (by omega) (fun h23 fh23 => ?_)
        have gh23 : my_fr [(4, 4), (4, 5), (4, 6), (4, 8), (4, 9), (32, -1), (33, -1), (34, -1), (35, -1), (37, -1)] h h23 := my_fr.up gh20 (ix_4_4 t0) fh23 rfl
        have gxh23 : my_fx x0 8 h h23 := my_fx.up gxh20 fh23 (by omega)
        refine w_aload_n gz_55_41 rfl ?_
        refine w_dup gz_55_42 rfl ?_
        refine v_getI (j := 9) gz_55_43 rfl t0 rd_4 rfl (fun v24 ev24 pv24 qv24 => ?_)
        have zv24 := ev24.trans ((my_up_role fh23 t0 (ix_4_4 t0) rfl).trans ev22.symm)
        refine w_iconst gz_55_46 (by decide) ?_
        refine w_iadd gz_55_47 ⟨by omega, by omega⟩ ?_
        refine v_putI (j := 9) gz_55_48 rfl t0 rd_4 rfl (by omega) (by omega) rfl (fun h25 fh25 => ?_)
        have gh25 : my_fr [(4, 4), (4, 5), (4, 6), (4, 8), (4, 9), (32, -1), (33, -1), (34, -1), (35, -1), (37, -1)] h h25 := my_fr.up gh23 t0 fh25 rfl
        have gxh25 : my_fx x0 8 h h25 := my_fx.up gxh23 fh25 (by omega)
        refine w_aload_n gz_55_51 rfl ?_
        refine w_dup gz_55_52 rfl ?_
        refine v_getI (j := 5) gz_55_53 rfl t0 rd_4 rfl (fun v26 ev26 pv26 qv26 => ?_)
        refine w_iconst gz_55_56 (by decide) ?_
        refine w_ianyA gz_55_57 (fun v27 pv27 qv27 => ?_)
        refine v_putA (j := 5) gz_55_58 rfl t0 rd_4 rfl rfl (fun h28 fh28 => ?_)
        have gh28 : my_fr [(4, 4), (4, 5), (4, 6), (4, 8), (4, 9), (32, -1), (33, -1), (34, -1), (35, -1), (37, -1)] h h28 := my_fr.up gh25 t0 fh28 rfl
        have gxh28 : my_fx x0 8 h h28 := my_fx.up gxh25 fh28 (by omega)
        refine w_vret gz_55_61 gm_55 ?_
        show wp l rho (d + 1) 61 75 [(2, x0), (0, x1), (0, x2), (0, x3), (0, p8_0)] [] h28 Q
        have c29 := ((my_up_fld fh28 (by decide)).trans (my_up_self fh25))
        exact w_vret gz_61_75 gm_61 (k0 h28 (gh28) (gxh28) (by omega) (by omega) (by obtain ⟨g9, oj9⟩ := oj_8_0; first | exact (Ad_join oj9 fh5 fh9 (AdS_mk (s := h x0 9) fh14 fh17 fh20 fh23 fh25 fh28 (by omega) (by omega) (by omega) (by omega) (by omega)) rfl (by omega) (by omega) (by assumption) (by omega) (by assumption) (by omega) (by omega)).1 | exact (Ad_join oj9 fh5 fh9 (AdS_mk (s := h x0 9) fh14 fh17 fh20 fh23 fh25 fh28 (by omega) (by omega) (by omega) (by omega) (by omega)) rfl (by omega) (by omega) (by assumption) (by omega) (by assumption) (by omega) (by omega)).2 | exact AdE_A (Ad_join oj9 fh5 fh9 (AdS_mk (s := h x0 9) fh14 fh17 fh20 fh23 fh25 fh28 (by omega) (by omega) (by omega) (by omega) (by omega)) rfl (by omega) (by omega) (by assumption) (by omega) (by assumption) (by omega) (by omega)).1) (by obtain ⟨g9, oj9⟩ := oj_8_0; first | exact (Ad_join oj9 fh5 fh9 (AdS_mk (s := h x0 9) fh14 fh17 fh20 fh23 fh25 fh28 (by omega) (by omega) (by omega) (by omega) (by omega)) rfl (by omega) (by omega) (by assumption) (by omega) (by assumption) (by omega) (by omega)).1 | exact (Ad_join oj9 fh5 fh9 (AdS_mk (s := h x0 9) fh14 fh17 fh20 fh23 fh25 fh28 (by omega) (by omega) (by omega) (by omega) (by omega)) rfl (by omega) (by omega) (by assumption) (by omega) (by assumption) (by omega) (by omega)).2 | exact AdE_A (Ad_join oj9 fh5 fh9 (AdS_mk (s := h x0 9) fh14 fh17 fh20 fh23 fh25 fh28 (by omega) (by omega) (by omega) (by omega) (by omega)) rfl (by omega) (by omega) (by assumption) (by omega) (by assumption) (by omega) (by omega)).1) (by obtain ⟨g9, oj9⟩ := oj_8_0; first | exact (Ad_join oj9 fh5 fh9 (AdS_mk (s := h x0 9) fh14 fh17 fh20 fh23 fh25 fh28 (by omega) (by omega) (by omega) (by omega) (by omega)) rfl (by omega) (by omega) (by assumption) (by omega) (by assumption) (by omega) (by omega)).1 | exact (Ad_join oj9 fh5 fh9 (AdS_mk (s := h x0 9) fh14 fh17 fh20 fh23 fh25 fh28 (by omega) (by omega) (by omega) (by omega) (by omega)) rfl (by omega) (by omega) (by assumption) (by omega) (by assumption) (by omega) (by omega)).2 | exact AdE_A (Ad_join oj9 fh5 fh9 (AdS_mk (s := h x0 9) fh14 fh17 fh20 fh23 fh25 fh28 (by omega) (by omega) (by omega) (by omega) (by omega)) rfl (by omega) (by omega) (by assumption) (by omega) (by assumption) (by omega) (by omega)).1))
      ·
        refine w_aload_n gz_61_14 rfl ?_
        refine w_getX (v := (x0 + 6)) gz_61_15 t0 rd_4 rfl (by decide) rfl ?_
        refine w_aload_n gz_61_18 rfl ?_
        refine v_getI (j := 4) gz_61_19 rfl t0 rd_4 rfl (fun v31 ev31 pv31 qv31 => ?_)
        have zv31 := ev31.trans ca0_4_8_0
        refine w_iload gz_61_22 rfl ?_
        refine w_iadd gz_61_24 ⟨by omega, by omega⟩ ?_
        refine w_iconst gz_61_25 (by decide) ?_
        refine w_isub gz_61_26 ⟨by omega, by omega⟩ ?_
        refine w_bipush gz_61_27 (by decide) ?_
        refine w_iload_n gz_61_29 rfl ?_
        refine w_iload gz_61_30 rfl ?_
        refine w_inS (k := 0) (as := [(0, p8_0), (0, x1)]) (r := [(0, 16), (0, ((v31 + p8_0) - 1)), (2, (x0 + 6))]) (ls0 := [(0, x1), (0, p8_0)]) gz_61_32 gm_29 rfl rfl rfl rfl rfl rfl ?_
        refine w_iload_n gz_29_0 rfl ?_
        refine w_iconst gz_29_1 (by decide) ?_
        refine w_imul gz_29_2 ⟨by omega, by omega⟩ ?_
        refine w_iload_n gz_29_3 rfl ?_
        refine w_iadd gz_29_4 ⟨by omega, by omega⟩ ?_
        refine w_iret gz_29_5 gm_29 ?_
        show wp l rho (d + 1) 61 35 [(2, x0), (0, x1), (0, x2), (0, x3), (0, p8_0)] [(0, ((x1 * 4) + p8_0)), (0, 16), (0, ((v31 + p8_0) - 1)), (2, (x0 + 6))] h8_0 Q
        refine w_iadd gz_61_35 ⟨by omega, by omega⟩ ?_
        have hi32 : 0 ≤ ((v31 + p8_0) - 1) := by omega
        have hi33 : ((v31 + p8_0) - 1) ≤ 7 := by omega
        refine w_iast gz_61_36 (ix_4_6 t0) rd_37 (by omega) (by omega) (by omega) (by omega) (fun h34 fh34 => ?_)
        have gh34 : my_fr [(4, 4), (4, 5), (4, 6), (4, 8), (4, 9), (32, -1), (33, -1), (34, -1), (35, -1), (37, -1)] h h34 := my_fr.up gh_8_0 (ix_4_6 t0) fh34 rfl
        have gxh34 : my_fx x0 8 h h34 := my_fx.up gx_8_0 fh34 (by omega)
        have AgL_h34 : my_ag AgF h h34 := AgL_ag (my_ag.up fh34 (ix_4_6 t0) rfl) n_AgL_8_0
        refine w_iinc (ls' := [(2, x0), (0, x1), (0, x2), (0, x3), (0, (p8_0 + 1))]) gz_61_37 rfl gm_61 rfl rfl rfl ⟨by omega, by omega⟩ ?_
        refine w_goto (t := 8) gz_61_40 rfl ?_
        exact ih_8_0 ((p8_0 + 1)) h34 (gh34) (gxh34) (by omega) (by omega) (by omega) (((my_up_role fh34 t0 (ix_4_6 t0) rfl).trans ev31.symm).trans (by omega)) (((my_up_role fh34 t0 (ix_4_6 t0) rfl).trans ca0_9_8_0).trans (by omega)) AgL_h34 (by first | exact ⟨_, U5, OjI_0 rfl⟩ | (obtain ⟨g9, q1, q2⟩ := oj_8_0; exact ⟨g9, q1, OjI_s q2 fh34 (by omega) (by omega) rfl (by omega)⟩) | assumption | omega) (by omega)
  refine w_aload_n gz_61_0 rfl ?_
  refine w_iload_n gz_61_1 rfl ?_
  refine w_inv (k := 0) (as := [(0, x3)]) (r := []) (x := x0) (ls0 := [(2, x0), (0, x3)]) gz_61_2 gm_54 rfl t0 rd_4 rfl rfl rfl rfl rfl ?_
  refine w_aload_n gz_54_0 rfl ?_
  refine w_getX (v := (x0 + 6)) gz_54_1 t0 rd_4 rfl (by decide) rfl ?_
  refine w_iload_n gz_54_4 rfl ?_
  refine w_iald gz_54_5 (ix_4_6 t0) rd_37 (by omega) (by omega) (fun v36 ev36 pv36 qv36 => ?_)
  refine w_iconst gz_54_6 (by decide) ?_
  refine w_iceq (t := 30) gz_54_7 rfl (fun u37 => ?_) (fun u37 => ?_)
  ·
    refine w_vret gz_54_30 gm_54 ?_
    show wp l rho (d + 1) 61 5 [(2, x0), (0, x1), (0, x2), (0, x3), (9, 0)] [] h Q
    have U5 : UsE h h x0 x3 := by first | exact UsE_n (by assumption) (by omega) | exact UsE_y no_such_saying (by assumption) (by omega) (by assumption) (by assumption) (by omega)
    refine w_iconst gz_61_5 (by decide) ?_
    refine w_istore (ls' := [(2, x0), (0, x1), (0, x2), (0, x3), (0, 1)]) gz_61_6 gm_61 rfl rfl rfl ?_
    exact J8_0 4 (1) h (my_fr.rf) (my_fx.rf) (by omega) (by omega) (by omega) (eka0_4.symm.trans (by omega)) (eka0_9.symm.trans (by omega)) (my_ag.rf : my_ag AgF h h) (by first | exact ⟨_, U5, OjI_0 rfl⟩ | (obtain ⟨g9, q1, q2⟩ := oj_8_0; exact ⟨g9, q1, OjI_s q2 no_such_saying (by omega) (by omega) rfl (by omega)⟩) | assumption | omega) (by omega)
  ·
    refine w_aload_n gz_54_10 rfl ?_
    refine w_dup gz_54_11 rfl ?_
    refine v_getI (j := 8) gz_54_12 rfl t0 rd_4 rfl (fun v38 ev38 pv38 qv38 => ?_)
    refine w_iconst gz_54_15 (by decide) ?_
    refine w_aload_n gz_54_16 rfl ?_
    refine w_getX (v := (x0 + 6)) gz_54_17 t0 rd_4 rfl (by decide) rfl ?_
    refine w_iload_n gz_54_20 rfl ?_
    refine w_iald gz_54_21 (ix_4_6 t0) rd_37 (by omega) (by omega) (fun v40 ev40 pv40 qv40 => ?_)
    have zv40 := ev40.trans ev36.symm
    refine w_bipush gz_54_22 (by decide) ?_
    refine w_irem gz_54_24 (by omega) (by decide) ?_
    refine w_ishlX gz_54_25 (fun v41 ev41 pv41 qv41 => ?_)
    refine w_iorX gz_54_26 (fun v42 ev42 pv42 qv42 => ?_)
    refine v_putA (j := 8) gz_54_27 rfl t0 rd_4 rfl rfl (fun h43 fh43 => ?_)
    have gh43 : my_fr [(4, 4), (4, 5), (4, 6), (4, 8), (4, 9), (32, -1), (33, -1), (34, -1), (35, -1), (37, -1)] h h43 := my_fr.up my_fr.rf t0 fh43 rfl
    have gxh43 : my_fx x0 8 h h43 := my_fx.up my_fx.rf fh43 (by omega)
    have AgL_h43 : my_ag AgF h h43 := AgL_ag (my_ag.up fh43 t0 rfl) (my_ag.rf : my_ag AgF h h)
    refine w_vret gz_54_30 gm_54 ?_
    show wp l rho (d + 1) 61 5 [(2, x0), (0, x1), (0, x2), (0, x3), (9, 0)] [] h43 Q
    have U5 : UsE h h43 x0 x3 := by first | exact UsE_n (by assumption) (by omega) | exact UsE_y fh43 (by assumption) (by omega) (by assumption) (by assumption) (by omega)
    refine w_iconst gz_61_5 (by decide) ?_
    refine w_istore (ls' := [(2, x0), (0, x1), (0, x2), (0, x3), (0, 1)]) gz_61_6 gm_61 rfl rfl rfl ?_
    exact J8_0 4 (1) h43 (gh43) (gxh43) (by omega) (by omega) (by omega) (((my_up_fld fh43 (by decide)).trans eka0_4.symm).trans (by omega)) (((my_up_fld fh43 (by decide)).trans eka0_9.symm).trans (by omega)) AgL_h43 (by first | exact ⟨_, U5, OjI_0 rfl⟩ | (obtain ⟨g9, q1, q2⟩ := oj_8_0; exact ⟨g9, q1, OjI_s q2 fh43 (by omega) (by omega) rfl (by omega)⟩) | assumption | omega) (by omega)
theorem c_Lens_addSum7 {l : Launch} {rho : Nat → Int32} {d : Nat} {h : my_H} {Q : my_H → my_V → Prop} {x0 x1 x2 : Int} (t0 : my_is 4 x0) (a1 : 0 ≤ x1) (b1 : x1 ≤ 7) (a2 : 0 ≤ x2) (b2 : x2 ≤ 7) (hs5 : h x0 9 ≤ 5) (k0 : ∀ (h' : my_H), my_fr [(4, 4), (4, 5), (4, 7), (4, 8), (4, 9), (32, -1), (33, -1), (34, -1), (35, -1), (37, -1)] h h' → my_fx x0 8 h h' → h' x0 4 = 2 → h' x0 7 = 1 → 1 ≤ h' x0 9 → h' x0 9 ≤ 6 → AddS h h' x0 5 x2 0 → AdE h h' x0 5 x1 x2 0 → AdD h h' x0 5 x1 x2 0 → Q h' (9, 0)) : wp l rho (d + 1) 63 0 [(2, x0), (0, x1), (0, x2)] [] h Q := by
  refine v_know (x := x0) (j := 9) (b := 9) rfl t0 rd_4 rfl (fun ka0_9 eka0_9 pka0_9 qka0_9 => ?_)
  refine v_know (x := x0) (j := 4) (b := 4) rfl t0 rd_4 rfl (fun ka0_4 eka0_4 pka0_4 qka0_4 => ?_)
  refine v_know (x := x0) (j := 1) (b := 1) rfl t0 rd_4 rfl (fun ka0_1 eka0_1 pka0_1 qka0_1 => ?_)
  refine v_know (x := x0) (j := 3) (b := 3) rfl t0 rd_4 rfl (fun ka0_3 eka0_3 pka0_3 qka0_3 => ?_)
  refine w_aload_n gz_63_0 rfl ?_
  refine w_iload_n gz_63_1 rfl ?_
  refine w_inv (k := 0) (as := [(0, x1)]) (r := []) (x := x0) (ls0 := [(2, x0), (0, x1)]) gz_63_2 gm_54 rfl t0 rd_4 rfl rfl rfl rfl rfl ?_
  refine w_aload_n gz_54_0 rfl ?_
  refine w_getX (v := (x0 + 6)) gz_54_1 t0 rd_4 rfl (by decide) rfl ?_
  refine w_iload_n gz_54_4 rfl ?_
  refine w_iald gz_54_5 (ix_4_6 t0) rd_37 (by omega) (by omega) (fun v2 ev2 pv2 qv2 => ?_)
  refine w_iconst gz_54_6 (by decide) ?_
  refine w_iceq (t := 30) gz_54_7 rfl (fun u3 => ?_) (fun u3 => ?_)
  ·
    refine w_vret gz_54_30 gm_54 ?_
    show wp l rho (d + 1) 63 5 [(2, x0), (0, x1), (0, x2)] [] h Q
    have U5 : UsE h h x0 x1 := by first | exact UsE_n (by assumption) (by omega) | exact UsE_y no_such_saying (by assumption) (by omega) (by assumption) (by assumption) (by omega)
    refine w_aload_n gz_63_5 rfl ?_
    refine w_iload_n gz_63_6 rfl ?_
    refine w_inv (k := 0) (as := [(0, x2)]) (r := []) (x := x0) (ls0 := [(2, x0), (0, x2)]) gz_63_7 gm_54 rfl t0 rd_4 rfl rfl rfl rfl rfl ?_
    refine w_aload_n gz_54_0 rfl ?_
    refine w_getX (v := (x0 + 6)) gz_54_1 t0 rd_4 rfl (by decide) rfl ?_
    refine w_iload_n gz_54_4 rfl ?_
    refine w_iald gz_54_5 (ix_4_6 t0) rd_37 (by omega) (by omega) (fun v5 ev5 pv5 qv5 => ?_)
    refine w_iconst gz_54_6 (by decide) ?_
    refine w_iceq (t := 30) gz_54_7 rfl (fun u6 => ?_) (fun u6 => ?_)
    ·
      refine w_vret gz_54_30 gm_54 ?_
      show wp l rho (d + 1) 63 10 [(2, x0), (0, x1), (0, x2)] [] h Q
      have a1 : ∀ j : Int, h (x0 + 1) j = h (x0 + 1) j := fun j => my_ag.at (my_ag.rf : my_ag AgF h h) (ix_4_1 t0) rfl
      have a3 : ∀ j : Int, h (x0 + 3) j = h (x0 + 3) j := fun j => my_ag.at (my_ag.rf : my_ag AgF h h) (ix_4_3 t0) rfl
      have a4 : ∀ j : Int, h (x0 + 4) j = h (x0 + 4) j := fun j => my_ag.at (my_ag.rf : my_ag AgF h h) (ix_4_4 t0) rfl
      have b1 : h x0 1 = h x0 1 := my_ag.at (my_ag.rf : my_ag AgF h h) t0 rfl
      have b3 : h x0 3 = h x0 3 := my_ag.at (my_ag.rf : my_ag AgF h h) t0 rfl
      have b9 : h x0 9 = h x0 9 := my_ag.at (my_ag.rf : my_ag AgF h h) t0 rfl
      have b4 : h x0 4 = h x0 4 := my_ag.at (my_ag.rf : my_ag AgF h h) t0 rfl
      have V10 : UsE h h x0 x2 := by first | exact UsE_n (by assumption) (by omega) | exact UsE_y no_such_saying (by assumption) (by omega) (by assumption) (by assumption) (by omega)
      refine w_aload_n gz_63_10 rfl ?_
      refine w_getX (v := (x0 + 6)) gz_63_11 t0 rd_4 rfl (by decide) rfl ?_
      refine w_iconst gz_63_14 (by decide) ?_
      refine w_iconst gz_63_15 (by decide) ?_
      refine w_iast gz_63_16 (ix_4_6 t0) rd_37 (by omega) (by omega) (by omega) (by omega) (fun h8 fh8 => ?_)
      have gh8 : my_fr [(4, 4), (4, 5), (4, 7), (4, 8), (4, 9), (32, -1), (33, -1), (34, -1), (35, -1), (37, -1)] h h8 := my_fr.up my_fr.rf (ix_4_6 t0) fh8 rfl
      have gxh8 : my_fx x0 8 h h8 := my_fx.up my_fx.rf fh8 (by omega)
      have AgL_h8 : my_ag AgF h h8 := AgL_ag (my_ag.up fh8 (ix_4_6 t0) rfl) (my_ag.rf : my_ag AgF h h)
      refine w_aload_n gz_63_17 rfl ?_
      refine w_getX (v := (x0 + 6)) gz_63_18 t0 rd_4 rfl (by decide) rfl ?_
      refine w_iconst gz_63_21 (by decide) ?_
      refine w_iconst gz_63_22 (by decide) ?_
      refine w_iast gz_63_23 (ix_4_6 t0) rd_37 (by omega) (by omega) (by omega) (by omega) (fun h10 fh10 => ?_)
      have gh10 : my_fr [(4, 4), (4, 5), (4, 7), (4, 8), (4, 9), (32, -1), (33, -1), (34, -1), (35, -1), (37, -1)] h h10 := my_fr.up gh8 (ix_4_6 t0) fh10 rfl
      have gxh10 : my_fx x0 8 h h10 := my_fx.up gxh8 fh10 (by omega)
      have AgL_h10 : my_ag AgF h h10 := AgL_ag (my_ag.up fh10 (ix_4_6 t0) rfl) AgL_h8
      refine w_aload_n gz_63_24 rfl ?_
      refine w_iconst gz_63_25 (by decide) ?_
      refine v_putI (j := 4) gz_63_26 rfl t0 rd_4 rfl (by omega) (by omega) rfl (fun h11 fh11 => ?_)
      have gh11 : my_fr [(4, 4), (4, 5), (4, 7), (4, 8), (4, 9), (32, -1), (33, -1), (34, -1), (35, -1), (37, -1)] h h11 := my_fr.up gh10 t0 fh11 rfl
      have gxh11 : my_fx x0 8 h h11 := my_fx.up gxh10 fh11 (by omega)
      refine w_aload_n gz_63_29 rfl ?_
      refine w_iconst gz_63_30 (by decide) ?_
      refine v_putB (j := 7) gz_63_31 rfl t0 rd_4 rfl (by omega) (by omega) rfl (fun h12 fh12 => ?_)
      have gh12 : my_fr [(4, 4), (4, 5), (4, 7), (4, 8), (4, 9), (32, -1), (33, -1), (34, -1), (35, -1), (37, -1)] h h12 := my_fr.up gh11 t0 fh12 rfl
      have gxh12 : my_fx x0 8 h h12 := my_fx.up gxh11 fh12 (by omega)
      refine w_aload_n gz_63_34 rfl ?_
      refine w_iconst gz_63_35 (by decide) ?_
      refine w_iload_n gz_63_36 rfl ?_
      refine w_iload_n gz_63_37 rfl ?_
      refine w_iconst gz_63_38 (by decide) ?_
      refine w_inv (k := 0) (as := [(0, 0), (0, x2), (0, x1), (0, 5)]) (r := []) (x := x0) (ls0 := [(2, x0), (0, 5), (0, x1), (0, x2), (0, 0)]) gz_63_39 gm_55 rfl t0 rd_4 rfl rfl rfl rfl rfl ?_
      refine w_aload_n gz_55_0 rfl ?_
      refine w_getX (v := (x0 + 1)) gz_55_1 t0 rd_4 rfl (by decide) rfl ?_
      refine w_aload_n gz_55_4 rfl ?_
      refine v_getI (j := 9) gz_55_5 rfl t0 rd_4 rfl (fun v14 ev14 pv14 qv14 => ?_)
      have zv14 := ev14.trans ((my_up_fld fh12 (by decide)).trans ((my_up_fld fh11 (by decide)).trans ((my_up_role fh10 t0 (ix_4_6 t0) rfl).trans ((my_up_role fh8 t0 (ix_4_6 t0) rfl).trans eka0_9.symm))))
      refine w_iload_n gz_55_8 rfl ?_
      have hi15 : 0 ≤ v14 := by omega
      have hi16 : v14 ≤ 5 := by omega
      refine w_iast gz_55_9 (ix_4_1 t0) rd_32 (by omega) (by omega) (by omega) (by omega) (fun h17 fh17 => ?_)
      have gh17 : my_fr [(4, 4), (4, 5), (4, 7), (4, 8), (4, 9), (32, -1), (33, -1), (34, -1), (35, -1), (37, -1)] h h17 := my_fr.up gh12 (ix_4_1 t0) fh17 rfl
      have gxh17 : my_fx x0 8 h h17 := my_fx.up gxh12 fh17 (by omega)
      refine w_aload_n gz_55_10 rfl ?_
      refine w_getX (v := (x0 + 2)) gz_55_11 t0 rd_4 rfl (by decide) rfl ?_
      refine w_aload_n gz_55_14 rfl ?_
      refine v_getI (j := 9) gz_55_15 rfl t0 rd_4 rfl (fun v19 ev19 pv19 qv19 => ?_)
      have zv19 := ev19.trans ((my_up_role fh17 t0 (ix_4_1 t0) rfl).trans ev14.symm)
      refine w_iload_n gz_55_18 rfl ?_
      refine w_iast gz_55_19 (ix_4_2 t0) rd_33 (by omega) (by omega) (by omega) (by omega) (fun h20 fh20 => ?_)
      have gh20 : my_fr [(4, 4), (4, 5), (4, 7), (4, 8), (4, 9), (32, -1), (33, -1), (34, -1), (35, -1), (37, -1)] h h20 := my_fr.up gh17 (ix_4_2 t0) fh20 rfl
      have gxh20 : my_fx x0 8 h h20 := my_fx.up gxh17 fh20 (by omega)
      refine w_aload_n gz_55_20 rfl ?_
      refine w_getX (v := (x0 + 3)) gz_55_21 t0 rd_4 rfl (by decide) rfl ?_
      refine w_aload_n gz_55_24 rfl ?_
      refine v_getI (j := 9) gz_55_25 rfl t0 rd_4 rfl (fun v22 ev22 pv22 qv22 => ?_)
      have zv22 := ev22.trans ((my_up_role fh20 t0 (ix_4_2 t0) rfl).trans ev19.symm)
      refine w_iload_n gz_55_28 rfl ?_
      refine w_iast gz_55_29 (ix_4_3 t0) rd_34 (by omega) (by omega) (by omega) (by omega) (fun h23 fh23 => ?_)
      have gh23 : my_fr [(4, 4), (4, 5), (4, 7), (4, 8), (4, 9), (32, -1), (33, -1), (34, -1), (35, -1), (37, -1)] h h23 := my_fr.up gh20 (ix_4_3 t0) fh23 rfl
      have gxh23 : my_fx x0 8 h h23 := my_fx.up gxh20 fh23 (by omega)
      refine w_aload_n gz_55_30 rfl ?_
      refine w_getX (v := (x0 + 4)) gz_55_31 t0 rd_4 rfl (by decide) rfl ?_
      refine w_aload_n gz_55_34 rfl ?_
      refine v_getI (j := 9) gz_55_35 rfl t0 rd_4 rfl (fun v25 ev25 pv25 qv25 => ?_)
      have zv25 := ev25.trans ((my_up_role fh23 t0 (ix_4_3 t0) rfl).trans ev22.symm)
      refine w_iload gz_55_38 rfl ?_
      refine w_iast gz_55_40 (ix_4_4 t0) rd_35 (by omega) (by omega) (by omega) (by omega) (fun h26 fh26 => ?_)
      have gh26 : my_fr [(4, 4), (4, 5), (4, 7), (4, 8), (4, 9), (32, -1), (33, -1), (34, -1), (35, -1), (37, -1)] h h26 := my_fr.up gh23 (ix_4_4 t0) fh26 rfl
      have gxh26 : my_fx x0 8 h h26 := my_fx.up gxh23 fh26 (by omega)
      refine w_aload_n gz_55_41 rfl ?_
      refine w_dup gz_55_42 rfl ?_
      refine v_getI (j := 9) gz_55_43 rfl t0 rd_4 rfl (fun v27 ev27 pv27 qv27 => ?_)
      have zv27 := ev27.trans ((my_up_role fh26 t0 (ix_4_4 t0) rfl).trans ev25.symm)
      refine w_iconst gz_55_46 (by decide) ?_
      refine w_iadd gz_55_47 ⟨by omega, by omega⟩ ?_
      refine v_putI (j := 9) gz_55_48 rfl t0 rd_4 rfl (by omega) (by omega) rfl (fun h28 fh28 => ?_)
      have gh28 : my_fr [(4, 4), (4, 5), (4, 7), (4, 8), (4, 9), (32, -1), (33, -1), (34, -1), (35, -1), (37, -1)] h h28 := my_fr.up gh26 t0 fh28 rfl
      have gxh28 : my_fx x0 8 h h28 := my_fx.up gxh26 fh28 (by omega)
      refine w_aload_n gz_55_51 rfl ?_
      refine w_dup gz_55_52 rfl ?_
      refine v_getI (j := 5) gz_55_53 rfl t0 rd_4 rfl (fun v29 ev29 pv29 qv29 => ?_)
      refine w_iconst gz_55_56 (by decide) ?_
      refine w_ianyA gz_55_57 (fun v30 pv30 qv30 => ?_)
      refine v_putA (j := 5) gz_55_58 rfl t0 rd_4 rfl rfl (fun h31 fh31 => ?_)
      have gh31 : my_fr [(4, 4), (4, 5), (4, 7), (4, 8), (4, 9), (32, -1), (33, -1), (34, -1), (35, -1), (37, -1)] h h31 := my_fr.up gh28 t0 fh31 rfl
      have gxh31 : my_fx x0 8 h h31 := my_fx.up gxh28 fh31 (by omega)
      refine w_vret gz_55_61 gm_55 ?_
      show wp l rho (d + 1) 63 42 [(2, x0), (0, x1), (0, x2)] [] h31 Q
      have c32 := ((my_up_fld fh31 (by decide)).trans ((my_up_fld fh28 (by decide)).trans ((my_up_role fh26 t0 (ix_4_4 t0) rfl).trans ((my_up_role fh23 t0 (ix_4_3 t0) rfl).trans ((my_up_role fh20 t0 (ix_4_2 t0) rfl).trans ((my_up_role fh17 t0 (ix_4_1 t0) rfl).trans ((my_up_fld fh12 (by decide)).trans (my_up_self fh11))))))))
      have c33 := ((my_up_fld fh31 (by decide)).trans ((my_up_fld fh28 (by decide)).trans ((my_up_role fh26 t0 (ix_4_4 t0) rfl).trans ((my_up_role fh23 t0 (ix_4_3 t0) rfl).trans ((my_up_role fh20 t0 (ix_4_2 t0) rfl).trans ((my_up_role fh17 t0 (ix_4_1 t0) rfl).trans (my_up_self fh12)))))))
      have c34 := ((my_up_fld fh31 (by decide)).trans (my_up_self fh28))
      exact w_vret gz_63_42 gm_63 (k0 h31 (gh31) (gxh31) (by omega) (by omega) (by omega) (by omega) (by first | exact (Ad_sum U5 V10 fh8 fh10 fh11 fh12 (AdS_mk (s := h x0 9) fh17 fh20 fh23 fh26 fh28 fh31 (by omega) (by omega) (by omega) (by omega) (by omega)) rfl ⟨by omega, by omega⟩ ⟨by omega, by omega⟩ (by omega) (by omega)).1 | exact (Ad_sum U5 V10 fh8 fh10 fh11 fh12 (AdS_mk (s := h x0 9) fh17 fh20 fh23 fh26 fh28 fh31 (by omega) (by omega) (by omega) (by omega) (by omega)) rfl ⟨by omega, by omega⟩ ⟨by omega, by omega⟩ (by omega) (by omega)).2 | exact AdE_A (Ad_sum U5 V10 fh8 fh10 fh11 fh12 (AdS_mk (s := h x0 9) fh17 fh20 fh23 fh26 fh28 fh31 (by omega) (by omega) (by omega) (by omega) (by omega)) rfl ⟨by omega, by omega⟩ ⟨by omega, by omega⟩ (by omega) (by omega)).1 | assumption | omega) (by first | exact (Ad_sum U5 V10 fh8 fh10 fh11 fh12 (AdS_mk (s := h x0 9) fh17 fh20 fh23 fh26 fh28 fh31 (by omega) (by omega) (by omega) (by omega) (by omega)) rfl ⟨by omega, by omega⟩ ⟨by omega, by omega⟩ (by omega) (by omega)).1 | exact (Ad_sum U5 V10 fh8 fh10 fh11 fh12 (AdS_mk (s := h x0 9) fh17 fh20 fh23 fh26 fh28 fh31 (by omega) (by omega) (by omega) (by omega) (by omega)) rfl ⟨by omega, by omega⟩ ⟨by omega, by omega⟩ (by omega) (by omega)).2 | exact AdE_A (Ad_sum U5 V10 fh8 fh10 fh11 fh12 (AdS_mk (s := h x0 9) fh17 fh20 fh23 fh26 fh28 fh31 (by omega) (by omega) (by omega) (by omega) (by omega)) rfl ⟨by omega, by omega⟩ ⟨by omega, by omega⟩ (by omega) (by omega)).1 | assumption | omega) (by first | exact (Ad_sum U5 V10 fh8 fh10 fh11 fh12 (AdS_mk (s := h x0 9) fh17 fh20 fh23 fh26 fh28 fh31 (by omega) (by omega) (by omega) (by omega) (by omega)) rfl ⟨by omega, by omega⟩ ⟨by omega, by omega⟩ (by omega) (by omega)).1 | exact (Ad_sum U5 V10 fh8 fh10 fh11 fh12 (AdS_mk (s := h x0 9) fh17 fh20 fh23 fh26 fh28 fh31 (by omega) (by omega) (by omega) (by omega) (by omega)) rfl ⟨by omega, by omega⟩ ⟨by omega, by omega⟩ (by omega) (by omega)).2 | exact AdE_A (Ad_sum U5 V10 fh8 fh10 fh11 fh12 (AdS_mk (s := h x0 9) fh17 fh20 fh23 fh26 fh28 fh31 (by omega) (by omega) (by omega) (by omega) (by omega)) rfl ⟨by omega, by omega⟩ ⟨by omega, by omega⟩ (by omega) (by omega)).1 | assumption | omega))
    ·
      refine w_aload_n gz_54_10 rfl ?_
      refine w_dup gz_54_11 rfl ?_
      refine v_getI (j := 8) gz_54_12 rfl t0 rd_4 rfl (fun v35 ev35 pv35 qv35 => ?_)
      refine w_iconst gz_54_15 (by decide) ?_
      refine w_aload_n gz_54_16 rfl ?_
      refine w_getX (v := (x0 + 6)) gz_54_17 t0 rd_4 rfl (by decide) rfl ?_
      refine w_iload_n gz_54_20 rfl ?_
      refine w_iald gz_54_21 (ix_4_6 t0) rd_37 (by omega) (by omega) (fun v37 ev37 pv37 qv37 => ?_)
      have zv37 := ev37.trans ev5.symm
      refine w_bipush gz_54_22 (by decide) ?_
      refine w_irem gz_54_24 (by omega) (by decide) ?_
      refine w_ishlX gz_54_25 (fun v38 ev38 pv38 qv38 => ?_)
      refine w_iorX gz_54_26 (fun v39 ev39 pv39 qv39 => ?_)
      refine v_putA (j := 8) gz_54_27 rfl t0 rd_4 rfl rfl (fun h40 fh40 => ?_)
      have gh40 : my_fr [(4, 4), (4, 5), (4, 7), (4, 8), (4, 9), (32, -1), (33, -1), (34, -1), (35, -1), (37, -1)] h h40 := my_fr.up my_fr.rf t0 fh40 rfl
      have gxh40 : my_fx x0 8 h h40 := my_fx.up my_fx.rf fh40 (by omega)
      have AgL_h40 : my_ag AgF h h40 := AgL_ag (my_ag.up fh40 t0 rfl) (my_ag.rf : my_ag AgF h h)
      refine w_vret gz_54_30 gm_54 ?_
      show wp l rho (d + 1) 63 10 [(2, x0), (0, x1), (0, x2)] [] h40 Q
      have a1 : ∀ j : Int, h40 (x0 + 1) j = h (x0 + 1) j := fun j => my_ag.at AgL_h40 (ix_4_1 t0) rfl
      have a3 : ∀ j : Int, h40 (x0 + 3) j = h (x0 + 3) j := fun j => my_ag.at AgL_h40 (ix_4_3 t0) rfl
      have a4 : ∀ j : Int, h40 (x0 + 4) j = h (x0 + 4) j := fun j => my_ag.at AgL_h40 (ix_4_4 t0) rfl
      have b1 : h40 x0 1 = h x0 1 := my_ag.at AgL_h40 t0 rfl
      have b3 : h40 x0 3 = h x0 3 := my_ag.at AgL_h40 t0 rfl
      have b9 : h40 x0 9 = h x0 9 := my_ag.at AgL_h40 t0 rfl
      have b4 : h40 x0 4 = h x0 4 := my_ag.at AgL_h40 t0 rfl
      have V10 : UsE h h40 x0 x2 := by first | exact UsE_n (by assumption) (by omega) | exact UsE_y fh40 (by assumption) (by omega) (by assumption) (by assumption) (by omega)
      refine w_aload_n gz_63_10 rfl ?_
      refine w_getX (v := (x0 + 6)) gz_63_11 t0 rd_4 rfl (by decide) rfl ?_
      refine w_iconst gz_63_14 (by decide) ?_
      refine w_iconst gz_63_15 (by decide) ?_
      refine w_iast gz_63_16 (ix_4_6 t0) rd_37 (by omega) (by omega) (by omega) (by omega) (fun h42 fh42 => ?_)
      have gh42 : my_fr [(4, 4), (4, 5), (4, 7), (4, 8), (4, 9), (32, -1), (33, -1), (34, -1), (35, -1), (37, -1)] h h42 := my_fr.up gh40 (ix_4_6 t0) fh42 rfl
      have gxh42 : my_fx x0 8 h h42 := my_fx.up gxh40 fh42 (by omega)
      have AgL_h42 : my_ag AgF h h42 := AgL_ag (my_ag.up fh42 (ix_4_6 t0) rfl) AgL_h40
      refine w_aload_n gz_63_17 rfl ?_
      refine w_getX (v := (x0 + 6)) gz_63_18 t0 rd_4 rfl (by decide) rfl ?_
      refine w_iconst gz_63_21 (by decide) ?_
      refine w_iconst gz_63_22 (by decide) ?_
      refine w_iast gz_63_23 (ix_4_6 t0) rd_37 (by omega) (by omega) (by omega) (by omega) (fun h44 fh44 => ?_)
      have gh44 : my_fr [(4, 4), (4, 5), (4, 7), (4, 8), (4, 9), (32, -1), (33, -1), (34, -1), (35, -1), (37, -1)] h h44 := my_fr.up gh42 (ix_4_6 t0) fh44 rfl
      have gxh44 : my_fx x0 8 h h44 := my_fx.up gxh42 fh44 (by omega)
      have AgL_h44 : my_ag AgF h h44 := AgL_ag (my_ag.up fh44 (ix_4_6 t0) rfl) AgL_h42
      refine w_aload_n gz_63_24 rfl ?_
      refine w_iconst gz_63_25 (by decide) ?_
      refine v_putI (j := 4) gz_63_26 rfl t0 rd_4 rfl (by omega) (by omega) rfl (fun h45 fh45 => ?_)
      have gh45 : my_fr [(4, 4), (4, 5), (4, 7), (4, 8), (4, 9), (32, -1), (33, -1), (34, -1), (35, -1), (37, -1)] h h45 := my_fr.up gh44 t0 fh45 rfl
      have gxh45 : my_fx x0 8 h h45 := my_fx.up gxh44 fh45 (by omega)
      refine w_aload_n gz_63_29 rfl ?_
      refine w_iconst gz_63_30 (by decide) ?_
      refine v_putB (j := 7) gz_63_31 rfl t0 rd_4 rfl (by omega) (by omega) rfl (fun h46 fh46 => ?_)
      have gh46 : my_fr [(4, 4), (4, 5), (4, 7), (4, 8), (4, 9), (32, -1), (33, -1), (34, -1), (35, -1), (37, -1)] h h46 := my_fr.up gh45 t0 fh46 rfl
      have gxh46 : my_fx x0 8 h h46 := my_fx.up gxh45 fh46 (by omega)
      refine w_aload_n gz_63_34 rfl ?_
      refine w_iconst gz_63_35 (by decide) ?_
      refine w_iload_n gz_63_36 rfl ?_
      refine w_iload_n gz_63_37 rfl ?_
      refine w_iconst gz_63_38 (by decide) ?_
      refine w_inv (k := 0) (as := [(0, 0), (0, x2), (0, x1), (0, 5)]) (r := []) (x := x0) (ls0 := [(2, x0), (0, 5), (0, x1), (0, x2), (0, 0)]) gz_63_39 gm_55 rfl t0 rd_4 rfl rfl rfl rfl rfl ?_
      refine w_aload_n gz_55_0 rfl ?_
      refine w_getX (v := (x0 + 1)) gz_55_1 t0 rd_4 rfl (by decide) rfl ?_
      refine w_aload_n gz_55_4 rfl ?_
      refine v_getI (j := 9) gz_55_5 rfl t0 rd_4 rfl (fun v48 ev48 pv48 qv48 => ?_)
      have zv48 := ev48.trans ((my_up_fld fh46 (by decide)).trans ((my_up_fld fh45 (by decide)).trans ((my_up_role fh44 t0 (ix_4_6 t0) rfl).trans ((my_up_role fh42 t0 (ix_4_6 t0) rfl).trans ((my_up_fld fh40 (by decide)).trans eka0_9.symm)))))
      refine w_iload_n gz_55_8 rfl ?_
      have hi49 : 0 ≤ v48 := by omega
      have hi50 : v48 ≤ 5 := by omega
      refine w_iast gz_55_9 (ix_4_1 t0) rd_32 (by omega) (by omega) (by omega) (by omega) (fun h51 fh51 => ?_)
      have gh51 : my_fr [(4, 4), (4, 5), (4, 7), (4, 8), (4, 9), (32, -1), (33, -1), (34, -1), (35, -1), (37, -1)] h h51 := my_fr.up gh46 (ix_4_1 t0) fh51 rfl
      have gxh51 : my_fx x0 8 h h51 := my_fx.up gxh46 fh51 (by omega)
      refine w_aload_n gz_55_10 rfl ?_
      refine w_getX (v := (x0 + 2)) gz_55_11 t0 rd_4 rfl (by decide) rfl ?_
      refine w_aload_n gz_55_14 rfl ?_
      refine v_getI (j := 9) gz_55_15 rfl t0 rd_4 rfl (fun v53 ev53 pv53 qv53 => ?_)
      have zv53 := ev53.trans ((my_up_role fh51 t0 (ix_4_1 t0) rfl).trans ev48.symm)
      refine w_iload_n gz_55_18 rfl ?_
      refine w_iast gz_55_19 (ix_4_2 t0) rd_33 (by omega) (by omega) (by omega) (by omega) (fun h54 fh54 => ?_)
      have gh54 : my_fr [(4, 4), (4, 5), (4, 7), (4, 8), (4, 9), (32, -1), (33, -1), (34, -1), (35, -1), (37, -1)] h h54 := my_fr.up gh51 (ix_4_2 t0) fh54 rfl
      have gxh54 : my_fx x0 8 h h54 := my_fx.up gxh51 fh54 (by omega)
      refine w_aload_n gz_55_20 rfl ?_
      refine w_getX (v := (x0 + 3)) gz_55_21 t0 rd_4 rfl (by decide) rfl ?_
      refine w_aload_n gz_55_24 rfl ?_
      refine v_getI (j := 9) gz_55_25 rfl t0 rd_4 rfl (fun v56 ev56 pv56 qv56 => ?_)
      have zv56 := ev56.trans ((my_up_role fh54 t0 (ix_4_2 t0) rfl).trans ev53.symm)
      refine w_iload_n gz_55_28 rfl ?_
      refine w_iast gz_55_29 (ix_4_3 t0) rd_34 (by omega) (by omega) (by omega) (by omega) (fun h57 fh57 => ?_)
      have gh57 : my_fr [(4, 4), (4, 5), (4, 7), (4, 8), (4, 9), (32, -1), (33, -1), (34, -1), (35, -1), (37, -1)] h h57 := my_fr.up gh54 (ix_4_3 t0) fh57 rfl
      have gxh57 : my_fx x0 8 h h57 := my_fx.up gxh54 fh57 (by omega)
      refine w_aload_n gz_55_30 rfl ?_
      refine w_getX (v := (x0 + 4)) gz_55_31 t0 rd_4 rfl (by decide) rfl ?_
      refine w_aload_n gz_55_34 rfl ?_
      refine v_getI (j := 9) gz_55_35 rfl t0 rd_4 rfl (fun v59 ev59 pv59 qv59 => ?_)
      have zv59 := ev59.trans ((my_up_role fh57 t0 (ix_4_3 t0) rfl).trans ev56.symm)
      refine w_iload gz_55_38 rfl ?_
      refine w_iast gz_55_40 (ix_4_4 t0) rd_35 (by omega) (by omega) (by omega) (by omega) (fun h60 fh60 => ?_)
      have gh60 : my_fr [(4, 4), (4, 5), (4, 7), (4, 8), (4, 9), (32, -1), (33, -1), (34, -1), (35, -1), (37, -1)] h h60 := my_fr.up gh57 (ix_4_4 t0) fh60 rfl
      have gxh60 : my_fx x0 8 h h60 := my_fx.up gxh57 fh60 (by omega)
      refine w_aload_n gz_55_41 rfl ?_
      refine w_dup gz_55_42 rfl ?_
      refine v_getI (j := 9) gz_55_43 rfl t0 rd_4 rfl (fun v61 ev61 pv61 qv61 => ?_)
      have zv61 := ev61.trans ((my_up_role fh60 t0 (ix_4_4 t0) rfl).trans ev59.symm)
      refine w_iconst gz_55_46 (by decide) ?_
      refine w_iadd gz_55_47 ⟨by omega, by omega⟩ ?_
      refine v_putI (j := 9) gz_55_48 rfl t0 rd_4 rfl (by omega) (by omega) rfl (fun h62 fh62 => ?_)
      have gh62 : my_fr [(4, 4), (4, 5), (4, 7), (4, 8), (4, 9), (32, -1), (33, -1), (34, -1), (35, -1), (37, -1)] h h62 := my_fr.up gh60 t0 fh62 rfl
      have gxh62 : my_fx x0 8 h h62 := my_fx.up gxh60 fh62 (by omega)
      refine w_aload_n gz_55_51 rfl ?_
      refine w_dup gz_55_52 rfl ?_
      refine v_getI (j := 5) gz_55_53 rfl t0 rd_4 rfl (fun v63 ev63 pv63 qv63 => ?_)
      refine w_iconst gz_55_56 (by decide) ?_
      refine w_ianyA gz_55_57 (fun v64 pv64 qv64 => ?_)
      refine v_putA (j := 5) gz_55_58 rfl t0 rd_4 rfl rfl (fun h65 fh65 => ?_)
      have gh65 : my_fr [(4, 4), (4, 5), (4, 7), (4, 8), (4, 9), (32, -1), (33, -1), (34, -1), (35, -1), (37, -1)] h h65 := my_fr.up gh62 t0 fh65 rfl
      have gxh65 : my_fx x0 8 h h65 := my_fx.up gxh62 fh65 (by omega)
      refine w_vret gz_55_61 gm_55 ?_
      show wp l rho (d + 1) 63 42 [(2, x0), (0, x1), (0, x2)] [] h65 Q
      have c66 := ((my_up_fld fh65 (by decide)).trans ((my_up_fld fh62 (by decide)).trans ((my_up_role fh60 t0 (ix_4_4 t0) rfl).trans ((my_up_role fh57 t0 (ix_4_3 t0) rfl).trans ((my_up_role fh54 t0 (ix_4_2 t0) rfl).trans ((my_up_role fh51 t0 (ix_4_1 t0) rfl).trans ((my_up_fld fh46 (by decide)).trans (my_up_self fh45))))))))
      have c67 := ((my_up_fld fh65 (by decide)).trans ((my_up_fld fh62 (by decide)).trans ((my_up_role fh60 t0 (ix_4_4 t0) rfl).trans ((my_up_role fh57 t0 (ix_4_3 t0) rfl).trans ((my_up_role fh54 t0 (ix_4_2 t0) rfl).trans ((my_up_role fh51 t0 (ix_4_1 t0) rfl).trans (my_up_self fh46)))))))
      have c68 := ((my_up_fld fh65 (by decide)).trans (my_up_self fh62))
      exact w_vret gz_63_42 gm_63 (k0 h65 (gh65) (gxh65) (by omega) (by omega) (by omega) (by omega) (by first | exact (Ad_sum U5 V10 fh42 fh44 fh45 fh46 (AdS_mk (s := h x0 9) fh51 fh54 fh57 fh60 fh62 fh65 (by omega) (by omega) (by omega) (by omega) (by omega)) rfl ⟨by omega, by omega⟩ ⟨by omega, by omega⟩ (by omega) (by omega)).1 | exact (Ad_sum U5 V10 fh42 fh44 fh45 fh46 (AdS_mk (s := h x0 9) fh51 fh54 fh57 fh60 fh62 fh65 (by omega) (by omega) (by omega) (by omega) (by omega)) rfl ⟨by omega, by omega⟩ ⟨by omega, by omega⟩ (by omega) (by omega)).2 | exact AdE_A (Ad_sum U5 V10 fh42 fh44 fh45 fh46 (AdS_mk (s := h x0 9) fh51 fh54 fh57 fh60 fh62 fh65 (by omega) (by omega) (by omega) (by omega) (by omega)) rfl ⟨by omega, by omega⟩ ⟨by omega, by omega⟩ (by omega) (by omega)).1 | assumption | omega) (by first | exact (Ad_sum U5 V10 fh42 fh44 fh45 fh46 (AdS_mk (s := h x0 9) fh51 fh54 fh57 fh60 fh62 fh65 (by omega) (by omega) (by omega) (by omega) (by omega)) rfl ⟨by omega, by omega⟩ ⟨by omega, by omega⟩ (by omega) (by omega)).1 | exact (Ad_sum U5 V10 fh42 fh44 fh45 fh46 (AdS_mk (s := h x0 9) fh51 fh54 fh57 fh60 fh62 fh65 (by omega) (by omega) (by omega) (by omega) (by omega)) rfl ⟨by omega, by omega⟩ ⟨by omega, by omega⟩ (by omega) (by omega)).2 | exact AdE_A (Ad_sum U5 V10 fh42 fh44 fh45 fh46 (AdS_mk (s := h x0 9) fh51 fh54 fh57 fh60 fh62 fh65 (by omega) (by omega) (by omega) (by omega) (by omega)) rfl ⟨by omega, by omega⟩ ⟨by omega, by omega⟩ (by omega) (by omega)).1 | assumption | omega) (by first | exact (Ad_sum U5 V10 fh42 fh44 fh45 fh46 (AdS_mk (s := h x0 9) fh51 fh54 fh57 fh60 fh62 fh65 (by omega) (by omega) (by omega) (by omega) (by omega)) rfl ⟨by omega, by omega⟩ ⟨by omega, by omega⟩ (by omega) (by omega)).1 | exact (Ad_sum U5 V10 fh42 fh44 fh45 fh46 (AdS_mk (s := h x0 9) fh51 fh54 fh57 fh60 fh62 fh65 (by omega) (by omega) (by omega) (by omega) (by omega)) rfl ⟨by omega, by omega⟩ ⟨by omega, by omega⟩ (by omega) (by omega)).2 | exact AdE_A (Ad_sum U5 V10 fh42 fh44 fh45 fh46 (AdS_mk (s := h x0 9) fh51 fh54 fh57 fh60 fh62 fh65 (by omega) (by omega) (by omega) (by omega) (by omega)) rfl ⟨by omega, by omega⟩ ⟨by omega, by omega⟩ (by omega) (by omega)).1 | assumption | omega))
  ·
    refine w_aload_n gz_54_10 rfl ?_
    refine w_dup gz_54_11 rfl ?_
    refine v_getI (j := 8) gz_54_12 rfl t0 rd_4 rfl (fun v69 ev69 pv69 qv69 => ?_)
    refine w_iconst gz_54_15 (by decide) ?_
    refine w_aload_n gz_54_16 rfl ?_
    refine w_getX (v := (x0 + 6)) gz_54_17 t0 rd_4 rfl (by decide) rfl ?_
    refine w_iload_n gz_54_20 rfl ?_
    refine w_iald gz_54_21 (ix_4_6 t0) rd_37 (by omega) (by omega) (fun v71 ev71 pv71 qv71 => ?_)
    have zv71 := ev71.trans ev2.symm
    refine w_bipush gz_54_22 (by decide) ?_
    refine w_irem gz_54_24 (by omega) (by decide) ?_
    refine w_ishlX gz_54_25 (fun v72 ev72 pv72 qv72 => ?_)
    refine w_iorX gz_54_26 (fun v73 ev73 pv73 qv73 => ?_)
    refine v_putA (j := 8) gz_54_27 rfl t0 rd_4 rfl rfl (fun h74 fh74 => ?_)
    have gh74 : my_fr [(4, 4), (4, 5), (4, 7), (4, 8), (4, 9), (32, -1), (33, -1), (34, -1), (35, -1), (37, -1)] h h74 := my_fr.up my_fr.rf t0 fh74 rfl
    have gxh74 : my_fx x0 8 h h74 := my_fx.up my_fx.rf fh74 (by omega)
    have AgL_h74 : my_ag AgF h h74 := AgL_ag (my_ag.up fh74 t0 rfl) (my_ag.rf : my_ag AgF h h)
    refine w_vret gz_54_30 gm_54 ?_
    show wp l rho (d + 1) 63 5 [(2, x0), (0, x1), (0, x2)] [] h74 Q
    have U5 : UsE h h74 x0 x1 := by first | exact UsE_n (by assumption) (by omega) | exact UsE_y fh74 (by assumption) (by omega) (by assumption) (by assumption) (by omega)
    refine w_aload_n gz_63_5 rfl ?_
    refine w_iload_n gz_63_6 rfl ?_
    refine w_inv (k := 0) (as := [(0, x2)]) (r := []) (x := x0) (ls0 := [(2, x0), (0, x2)]) gz_63_7 gm_54 rfl t0 rd_4 rfl rfl rfl rfl rfl ?_
    refine w_aload_n gz_54_0 rfl ?_
    refine w_getX (v := (x0 + 6)) gz_54_1 t0 rd_4 rfl (by decide) rfl ?_
    refine w_iload_n gz_54_4 rfl ?_
    refine w_iald gz_54_5 (ix_4_6 t0) rd_37 (by omega) (by omega) (fun v76 ev76 pv76 qv76 => ?_)
    refine w_iconst gz_54_6 (by decide) ?_
    refine w_iceq (t := 30) gz_54_7 rfl (fun u77 => ?_) (fun u77 => ?_)
    ·
      refine w_vret gz_54_30 gm_54 ?_
      show wp l rho (d + 1) 63 10 [(2, x0), (0, x1), (0, x2)] [] h74 Q
      have a1 : ∀ j : Int, h74 (x0 + 1) j = h (x0 + 1) j := fun j => my_ag.at AgL_h74 (ix_4_1 t0) rfl
      have a3 : ∀ j : Int, h74 (x0 + 3) j = h (x0 + 3) j := fun j => my_ag.at AgL_h74 (ix_4_3 t0) rfl
      have a4 : ∀ j : Int, h74 (x0 + 4) j = h (x0 + 4) j := fun j => my_ag.at AgL_h74 (ix_4_4 t0) rfl
      have b1 : h74 x0 1 = h x0 1 := my_ag.at AgL_h74 t0 rfl
      have b3 : h74 x0 3 = h x0 3 := my_ag.at AgL_h74 t0 rfl
      have b9 : h74 x0 9 = h x0 9 := my_ag.at AgL_h74 t0 rfl
      have b4 : h74 x0 4 = h x0 4 := my_ag.at AgL_h74 t0 rfl
      have V10 : UsE h74 h74 x0 x2 := by first | exact UsE_n (by assumption) (by omega) | exact UsE_y fh74 (by assumption) (by omega) (by assumption) (by assumption) (by omega)
      refine w_aload_n gz_63_10 rfl ?_
      refine w_getX (v := (x0 + 6)) gz_63_11 t0 rd_4 rfl (by decide) rfl ?_
      refine w_iconst gz_63_14 (by decide) ?_
      refine w_iconst gz_63_15 (by decide) ?_
      refine w_iast gz_63_16 (ix_4_6 t0) rd_37 (by omega) (by omega) (by omega) (by omega) (fun h79 fh79 => ?_)
      have gh79 : my_fr [(4, 4), (4, 5), (4, 7), (4, 8), (4, 9), (32, -1), (33, -1), (34, -1), (35, -1), (37, -1)] h h79 := my_fr.up gh74 (ix_4_6 t0) fh79 rfl
      have gxh79 : my_fx x0 8 h h79 := my_fx.up gxh74 fh79 (by omega)
      have AgL_h79 : my_ag AgF h h79 := AgL_ag (my_ag.up fh79 (ix_4_6 t0) rfl) AgL_h74
      refine w_aload_n gz_63_17 rfl ?_
      refine w_getX (v := (x0 + 6)) gz_63_18 t0 rd_4 rfl (by decide) rfl ?_
      refine w_iconst gz_63_21 (by decide) ?_
      refine w_iconst gz_63_22 (by decide) ?_
      refine w_iast gz_63_23 (ix_4_6 t0) rd_37 (by omega) (by omega) (by omega) (by omega) (fun h81 fh81 => ?_)
      have gh81 : my_fr [(4, 4), (4, 5), (4, 7), (4, 8), (4, 9), (32, -1), (33, -1), (34, -1), (35, -1), (37, -1)] h h81 := my_fr.up gh79 (ix_4_6 t0) fh81 rfl
      have gxh81 : my_fx x0 8 h h81 := my_fx.up gxh79 fh81 (by omega)
      have AgL_h81 : my_ag AgF h h81 := AgL_ag (my_ag.up fh81 (ix_4_6 t0) rfl) AgL_h79
      refine w_aload_n gz_63_24 rfl ?_
      refine w_iconst gz_63_25 (by decide) ?_
      refine v_putI (j := 4) gz_63_26 rfl t0 rd_4 rfl (by omega) (by omega) rfl (fun h82 fh82 => ?_)
      have gh82 : my_fr [(4, 4), (4, 5), (4, 7), (4, 8), (4, 9), (32, -1), (33, -1), (34, -1), (35, -1), (37, -1)] h h82 := my_fr.up gh81 t0 fh82 rfl
      have gxh82 : my_fx x0 8 h h82 := my_fx.up gxh81 fh82 (by omega)
      refine w_aload_n gz_63_29 rfl ?_
      refine w_iconst gz_63_30 (by decide) ?_
      refine v_putB (j := 7) gz_63_31 rfl t0 rd_4 rfl (by omega) (by omega) rfl (fun h83 fh83 => ?_)
      have gh83 : my_fr [(4, 4), (4, 5), (4, 7), (4, 8), (4, 9), (32, -1), (33, -1), (34, -1), (35, -1), (37, -1)] h h83 := my_fr.up gh82 t0 fh83 rfl
      have gxh83 : my_fx x0 8 h h83 := my_fx.up gxh82 fh83 (by omega)
      refine w_aload_n gz_63_34 rfl ?_
      refine w_iconst gz_63_35 (by decide) ?_
      refine w_iload_n gz_63_36 rfl ?_
      refine w_iload_n gz_63_37 rfl ?_
      refine w_iconst gz_63_38 (by decide) ?_
      refine w_inv (k := 0) (as := [(0, 0), (0, x2), (0, x1), (0, 5)]) (r := []) (x := x0) (ls0 := [(2, x0), (0, 5), (0, x1), (0, x2), (0, 0)]) gz_63_39 gm_55 rfl t0 rd_4 rfl rfl rfl rfl rfl ?_
      refine w_aload_n gz_55_0 rfl ?_
      refine w_getX (v := (x0 + 1)) gz_55_1 t0 rd_4 rfl (by decide) rfl ?_
      refine w_aload_n gz_55_4 rfl ?_
      refine v_getI (j := 9) gz_55_5 rfl t0 rd_4 rfl (fun v85 ev85 pv85 qv85 => ?_)
      have zv85 := ev85.trans ((my_up_fld fh83 (by decide)).trans ((my_up_fld fh82 (by decide)).trans ((my_up_role fh81 t0 (ix_4_6 t0) rfl).trans ((my_up_role fh79 t0 (ix_4_6 t0) rfl).trans ((my_up_fld fh74 (by decide)).trans eka0_9.symm)))))
      refine w_iload_n gz_55_8 rfl ?_
      have hi86 : 0 ≤ v85 := by omega
      have hi87 : v85 ≤ 5 := by omega
      refine w_iast gz_55_9 (ix_4_1 t0) rd_32 (by omega) (by omega) (by omega) (by omega) (fun h88 fh88 => ?_)
      have gh88 : my_fr [(4, 4), (4, 5), (4, 7), (4, 8), (4, 9), (32, -1), (33, -1), (34, -1), (35, -1), (37, -1)] h h88 := my_fr.up gh83 (ix_4_1 t0) fh88 rfl
      have gxh88 : my_fx x0 8 h h88 := my_fx.up gxh83 fh88 (by omega)
      refine w_aload_n gz_55_10 rfl ?_
      refine w_getX (v := (x0 + 2)) gz_55_11 t0 rd_4 rfl (by decide) rfl ?_
      refine w_aload_n gz_55_14 rfl ?_
      refine v_getI (j := 9) gz_55_15 rfl t0 rd_4 rfl (fun v90 ev90 pv90 qv90 => ?_)
      have zv90 := ev90.trans ((my_up_role fh88 t0 (ix_4_1 t0) rfl).trans ev85.symm)
      refine w_iload_n gz_55_18 rfl ?_
      refine w_iast gz_55_19 (ix_4_2 t0) rd_33 (by omega) (by omega) (by omega) (by omega) (fun h91 fh91 => ?_)
      have gh91 : my_fr [(4, 4), (4, 5), (4, 7), (4, 8), (4, 9), (32, -1), (33, -1), (34, -1), (35, -1), (37, -1)] h h91 := my_fr.up gh88 (ix_4_2 t0) fh91 rfl
      have gxh91 : my_fx x0 8 h h91 := my_fx.up gxh88 fh91 (by omega)
      refine w_aload_n gz_55_20 rfl ?_
      refine w_getX (v := (x0 + 3)) gz_55_21 t0 rd_4 rfl (by decide) rfl ?_
      refine w_aload_n gz_55_24 rfl ?_
      refine v_getI (j := 9) gz_55_25 rfl t0 rd_4 rfl (fun v93 ev93 pv93 qv93 => ?_)
      have zv93 := ev93.trans ((my_up_role fh91 t0 (ix_4_2 t0) rfl).trans ev90.symm)
      refine w_iload_n gz_55_28 rfl ?_
      refine w_iast gz_55_29 (ix_4_3 t0) rd_34 (by omega) (by omega) (by omega) (by omega) (fun h94 fh94 => ?_)
      have gh94 : my_fr [(4, 4), (4, 5), (4, 7), (4, 8), (4, 9), (32, -1), (33, -1), (34, -1), (35, -1), (37, -1)] h h94 := my_fr.up gh91 (ix_4_3 t0) fh94 rfl
      have gxh94 : my_fx x0 8 h h94 := my_fx.up gxh91 fh94 (by omega)
      refine w_aload_n gz_55_30 rfl ?_
      refine w_getX (v := (x0 + 4)) gz_55_31 t0 rd_4 rfl (by decide) rfl ?_
      refine w_aload_n gz_55_34 rfl ?_
      refine v_getI (j := 9) gz_55_35 rfl t0 rd_4 rfl (fun v96 ev96 pv96 qv96 => ?_)
      have zv96 := ev96.trans ((my_up_role fh94 t0 (ix_4_3 t0) rfl).trans ev93.symm)
      refine w_iload gz_55_38 rfl ?_
      refine w_iast gz_55_40 (ix_4_4 t0) rd_35 (by omega) (by omega) (by omega) (by omega) (fun h97 fh97 => ?_)
      have gh97 : my_fr [(4, 4), (4, 5), (4, 7), (4, 8), (4, 9), (32, -1), (33, -1), (34, -1), (35, -1), (37, -1)] h h97 := my_fr.up gh94 (ix_4_4 t0) fh97 rfl
      have gxh97 : my_fx x0 8 h h97 := my_fx.up gxh94 fh97 (by omega)
      refine w_aload_n gz_55_41 rfl ?_
      refine w_dup gz_55_42 rfl ?_
      refine v_getI (j := 9) gz_55_43 rfl t0 rd_4 rfl (fun v98 ev98 pv98 qv98 => ?_)
      have zv98 := ev98.trans ((my_up_role fh97 t0 (ix_4_4 t0) rfl).trans ev96.symm)
      refine w_iconst gz_55_46 (by decide) ?_
      refine w_iadd gz_55_47 ⟨by omega, by omega⟩ ?_
      refine v_putI (j := 9) gz_55_48 rfl t0 rd_4 rfl (by omega) (by omega) rfl (fun h99 fh99 => ?_)
      have gh99 : my_fr [(4, 4), (4, 5), (4, 7), (4, 8), (4, 9), (32, -1), (33, -1), (34, -1), (35, -1), (37, -1)] h h99 := my_fr.up gh97 t0 fh99 rfl
      have gxh99 : my_fx x0 8 h h99 := my_fx.up gxh97 fh99 (by omega)
      refine w_aload_n gz_55_51 rfl ?_
      refine w_dup gz_55_52 rfl ?_
      refine v_getI (j := 5) gz_55_53 rfl t0 rd_4 rfl (fun v100 ev100 pv100 qv100 => ?_)
      refine w_iconst gz_55_56 (by decide) ?_
      refine w_ianyA gz_55_57 (fun v101 pv101 qv101 => ?_)
      refine v_putA (j := 5) gz_55_58 rfl t0 rd_4 rfl rfl (fun h102 fh102 => ?_)
      have gh102 : my_fr [(4, 4), (4, 5), (4, 7), (4, 8), (4, 9), (32, -1), (33, -1), (34, -1), (35, -1), (37, -1)] h h102 := my_fr.up gh99 t0 fh102 rfl
      have gxh102 : my_fx x0 8 h h102 := my_fx.up gxh99 fh102 (by omega)
      refine w_vret gz_55_61 gm_55 ?_
      show wp l rho (d + 1) 63 42 [(2, x0), (0, x1), (0, x2)] [] h102 Q
      have c103 := ((my_up_fld fh102 (by decide)).trans ((my_up_fld fh99 (by decide)).trans ((my_up_role fh97 t0 (ix_4_4 t0) rfl).trans ((my_up_role fh94 t0 (ix_4_3 t0) rfl).trans ((my_up_role fh91 t0 (ix_4_2 t0) rfl).trans ((my_up_role fh88 t0 (ix_4_1 t0) rfl).trans ((my_up_fld fh83 (by decide)).trans (my_up_self fh82))))))))
      have c104 := ((my_up_fld fh102 (by decide)).trans ((my_up_fld fh99 (by decide)).trans ((my_up_role fh97 t0 (ix_4_4 t0) rfl).trans ((my_up_role fh94 t0 (ix_4_3 t0) rfl).trans ((my_up_role fh91 t0 (ix_4_2 t0) rfl).trans ((my_up_role fh88 t0 (ix_4_1 t0) rfl).trans (my_up_self fh83)))))))
      have c105 := ((my_up_fld fh102 (by decide)).trans (my_up_self fh99))
      exact w_vret gz_63_42 gm_63 (k0 h102 (gh102) (gxh102) (by omega) (by omega) (by omega) (by omega) (by first | exact (Ad_sum U5 V10 fh79 fh81 fh82 fh83 (AdS_mk (s := h x0 9) fh88 fh91 fh94 fh97 fh99 fh102 (by omega) (by omega) (by omega) (by omega) (by omega)) rfl ⟨by omega, by omega⟩ ⟨by omega, by omega⟩ (by omega) (by omega)).1 | exact (Ad_sum U5 V10 fh79 fh81 fh82 fh83 (AdS_mk (s := h x0 9) fh88 fh91 fh94 fh97 fh99 fh102 (by omega) (by omega) (by omega) (by omega) (by omega)) rfl ⟨by omega, by omega⟩ ⟨by omega, by omega⟩ (by omega) (by omega)).2 | exact AdE_A (Ad_sum U5 V10 fh79 fh81 fh82 fh83 (AdS_mk (s := h x0 9) fh88 fh91 fh94 fh97 fh99 fh102 (by omega) (by omega) (by omega) (by omega) (by omega)) rfl ⟨by omega, by omega⟩ ⟨by omega, by omega⟩ (by omega) (by omega)).1 | assumption | omega) (by first | exact (Ad_sum U5 V10 fh79 fh81 fh82 fh83 (AdS_mk (s := h x0 9) fh88 fh91 fh94 fh97 fh99 fh102 (by omega) (by omega) (by omega) (by omega) (by omega)) rfl ⟨by omega, by omega⟩ ⟨by omega, by omega⟩ (by omega) (by omega)).1 | exact (Ad_sum U5 V10 fh79 fh81 fh82 fh83 (AdS_mk (s := h x0 9) fh88 fh91 fh94 fh97 fh99 fh102 (by omega) (by omega) (by omega) (by omega) (by omega)) rfl ⟨by omega, by omega⟩ ⟨by omega, by omega⟩ (by omega) (by omega)).2 | exact AdE_A (Ad_sum U5 V10 fh79 fh81 fh82 fh83 (AdS_mk (s := h x0 9) fh88 fh91 fh94 fh97 fh99 fh102 (by omega) (by omega) (by omega) (by omega) (by omega)) rfl ⟨by omega, by omega⟩ ⟨by omega, by omega⟩ (by omega) (by omega)).1 | assumption | omega) (by first | exact (Ad_sum U5 V10 fh79 fh81 fh82 fh83 (AdS_mk (s := h x0 9) fh88 fh91 fh94 fh97 fh99 fh102 (by omega) (by omega) (by omega) (by omega) (by omega)) rfl ⟨by omega, by omega⟩ ⟨by omega, by omega⟩ (by omega) (by omega)).1 | exact (Ad_sum U5 V10 fh79 fh81 fh82 fh83 (AdS_mk (s := h x0 9) fh88 fh91 fh94 fh97 fh99 fh102 (by omega) (by omega) (by omega) (by omega) (by omega)) rfl ⟨by omega, by omega⟩ ⟨by omega, by omega⟩ (by omega) (by omega)).2 | exact AdE_A (Ad_sum U5 V10 fh79 fh81 fh82 fh83 (AdS_mk (s := h x0 9) fh88 fh91 fh94 fh97 fh99 fh102 (by omega) (by omega) (by omega) (by omega) (by omega)) rfl ⟨by omega, by omega⟩ ⟨by omega, by omega⟩ (by omega) (by omega)).1 | assumption | omega))
    ·
      refine w_aload_n gz_54_10 rfl ?_
      refine w_dup gz_54_11 rfl ?_
      refine v_getI (j := 8) gz_54_12 rfl t0 rd_4 rfl (fun v106 ev106 pv106 qv106 => ?_)
      have zv106 := ev106.trans (my_up_self fh74)
      refine w_iconst gz_54_15 (by decide) ?_
      refine w_aload_n gz_54_16 rfl ?_
      refine w_getX (v := (x0 + 6)) gz_54_17 t0 rd_4 rfl (by decide) rfl ?_
      refine w_iload_n gz_54_20 rfl ?_
      refine w_iald gz_54_21 (ix_4_6 t0) rd_37 (by omega) (by omega) (fun v108 ev108 pv108 qv108 => ?_)
      have zv108 := ev108.trans ev76.symm
      refine w_bipush gz_54_22 (by decide) ?_
      refine w_irem gz_54_24 (by omega) (by decide) ?_
      refine w_ishlX gz_54_25 (fun v109 ev109 pv109 qv109 => ?_)
      refine w_iorX gz_54_26 (fun v110 ev110 pv110 qv110 => ?_)
      refine v_putA (j := 8) gz_54_27 rfl t0 rd_4 rfl rfl (fun h111 fh111 => ?_)
      have gh111 : my_fr [(4, 4), (4, 5), (4, 7), (4, 8), (4, 9), (32, -1), (33, -1), (34, -1), (35, -1), (37, -1)] h h111 := my_fr.up gh74 t0 fh111 rfl
      have gxh111 : my_fx x0 8 h h111 := my_fx.up gxh74 fh111 (by omega)
      have AgL_h111 : my_ag AgF h h111 := AgL_ag (my_ag.up fh111 t0 rfl) AgL_h74
      refine w_vret gz_54_30 gm_54 ?_
      show wp l rho (d + 1) 63 10 [(2, x0), (0, x1), (0, x2)] [] h111 Q
      have a1 : ∀ j : Int, h111 (x0 + 1) j = h (x0 + 1) j := fun j => my_ag.at AgL_h111 (ix_4_1 t0) rfl
      have a3 : ∀ j : Int, h111 (x0 + 3) j = h (x0 + 3) j := fun j => my_ag.at AgL_h111 (ix_4_3 t0) rfl
      have a4 : ∀ j : Int, h111 (x0 + 4) j = h (x0 + 4) j := fun j => my_ag.at AgL_h111 (ix_4_4 t0) rfl
      have b1 : h111 x0 1 = h x0 1 := my_ag.at AgL_h111 t0 rfl
      have b3 : h111 x0 3 = h x0 3 := my_ag.at AgL_h111 t0 rfl
      have b9 : h111 x0 9 = h x0 9 := my_ag.at AgL_h111 t0 rfl
      have b4 : h111 x0 4 = h x0 4 := my_ag.at AgL_h111 t0 rfl
      have V10 : UsE h74 h111 x0 x2 := by first | exact UsE_n (by assumption) (by omega) | exact UsE_y fh111 (by assumption) (by omega) (by assumption) (by assumption) (by omega)
      refine w_aload_n gz_63_10 rfl ?_
      refine w_getX (v := (x0 + 6)) gz_63_11 t0 rd_4 rfl (by decide) rfl ?_
      refine w_iconst gz_63_14 (by decide) ?_
      refine w_iconst gz_63_15 (by decide) ?_
      refine w_iast gz_63_16 (ix_4_6 t0) rd_37 (by omega) (by omega) (by omega) (by omega) (fun h113 fh113 => ?_)
      have gh113 : my_fr [(4, 4), (4, 5), (4, 7), (4, 8), (4, 9), (32, -1), (33, -1), (34, -1), (35, -1), (37, -1)] h h113 := my_fr.up gh111 (ix_4_6 t0) fh113 rfl
      have gxh113 : my_fx x0 8 h h113 := my_fx.up gxh111 fh113 (by omega)
      have AgL_h113 : my_ag AgF h h113 := AgL_ag (my_ag.up fh113 (ix_4_6 t0) rfl) AgL_h111
      refine w_aload_n gz_63_17 rfl ?_
      refine w_getX (v := (x0 + 6)) gz_63_18 t0 rd_4 rfl (by decide) rfl ?_
      refine w_iconst gz_63_21 (by decide) ?_
      refine w_iconst gz_63_22 (by decide) ?_
      refine w_iast gz_63_23 (ix_4_6 t0) rd_37 (by omega) (by omega) (by omega) (by omega) (fun h115 fh115 => ?_)
      have gh115 : my_fr [(4, 4), (4, 5), (4, 7), (4, 8), (4, 9), (32, -1), (33, -1), (34, -1), (35, -1), (37, -1)] h h115 := my_fr.up gh113 (ix_4_6 t0) fh115 rfl
      have gxh115 : my_fx x0 8 h h115 := my_fx.up gxh113 fh115 (by omega)
      have AgL_h115 : my_ag AgF h h115 := AgL_ag (my_ag.up fh115 (ix_4_6 t0) rfl) AgL_h113
      refine w_aload_n gz_63_24 rfl ?_
      refine w_iconst gz_63_25 (by decide) ?_
      refine v_putI (j := 4) gz_63_26 rfl t0 rd_4 rfl (by omega) (by omega) rfl (fun h116 fh116 => ?_)
      have gh116 : my_fr [(4, 4), (4, 5), (4, 7), (4, 8), (4, 9), (32, -1), (33, -1), (34, -1), (35, -1), (37, -1)] h h116 := my_fr.up gh115 t0 fh116 rfl
      have gxh116 : my_fx x0 8 h h116 := my_fx.up gxh115 fh116 (by omega)
      refine w_aload_n gz_63_29 rfl ?_
      refine w_iconst gz_63_30 (by decide) ?_
      refine v_putB (j := 7) gz_63_31 rfl t0 rd_4 rfl (by omega) (by omega) rfl (fun h117 fh117 => ?_)
      have gh117 : my_fr [(4, 4), (4, 5), (4, 7), (4, 8), (4, 9), (32, -1), (33, -1), (34, -1), (35, -1), (37, -1)] h h117 := my_fr.up gh116 t0 fh117 rfl
      have gxh117 : my_fx x0 8 h h117 := my_fx.up gxh116 fh117 (by omega)
      refine w_aload_n gz_63_34 rfl ?_
      refine w_iconst gz_63_35 (by decide) ?_
      refine w_iload_n gz_63_36 rfl ?_
      refine w_iload_n gz_63_37 rfl ?_
      refine w_iconst gz_63_38 (by decide) ?_
      refine w_inv (k := 0) (as := [(0, 0), (0, x2), (0, x1), (0, 5)]) (r := []) (x := x0) (ls0 := [(2, x0), (0, 5), (0, x1), (0, x2), (0, 0)]) gz_63_39 gm_55 rfl t0 rd_4 rfl rfl rfl rfl rfl ?_
      refine w_aload_n gz_55_0 rfl ?_
      refine w_getX (v := (x0 + 1)) gz_55_1 t0 rd_4 rfl (by decide) rfl ?_
      refine w_aload_n gz_55_4 rfl ?_
      refine v_getI (j := 9) gz_55_5 rfl t0 rd_4 rfl (fun v119 ev119 pv119 qv119 => ?_)
      have zv119 := ev119.trans ((my_up_fld fh117 (by decide)).trans ((my_up_fld fh116 (by decide)).trans ((my_up_role fh115 t0 (ix_4_6 t0) rfl).trans ((my_up_role fh113 t0 (ix_4_6 t0) rfl).trans ((my_up_fld fh111 (by decide)).trans ((my_up_fld fh74 (by decide)).trans eka0_9.symm))))))
      refine w_iload_n gz_55_8 rfl ?_
      have hi120 : 0 ≤ v119 := by omega
      have hi121 : v119 ≤ 5 := by omega
      refine w_iast gz_55_9 (ix_4_1 t0) rd_32 (by omega) (by omega) (by omega) (by omega) (fun h122 fh122 => ?_)
      have gh122 : my_fr [(4, 4), (4, 5), (4, 7), (4, 8), (4, 9), (32, -1), (33, -1), (34, -1), (35, -1), (37, -1)] h h122 := my_fr.up gh117 (ix_4_1 t0) fh122 rfl
      have gxh122 : my_fx x0 8 h h122 := my_fx.up gxh117 fh122 (by omega)
      refine w_aload_n gz_55_10 rfl ?_
      refine w_getX (v := (x0 + 2)) gz_55_11 t0 rd_4 rfl (by decide) rfl ?_
      refine w_aload_n gz_55_14 rfl ?_
      refine v_getI (j := 9) gz_55_15 rfl t0 rd_4 rfl (fun v124 ev124 pv124 qv124 => ?_)
      have zv124 := ev124.trans ((my_up_role fh122 t0 (ix_4_1 t0) rfl).trans ev119.symm)
      refine w_iload_n gz_55_18 rfl ?_
      refine w_iast gz_55_19 (ix_4_2 t0) rd_33 (by omega) (by omega) (by omega) (by omega) (fun h125 fh125 => ?_)
      have gh125 : my_fr [(4, 4), (4, 5), (4, 7), (4, 8), (4, 9), (32, -1), (33, -1), (34, -1), (35, -1), (37, -1)] h h125 := my_fr.up gh122 (ix_4_2 t0) fh125 rfl
      have gxh125 : my_fx x0 8 h h125 := my_fx.up gxh122 fh125 (by omega)
      refine w_aload_n gz_55_20 rfl ?_
      refine w_getX (v := (x0 + 3)) gz_55_21 t0 rd_4 rfl (by decide) rfl ?_
      refine w_aload_n gz_55_24 rfl ?_
      refine v_getI (j := 9) gz_55_25 rfl t0 rd_4 rfl (fun v127 ev127 pv127 qv127 => ?_)
      have zv127 := ev127.trans ((my_up_role fh125 t0 (ix_4_2 t0) rfl).trans ev124.symm)
      refine w_iload_n gz_55_28 rfl ?_
      refine w_iast gz_55_29 (ix_4_3 t0) rd_34 (by omega) (by omega) (by omega) (by omega) (fun h128 fh128 => ?_)
      have gh128 : my_fr [(4, 4), (4, 5), (4, 7), (4, 8), (4, 9), (32, -1), (33, -1), (34, -1), (35, -1), (37, -1)] h h128 := my_fr.up gh125 (ix_4_3 t0) fh128 rfl
      have gxh128 : my_fx x0 8 h h128 := my_fx.up gxh125 fh128 (by omega)
      refine w_aload_n gz_55_30 rfl ?_
      refine w_getX (v := (x0 + 4)) gz_55_31 t0 rd_4 rfl (by decide) rfl ?_
      refine w_aload_n gz_55_34 rfl ?_
      refine v_getI (j := 9) gz_55_35 rfl t0 rd_4 rfl (fun v130 ev130 pv130 qv130 => ?_)
      have zv130 := ev130.trans ((my_up_role fh128 t0 (ix_4_3 t0) rfl).trans ev127.symm)
      refine w_iload gz_55_38 rfl ?_
      refine w_iast gz_55_40 (ix_4_4 t0) rd_35 (by omega) (by omega) (by omega) (by omega) (fun h131 fh131 => ?_)
      have gh131 : my_fr [(4, 4), (4, 5), (4, 7), (4, 8), (4, 9), (32, -1), (33, -1), (34, -1), (35, -1), (37, -1)] h h131 := my_fr.up gh128 (ix_4_4 t0) fh131 rfl
      have gxh131 : my_fx x0 8 h h131 := my_fx.up gxh128 fh131 (by omega)
      refine w_aload_n gz_55_41 rfl ?_
      refine w_dup gz_55_42 rfl ?_
      refine v_getI (j := 9) gz_55_43 rfl t0 rd_4 rfl (fun v132 ev132 pv132 qv132 => ?_)
      have zv132 := ev132.trans ((my_up_role fh131 t0 (ix_4_4 t0) rfl).trans ev130.symm)
      refine w_iconst gz_55_46 (by decide) ?_
      refine w_iadd gz_55_47 ⟨by omega, by omega⟩ ?_
      refine v_putI (j := 9) gz_55_48 rfl t0 rd_4 rfl (by omega) (by omega) rfl (fun h133 fh133 => ?_)
      have gh133 : my_fr [(4, 4), (4, 5), (4, 7), (4, 8), (4, 9), (32, -1), (33, -1), (34, -1), (35, -1), (37, -1)] h h133 := my_fr.up gh131 t0 fh133 rfl
      have gxh133 : my_fx x0 8 h h133 := my_fx.up gxh131 fh133 (by omega)
      refine w_aload_n gz_55_51 rfl ?_
      refine w_dup gz_55_52 rfl ?_
      refine v_getI (j := 5) gz_55_53 rfl t0 rd_4 rfl (fun v134 ev134 pv134 qv134 => ?_)
      refine w_iconst gz_55_56 (by decide) ?_
      refine w_ianyA gz_55_57 (fun v135 pv135 qv135 => ?_)
      refine v_putA (j := 5) gz_55_58 rfl t0 rd_4 rfl rfl (fun h136 fh136 => ?_)
      have gh136 : my_fr [(4, 4), (4, 5), (4, 7), (4, 8), (4, 9), (32, -1), (33, -1), (34, -1), (35, -1), (37, -1)] h h136 := my_fr.up gh133 t0 fh136 rfl
      have gxh136 : my_fx x0 8 h h136 := my_fx.up gxh133 fh136 (by omega)
      refine w_vret gz_55_61 gm_55 ?_
      show wp l rho (d + 1) 63 42 [(2, x0), (0, x1), (0, x2)] [] h136 Q
      have c137 := ((my_up_fld fh136 (by decide)).trans ((my_up_fld fh133 (by decide)).trans ((my_up_role fh131 t0 (ix_4_4 t0) rfl).trans ((my_up_role fh128 t0 (ix_4_3 t0) rfl).trans ((my_up_role fh125 t0 (ix_4_2 t0) rfl).trans ((my_up_role fh122 t0 (ix_4_1 t0) rfl).trans ((my_up_fld fh117 (by decide)).trans (my_up_self fh116))))))))
      have c138 := ((my_up_fld fh136 (by decide)).trans ((my_up_fld fh133 (by decide)).trans ((my_up_role fh131 t0 (ix_4_4 t0) rfl).trans ((my_up_role fh128 t0 (ix_4_3 t0) rfl).trans ((my_up_role fh125 t0 (ix_4_2 t0) rfl).trans ((my_up_role fh122 t0 (ix_4_1 t0) rfl).trans (my_up_self fh117)))))))
      have c139 := ((my_up_fld fh136 (by decide)).trans (my_up_self fh133))
      exact w_vret gz_63_42 gm_63 (k0 h136 (gh136) (gxh136) (by omega) (by omega) (by omega) (by omega) (by first | exact (Ad_sum U5 V10 fh113 fh115 fh116 fh117 (AdS_mk (s := h x0 9) fh122 fh125 fh128 fh131 fh133 fh136 (by omega) (by omega) (by omega) (by omega) (by omega)) rfl ⟨by omega, by omega⟩ ⟨by omega, by omega⟩ (by omega) (by omega)).1 | exact (Ad_sum U5 V10 fh113 fh115 fh116 fh117 (AdS_mk (s := h x0 9) fh122 fh125 fh128 fh131 fh133 fh136 (by omega) (by omega) (by omega) (by omega) (by omega)) rfl ⟨by omega, by omega⟩ ⟨by omega, by omega⟩ (by omega) (by omega)).2 | exact AdE_A (Ad_sum U5 V10 fh113 fh115 fh116 fh117 (AdS_mk (s := h x0 9) fh122 fh125 fh128 fh131 fh133 fh136 (by omega) (by omega) (by omega) (by omega) (by omega)) rfl ⟨by omega, by omega⟩ ⟨by omega, by omega⟩ (by omega) (by omega)).1 | assumption | omega) (by first | exact (Ad_sum U5 V10 fh113 fh115 fh116 fh117 (AdS_mk (s := h x0 9) fh122 fh125 fh128 fh131 fh133 fh136 (by omega) (by omega) (by omega) (by omega) (by omega)) rfl ⟨by omega, by omega⟩ ⟨by omega, by omega⟩ (by omega) (by omega)).1 | exact (Ad_sum U5 V10 fh113 fh115 fh116 fh117 (AdS_mk (s := h x0 9) fh122 fh125 fh128 fh131 fh133 fh136 (by omega) (by omega) (by omega) (by omega) (by omega)) rfl ⟨by omega, by omega⟩ ⟨by omega, by omega⟩ (by omega) (by omega)).2 | exact AdE_A (Ad_sum U5 V10 fh113 fh115 fh116 fh117 (AdS_mk (s := h x0 9) fh122 fh125 fh128 fh131 fh133 fh136 (by omega) (by omega) (by omega) (by omega) (by omega)) rfl ⟨by omega, by omega⟩ ⟨by omega, by omega⟩ (by omega) (by omega)).1 | assumption | omega) (by first | exact (Ad_sum U5 V10 fh113 fh115 fh116 fh117 (AdS_mk (s := h x0 9) fh122 fh125 fh128 fh131 fh133 fh136 (by omega) (by omega) (by omega) (by omega) (by omega)) rfl ⟨by omega, by omega⟩ ⟨by omega, by omega⟩ (by omega) (by omega)).1 | exact (Ad_sum U5 V10 fh113 fh115 fh116 fh117 (AdS_mk (s := h x0 9) fh122 fh125 fh128 fh131 fh133 fh136 (by omega) (by omega) (by omega) (by omega) (by omega)) rfl ⟨by omega, by omega⟩ ⟨by omega, by omega⟩ (by omega) (by omega)).2 | exact AdE_A (Ad_sum U5 V10 fh113 fh115 fh116 fh117 (AdS_mk (s := h x0 9) fh122 fh125 fh128 fh131 fh133 fh136 (by omega) (by omega) (by omega) (by omega) (by omega)) rfl ⟨by omega, by omega⟩ ⟨by omega, by omega⟩ (by omega) (by omega)).1 | assumption | omega))
theorem c_Desk_goesStraight4 {l : Launch} {rho : Nat → Int32} {d : Nat} {h : my_H} {Q : my_H → my_V → Prop} {x1 x2 x3 x4 x5 x6 : Int} (t1 : my_is 6 x1) (a2 : 0 ≤ x2) (b2 : x2 ≤ 5) (a3 : 0 ≤ x3) (b3 : x3 ≤ 2) (hi1 : x3 ≠ 2 → 0 ≤ x4 ∧ x4 ≤ 9) (hi0 : x3 = 0 → 0 ≤ x5 ∧ x5 ≤ 7 ∧ 0 ≤ x6 ∧ x6 ≤ 199) (hwo : WOk h x1) (xb : zqXf x1) (k0 : ∀ (h' : my_H), my_fr [(30, -1), (31, -1), (41, -1)] h h' → (∀ k j : Int, 0 ≤ k → k < 94 → h' k j = h k j) → Q h' (0, 0)) (k1 : ∀ (h' : my_H), my_fr [(30, -1), (31, -1), (41, -1)] h h' → (∀ k j : Int, 0 ≤ k → k < 94 → h' k j = h k j) → Q h' (0, 1)) : wp l rho (d + 3) 110 0 [(2, 94), (2, x1), (0, x2), (0, x3), (0, x4), (0, x5), (0, x6), (9, 0), (9, 0)] [] h Q := by
  have xbu : (x1 ≤ 91 ∨ 120 ≤ x1) ∧ x1 ≤ 148 ∧ 0 ≤ x1 := xb
  refine w_aload_n gz_110_0 rfl ?_
  refine w_getX (v := 27) gz_110_1 is_94 rd_2 rfl (by decide) rfl ?_
  refine w_iload_n gz_110_4 rfl ?_
  refine w_aald gz_110_5 is_27 rd_22 rfl (by omega) (by omega) (fun v2 ev2 tv2 => ?_)
  refine w_astore (ls' := [(2, 94), (2, x1), (0, x2), (0, x3), (0, x4), (0, x5), (0, x6), (2, v2), (9, 0)]) gz_110_6 gm_110 rfl rfl rfl ?_
  refine w_aload_n gz_110_8 rfl ?_
  refine w_getX (v := 95) gz_110_9 is_94 rd_2 rfl (by decide) rfl ?_
  refine w_aload_n gz_110_12 rfl ?_
  refine w_inv (k := 0) (as := [(2, x1)]) (r := []) (x := 95) (ls0 := [(2, 95), (2, x1)]) gz_110_13 gm_25 rfl is_95 rd_6 rfl rfl rfl rfl rfl ?_
  refine w_aload_n gz_25_0 rfl ?_
  refine w_getX (v := (x1 + 1)) gz_25_1 t1 rd_6 rfl (by decide) rfl ?_
  refine w_iconst gz_25_4 (by decide) ?_
  refine w_aload_n gz_25_5 rfl ?_
  refine w_getX (v := 96) gz_25_6 is_95 rd_6 rfl (by decide) rfl ?_
  refine w_iconst gz_25_9 (by decide) ?_
  refine w_aload_n gz_25_10 rfl ?_
  refine w_getX (v := 96) gz_25_11 is_95 rd_6 rfl (by decide) rfl ?_
  refine v_alen (j := 240) gz_25_14 rfl is_96 rd_30 (by decide) ?_
  refine w_cpU gz_25_15 (ix_6_1 t1) rd_30 is_96 rd_30 (by omega) (by omega) (by omega) (by omega) (by omega) rfl (by decide) (by decide) (fun h7 fh7 => ?_)
  have gh7 : my_fr [(30, -1), (31, -1), (41, -1)] h h7 := my_fr.cp my_fr.rf is_96 fh7 rfl
  have fc96 := fh7
  refine w_aload_n gz_25_18 rfl ?_
  refine w_getX (v := (x1 + 2)) gz_25_19 t1 rd_6 rfl (by decide) rfl ?_
  refine w_iconst gz_25_22 (by decide) ?_
  refine w_aload_n gz_25_23 rfl ?_
  refine w_getX (v := 97) gz_25_24 is_95 rd_6 rfl (by decide) rfl ?_
  refine w_iconst gz_25_27 (by decide) ?_
  refine w_aload_n gz_25_28 rfl ?_
  refine w_getX (v := 97) gz_25_29 is_95 rd_6 rfl (by decide) rfl ?_
  refine v_alen (j := 3) gz_25_32 rfl is_97 rd_31 (by decide) ?_
  refine w_cpU gz_25_33 (ix_6_2 t1) rd_31 is_97 rd_31 (by omega) (by omega) (by omega) (by omega) (by omega) rfl (by decide) (by decide) (fun h11 fh11 => ?_)
  have gh11 : my_fr [(30, -1), (31, -1), (41, -1)] h h11 := my_fr.cp gh7 is_97 fh11 rfl
  have fc97 := fh11
  refine w_vret gz_25_36 gm_25 ?_
  show wp l rho (d + 3) 110 16 [(2, 94), (2, x1), (0, x2), (0, x3), (0, x4), (0, x5), (0, x6), (2, v2), (9, 0)] [] h11 Q
  refine w_iload_n gz_110_16 rfl ?_
  refine w_iconst gz_110_17 (by decide) ?_
  refine w_icne (t := 28) gz_110_18 rfl (fun u12 => ?_) (fun u12 => ?_)
  ·
    refine w_iload_n gz_110_28 rfl ?_
    refine w_iconst gz_110_29 (by decide) ?_
    refine w_icne (t := 76) gz_110_30 rfl (fun u13 => ?_) (fun u13 => ?_)
    ·
      have hi14 : 0 ≤ x4 := by omega
      have hi15 : x4 ≤ 9 := by omega
      have hi16 : 0 ≤ x5 := by omega
      have hi17 : x5 ≤ 7 := by omega
      have hi18 : 0 ≤ x6 := by omega
      have hi19 : x6 ≤ 199 := by omega
      refine w_aload_n gz_110_76 rfl ?_
      refine w_getX (v := 98) gz_110_77 is_94 rd_2 rfl (by decide) rfl ?_
      refine w_iload gz_110_80 rfl ?_
      refine w_iload gz_110_82 rfl ?_
      refine w_inv (k := 0) (as := [(0, x5), (0, x4)]) (r := []) (x := 98) (ls0 := [(2, 98), (0, x4), (0, x5)]) gz_110_84 gm_83 rfl is_98 rd_8 rfl rfl rfl rfl rfl ?_
      refine w_aload_n gz_83_0 rfl ?_
      refine w_getX (v := 99) gz_83_1 is_98 rd_8 rfl (by decide) rfl ?_
      refine w_iload_n gz_83_4 rfl ?_
      refine w_bipush gz_83_5 (by decide) ?_
      refine w_imul gz_83_7 ⟨by omega, by omega⟩ ?_
      refine w_bipush gz_83_8 (by decide) ?_
      refine w_iadd gz_83_10 ⟨by omega, by omega⟩ ?_
      refine w_iload_n gz_83_11 rfl ?_
      refine w_iadd gz_83_12 ⟨by omega, by omega⟩ ?_
      refine w_gldS gz_83_13 is_99 rd_42 (by omega) (by omega) (by omega) (by omega) (fun v22 ev22 pv22 qv22 => ?_)
      refine w_iret gz_83_14 gm_83 ?_
      show wp l rho (d + 3) 110 87 [(2, 94), (2, x1), (0, x2), (0, x3), (0, x4), (0, x5), (0, x6), (2, v2), (9, 0)] [(0, v22)] h11 Q
      refine w_istore (ls' := [(2, 94), (2, x1), (0, x2), (0, x3), (0, x4), (0, x5), (0, x6), (2, v2), (0, v22)]) gz_110_87 gm_110 rfl rfl rfl ?_
      refine w_iload gz_110_89 rfl ?_
      refine w_iconst gz_110_91 (by decide) ?_
      refine w_iceq (t := 109) gz_110_92 rfl (fun u23 => ?_) (fun u23 => ?_)
      ·
        refine w_iconst gz_110_109 (by decide) ?_
        have bfE : ∀ k j : Int, 0 ≤ k → k < 94 → h11 k j = h k j := fun k j k0 k1 => ((my_cp_ne fh11 (by omega)).trans (my_cp_ne fh7 (by omega)))
        exact w_bret gz_110_110 gm_110 (by omega) (by omega) (k0 h11 (gh11) (by first | exact bfE | assumption | omega))
      ·
        refine w_iload gz_110_95 rfl ?_
        refine w_iconst gz_110_97 (by decide) ?_
        refine w_irem gz_110_98 (by omega) (by decide) ?_
        refine w_ifeq (t := 109) gz_110_99 rfl (fun u24 => ?_) (fun u24 => ?_)
        ·
          refine w_iconst gz_110_109 (by decide) ?_
          have bfE : ∀ k j : Int, 0 ≤ k → k < 94 → h11 k j = h k j := fun k j k0 k1 => ((my_cp_ne fh11 (by omega)).trans (my_cp_ne fh7 (by omega)))
          exact w_bret gz_110_110 gm_110 (by omega) (by omega) (k0 h11 (gh11) (by first | exact bfE | assumption | omega))
        ·
          refine w_iload gz_110_102 rfl ?_
          refine w_bipush gz_110_104 (by decide) ?_
          refine w_iclt (t := 111) gz_110_106 rfl (fun u25 => ?_) (fun u25 => ?_)
          ·
            refine w_aload_n gz_110_111 rfl ?_
            refine w_getX (v := 95) gz_110_112 is_94 rd_2 rfl (by decide) rfl ?_
            refine w_getX (v := 96) gz_110_115 is_95 rd_6 rfl (by decide) rfl ?_
            refine w_iload gz_110_118 rfl ?_
            refine w_iload gz_110_120 rfl ?_
            refine w_iast gz_110_122 is_96 rd_30 (by omega) (by omega) (by omega) (by omega) (fun h28 fh28 => ?_)
            have gh28 : my_fr [(30, -1), (31, -1), (41, -1)] h h28 := my_fr.up gh11 is_96 fh28 rfl
            refine w_iconst gz_110_123 (by decide) ?_
            have bfE : ∀ k j : Int, 0 ≤ k → k < 94 → h28 k j = h k j := fun k j k0 k1 => ((my_up_ne fh28 (by omega)).trans ((my_cp_ne fh11 (by omega)).trans (my_cp_ne fh7 (by omega))))
            exact w_bret gz_110_124 gm_110 (by omega) (by omega) (k1 h28 (gh28) (by first | exact bfE | assumption | omega))
          ·
            refine w_iconst gz_110_109 (by decide) ?_
            have bfE : ∀ k j : Int, 0 ≤ k → k < 94 → h11 k j = h k j := fun k j k0 k1 => ((my_cp_ne fh11 (by omega)).trans (my_cp_ne fh7 (by omega)))
            exact w_bret gz_110_110 gm_110 (by omega) (by omega) (k0 h11 (gh11) (by first | exact bfE | assumption | omega))
    ·
      have hi29 : 0 ≤ x4 := by omega
      have hi30 : x4 ≤ 9 := by omega
      refine w_aload gz_110_33 rfl ?_
      refine v_getI (j := 7) gz_110_35 rfl tv2 rd_4 rfl (fun v31 ev31 pv31 qv31 => ?_)
      refine w_ifne (t := 62) gz_110_38 rfl (fun u32 => ?_) (fun u32 => ?_)
      ·
        refine w_aload gz_110_62 rfl ?_
        refine v_getI (j := 7) gz_110_64 rfl tv2 rd_4 rfl (fun v33 ev33 pv33 qv33 => ?_)
        have zv33 := ev33.trans ev31.symm
        refine w_ifne (t := 74) gz_110_67 rfl (fun u34 => ?_) (fun u34 => by exfalso; omega)
        refine w_iconst gz_110_74 (by decide) ?_
        have bfE : ∀ k j : Int, 0 ≤ k → k < 94 → h11 k j = h k j := fun k j k0 k1 => ((my_cp_ne fh11 (by omega)).trans (my_cp_ne fh7 (by omega)))
        exact w_bret gz_110_75 gm_110 (by omega) (by omega) (k0 h11 (gh11) (by first | exact bfE | assumption | omega))
      ·
        refine w_aload_n gz_110_41 rfl ?_
        refine w_getX (v := 95) gz_110_42 is_94 rd_2 rfl (by decide) rfl ?_
        refine w_aload gz_110_45 rfl ?_
        refine v_getI (j := 2) gz_110_47 rfl tv2 rd_4 rfl (fun v36 ev36 pv36 qv36 => ?_)
        refine w_aload_n gz_110_50 rfl ?_
        refine w_getX (v := 98) gz_110_51 is_94 rd_2 rfl (by decide) rfl ?_
        refine w_iload gz_110_54 rfl ?_
        refine w_inv (k := 0) (as := [(0, x4)]) (r := [(0, v36), (2, 95)]) (x := 98) (ls0 := [(2, 98), (0, x4)]) gz_110_56 gm_75 rfl is_98 rd_8 rfl rfl rfl rfl rfl ?_
        refine w_aload_n gz_75_0 rfl ?_
        refine w_getX (v := 99) gz_75_1 is_98 rd_8 rfl (by decide) rfl ?_
        refine w_iload_n gz_75_4 rfl ?_
        refine w_bipush gz_75_5 (by decide) ?_
        refine w_imul gz_75_7 ⟨by omega, by omega⟩ ?_
        refine w_bipush gz_75_8 (by decide) ?_
        refine w_iadd gz_75_10 ⟨by omega, by omega⟩ ?_
        refine w_gldT gz_75_11 is_99 rd_42 (by omega) (by omega) (by omega) (fun v39 ev39 pv39 qv39 => ?_)
        refine w_iret gz_75_12 gm_75 ?_
        show wp l rho (d + 3) 110 59 [(2, 94), (2, x1), (0, x2), (0, x3), (0, x4), (0, x5), (0, x6), (2, v2), (9, 0)] [(0, v39), (0, v36), (2, 95)] h11 Q
        refine w_inv (k := 2) (as := [(0, v39), (0, v36)]) (r := []) (x := 95) (ls0 := [(2, 95), (0, v36), (0, v39), (9, 0), (9, 0)]) gz_110_59 gm_23 rfl is_95 rd_6 rfl rfl rfl rfl rfl (c_Rows_drop5 (d := (d + 1)) (x0 := 95) (x1 := v36) (x2 := v39) is_95 (by omega) (by omega) (by omega) (by omega) ((by have q := WOk_sz hwo v36 (by omega) (by omega); rw [show h11 (95 + 2) v36 = h (x1 + 2) v36 from (my_cp_in fc97 (by omega) (by omega)).trans (by rw [show (0 : Int) + (v36 - 0) = v36 by omega]; exact my_cp_ne fc96 (by omega))]; exact q)) (fun h40 frh40 fxh40 xp41 xp42 => ?_))
        have gh40 : my_fr [(30, -1), (31, -1), (41, -1)] h h40 := my_fr.tr gh11 (frh40.mo rfl)
        show wp l rho (d + 3) 110 62 [(2, 94), (2, x1), (0, x2), (0, x3), (0, x4), (0, x5), (0, x6), (2, v2), (9, 0)] [] h40 Q
        refine w_aload gz_110_62 rfl ?_
        refine v_getI (j := 7) gz_110_64 rfl tv2 rd_4 rfl (fun v43 ev43 pv43 qv43 => ?_)
        have zv43 := ev43.trans ((my_fr.at frh40 tv2 rfl).trans ev31.symm)
        refine w_ifne (t := 74) gz_110_67 rfl (fun u44 => by exfalso; omega) (fun u44 => ?_)
        refine w_iconst gz_110_70 (by decide) ?_
        refine w_goto (t := 75) gz_110_71 rfl ?_
        have bfE : ∀ k j : Int, 0 ≤ k → k < 94 → h40 k j = h k j := fun k j k0 k1 => ((my_fx.at fxh40 (by omega)).trans ((my_cp_ne fh11 (by omega)).trans (my_cp_ne fh7 (by omega))))
        exact w_bret gz_110_75 gm_110 (by omega) (by omega) (k1 h40 (gh40) (by first | exact bfE | assumption | omega))
  ·
    refine w_aload_n gz_110_21 rfl ?_
    refine w_aload gz_110_22 rfl ?_
    refine w_inv (k := 2) (as := [(2, v2)]) (r := []) (x := 94) (ls0 := [(2, 94), (2, v2), (9, 0), (9, 0)]) gz_110_24 gm_106 rfl is_94 rd_2 rfl rfl rfl rfl rfl (c_Desk_rowComes6 (d := d) (x1 := v2) tv2 (fun h45 frh45 xp46 xp47 => ?_) (fun h48 frh48 xp49 xp50 => ?_))
    ·
      have gh45 : my_fr [(30, -1), (31, -1), (41, -1)] h h45 := my_fr.tr gh11 (frh45.mo rfl)
      show wp l rho (d + 3) 110 27 [(2, 94), (2, x1), (0, x2), (0, x3), (0, x4), (0, x5), (0, x6), (2, v2), (9, 0)] [(0, 0)] h45 Q
      have bc_h45 : ∀ k j : Int, 0 ≤ k → k < 94 → h45 k j = h11 k j := fun k j k0 k1 => xp47 k j k0 (Or.inl k1)
      have bfE : ∀ k j : Int, 0 ≤ k → k < 94 → h45 k j = h k j := fun k j k0 k1 => ((bc_h45 k j k0 k1).trans ((my_cp_ne fh11 (by omega)).trans (my_cp_ne fh7 (by omega))))
      exact w_bret gz_110_27 gm_110 (by omega) (by omega) (k0 h45 (gh45) (by first | exact bfE | assumption | omega))
    ·
      have gh48 : my_fr [(30, -1), (31, -1), (41, -1)] h h48 := my_fr.tr gh11 (frh48.mo rfl)
      show wp l rho (d + 3) 110 27 [(2, 94), (2, x1), (0, x2), (0, x3), (0, x4), (0, x5), (0, x6), (2, v2), (9, 0)] [(0, 1)] h48 Q
      have bc_h48 : ∀ k j : Int, 0 ≤ k → k < 94 → h48 k j = h11 k j := fun k j k0 k1 => xp50 k j k0 (Or.inl k1)
      have bfE : ∀ k j : Int, 0 ≤ k → k < 94 → h48 k j = h k j := fun k j k0 k1 => ((bc_h48 k j k0 k1).trans ((my_cp_ne fh11 (by omega)).trans (my_cp_ne fh7 (by omega))))
      exact w_bret gz_110_27 gm_110 (by omega) (by omega) (k1 h48 (gh48) (by first | exact bfE | assumption | omega))
end MYNLens_addJoin7
