/-! contracts, printed by wip/gen/gy.py -/
section MYNDesk_looks5
theorem c_Desk_looks5 {l : Launch} {rho : Nat → Int32} {d : Nat} {h : my_H} {Q : my_H → my_V → Prop} {x1 x2 : Int} (t1 : my_is 6 x1) (n_Ln : Ln h) (hlw : Lw h) (hgd : zqGd (h (x1 + 1))) (k0 : ∀ (h' : my_H), my_fr [(8, 0), (8, 1), (42, -1), (43, -1), (44, -1)] h h' → ¬ (0 ≤ x2 ∧ x2 ≤ 5 ∧ h (h 27 x2) 0 = 1) → Q h' (0, 0)) (k1 : ∀ (h' : my_H), my_fr [(8, 0), (8, 1), (42, -1), (43, -1), (44, -1)] h h' → 0 ≤ x2 → x2 ≤ 5 → h' 98 0 ≤ 10 → Td h' x2 → h (h 27 x2) 0 = 1 → VwI h' 98 (h (x1 + 1)) (h (h 27 x2) 2) (h (h 27 x2) 3) (zqCW h x2) → VwS h' 98 → Q h' (0, 1)) : wp l rho (d + 4) 65 0 [(2, 94), (2, x1), (0, x2)] [] h Q := by
  refine w_aload_n gz_65_0 rfl ?_
  refine w_iload_n gz_65_1 rfl ?_
  refine w_inv (k := 0) (as := [(0, x2)]) (r := []) (x := 94) (ls0 := [(2, 94), (0, x2)]) gz_65_2 gm_66 rfl is_94 rd_2 rfl rfl rfl rfl rfl ?_
  refine w_iload_n gz_66_0 rfl ?_
  refine w_iflt (t := 26) gz_66_1 rfl (fun u1 => ?_) (fun u1 => ?_)
  ·
    refine w_iconst gz_66_26 (by decide) ?_
    refine w_bret gz_66_27 gm_66 (by omega) (by omega) ?_
    show wp l rho (d + 4) 65 5 [(2, 94), (2, x1), (0, x2)] [(0, 0)] h Q
    refine w_ifne (t := 10) gz_65_5 rfl (fun u2 => by exfalso; omega) (fun u2 => ?_)
    refine w_iconst gz_65_8 (by decide) ?_
    exact w_bret gz_65_9 gm_65 (by omega) (by omega) (k0 h (my_fr.rf) (by first | exact no_such_saying | exact vn | exact vs | (intro z; have z1 := z.1; have z2 := z.2.1; have z3 := z.2.2; subst_vars; omega) | (subst_vars; omega) | assumption | omega))
  ·
    refine w_iload_n gz_66_4 rfl ?_
    refine w_bipush gz_66_5 (by decide) ?_
    refine w_icge (t := 26) gz_66_7 rfl (fun u3 => ?_) (fun u3 => ?_)
    ·
      refine w_iconst gz_66_26 (by decide) ?_
      refine w_bret gz_66_27 gm_66 (by omega) (by omega) ?_
      show wp l rho (d + 4) 65 5 [(2, 94), (2, x1), (0, x2)] [(0, 0)] h Q
      refine w_ifne (t := 10) gz_65_5 rfl (fun u4 => by exfalso; omega) (fun u4 => ?_)
      refine w_iconst gz_65_8 (by decide) ?_
      exact w_bret gz_65_9 gm_65 (by omega) (by omega) (k0 h (my_fr.rf) (by first | exact no_such_saying | exact vn | exact vs | (intro z; have z1 := z.1; have z2 := z.2.1; have z3 := z.2.2; subst_vars; omega) | (subst_vars; omega) | assumption | omega))
    ·
      refine w_aload_n gz_66_10 rfl ?_
      refine w_getX (v := 27) gz_66_11 is_94 rd_2 rfl (by decide) rfl ?_
      refine w_iload_n gz_66_14 rfl ?_
      refine w_aald gz_66_15 is_27 rd_22 rfl (by omega) (by omega) (fun v6 ev6 tv6 => ?_)
      refine v_getI (j := 0) gz_66_16 rfl tv6 rd_4 rfl (fun v7 ev7 pv7 qv7 => ?_)
      refine w_ifeq (t := 26) gz_66_19 rfl (fun u8 => ?_) (fun u8 => ?_)
      ·
        refine w_iconst gz_66_26 (by decide) ?_
        refine w_bret gz_66_27 gm_66 (by omega) (by omega) ?_
        show wp l rho (d + 4) 65 5 [(2, 94), (2, x1), (0, x2)] [(0, 0)] h Q
        refine w_ifne (t := 10) gz_65_5 rfl (fun u9 => by exfalso; omega) (fun u9 => ?_)
        refine w_iconst gz_65_8 (by decide) ?_
        exact w_bret gz_65_9 gm_65 (by omega) (by omega) (k0 h (my_fr.rf) (by first | exact no_such_saying | exact vn | exact vs | (intro z; have z1 := z.1; have z2 := z.2.1; have z3 := z.2.2; subst_vars; omega) | (subst_vars; omega) | assumption | omega))
      ·
        refine w_iconst gz_66_22 (by decide) ?_
        refine w_goto (t := 27) gz_66_23 rfl ?_
        refine w_bret gz_66_27 gm_66 (by omega) (by omega) ?_
        show wp l rho (d + 4) 65 5 [(2, 94), (2, x1), (0, x2)] [(0, 1)] h Q
        refine w_ifne (t := 10) gz_65_5 rfl (fun u10 => ?_) (fun u10 => by exfalso; omega)
        refine w_aload_n gz_65_10 rfl ?_
        refine w_getX (v := 98) gz_65_11 is_94 rd_2 rfl (by decide) rfl ?_
        refine w_aload_n gz_65_14 rfl ?_
        refine w_getX (v := 27) gz_65_15 is_94 rd_2 rfl (by decide) rfl ?_
        refine w_iload_n gz_65_18 rfl ?_
        refine w_aload_n gz_65_19 rfl ?_
        have Td_ht13 : Td h x2 := ⟨by omega, by omega, by subst_vars; omega⟩
        refine w_inv (k := 4) (as := [(2, x1), (0, x2), (2, 27)]) (r := []) (x := 98) (ls0 := [(2, 98), (2, 27), (0, x2), (2, x1), (9, 0), (9, 0), (9, 0), (9, 0)]) gz_65_20 gm_67 rfl is_98 rd_8 rfl rfl rfl rfl rfl (c_View_show5 (d := d) (x0 := 98) (x2 := x2) (x3 := x1) is_98 (by omega) (by omega) (by omega) (by omega) t1 n_Ln Td_ht13 (by first | assumption | exact no_such_saying | exact Fp_told (by omega) (by omega) | omega | (subst_vars; omega) | omega) (by first | assumption | exact no_such_saying | exact Fp_told (by omega) (by omega) | omega | (subst_vars; omega) | omega) (fun h14 v15 frh14 fxh14 w16 xp17 xp18 xp19 => ?_))
        have gh14 : my_fr [(8, 0), (8, 1), (42, -1), (43, -1), (44, -1)] h h14 := my_fr.tr my_fr.rf (frh14.mo rfl)
        have Ln_h14 : Ln h14 := Ln_ag (my_ag.fr frh14 rfl) n_Ln
        have Td_h14 : Td h14 x2 := Td_ag (my_ag.fr frh14 rfl) n_Ln Td_ht13
        show wp l rho (d + 4) 65 23 [(2, 94), (2, x1), (0, x2)] [(2, v15)] h14 Q
        have vn := xp18
        have vs := xp19
        refine w_pop gz_65_23 rfl ?_
        refine w_iconst gz_65_24 (by decide) ?_
        exact w_bret gz_65_25 gm_65 (by omega) (by omega) (k1 h14 (gh14) (by omega) (by omega) (by first | exact Td_h14 | exact vn | exact vs | (intro z; have z1 := z.1; have z2 := z.2.1; have z3 := z.2.2; subst_vars; omega) | (subst_vars; omega) | assumption | omega) (by first | exact Td_h14 | exact vn | exact vs | (intro z; have z1 := z.1; have z2 := z.2.1; have z3 := z.2.2; subst_vars; omega) | (subst_vars; omega) | assumption | omega) (by first | exact Td_h14 | exact vn | exact vs | (intro z; have z1 := z.1; have z2 := z.2.1; have z3 := z.2.2; subst_vars; omega) | (subst_vars; omega) | assumption | omega) (by first | exact Td_h14 | exact vn | exact vs | (intro z; have z1 := z.1; have z2 := z.2.1; have z3 := z.2.2; subst_vars; omega) | (subst_vars; omega) | assumption | omega) (by first | exact Td_h14 | exact vn | exact vs | (intro z; have z1 := z.1; have z2 := z.2.1; have z3 := z.2.2; subst_vars; omega) | (subst_vars; omega) | assumption | omega))
theorem c_Desk_opens5 {l : Launch} {rho : Nat → Int32} {d : Nat} {h : my_H} {Q : my_H → my_V → Prop} {x1 x2 x3 x4 x5 x6 : Int} (t1 : my_is 6 x1) (n_Ln : Ln h) (hlw : Lw h) (hgd : zqGd (h (x1 + 1))) (k0 : ∀ (h' : my_H), my_fr [(2, 15), (2, 16), (8, 0), (8, 1), (42, -1), (43, -1), (44, -1)] h h' → ¬ EdOk h (h (x1 + 1)) x2 x3 x4 x5 x6 → Q h' (0, 0)) (k1 : ∀ (h' : my_H), my_fr [(2, 15), (2, 16), (8, 0), (8, 1), (42, -1), (43, -1), (44, -1)] h h' → 0 ≤ x2 → x2 ≤ 5 → 0 ≤ x3 → x3 ≤ 2 → 0 ≤ h' 94 15 → h' 94 15 ≤ 2 → h' 94 15 = x3 → h' 94 16 = x4 → (x3 ≠ 2 → 0 ≤ x4 ∧ x4 ≤ 9) → (x3 = 0 → 0 ≤ x5 ∧ x5 ≤ 7 ∧ 0 ≤ x6 ∧ x6 ≤ 199) → Td h' x2 → EdOk h (h (x1 + 1)) x2 x3 x4 x5 x6 → VwI h' 98 (h (x1 + 1)) (h (h 27 x2) 2) (h (h 27 x2) 3) (zqCW h x2) → VwS h' 98 → (WLs h').Perm (EdLh h' x3 x4 x5 x6 (h 93)) → VwS h' 102 → h' 102 1 = h' 98 1 → WtB h' → 0 ≤ h' 102 0 ∧ h' 102 0 ≤ 11 → Q h' (0, 1)) : wp l rho (d + 5) 87 0 [(2, 94), (2, x1), (0, x2), (0, x3), (0, x4), (0, x5), (0, x6)] [] h Q := by
  refine v_knowA (x := 93) is_93 rd_23 (fun kD => ?_)
  refine w_iload_n gz_87_0 rfl ?_
  refine w_iflt (t := 18) gz_87_1 rfl (fun u1 => ?_) (fun u1 => ?_)
  ·
    refine w_iconst gz_87_18 (by decide) ?_
    have m99 : ∀ j : Int, h 99 j = h 99 j := fun _ => rfl
    have m101 : ∀ j : Int, h 101 j = h 101 j := fun _ => rfl
    exact w_bret gz_87_19 gm_87 (by omega) (by omega) (k0 h (my_fr.rf) (by first | exact no_such_saying | exact VwI_cg vn (by omega) (by omega) (by omega) m99 m101 | exact VwS_cg vs (by omega) (by omega) (by omega) m99 | exact so.1 | exact so.2.1 | exact so.2.2.1 | exact so.2.2.2.1 | exact so.2.2.2.2 | (unfold EdOk; exact ⟨⟨by omega, by omega⟩, ⟨by omega, by omega, tq⟩, (fun _ => ⟨by omega, by omega⟩), (fun _ => ⟨by omega, by omega, by omega, by omega⟩)⟩) | (intro z; have z1 := z.1; omega) | (intro z; exact vf z.2.1) | (intro z; have z3 := z.2.2.1 (by omega); omega) | (intro z; have z4 := z.2.2.2 (by omega); omega) | (subst_vars; omega) | assumption | omega))
  ·
    refine w_iload_n gz_87_4 rfl ?_
    refine w_iconst gz_87_5 (by decide) ?_
    refine w_icgt (t := 18) gz_87_6 rfl (fun u2 => ?_) (fun u2 => ?_)
    ·
      refine w_iconst gz_87_18 (by decide) ?_
      have m99 : ∀ j : Int, h 99 j = h 99 j := fun _ => rfl
      have m101 : ∀ j : Int, h 101 j = h 101 j := fun _ => rfl
      exact w_bret gz_87_19 gm_87 (by omega) (by omega) (k0 h (my_fr.rf) (by first | exact no_such_saying | exact VwI_cg vn (by omega) (by omega) (by omega) m99 m101 | exact VwS_cg vs (by omega) (by omega) (by omega) m99 | exact so.1 | exact so.2.1 | exact so.2.2.1 | exact so.2.2.2.1 | exact so.2.2.2.2 | (unfold EdOk; exact ⟨⟨by omega, by omega⟩, ⟨by omega, by omega, tq⟩, (fun _ => ⟨by omega, by omega⟩), (fun _ => ⟨by omega, by omega, by omega, by omega⟩)⟩) | (intro z; have z1 := z.1; omega) | (intro z; exact vf z.2.1) | (intro z; have z3 := z.2.2.1 (by omega); omega) | (intro z; have z4 := z.2.2.2 (by omega); omega) | (subst_vars; omega) | assumption | omega))
    ·
      refine w_aload_n gz_87_9 rfl ?_
      refine w_aload_n gz_87_10 rfl ?_
      refine w_iload_n gz_87_11 rfl ?_
      refine w_inv (k := 0) (as := [(0, x2), (2, x1)]) (r := []) (x := 94) (ls0 := [(2, 94), (2, x1), (0, x2)]) gz_87_12 gm_65 rfl is_94 rd_2 rfl rfl rfl rfl rfl (c_Desk_looks5 (d := d) (x1 := x1) (x2 := x2) t1 n_Ln (by first | assumption | exact no_such_saying | exact Fp_told (by omega) (by omega) | omega | (subst_vars; omega) | omega) (by first | assumption | exact no_such_saying | exact Fp_told (by omega) (by omega) | omega | (subst_vars; omega) | omega) (fun h3 frh3 xp4 => ?_) (fun h5 frh5 w6 w7 xp8 xp9 xp10 xp11 xp12 => ?_))
      ·
        have gh3 : my_fr [(2, 15), (2, 16), (8, 0), (8, 1), (42, -1), (43, -1), (44, -1)] h h3 := my_fr.tr my_fr.rf (frh3.mo rfl)
        have Ln_h3 : Ln h3 := Ln_ag (my_ag.fr frh3 rfl) n_Ln
        show wp l rho (d + 5) 87 15 [(2, 94), (2, x1), (0, x2), (0, x3), (0, x4), (0, x5), (0, x6)] [(0, 0)] h3 Q
        have vf := xp4
        refine w_ifne (t := 20) gz_87_15 rfl (fun u13 => by exfalso; omega) (fun u13 => ?_)
        refine w_iconst gz_87_18 (by decide) ?_
        have ce14 : h3 94 15 = h 94 15 := ((my_fr.at frh3 is_94 rfl).trans (rfl : h 94 15 = h 94 15))
        have ce15 : h3 94 16 = h 94 16 := ((my_fr.at frh3 is_94 rfl).trans (rfl : h 94 16 = h 94 16))
        have m99 : ∀ j : Int, h3 99 j = h3 99 j := fun j => rfl
        have m101 : ∀ j : Int, h3 101 j = h3 101 j := fun j => rfl
        exact w_bret gz_87_19 gm_87 (by omega) (by omega) (k0 h3 (gh3) (by first | exact no_such_saying | exact VwI_cg vn (by omega) (by omega) (by omega) m99 m101 | exact VwS_cg vs (by omega) (by omega) (by omega) m99 | exact so.1 | exact so.2.1 | exact so.2.2.1 | exact so.2.2.2.1 | exact so.2.2.2.2 | (unfold EdOk; exact ⟨⟨by omega, by omega⟩, ⟨by omega, by omega, tq⟩, (fun _ => ⟨by omega, by omega⟩), (fun _ => ⟨by omega, by omega, by omega, by omega⟩)⟩) | (intro z; have z1 := z.1; omega) | (intro z; exact vf z.2.1) | (intro z; have z3 := z.2.2.1 (by omega); omega) | (intro z; have z4 := z.2.2.2 (by omega); omega) | (subst_vars; omega) | assumption | omega))
      ·
        have gh5 : my_fr [(2, 15), (2, 16), (8, 0), (8, 1), (42, -1), (43, -1), (44, -1)] h h5 := my_fr.tr my_fr.rf (frh5.mo rfl)
        have Ln_h5 : Ln h5 := Ln_ag (my_ag.fr frh5 rfl) n_Ln
        show wp l rho (d + 5) 87 15 [(2, 94), (2, x1), (0, x2), (0, x3), (0, x4), (0, x5), (0, x6)] [(0, 1)] h5 Q
        have Td_h5t16 : Td h5 x2 := xp9
        have vf := xp8
        have tq := xp10
        have vn := xp11
        have vs := xp12
        refine v_know (x := 98) (j := 0) (b := 0) rfl is_98 rd_8 rfl (fun k980 ek980 pk980 qk980 => ?_) -- xp12
        refine v_know (x := 98) (j := 1) (b := 1) rfl is_98 rd_8 rfl (fun k981 ek981 pk981 qk981 => ?_) -- xp12
        have vl := VwI_len xp11
        have vw := xp11.1
        have hw0 := hlw x2 (by omega) (by omega) xp10
        have vb := VwI_be hw0.2.1 hw0.2.2.1 hw0.2.2.2.2 hgd hw0.1 xp11
        refine w_ifne (t := 20) gz_87_15 rfl (fun u17 => ?_) (fun u17 => by exfalso; omega)
        refine w_iload_n gz_87_20 rfl ?_
        refine w_iconst gz_87_21 (by decide) ?_
        refine w_iceq (t := 44) gz_87_22 rfl (fun u18 => ?_) (fun u18 => ?_)
        ·
          refine w_iload_n gz_87_44 rfl ?_
          refine w_ifne (t := 77) gz_87_45 rfl (fun u19 => ?_) (fun u19 => by exfalso; omega)
          refine w_aload_n gz_87_77 rfl ?_
          refine w_iload_n gz_87_78 rfl ?_
          refine v_putI (j := 15) gz_87_79 rfl is_94 rd_2 rfl (by omega) (by omega) rfl (fun h20 fh20 => ?_)
          have gh20 : my_fr [(2, 15), (2, 16), (8, 0), (8, 1), (42, -1), (43, -1), (44, -1)] h h20 := my_fr.up gh5 is_94 fh20 rfl
          have Ln_h20 : Ln h20 := Ln_ag (my_ag.up fh20 is_94 rfl) Ln_h5
          have Td_h20 : Td h20 x2 := Td_ag (my_ag.up fh20 is_94 rfl) Ln_h5 Td_h5t16
          refine w_aload_n gz_87_82 rfl ?_
          refine w_iload gz_87_83 rfl ?_
          refine v_putA (j := 16) gz_87_85 rfl is_94 rd_2 rfl rfl (fun h21 fh21 => ?_)
          have gh21 : my_fr [(2, 15), (2, 16), (8, 0), (8, 1), (42, -1), (43, -1), (44, -1)] h h21 := my_fr.up gh20 is_94 fh21 rfl
          have Ln_h21 : Ln h21 := Ln_ag (my_ag.up fh21 is_94 rfl) Ln_h20
          have Td_h21 : Td h21 x2 := Td_ag (my_ag.up fh21 is_94 rfl) Ln_h20 Td_h20
          have ce22 : h21 98 0 = h5 98 0 := ((my_up_role fh21 is_98 is_94 rfl).trans ((my_up_role fh20 is_98 is_94 rfl).trans (rfl : h5 98 0 = h5 98 0)))
          refine w_aload_n gz_87_88 rfl ?_
          refine w_getX (v := 102) gz_87_89 is_94 rd_2 rfl (by decide) rfl ?_
          refine w_aload_n gz_87_92 rfl ?_
          refine w_getX (v := 98) gz_87_93 is_94 rd_2 rfl (by decide) rfl ?_
          refine w_inv (k := 0) (as := [(2, 98)]) (r := []) (x := 102) (ls0 := [(2, 102), (2, 98)]) gz_87_96 gm_88 rfl is_102 rd_8 rfl rfl rfl rfl rfl ?_
          refine w_aload_n gz_88_0 rfl ?_
          refine w_aload_n gz_88_1 rfl ?_
          refine v_getI (j := 0) gz_88_2 rfl is_98 rd_8 rfl (fun v25 ev25 pv25 qv25 => ?_)
          refine v_putI (j := 0) gz_88_5 rfl is_102 rd_8 rfl (by omega) (by omega) rfl (fun h26 fh26 => ?_)
          have gh26 : my_fr [(2, 15), (2, 16), (8, 0), (8, 1), (42, -1), (43, -1), (44, -1)] h h26 := my_fr.up gh21 is_102 fh26 rfl
          have Ln_h26 : Ln h26 := Ln_ag (my_ag.up fh26 is_102 rfl) Ln_h21
          have Td_h26 : Td h26 x2 := Td_ag (my_ag.up fh26 is_102 rfl) Ln_h21 Td_h21
          refine w_aload_n gz_88_8 rfl ?_
          refine w_aload_n gz_88_9 rfl ?_
          refine v_getI (j := 1) gz_88_10 rfl is_98 rd_8 rfl (fun v27 ev27 pv27 qv27 => ?_)
          refine v_putI (j := 1) gz_88_13 rfl is_102 rd_8 rfl (by omega) (by omega) rfl (fun h28 fh28 => ?_)
          have gh28 : my_fr [(2, 15), (2, 16), (8, 0), (8, 1), (42, -1), (43, -1), (44, -1)] h h28 := my_fr.up gh26 is_102 fh28 rfl
          have Ln_h28 : Ln h28 := Ln_ag (my_ag.up fh28 is_102 rfl) Ln_h26
          have Td_h28 : Td h28 x2 := Td_ag (my_ag.up fh28 is_102 rfl) Ln_h26 Td_h26
          refine w_aload_n gz_88_16 rfl ?_
          refine w_getX (v := 99) gz_88_17 is_98 rd_8 rfl (by decide) rfl ?_
          refine w_iconst gz_88_20 (by decide) ?_
          refine w_aload_n gz_88_21 rfl ?_
          refine w_getX (v := 103) gz_88_22 is_102 rd_8 rfl (by decide) rfl ?_
          refine w_iconst gz_88_25 (by decide) ?_
          refine w_aload_n gz_88_26 rfl ?_
          refine w_getX (v := 103) gz_88_27 is_102 rd_8 rfl (by decide) rfl ?_
          refine v_alen (j := 204) gz_88_30 rfl is_103 rd_42 (by decide) ?_
          refine w_cpG gz_88_31 is_99 rd_42 is_103 rd_42 (by omega) (by omega) (by omega) (by omega) (by omega) rfl (by omega) (fun h32 fh32 => ?_)
          have gh32 : my_fr [(2, 15), (2, 16), (8, 0), (8, 1), (42, -1), (43, -1), (44, -1)] h h32 := my_fr.cp gh28 is_103 fh32 rfl
          have Ln_h32 : Ln h32 := Ln_ag (my_ag.cp fh32 is_103 rfl) Ln_h28
          have Td_h32 : Td h32 x2 := Td_ag (my_ag.cp fh32 is_103 rfl) Ln_h28 Td_h28
          have fcp := fh32
          refine w_vret gz_88_34 gm_88 ?_
          show wp l rho (d + 5) 87 99 [(2, 94), (2, x1), (0, x2), (0, x3), (0, x4), (0, x5), (0, x6)] [] h32 Q
          have ce33 : h32 98 0 = v25 := ((my_cp_role fh32 is_98 is_103 rfl).trans ((my_up_fld fh28 (by decide)).trans ((my_up_ne fh26 (by omega)).trans ev25.symm)))
          have ce34 : h32 102 0 = v25 := ((my_cp_role fh32 is_102 is_103 rfl).trans ((my_up_fld fh28 (by decide)).trans (my_up_self fh26)))
          have ce35 : h32 98 1 = v27 := ((my_cp_role fh32 is_98 is_103 rfl).trans ((my_up_ne fh28 (by omega)).trans ev27.symm))
          have ce36 : h32 102 1 = v27 := ((my_cp_role fh32 is_102 is_103 rfl).trans (my_up_self fh28))
          have o98 : ∀ j : Int, h32 98 j = h5 98 j := fun j => ((my_cp_role fh32 is_98 is_103 rfl).trans ((my_up_ne fh28 (by omega)).trans ((my_up_ne fh26 (by omega)).trans ((my_up_role fh21 is_98 is_94 rfl).trans ((my_up_role fh20 is_98 is_94 rfl).trans (rfl : h5 98 j = h5 98 j))))))
          have o980 := o98 0
          have o981 := o98 1
          have cp : ∀ (m : Int) (r : Nat), m ≤ 16 → (r : Int) < 12 → zqE h32 102 m r = zqE h32 98 m r := fun m r a b => zqE_cp (v := 102) a b fcp (fun j => (my_cp_ne fcp (by omega)).symm) rfl
          have e93 : h32 93 = h 93 := funext (fun j => my_fr.at gh32 is_93 rfl)
          refine w_iload_n gz_87_99 rfl ?_
          refine w_ifne (t := 119) gz_87_100 rfl (fun u37 => ?_) (fun u37 => by exfalso; omega)
          refine w_iload_n gz_87_119 rfl ?_
          refine w_iconst gz_87_120 (by decide) ?_
          refine w_icne (t := 136) gz_87_121 rfl (fun u38 => ?_) (fun u38 => by exfalso; omega)
          refine w_aload_n gz_87_136 rfl ?_
          refine w_getX (v := 102) gz_87_137 is_94 rd_2 rfl (by decide) rfl ?_
          refine w_aload_n gz_87_140 rfl ?_
          refine w_getX (v := 93) gz_87_141 is_94 rd_2 rfl (by decide) rfl ?_
          refine w_inv (k := 0) (as := [(2, 93)]) (r := []) (x := 102) (ls0 := [(2, 102), (2, 93)]) gz_87_144 gm_91 rfl is_102 rd_8 rfl rfl rfl rfl rfl ?_
          refine w_aload_n gz_91_0 rfl ?_
          refine w_iconst gz_91_1 (by decide) ?_
          refine w_aload_n gz_91_2 rfl ?_
          refine w_getX (v := 103) gz_91_3 is_102 rd_8 rfl (by decide) rfl ?_
          refine w_aload_n gz_91_6 rfl ?_
          refine v_getI (j := 0) gz_91_7 rfl is_102 rd_8 rfl (fun v42 ev42 pv42 qv42 => ?_)
          have zv42 := ev42.trans ((my_cp_role fh32 is_102 is_103 rfl).trans ((my_up_fld fh28 (by decide)).trans (my_up_self fh26)))
          refine w_bipush gz_91_10 (by decide) ?_
          refine w_imul gz_91_12 ⟨by omega, by omega⟩ ?_
          refine w_aload_n gz_91_13 rfl ?_
          refine v_getI (j := 1) gz_91_14 rfl is_102 rd_8 rfl (fun v43 ev43 pv43 qv43 => ?_)
          have zv43 := ev43.trans ((my_cp_role fh32 is_102 is_103 rfl).trans (my_up_self fh28))
          refine w_cpV gz_91_17 is_93 rd_23 is_103 rd_42 (by omega) (by omega) (by omega) (by omega) (by omega) rfl (by omega) (fun h44 fh44 => ?_)
          have gh44 : my_fr [(2, 15), (2, 16), (8, 0), (8, 1), (42, -1), (43, -1), (44, -1)] h h44 := my_fr.cp gh32 is_103 fh44 rfl
          have Ln_h44 : Ln h44 := Ln_ag (my_ag.cp fh44 is_103 rfl) Ln_h32
          have Td_h44 : Td h44 x2 := Td_ag (my_ag.cp fh44 is_103 rfl) Ln_h32 Td_h32
          have fa4 := fh44
          refine w_aload_n gz_91_20 rfl ?_
          refine w_dup gz_91_21 rfl ?_
          refine v_getI (j := 0) gz_91_22 rfl is_102 rd_8 rfl (fun v45 ev45 pv45 qv45 => ?_)
          have zv45 := ev45.trans ((my_cp_role fh44 is_102 is_103 rfl).trans ev42.symm)
          refine w_iconst gz_91_25 (by decide) ?_
          refine w_iadd gz_91_26 ⟨by omega, by omega⟩ ?_
          have hi46 : 0 ≤ (v45 + 1) := by omega
          have hi47 : (v45 + 1) ≤ 11 := by omega
          refine v_putI (j := 0) gz_91_27 rfl is_102 rd_8 rfl (by omega) (by omega) rfl (fun h48 fh48 => ?_)
          have gh48 : my_fr [(2, 15), (2, 16), (8, 0), (8, 1), (42, -1), (43, -1), (44, -1)] h h48 := my_fr.up gh44 is_102 fh48 rfl
          have Ln_h48 : Ln h48 := Ln_ag (my_ag.up fh48 is_102 rfl) Ln_h44
          have Td_h48 : Td h48 x2 := Td_ag (my_ag.up fh48 is_102 rfl) Ln_h44 Td_h44
          have fa5 := fh48
          refine w_vret gz_91_30 gm_91 ?_
          show wp l rho (d + 5) 87 147 [(2, 94), (2, x1), (0, x2), (0, x3), (0, x4), (0, x5), (0, x6)] [] h48 Q
          have ce49 : h48 98 0 = v25 := ((my_up_ne fh48 (by omega)).trans ((my_cp_role fh44 is_98 is_103 rfl).trans ((my_cp_role fh32 is_98 is_103 rfl).trans ((my_up_fld fh28 (by decide)).trans ((my_up_ne fh26 (by omega)).trans ev25.symm)))))
          have ce50 : h48 98 1 = v27 := ((my_up_fld fh48 (by decide)).trans ((my_cp_role fh44 is_98 is_103 rfl).trans ((my_cp_role fh32 is_98 is_103 rfl).trans ((my_up_ne fh28 (by omega)).trans ev27.symm))))
          have n99 : ∀ j : Int, h48 99 j = h5 99 j := fun j => ((my_up_role fh48 is_99 is_102 rfl).trans ((my_cp_ne fh44 (by omega)).trans ((my_cp_ne fh32 (by omega)).trans ((my_up_role fh28 is_99 is_102 rfl).trans ((my_up_role fh26 is_99 is_102 rfl).trans ((my_up_role fh21 is_99 is_94 rfl).trans ((my_up_role fh20 is_99 is_94 rfl).trans (rfl : h5 99 j = h5 99 j))))))))
          have vb2 := vb_mv vb (by omega) (by omega) (by omega) n99
          have wq2 : WtQ h48 x3 x4 x5 x6 (h 93) := by
            first
            | exact wq
            | (have z := WtQ_a (e := x3) (i := x4) (j := x5) (v := x6) (by omega) cp (by omega) (by omega) (by omega) (by omega) (by omega) (by omega) fa4 (by omega) (by omega) fa5 (by omega); rw [e93] at z; exact z)
          have wb : ∀ i : Nat, (i : Int) < h48 102 0 → zqBe (zqE h48 102 (h48 102 1) i).2 := WtQ_be wq2 vb2 (fun _ => ⟨by omega, by omega⟩) ⟨by omega, by omega⟩ (fun c a b => by have z := kD c a (by omega); omega)
          refine w_aload_n gz_87_147 rfl ?_
          refine w_getX (v := 102) gz_87_148 is_94 rd_2 rfl (by decide) rfl ?_
          refine w_inv (k := 3) (as := []) (r := []) (x := 102) (ls0 := [(2, 102), (9, 0), (9, 0), (9, 0)]) gz_87_151 gm_79 rfl is_102 rd_8 rfl rfl rfl rfl rfl (c_View_sort5 (d := (d + 2)) (x0 := 102) is_102 (by first | assumption | exact no_such_saying | exact Fp_told (by omega) (by omega) | omega | (subst_vars; omega) | omega) (fun h52 frh52 fxh52 xp53 xp54 xp55 => ?_))
          have gh52 : my_fr [(2, 15), (2, 16), (8, 0), (8, 1), (42, -1), (43, -1), (44, -1)] h h52 := my_fr.tr gh48 (frh52.mo rfl)
          have Ln_h52 : Ln h52 := Ln_ag (my_ag.fr frh52 rfl) Ln_h48
          have Td_h52 : Td h52 x2 := Td_ag (my_ag.fr frh52 rfl) Ln_h48 Td_h48
          show wp l rho (d + 5) 87 154 [(2, 94), (2, x1), (0, x2), (0, x3), (0, x4), (0, x5), (0, x6)] [] h52 Q
          have so := WtQ_so wq2 wb xp53 xp54 xp55 (my_fr.at frh52 is_98 rfl) (my_fr.at frh52 is_98 rfl) (by omega) (fun y => fxh52 99 y (Or.inl (by omega)))
          refine w_iconst gz_87_154 (by decide) ?_
          have ce56 : h52 94 15 = x3 := ((my_fr.at frh52 is_94 rfl).trans ((my_up_role fh48 is_94 is_102 rfl).trans ((my_cp_role fh44 is_94 is_103 rfl).trans ((my_cp_role fh32 is_94 is_103 rfl).trans ((my_up_role fh28 is_94 is_102 rfl).trans ((my_up_role fh26 is_94 is_102 rfl).trans ((my_up_fld fh21 (by decide)).trans (my_up_self fh20))))))))
          have ce57 : h52 94 16 = x4 := ((my_fr.at frh52 is_94 rfl).trans ((my_up_role fh48 is_94 is_102 rfl).trans ((my_cp_role fh44 is_94 is_103 rfl).trans ((my_cp_role fh32 is_94 is_103 rfl).trans ((my_up_role fh28 is_94 is_102 rfl).trans ((my_up_role fh26 is_94 is_102 rfl).trans (my_up_self fh21)))))))
          have ce58 : h52 98 0 = v25 := ((my_fr.at frh52 is_98 rfl).trans ((my_up_ne fh48 (by omega)).trans ((my_cp_role fh44 is_98 is_103 rfl).trans ((my_cp_role fh32 is_98 is_103 rfl).trans ((my_up_fld fh28 (by decide)).trans ((my_up_ne fh26 (by omega)).trans ev25.symm))))))
          have ce59 : h52 98 1 = v27 := ((my_fr.at frh52 is_98 rfl).trans ((my_up_fld fh48 (by decide)).trans ((my_cp_role fh44 is_98 is_103 rfl).trans ((my_cp_role fh32 is_98 is_103 rfl).trans ((my_up_ne fh28 (by omega)).trans ev27.symm)))))
          have ce60 : h52 102 0 = (v45 + 1) := ((my_fr.at frh52 is_102 rfl).trans (my_up_self fh48))
          have ce61 : h52 102 1 = v43 := ((my_fr.at frh52 is_102 rfl).trans ((my_up_fld fh48 (by decide)).trans ((my_cp_role fh44 is_102 is_103 rfl).trans ev43.symm)))
          have m99 : ∀ j : Int, h52 99 j = h5 99 j := fun j => ((my_fx.at fxh52 (by omega)).trans ((my_up_role fh48 is_99 is_102 rfl).trans ((my_cp_ne fh44 (by omega)).trans ((my_cp_ne fh32 (by omega)).trans ((my_up_role fh28 is_99 is_102 rfl).trans ((my_up_role fh26 is_99 is_102 rfl).trans ((my_up_role fh21 is_99 is_94 rfl).trans ((my_up_role fh20 is_99 is_94 rfl).trans (rfl : h5 99 j = h5 99 j)))))))))
          have m101 : ∀ j : Int, h52 101 j = h5 101 j := fun j => ((my_fr.at frh52 is_101 rfl).trans ((my_up_role fh48 is_101 is_102 rfl).trans ((my_cp_role fh44 is_101 is_103 rfl).trans ((my_cp_role fh32 is_101 is_103 rfl).trans ((my_up_role fh28 is_101 is_102 rfl).trans ((my_up_role fh26 is_101 is_102 rfl).trans ((my_up_role fh21 is_101 is_94 rfl).trans ((my_up_role fh20 is_101 is_94 rfl).trans (rfl : h5 101 j = h5 101 j)))))))))
          have c62 := ((my_fr.at frh52 is_94 rfl).trans ((my_up_role fh48 is_94 is_102 rfl).trans ((my_cp_role fh44 is_94 is_103 rfl).trans ((my_cp_role fh32 is_94 is_103 rfl).trans ((my_up_role fh28 is_94 is_102 rfl).trans ((my_up_role fh26 is_94 is_102 rfl).trans ((my_up_fld fh21 (by decide)).trans (my_up_self fh20))))))))
          exact w_bret gz_87_155 gm_87 (by omega) (by omega) (k1 h52 (gh52) (by omega) (by omega) (by omega) (by omega) (by omega) (by omega) (by first | exact Td_h52 | exact VwI_cg vn (by omega) (by omega) (by omega) m99 m101 | exact VwS_cg vs (by omega) (by omega) (by omega) m99 | exact so.1 | exact so.2.1 | exact so.2.2.1 | exact so.2.2.2.1 | exact so.2.2.2.2 | (unfold EdOk; exact ⟨⟨by omega, by omega⟩, ⟨by omega, by omega, tq⟩, (fun _ => ⟨by omega, by omega⟩), (fun _ => ⟨by omega, by omega, by omega, by omega⟩)⟩) | (intro z; have z1 := z.1; omega) | (intro z; exact vf z.2.1) | (intro z; have z3 := z.2.2.1 (by omega); omega) | (intro z; have z4 := z.2.2.2 (by omega); omega) | (subst_vars; omega) | assumption | omega) (by first | exact Td_h52 | exact VwI_cg vn (by omega) (by omega) (by omega) m99 m101 | exact VwS_cg vs (by omega) (by omega) (by omega) m99 | exact so.1 | exact so.2.1 | exact so.2.2.1 | exact so.2.2.2.1 | exact so.2.2.2.2 | (unfold EdOk; exact ⟨⟨by omega, by omega⟩, ⟨by omega, by omega, tq⟩, (fun _ => ⟨by omega, by omega⟩), (fun _ => ⟨by omega, by omega, by omega, by omega⟩)⟩) | (intro z; have z1 := z.1; omega) | (intro z; exact vf z.2.1) | (intro z; have z3 := z.2.2.1 (by omega); omega) | (intro z; have z4 := z.2.2.2 (by omega); omega) | (subst_vars; omega) | assumption | omega) (by first | exact Td_h52 | exact VwI_cg vn (by omega) (by omega) (by omega) m99 m101 | exact VwS_cg vs (by omega) (by omega) (by omega) m99 | exact so.1 | exact so.2.1 | exact so.2.2.1 | exact so.2.2.2.1 | exact so.2.2.2.2 | (unfold EdOk; exact ⟨⟨by omega, by omega⟩, ⟨by omega, by omega, tq⟩, (fun _ => ⟨by omega, by omega⟩), (fun _ => ⟨by omega, by omega, by omega, by omega⟩)⟩) | (intro z; have z1 := z.1; omega) | (intro z; exact vf z.2.1) | (intro z; have z3 := z.2.2.1 (by omega); omega) | (intro z; have z4 := z.2.2.2 (by omega); omega) | (subst_vars; omega) | assumption | omega) (by first | exact Td_h52 | exact VwI_cg vn (by omega) (by omega) (by omega) m99 m101 | exact VwS_cg vs (by omega) (by omega) (by omega) m99 | exact so.1 | exact so.2.1 | exact so.2.2.1 | exact so.2.2.2.1 | exact so.2.2.2.2 | (unfold EdOk; exact ⟨⟨by omega, by omega⟩, ⟨by omega, by omega, tq⟩, (fun _ => ⟨by omega, by omega⟩), (fun _ => ⟨by omega, by omega, by omega, by omega⟩)⟩) | (intro z; have z1 := z.1; omega) | (intro z; exact vf z.2.1) | (intro z; have z3 := z.2.2.1 (by omega); omega) | (intro z; have z4 := z.2.2.2 (by omega); omega) | (subst_vars; omega) | assumption | omega) (by first | exact Td_h52 | exact VwI_cg vn (by omega) (by omega) (by omega) m99 m101 | exact VwS_cg vs (by omega) (by omega) (by omega) m99 | exact so.1 | exact so.2.1 | exact so.2.2.1 | exact so.2.2.2.1 | exact so.2.2.2.2 | (unfold EdOk; exact ⟨⟨by omega, by omega⟩, ⟨by omega, by omega, tq⟩, (fun _ => ⟨by omega, by omega⟩), (fun _ => ⟨by omega, by omega, by omega, by omega⟩)⟩) | (intro z; have z1 := z.1; omega) | (intro z; exact vf z.2.1) | (intro z; have z3 := z.2.2.1 (by omega); omega) | (intro z; have z4 := z.2.2.2 (by omega); omega) | (subst_vars; omega) | assumption | omega) (by first | exact Td_h52 | exact VwI_cg vn (by omega) (by omega) (by omega) m99 m101 | exact VwS_cg vs (by omega) (by omega) (by omega) m99 | exact so.1 | exact so.2.1 | exact so.2.2.1 | exact so.2.2.2.1 | exact so.2.2.2.2 | (unfold EdOk; exact ⟨⟨by omega, by omega⟩, ⟨by omega, by omega, tq⟩, (fun _ => ⟨by omega, by omega⟩), (fun _ => ⟨by omega, by omega, by omega, by omega⟩)⟩) | (intro z; have z1 := z.1; omega) | (intro z; exact vf z.2.1) | (intro z; have z3 := z.2.2.1 (by omega); omega) | (intro z; have z4 := z.2.2.2 (by omega); omega) | (subst_vars; omega) | assumption | omega) (by first | exact Td_h52 | exact VwI_cg vn (by omega) (by omega) (by omega) m99 m101 | exact VwS_cg vs (by omega) (by omega) (by omega) m99 | exact so.1 | exact so.2.1 | exact so.2.2.1 | exact so.2.2.2.1 | exact so.2.2.2.2 | (unfold EdOk; exact ⟨⟨by omega, by omega⟩, ⟨by omega, by omega, tq⟩, (fun _ => ⟨by omega, by omega⟩), (fun _ => ⟨by omega, by omega, by omega, by omega⟩)⟩) | (intro z; have z1 := z.1; omega) | (intro z; exact vf z.2.1) | (intro z; have z3 := z.2.2.1 (by omega); omega) | (intro z; have z4 := z.2.2.2 (by omega); omega) | (subst_vars; omega) | assumption | omega) (by first | exact Td_h52 | exact VwI_cg vn (by omega) (by omega) (by omega) m99 m101 | exact VwS_cg vs (by omega) (by omega) (by omega) m99 | exact so.1 | exact so.2.1 | exact so.2.2.1 | exact so.2.2.2.1 | exact so.2.2.2.2 | (unfold EdOk; exact ⟨⟨by omega, by omega⟩, ⟨by omega, by omega, tq⟩, (fun _ => ⟨by omega, by omega⟩), (fun _ => ⟨by omega, by omega, by omega, by omega⟩)⟩) | (intro z; have z1 := z.1; omega) | (intro z; exact vf z.2.1) | (intro z; have z3 := z.2.2.1 (by omega); omega) | (intro z; have z4 := z.2.2.2 (by omega); omega) | (subst_vars; omega) | assumption | omega) (by first | exact Td_h52 | exact VwI_cg vn (by omega) (by omega) (by omega) m99 m101 | exact VwS_cg vs (by omega) (by omega) (by omega) m99 | exact so.1 | exact so.2.1 | exact so.2.2.1 | exact so.2.2.2.1 | exact so.2.2.2.2 | (unfold EdOk; exact ⟨⟨by omega, by omega⟩, ⟨by omega, by omega, tq⟩, (fun _ => ⟨by omega, by omega⟩), (fun _ => ⟨by omega, by omega, by omega, by omega⟩)⟩) | (intro z; have z1 := z.1; omega) | (intro z; exact vf z.2.1) | (intro z; have z3 := z.2.2.1 (by omega); omega) | (intro z; have z4 := z.2.2.2 (by omega); omega) | (subst_vars; omega) | assumption | omega) (by first | exact Td_h52 | exact VwI_cg vn (by omega) (by omega) (by omega) m99 m101 | exact VwS_cg vs (by omega) (by omega) (by omega) m99 | exact so.1 | exact so.2.1 | exact so.2.2.1 | exact so.2.2.2.1 | exact so.2.2.2.2 | (unfold EdOk; exact ⟨⟨by omega, by omega⟩, ⟨by omega, by omega, tq⟩, (fun _ => ⟨by omega, by omega⟩), (fun _ => ⟨by omega, by omega, by omega, by omega⟩)⟩) | (intro z; have z1 := z.1; omega) | (intro z; exact vf z.2.1) | (intro z; have z3 := z.2.2.1 (by omega); omega) | (intro z; have z4 := z.2.2.2 (by omega); omega) | (subst_vars; omega) | assumption | omega) (by first | exact Td_h52 | exact VwI_cg vn (by omega) (by omega) (by omega) m99 m101 | exact VwS_cg vs (by omega) (by omega) (by omega) m99 | exact so.1 | exact so.2.1 | exact so.2.2.1 | exact so.2.2.2.1 | exact so.2.2.2.2 | (unfold EdOk; exact ⟨⟨by omega, by omega⟩, ⟨by omega, by omega, tq⟩, (fun _ => ⟨by omega, by omega⟩), (fun _ => ⟨by omega, by omega, by omega, by omega⟩)⟩) | (intro z; have z1 := z.1; omega) | (intro z; exact vf z.2.1) | (intro z; have z3 := z.2.2.1 (by omega); omega) | (intro z; have z4 := z.2.2.2 (by omega); omega) | (subst_vars; omega) | assumption | omega) (by first | exact Td_h52 | exact VwI_cg vn (by omega) (by omega) (by omega) m99 m101 | exact VwS_cg vs (by omega) (by omega) (by omega) m99 | exact so.1 | exact so.2.1 | exact so.2.2.1 | exact so.2.2.2.1 | exact so.2.2.2.2 | (unfold EdOk; exact ⟨⟨by omega, by omega⟩, ⟨by omega, by omega, tq⟩, (fun _ => ⟨by omega, by omega⟩), (fun _ => ⟨by omega, by omega, by omega, by omega⟩)⟩) | (intro z; have z1 := z.1; omega) | (intro z; exact vf z.2.1) | (intro z; have z3 := z.2.2.1 (by omega); omega) | (intro z; have z4 := z.2.2.2 (by omega); omega) | (subst_vars; omega) | assumption | omega) (by first | exact Td_h52 | exact VwI_cg vn (by omega) (by omega) (by omega) m99 m101 | exact VwS_cg vs (by omega) (by omega) (by omega) m99 | exact so.1 | exact so.2.1 | exact so.2.2.1 | exact so.2.2.2.1 | exact so.2.2.2.2 | (unfold EdOk; exact ⟨⟨by omega, by omega⟩, ⟨by omega, by omega, tq⟩, (fun _ => ⟨by omega, by omega⟩), (fun _ => ⟨by omega, by omega, by omega, by omega⟩)⟩) | (intro z; have z1 := z.1; omega) | (intro z; exact vf z.2.1) | (intro z; have z3 := z.2.2.1 (by omega); omega) | (intro z; have z4 := z.2.2.2 (by omega); omega) | (subst_vars; omega) | assumption | omega))
        ·
          refine w_iload gz_87_25 rfl ?_
          refine w_iflt (t := 42) gz_87_27 rfl (fun u63 => ?_) (fun u63 => ?_)
          ·
            refine w_iconst gz_87_42 (by decide) ?_
            have ce64 : h5 94 15 = h 94 15 := ((my_fr.at frh5 is_94 rfl).trans (rfl : h 94 15 = h 94 15))
            have ce65 : h5 94 16 = h 94 16 := ((my_fr.at frh5 is_94 rfl).trans (rfl : h 94 16 = h 94 16))
            have m99 : ∀ j : Int, h5 99 j = h5 99 j := fun j => rfl
            have m101 : ∀ j : Int, h5 101 j = h5 101 j := fun j => rfl
            exact w_bret gz_87_43 gm_87 (by omega) (by omega) (k0 h5 (gh5) (by first | exact Td_h5t16 | exact VwI_cg vn (by omega) (by omega) (by omega) m99 m101 | exact VwS_cg vs (by omega) (by omega) (by omega) m99 | exact so.1 | exact so.2.1 | exact so.2.2.1 | exact so.2.2.2.1 | exact so.2.2.2.2 | (unfold EdOk; exact ⟨⟨by omega, by omega⟩, ⟨by omega, by omega, tq⟩, (fun _ => ⟨by omega, by omega⟩), (fun _ => ⟨by omega, by omega, by omega, by omega⟩)⟩) | (intro z; have z1 := z.1; omega) | (intro z; exact vf z.2.1) | (intro z; have z3 := z.2.2.1 (by omega); omega) | (intro z; have z4 := z.2.2.2 (by omega); omega) | (subst_vars; omega) | assumption | omega))
          ·
            refine w_iload gz_87_30 rfl ?_
            refine w_aload_n gz_87_32 rfl ?_
            refine w_getX (v := 98) gz_87_33 is_94 rd_2 rfl (by decide) rfl ?_
            refine v_getI (j := 0) gz_87_36 rfl is_98 rd_8 rfl (fun v67 ev67 pv67 qv67 => ?_)
            have hi68 : 0 ≤ v67 := by omega
            have hi69 : v67 ≤ 10 := by omega
            refine w_iclt (t := 44) gz_87_39 rfl (fun u70 => ?_) (fun u70 => ?_)
            ·
              refine w_iload_n gz_87_44 rfl ?_
              refine w_ifne (t := 77) gz_87_45 rfl (fun u71 => ?_) (fun u71 => ?_)
              ·
                refine w_aload_n gz_87_77 rfl ?_
                refine w_iload_n gz_87_78 rfl ?_
                refine v_putI (j := 15) gz_87_79 rfl is_94 rd_2 rfl (by omega) (by omega) rfl (fun h72 fh72 => ?_)
                have gh72 : my_fr [(2, 15), (2, 16), (8, 0), (8, 1), (42, -1), (43, -1), (44, -1)] h h72 := my_fr.up gh5 is_94 fh72 rfl
                have Ln_h72 : Ln h72 := Ln_ag (my_ag.up fh72 is_94 rfl) Ln_h5
                have Td_h72 : Td h72 x2 := Td_ag (my_ag.up fh72 is_94 rfl) Ln_h5 Td_h5t16
                refine w_aload_n gz_87_82 rfl ?_
                refine w_iload gz_87_83 rfl ?_
                refine v_putA (j := 16) gz_87_85 rfl is_94 rd_2 rfl rfl (fun h73 fh73 => ?_)
                have gh73 : my_fr [(2, 15), (2, 16), (8, 0), (8, 1), (42, -1), (43, -1), (44, -1)] h h73 := my_fr.up gh72 is_94 fh73 rfl
                have Ln_h73 : Ln h73 := Ln_ag (my_ag.up fh73 is_94 rfl) Ln_h72
                have Td_h73 : Td h73 x2 := Td_ag (my_ag.up fh73 is_94 rfl) Ln_h72 Td_h72
                have ce74 : h73 98 0 = v67 := ((my_up_role fh73 is_98 is_94 rfl).trans ((my_up_role fh72 is_98 is_94 rfl).trans ev67.symm))
                refine w_aload_n gz_87_88 rfl ?_
                refine w_getX (v := 102) gz_87_89 is_94 rd_2 rfl (by decide) rfl ?_
                refine w_aload_n gz_87_92 rfl ?_
                refine w_getX (v := 98) gz_87_93 is_94 rd_2 rfl (by decide) rfl ?_
                refine w_inv (k := 0) (as := [(2, 98)]) (r := []) (x := 102) (ls0 := [(2, 102), (2, 98)]) gz_87_96 gm_88 rfl is_102 rd_8 rfl rfl rfl rfl rfl ?_
                refine w_aload_n gz_88_0 rfl ?_
                refine w_aload_n gz_88_1 rfl ?_
                refine v_getI (j := 0) gz_88_2 rfl is_98 rd_8 rfl (fun v77 ev77 pv77 qv77 => ?_)
                have zv77 := ev77.trans ((my_up_role fh73 is_98 is_94 rfl).trans ((my_up_role fh72 is_98 is_94 rfl).trans ev67.symm))
                refine v_putI (j := 0) gz_88_5 rfl is_102 rd_8 rfl (by omega) (by omega) rfl (fun h78 fh78 => ?_)
                have gh78 : my_fr [(2, 15), (2, 16), (8, 0), (8, 1), (42, -1), (43, -1), (44, -1)] h h78 := my_fr.up gh73 is_102 fh78 rfl
                have Ln_h78 : Ln h78 := Ln_ag (my_ag.up fh78 is_102 rfl) Ln_h73
                have Td_h78 : Td h78 x2 := Td_ag (my_ag.up fh78 is_102 rfl) Ln_h73 Td_h73
                refine w_aload_n gz_88_8 rfl ?_
                refine w_aload_n gz_88_9 rfl ?_
                refine v_getI (j := 1) gz_88_10 rfl is_98 rd_8 rfl (fun v79 ev79 pv79 qv79 => ?_)
                refine v_putI (j := 1) gz_88_13 rfl is_102 rd_8 rfl (by omega) (by omega) rfl (fun h80 fh80 => ?_)
                have gh80 : my_fr [(2, 15), (2, 16), (8, 0), (8, 1), (42, -1), (43, -1), (44, -1)] h h80 := my_fr.up gh78 is_102 fh80 rfl
                have Ln_h80 : Ln h80 := Ln_ag (my_ag.up fh80 is_102 rfl) Ln_h78
                have Td_h80 : Td h80 x2 := Td_ag (my_ag.up fh80 is_102 rfl) Ln_h78 Td_h78
                refine w_aload_n gz_88_16 rfl ?_
                refine w_getX (v := 99) gz_88_17 is_98 rd_8 rfl (by decide) rfl ?_
                refine w_iconst gz_88_20 (by decide) ?_
                refine w_aload_n gz_88_21 rfl ?_
                refine w_getX (v := 103) gz_88_22 is_102 rd_8 rfl (by decide) rfl ?_
                refine w_iconst gz_88_25 (by decide) ?_
                refine w_aload_n gz_88_26 rfl ?_
                refine w_getX (v := 103) gz_88_27 is_102 rd_8 rfl (by decide) rfl ?_
                refine v_alen (j := 204) gz_88_30 rfl is_103 rd_42 (by decide) ?_
                refine w_cpG gz_88_31 is_99 rd_42 is_103 rd_42 (by omega) (by omega) (by omega) (by omega) (by omega) rfl (by omega) (fun h84 fh84 => ?_)
                have gh84 : my_fr [(2, 15), (2, 16), (8, 0), (8, 1), (42, -1), (43, -1), (44, -1)] h h84 := my_fr.cp gh80 is_103 fh84 rfl
                have Ln_h84 : Ln h84 := Ln_ag (my_ag.cp fh84 is_103 rfl) Ln_h80
                have Td_h84 : Td h84 x2 := Td_ag (my_ag.cp fh84 is_103 rfl) Ln_h80 Td_h80
                have fcp := fh84
                refine w_vret gz_88_34 gm_88 ?_
                show wp l rho (d + 5) 87 99 [(2, 94), (2, x1), (0, x2), (0, x3), (0, x4), (0, x5), (0, x6)] [] h84 Q
                have ce85 : h84 98 0 = v77 := ((my_cp_role fh84 is_98 is_103 rfl).trans ((my_up_fld fh80 (by decide)).trans ((my_up_ne fh78 (by omega)).trans ev77.symm)))
                have ce86 : h84 102 0 = v77 := ((my_cp_role fh84 is_102 is_103 rfl).trans ((my_up_fld fh80 (by decide)).trans (my_up_self fh78)))
                have ce87 : h84 98 1 = v79 := ((my_cp_role fh84 is_98 is_103 rfl).trans ((my_up_ne fh80 (by omega)).trans ev79.symm))
                have ce88 : h84 102 1 = v79 := ((my_cp_role fh84 is_102 is_103 rfl).trans (my_up_self fh80))
                have o98 : ∀ j : Int, h84 98 j = h5 98 j := fun j => ((my_cp_role fh84 is_98 is_103 rfl).trans ((my_up_ne fh80 (by omega)).trans ((my_up_ne fh78 (by omega)).trans ((my_up_role fh73 is_98 is_94 rfl).trans ((my_up_role fh72 is_98 is_94 rfl).trans (rfl : h5 98 j = h5 98 j))))))
                have o980 := o98 0
                have o981 := o98 1
                have cp : ∀ (m : Int) (r : Nat), m ≤ 16 → (r : Int) < 12 → zqE h84 102 m r = zqE h84 98 m r := fun m r a b => zqE_cp (v := 102) a b fcp (fun j => (my_cp_ne fcp (by omega)).symm) rfl
                have e93 : h84 93 = h 93 := funext (fun j => my_fr.at gh84 is_93 rfl)
                refine w_iload_n gz_87_99 rfl ?_
                refine w_ifne (t := 119) gz_87_100 rfl (fun u89 => ?_) (fun u89 => by exfalso; omega)
                refine w_iload_n gz_87_119 rfl ?_
                refine w_iconst gz_87_120 (by decide) ?_
                refine w_icne (t := 136) gz_87_121 rfl (fun u90 => by exfalso; omega) (fun u90 => ?_)
                have hi91 : 0 ≤ x4 := by omega
                have hi92 : x4 ≤ 9 := by omega
                refine w_aload_n gz_87_124 rfl ?_
                refine w_getX (v := 102) gz_87_125 is_94 rd_2 rfl (by decide) rfl ?_
                refine w_iload gz_87_128 rfl ?_
                refine w_inv (k := 1) (as := [(0, x4)]) (r := []) (x := 102) (ls0 := [(2, 102), (0, x4), (9, 0)]) gz_87_130 gm_90 rfl is_102 rd_8 rfl rfl rfl rfl rfl (c_View_dropRow5 (d := (d + 2)) (x0 := 102) (x1 := x4) is_102 (by omega) (by omega) (by omega) (by omega) (by first | assumption | exact no_such_saying | exact Fp_told (by omega) (by omega) | omega | (subst_vars; omega) | omega) (fun h94 frh94 fxh94 w95 w96 xp97 xp98 => ?_))
                have gh94 : my_fr [(2, 15), (2, 16), (8, 0), (8, 1), (42, -1), (43, -1), (44, -1)] h h94 := my_fr.tr gh84 (frh94.mo rfl)
                have Ln_h94 : Ln h94 := Ln_ag (my_ag.fr frh94 rfl) Ln_h84
                have Td_h94 : Td h94 x2 := Td_ag (my_ag.fr frh94 rfl) Ln_h84 Td_h84
                show wp l rho (d + 5) 87 133 [(2, 94), (2, x1), (0, x2), (0, x3), (0, x4), (0, x5), (0, x6)] [] h94 Q
                have wq : WtQ h94 x3 x4 x5 x6 (h 93) := WtQ_d (by omega) cp (by omega) (by omega) (by omega) (by omega) (by omega) (by omega) xp97 xp98 (my_fr.at frh94 is_102 rfl) (fxh94 98 0 (Or.inl (by omega))) (fxh94 98 1 (Or.inl (by omega))) (fun y => fxh94 99 y (Or.inl (by omega)))
                refine w_goto (t := 147) gz_87_133 rfl ?_
                have ce99 : h94 98 0 = v77 := ((my_fx.at fxh94 (by omega)).trans ((my_cp_role fh84 is_98 is_103 rfl).trans ((my_up_fld fh80 (by decide)).trans ((my_up_ne fh78 (by omega)).trans ev77.symm))))
                have ce100 : h94 98 1 = v79 := ((my_fr.at frh94 is_98 rfl).trans ((my_cp_role fh84 is_98 is_103 rfl).trans ((my_up_ne fh80 (by omega)).trans ev79.symm)))
                have n99 : ∀ j : Int, h94 99 j = h5 99 j := fun j => ((my_fx.at fxh94 (by omega)).trans ((my_cp_ne fh84 (by omega)).trans ((my_up_role fh80 is_99 is_102 rfl).trans ((my_up_role fh78 is_99 is_102 rfl).trans ((my_up_role fh73 is_99 is_94 rfl).trans ((my_up_role fh72 is_99 is_94 rfl).trans (rfl : h5 99 j = h5 99 j)))))))
                have vb2 := vb_mv vb (by omega) (by omega) (by omega) n99
                have wq2 : WtQ h94 x3 x4 x5 x6 (h 93) := by
                  first
                  | exact wq
                  | (have z := WtQ_a (e := x3) (i := x4) (j := x5) (v := x6) (by omega) cp (by omega) (by omega) (by omega) (by omega) (by omega) (by omega) fa4 (by omega) (by omega) fa5 (by omega); rw [e93] at z; exact z)
                have wb : ∀ i : Nat, (i : Int) < h94 102 0 → zqBe (zqE h94 102 (h94 102 1) i).2 := WtQ_be wq2 vb2 (fun _ => ⟨by omega, by omega⟩) ⟨by omega, by omega⟩ (fun c a b => by have z := kD c a (by omega); omega)
                refine w_aload_n gz_87_147 rfl ?_
                refine w_getX (v := 102) gz_87_148 is_94 rd_2 rfl (by decide) rfl ?_
                refine w_inv (k := 3) (as := []) (r := []) (x := 102) (ls0 := [(2, 102), (9, 0), (9, 0), (9, 0)]) gz_87_151 gm_79 rfl is_102 rd_8 rfl rfl rfl rfl rfl (c_View_sort5 (d := (d + 2)) (x0 := 102) is_102 (by first | assumption | exact no_such_saying | exact Fp_told (by omega) (by omega) | omega | (subst_vars; omega) | omega) (fun h102 frh102 fxh102 xp103 xp104 xp105 => ?_))
                have gh102 : my_fr [(2, 15), (2, 16), (8, 0), (8, 1), (42, -1), (43, -1), (44, -1)] h h102 := my_fr.tr gh94 (frh102.mo rfl)
                have Ln_h102 : Ln h102 := Ln_ag (my_ag.fr frh102 rfl) Ln_h94
                have Td_h102 : Td h102 x2 := Td_ag (my_ag.fr frh102 rfl) Ln_h94 Td_h94
                show wp l rho (d + 5) 87 154 [(2, 94), (2, x1), (0, x2), (0, x3), (0, x4), (0, x5), (0, x6)] [] h102 Q
                have so := WtQ_so wq2 wb xp103 xp104 xp105 (my_fr.at frh102 is_98 rfl) (my_fr.at frh102 is_98 rfl) (by omega) (fun y => fxh102 99 y (Or.inl (by omega)))
                refine w_iconst gz_87_154 (by decide) ?_
                have ce106 : h102 94 15 = x3 := ((my_fr.at frh102 is_94 rfl).trans ((my_fr.at frh94 is_94 rfl).trans ((my_cp_role fh84 is_94 is_103 rfl).trans ((my_up_role fh80 is_94 is_102 rfl).trans ((my_up_role fh78 is_94 is_102 rfl).trans ((my_up_fld fh73 (by decide)).trans (my_up_self fh72)))))))
                have ce107 : h102 94 16 = x4 := ((my_fr.at frh102 is_94 rfl).trans ((my_fr.at frh94 is_94 rfl).trans ((my_cp_role fh84 is_94 is_103 rfl).trans ((my_up_role fh80 is_94 is_102 rfl).trans ((my_up_role fh78 is_94 is_102 rfl).trans (my_up_self fh73))))))
                have ce108 : h102 98 0 = v77 := ((my_fr.at frh102 is_98 rfl).trans ((my_fx.at fxh94 (by omega)).trans ((my_cp_role fh84 is_98 is_103 rfl).trans ((my_up_fld fh80 (by decide)).trans ((my_up_ne fh78 (by omega)).trans ev77.symm)))))
                have ce109 : h102 98 1 = v79 := ((my_fr.at frh102 is_98 rfl).trans ((my_fr.at frh94 is_98 rfl).trans ((my_cp_role fh84 is_98 is_103 rfl).trans ((my_up_ne fh80 (by omega)).trans ev79.symm))))
                have ce110 : h102 102 0 = (h94 102 0) := ((my_fr.at frh102 is_102 rfl).trans (rfl : h94 102 0 = h94 102 0))
                have ce111 : h102 102 1 = v79 := ((my_fr.at frh102 is_102 rfl).trans ((my_fr.at frh94 is_102 rfl).trans ((my_cp_role fh84 is_102 is_103 rfl).trans (my_up_self fh80))))
                have m99 : ∀ j : Int, h102 99 j = h5 99 j := fun j => ((my_fx.at fxh102 (by omega)).trans ((my_fx.at fxh94 (by omega)).trans ((my_cp_ne fh84 (by omega)).trans ((my_up_role fh80 is_99 is_102 rfl).trans ((my_up_role fh78 is_99 is_102 rfl).trans ((my_up_role fh73 is_99 is_94 rfl).trans ((my_up_role fh72 is_99 is_94 rfl).trans (rfl : h5 99 j = h5 99 j))))))))
                have m101 : ∀ j : Int, h102 101 j = h5 101 j := fun j => ((my_fr.at frh102 is_101 rfl).trans ((my_fr.at frh94 is_101 rfl).trans ((my_cp_role fh84 is_101 is_103 rfl).trans ((my_up_role fh80 is_101 is_102 rfl).trans ((my_up_role fh78 is_101 is_102 rfl).trans ((my_up_role fh73 is_101 is_94 rfl).trans ((my_up_role fh72 is_101 is_94 rfl).trans (rfl : h5 101 j = h5 101 j))))))))
                have c112 := ((my_fr.at frh102 is_94 rfl).trans ((my_fr.at frh94 is_94 rfl).trans ((my_cp_role fh84 is_94 is_103 rfl).trans ((my_up_role fh80 is_94 is_102 rfl).trans ((my_up_role fh78 is_94 is_102 rfl).trans ((my_up_fld fh73 (by decide)).trans (my_up_self fh72)))))))
                exact w_bret gz_87_155 gm_87 (by omega) (by omega) (k1 h102 (gh102) (by omega) (by omega) (by omega) (by omega) (by omega) (by omega) (by first | exact Td_h102 | exact VwI_cg vn (by omega) (by omega) (by omega) m99 m101 | exact VwS_cg vs (by omega) (by omega) (by omega) m99 | exact so.1 | exact so.2.1 | exact so.2.2.1 | exact so.2.2.2.1 | exact so.2.2.2.2 | (unfold EdOk; exact ⟨⟨by omega, by omega⟩, ⟨by omega, by omega, tq⟩, (fun _ => ⟨by omega, by omega⟩), (fun _ => ⟨by omega, by omega, by omega, by omega⟩)⟩) | (intro z; have z1 := z.1; omega) | (intro z; exact vf z.2.1) | (intro z; have z3 := z.2.2.1 (by omega); omega) | (intro z; have z4 := z.2.2.2 (by omega); omega) | (subst_vars; omega) | assumption | omega) (by first | exact Td_h102 | exact VwI_cg vn (by omega) (by omega) (by omega) m99 m101 | exact VwS_cg vs (by omega) (by omega) (by omega) m99 | exact so.1 | exact so.2.1 | exact so.2.2.1 | exact so.2.2.2.1 | exact so.2.2.2.2 | (unfold EdOk; exact ⟨⟨by omega, by omega⟩, ⟨by omega, by omega, tq⟩, (fun _ => ⟨by omega, by omega⟩), (fun _ => ⟨by omega, by omega, by omega, by omega⟩)⟩) | (intro z; have z1 := z.1; omega) | (intro z; exact vf z.2.1) | (intro z; have z3 := z.2.2.1 (by omega); omega) | (intro z; have z4 := z.2.2.2 (by omega); omega) | (subst_vars; omega) | assumption | omega) (by first | exact Td_h102 | exact VwI_cg vn (by omega) (by omega) (by omega) m99 m101 | exact VwS_cg vs (by omega) (by omega) (by omega) m99 | exact so.1 | exact so.2.1 | exact so.2.2.1 | exact so.2.2.2.1 | exact so.2.2.2.2 | (unfold EdOk; exact ⟨⟨by omega, by omega⟩, ⟨by omega, by omega, tq⟩, (fun _ => ⟨by omega, by omega⟩), (fun _ => ⟨by omega, by omega, by omega, by omega⟩)⟩) | (intro z; have z1 := z.1; omega) | (intro z; exact vf z.2.1) | (intro z; have z3 := z.2.2.1 (by omega); omega) | (intro z; have z4 := z.2.2.2 (by omega); omega) | (subst_vars; omega) | assumption | omega) (by first | exact Td_h102 | exact VwI_cg vn (by omega) (by omega) (by omega) m99 m101 | exact VwS_cg vs (by omega) (by omega) (by omega) m99 | exact so.1 | exact so.2.1 | exact so.2.2.1 | exact so.2.2.2.1 | exact so.2.2.2.2 | (unfold EdOk; exact ⟨⟨by omega, by omega⟩, ⟨by omega, by omega, tq⟩, (fun _ => ⟨by omega, by omega⟩), (fun _ => ⟨by omega, by omega, by omega, by omega⟩)⟩) | (intro z; have z1 := z.1; omega) | (intro z; exact vf z.2.1) | (intro z; have z3 := z.2.2.1 (by omega); omega) | (intro z; have z4 := z.2.2.2 (by omega); omega) | (subst_vars; omega) | assumption | omega) (by first | exact Td_h102 | exact VwI_cg vn (by omega) (by omega) (by omega) m99 m101 | exact VwS_cg vs (by omega) (by omega) (by omega) m99 | exact so.1 | exact so.2.1 | exact so.2.2.1 | exact so.2.2.2.1 | exact so.2.2.2.2 | (unfold EdOk; exact ⟨⟨by omega, by omega⟩, ⟨by omega, by omega, tq⟩, (fun _ => ⟨by omega, by omega⟩), (fun _ => ⟨by omega, by omega, by omega, by omega⟩)⟩) | (intro z; have z1 := z.1; omega) | (intro z; exact vf z.2.1) | (intro z; have z3 := z.2.2.1 (by omega); omega) | (intro z; have z4 := z.2.2.2 (by omega); omega) | (subst_vars; omega) | assumption | omega) (by first | exact Td_h102 | exact VwI_cg vn (by omega) (by omega) (by omega) m99 m101 | exact VwS_cg vs (by omega) (by omega) (by omega) m99 | exact so.1 | exact so.2.1 | exact so.2.2.1 | exact so.2.2.2.1 | exact so.2.2.2.2 | (unfold EdOk; exact ⟨⟨by omega, by omega⟩, ⟨by omega, by omega, tq⟩, (fun _ => ⟨by omega, by omega⟩), (fun _ => ⟨by omega, by omega, by omega, by omega⟩)⟩) | (intro z; have z1 := z.1; omega) | (intro z; exact vf z.2.1) | (intro z; have z3 := z.2.2.1 (by omega); omega) | (intro z; have z4 := z.2.2.2 (by omega); omega) | (subst_vars; omega) | assumption | omega) (by first | exact Td_h102 | exact VwI_cg vn (by omega) (by omega) (by omega) m99 m101 | exact VwS_cg vs (by omega) (by omega) (by omega) m99 | exact so.1 | exact so.2.1 | exact so.2.2.1 | exact so.2.2.2.1 | exact so.2.2.2.2 | (unfold EdOk; exact ⟨⟨by omega, by omega⟩, ⟨by omega, by omega, tq⟩, (fun _ => ⟨by omega, by omega⟩), (fun _ => ⟨by omega, by omega, by omega, by omega⟩)⟩) | (intro z; have z1 := z.1; omega) | (intro z; exact vf z.2.1) | (intro z; have z3 := z.2.2.1 (by omega); omega) | (intro z; have z4 := z.2.2.2 (by omega); omega) | (subst_vars; omega) | assumption | omega) (by first | exact Td_h102 | exact VwI_cg vn (by omega) (by omega) (by omega) m99 m101 | exact VwS_cg vs (by omega) (by omega) (by omega) m99 | exact so.1 | exact so.2.1 | exact so.2.2.1 | exact so.2.2.2.1 | exact so.2.2.2.2 | (unfold EdOk; exact ⟨⟨by omega, by omega⟩, ⟨by omega, by omega, tq⟩, (fun _ => ⟨by omega, by omega⟩), (fun _ => ⟨by omega, by omega, by omega, by omega⟩)⟩) | (intro z; have z1 := z.1; omega) | (intro z; exact vf z.2.1) | (intro z; have z3 := z.2.2.1 (by omega); omega) | (intro z; have z4 := z.2.2.2 (by omega); omega) | (subst_vars; omega) | assumption | omega) (by first | exact Td_h102 | exact VwI_cg vn (by omega) (by omega) (by omega) m99 m101 | exact VwS_cg vs (by omega) (by omega) (by omega) m99 | exact so.1 | exact so.2.1 | exact so.2.2.1 | exact so.2.2.2.1 | exact so.2.2.2.2 | (unfold EdOk; exact ⟨⟨by omega, by omega⟩, ⟨by omega, by omega, tq⟩, (fun _ => ⟨by omega, by omega⟩), (fun _ => ⟨by omega, by omega, by omega, by omega⟩)⟩) | (intro z; have z1 := z.1; omega) | (intro z; exact vf z.2.1) | (intro z; have z3 := z.2.2.1 (by omega); omega) | (intro z; have z4 := z.2.2.2 (by omega); omega) | (subst_vars; omega) | assumption | omega) (by first | exact Td_h102 | exact VwI_cg vn (by omega) (by omega) (by omega) m99 m101 | exact VwS_cg vs (by omega) (by omega) (by omega) m99 | exact so.1 | exact so.2.1 | exact so.2.2.1 | exact so.2.2.2.1 | exact so.2.2.2.2 | (unfold EdOk; exact ⟨⟨by omega, by omega⟩, ⟨by omega, by omega, tq⟩, (fun _ => ⟨by omega, by omega⟩), (fun _ => ⟨by omega, by omega, by omega, by omega⟩)⟩) | (intro z; have z1 := z.1; omega) | (intro z; exact vf z.2.1) | (intro z; have z3 := z.2.2.1 (by omega); omega) | (intro z; have z4 := z.2.2.2 (by omega); omega) | (subst_vars; omega) | assumption | omega) (by first | exact Td_h102 | exact VwI_cg vn (by omega) (by omega) (by omega) m99 m101 | exact VwS_cg vs (by omega) (by omega) (by omega) m99 | exact so.1 | exact so.2.1 | exact so.2.2.1 | exact so.2.2.2.1 | exact so.2.2.2.2 | (unfold EdOk; exact ⟨⟨by omega, by omega⟩, ⟨by omega, by omega, tq⟩, (fun _ => ⟨by omega, by omega⟩), (fun _ => ⟨by omega, by omega, by omega, by omega⟩)⟩) | (intro z; have z1 := z.1; omega) | (intro z; exact vf z.2.1) | (intro z; have z3 := z.2.2.1 (by omega); omega) | (intro z; have z4 := z.2.2.2 (by omega); omega) | (subst_vars; omega) | assumption | omega) (by first | exact Td_h102 | exact VwI_cg vn (by omega) (by omega) (by omega) m99 m101 | exact VwS_cg vs (by omega) (by omega) (by omega) m99 | exact so.1 | exact so.2.1 | exact so.2.2.1 | exact so.2.2.2.1 | exact so.2.2.2.2 | (unfold EdOk; exact ⟨⟨by omega, by omega⟩, ⟨by omega, by omega, tq⟩, (fun _ => ⟨by omega, by omega⟩), (fun _ => ⟨by omega, by omega, by omega, by omega⟩)⟩) | (intro z; have z1 := z.1; omega) | (intro z; exact vf z.2.1) | (intro z; have z3 := z.2.2.1 (by omega); omega) | (intro z; have z4 := z.2.2.2 (by omega); omega) | (subst_vars; omega) | assumption | omega) (by first | exact Td_h102 | exact VwI_cg vn (by omega) (by omega) (by omega) m99 m101 | exact VwS_cg vs (by omega) (by omega) (by omega) m99 | exact so.1 | exact so.2.1 | exact so.2.2.1 | exact so.2.2.2.1 | exact so.2.2.2.2 | (unfold EdOk; exact ⟨⟨by omega, by omega⟩, ⟨by omega, by omega, tq⟩, (fun _ => ⟨by omega, by omega⟩), (fun _ => ⟨by omega, by omega, by omega, by omega⟩)⟩) | (intro z; have z1 := z.1; omega) | (intro z; exact vf z.2.1) | (intro z; have z3 := z.2.2.1 (by omega); omega) | (intro z; have z4 := z.2.2.2 (by omega); omega) | (subst_vars; omega) | assumption | omega))
              ·
                refine w_aload_n gz_87_48 rfl ?_
                refine w_getX (v := 98) gz_87_49 is_94 rd_2 rfl (by decide) rfl ?_
                refine w_iload gz_87_52 rfl ?_
                refine w_iload gz_87_54 rfl ?_
                refine w_inv (k := 0) (as := [(0, x5), (0, x4)]) (r := []) (x := 98) (ls0 := [(2, 98), (0, x4), (0, x5)]) gz_87_56 gm_81 rfl is_98 rd_8 rfl rfl rfl rfl rfl ?_
                refine w_iload_n gz_81_0 rfl ?_
                refine w_iflt (t := 28) gz_81_1 rfl (fun u114 => by exfalso; omega) (fun u114 => ?_)
                refine w_iload_n gz_81_4 rfl ?_
                refine w_aload_n gz_81_5 rfl ?_
                refine v_getI (j := 0) gz_81_6 rfl is_98 rd_8 rfl (fun v115 ev115 pv115 qv115 => ?_)
                have zv115 := ev115.trans ev67.symm
                refine w_icge (t := 28) gz_81_9 rfl (fun u116 => by exfalso; omega) (fun u116 => ?_)
                refine w_iload_n gz_81_12 rfl ?_
                refine w_iflt (t := 28) gz_81_13 rfl (fun u117 => ?_) (fun u117 => ?_)
                ·
                  refine w_iconst gz_81_28 (by decide) ?_
                  refine w_bret gz_81_29 gm_81 (by omega) (by omega) ?_
                  show wp l rho (d + 5) 87 59 [(2, 94), (2, x1), (0, x2), (0, x3), (0, x4), (0, x5), (0, x6)] [(0, 0)] h5 Q
                  refine w_ifeq (t := 75) gz_87_59 rfl (fun u118 => ?_) (fun u118 => by exfalso; omega)
                  refine w_iconst gz_87_75 (by decide) ?_
                  have ce119 : h5 94 15 = h 94 15 := ((my_fr.at frh5 is_94 rfl).trans (rfl : h 94 15 = h 94 15))
                  have ce120 : h5 94 16 = h 94 16 := ((my_fr.at frh5 is_94 rfl).trans (rfl : h 94 16 = h 94 16))
                  have ce121 : h5 98 0 = v115 := ev115.symm
                  have m99 : ∀ j : Int, h5 99 j = h5 99 j := fun j => rfl
                  have m101 : ∀ j : Int, h5 101 j = h5 101 j := fun j => rfl
                  exact w_bret gz_87_76 gm_87 (by omega) (by omega) (k0 h5 (gh5) (by first | exact Td_h5t16 | exact VwI_cg vn (by omega) (by omega) (by omega) m99 m101 | exact VwS_cg vs (by omega) (by omega) (by omega) m99 | exact so.1 | exact so.2.1 | exact so.2.2.1 | exact so.2.2.2.1 | exact so.2.2.2.2 | (unfold EdOk; exact ⟨⟨by omega, by omega⟩, ⟨by omega, by omega, tq⟩, (fun _ => ⟨by omega, by omega⟩), (fun _ => ⟨by omega, by omega, by omega, by omega⟩)⟩) | (intro z; have z1 := z.1; omega) | (intro z; exact vf z.2.1) | (intro z; have z3 := z.2.2.1 (by omega); omega) | (intro z; have z4 := z.2.2.2 (by omega); omega) | (subst_vars; omega) | assumption | omega))
                ·
                  refine w_iload_n gz_81_16 rfl ?_
                  refine w_aload_n gz_81_17 rfl ?_
                  refine v_getI (j := 1) gz_81_18 rfl is_98 rd_8 rfl (fun v122 ev122 pv122 qv122 => ?_)
                  refine w_icge (t := 28) gz_81_21 rfl (fun u123 => ?_) (fun u123 => ?_)
                  ·
                    refine w_iconst gz_81_28 (by decide) ?_
                    refine w_bret gz_81_29 gm_81 (by omega) (by omega) ?_
                    show wp l rho (d + 5) 87 59 [(2, 94), (2, x1), (0, x2), (0, x3), (0, x4), (0, x5), (0, x6)] [(0, 0)] h5 Q
                    refine w_ifeq (t := 75) gz_87_59 rfl (fun u124 => ?_) (fun u124 => by exfalso; omega)
                    refine w_iconst gz_87_75 (by decide) ?_
                    have ce125 : h5 94 15 = h 94 15 := ((my_fr.at frh5 is_94 rfl).trans (rfl : h 94 15 = h 94 15))
                    have ce126 : h5 94 16 = h 94 16 := ((my_fr.at frh5 is_94 rfl).trans (rfl : h 94 16 = h 94 16))
                    have ce127 : h5 98 0 = v115 := ev115.symm
                    have ce128 : h5 98 1 = v122 := ev122.symm
                    have m99 : ∀ j : Int, h5 99 j = h5 99 j := fun j => rfl
                    have m101 : ∀ j : Int, h5 101 j = h5 101 j := fun j => rfl
                    exact w_bret gz_87_76 gm_87 (by omega) (by omega) (k0 h5 (gh5) (by first | exact Td_h5t16 | exact VwI_cg vn (by omega) (by omega) (by omega) m99 m101 | exact VwS_cg vs (by omega) (by omega) (by omega) m99 | exact so.1 | exact so.2.1 | exact so.2.2.1 | exact so.2.2.2.1 | exact so.2.2.2.2 | (unfold EdOk; exact ⟨⟨by omega, by omega⟩, ⟨by omega, by omega, tq⟩, (fun _ => ⟨by omega, by omega⟩), (fun _ => ⟨by omega, by omega, by omega, by omega⟩)⟩) | (intro z; have z1 := z.1; omega) | (intro z; exact vf z.2.1) | (intro z; have z3 := z.2.2.1 (by omega); omega) | (intro z; have z4 := z.2.2.2 (by omega); omega) | (subst_vars; omega) | assumption | omega))
                  ·
                    refine w_iconst gz_81_24 (by decide) ?_
                    refine w_goto (t := 29) gz_81_25 rfl ?_
                    refine w_bret gz_81_29 gm_81 (by omega) (by omega) ?_
                    show wp l rho (d + 5) 87 59 [(2, 94), (2, x1), (0, x2), (0, x3), (0, x4), (0, x5), (0, x6)] [(0, 1)] h5 Q
                    refine w_ifeq (t := 75) gz_87_59 rfl (fun u129 => by exfalso; omega) (fun u129 => ?_)
                    refine w_iload gz_87_62 rfl ?_
                    refine w_iflt (t := 75) gz_87_64 rfl (fun u130 => ?_) (fun u130 => ?_)
                    ·
                      refine w_iconst gz_87_75 (by decide) ?_
                      have ce131 : h5 94 15 = h 94 15 := ((my_fr.at frh5 is_94 rfl).trans (rfl : h 94 15 = h 94 15))
                      have ce132 : h5 94 16 = h 94 16 := ((my_fr.at frh5 is_94 rfl).trans (rfl : h 94 16 = h 94 16))
                      have ce133 : h5 98 0 = v115 := ev115.symm
                      have ce134 : h5 98 1 = v122 := ev122.symm
                      have m99 : ∀ j : Int, h5 99 j = h5 99 j := fun j => rfl
                      have m101 : ∀ j : Int, h5 101 j = h5 101 j := fun j => rfl
                      exact w_bret gz_87_76 gm_87 (by omega) (by omega) (k0 h5 (gh5) (by first | exact Td_h5t16 | exact VwI_cg vn (by omega) (by omega) (by omega) m99 m101 | exact VwS_cg vs (by omega) (by omega) (by omega) m99 | exact so.1 | exact so.2.1 | exact so.2.2.1 | exact so.2.2.2.1 | exact so.2.2.2.2 | (unfold EdOk; exact ⟨⟨by omega, by omega⟩, ⟨by omega, by omega, tq⟩, (fun _ => ⟨by omega, by omega⟩), (fun _ => ⟨by omega, by omega, by omega, by omega⟩)⟩) | (intro z; have z1 := z.1; omega) | (intro z; exact vf z.2.1) | (intro z; have z3 := z.2.2.1 (by omega); omega) | (intro z; have z4 := z.2.2.2 (by omega); omega) | (subst_vars; omega) | assumption | omega))
                    ·
                      refine w_iload gz_87_67 rfl ?_
                      refine w_sipush gz_87_69 (by decide) ?_
                      refine w_iclt (t := 77) gz_87_72 rfl (fun u135 => ?_) (fun u135 => ?_)
                      ·
                        refine w_aload_n gz_87_77 rfl ?_
                        refine w_iload_n gz_87_78 rfl ?_
                        refine v_putI (j := 15) gz_87_79 rfl is_94 rd_2 rfl (by omega) (by omega) rfl (fun h136 fh136 => ?_)
                        have gh136 : my_fr [(2, 15), (2, 16), (8, 0), (8, 1), (42, -1), (43, -1), (44, -1)] h h136 := my_fr.up gh5 is_94 fh136 rfl
                        have Ln_h136 : Ln h136 := Ln_ag (my_ag.up fh136 is_94 rfl) Ln_h5
                        have Td_h136 : Td h136 x2 := Td_ag (my_ag.up fh136 is_94 rfl) Ln_h5 Td_h5t16
                        refine w_aload_n gz_87_82 rfl ?_
                        refine w_iload gz_87_83 rfl ?_
                        refine v_putA (j := 16) gz_87_85 rfl is_94 rd_2 rfl rfl (fun h137 fh137 => ?_)
                        have gh137 : my_fr [(2, 15), (2, 16), (8, 0), (8, 1), (42, -1), (43, -1), (44, -1)] h h137 := my_fr.up gh136 is_94 fh137 rfl
                        have Ln_h137 : Ln h137 := Ln_ag (my_ag.up fh137 is_94 rfl) Ln_h136
                        have Td_h137 : Td h137 x2 := Td_ag (my_ag.up fh137 is_94 rfl) Ln_h136 Td_h136
                        have ce138 : h137 98 0 = v115 := ((my_up_role fh137 is_98 is_94 rfl).trans ((my_up_role fh136 is_98 is_94 rfl).trans ev115.symm))
                        refine w_aload_n gz_87_88 rfl ?_
                        refine w_getX (v := 102) gz_87_89 is_94 rd_2 rfl (by decide) rfl ?_
                        refine w_aload_n gz_87_92 rfl ?_
                        refine w_getX (v := 98) gz_87_93 is_94 rd_2 rfl (by decide) rfl ?_
                        refine w_inv (k := 0) (as := [(2, 98)]) (r := []) (x := 102) (ls0 := [(2, 102), (2, 98)]) gz_87_96 gm_88 rfl is_102 rd_8 rfl rfl rfl rfl rfl ?_
                        refine w_aload_n gz_88_0 rfl ?_
                        refine w_aload_n gz_88_1 rfl ?_
                        refine v_getI (j := 0) gz_88_2 rfl is_98 rd_8 rfl (fun v141 ev141 pv141 qv141 => ?_)
                        have zv141 := ev141.trans ((my_up_role fh137 is_98 is_94 rfl).trans ((my_up_role fh136 is_98 is_94 rfl).trans ev115.symm))
                        refine v_putI (j := 0) gz_88_5 rfl is_102 rd_8 rfl (by omega) (by omega) rfl (fun h142 fh142 => ?_)
                        have gh142 : my_fr [(2, 15), (2, 16), (8, 0), (8, 1), (42, -1), (43, -1), (44, -1)] h h142 := my_fr.up gh137 is_102 fh142 rfl
                        have Ln_h142 : Ln h142 := Ln_ag (my_ag.up fh142 is_102 rfl) Ln_h137
                        have Td_h142 : Td h142 x2 := Td_ag (my_ag.up fh142 is_102 rfl) Ln_h137 Td_h137
                        refine w_aload_n gz_88_8 rfl ?_
                        refine w_aload_n gz_88_9 rfl ?_
                        refine v_getI (j := 1) gz_88_10 rfl is_98 rd_8 rfl (fun v143 ev143 pv143 qv143 => ?_)
                        have zv143 := ev143.trans ((my_up_fld fh142 (by decide)).trans ((my_up_role fh137 is_98 is_94 rfl).trans ((my_up_role fh136 is_98 is_94 rfl).trans ev122.symm)))
                        refine v_putI (j := 1) gz_88_13 rfl is_102 rd_8 rfl (by omega) (by omega) rfl (fun h144 fh144 => ?_)
                        have gh144 : my_fr [(2, 15), (2, 16), (8, 0), (8, 1), (42, -1), (43, -1), (44, -1)] h h144 := my_fr.up gh142 is_102 fh144 rfl
                        have Ln_h144 : Ln h144 := Ln_ag (my_ag.up fh144 is_102 rfl) Ln_h142
                        have Td_h144 : Td h144 x2 := Td_ag (my_ag.up fh144 is_102 rfl) Ln_h142 Td_h142
                        refine w_aload_n gz_88_16 rfl ?_
                        refine w_getX (v := 99) gz_88_17 is_98 rd_8 rfl (by decide) rfl ?_
                        refine w_iconst gz_88_20 (by decide) ?_
                        refine w_aload_n gz_88_21 rfl ?_
                        refine w_getX (v := 103) gz_88_22 is_102 rd_8 rfl (by decide) rfl ?_
                        refine w_iconst gz_88_25 (by decide) ?_
                        refine w_aload_n gz_88_26 rfl ?_
                        refine w_getX (v := 103) gz_88_27 is_102 rd_8 rfl (by decide) rfl ?_
                        refine v_alen (j := 204) gz_88_30 rfl is_103 rd_42 (by decide) ?_
                        refine w_cpG gz_88_31 is_99 rd_42 is_103 rd_42 (by omega) (by omega) (by omega) (by omega) (by omega) rfl (by omega) (fun h148 fh148 => ?_)
                        have gh148 : my_fr [(2, 15), (2, 16), (8, 0), (8, 1), (42, -1), (43, -1), (44, -1)] h h148 := my_fr.cp gh144 is_103 fh148 rfl
                        have Ln_h148 : Ln h148 := Ln_ag (my_ag.cp fh148 is_103 rfl) Ln_h144
                        have Td_h148 : Td h148 x2 := Td_ag (my_ag.cp fh148 is_103 rfl) Ln_h144 Td_h144
                        have fcp := fh148
                        refine w_vret gz_88_34 gm_88 ?_
                        show wp l rho (d + 5) 87 99 [(2, 94), (2, x1), (0, x2), (0, x3), (0, x4), (0, x5), (0, x6)] [] h148 Q
                        have ce149 : h148 98 0 = v141 := ((my_cp_role fh148 is_98 is_103 rfl).trans ((my_up_fld fh144 (by decide)).trans ((my_up_ne fh142 (by omega)).trans ev141.symm)))
                        have ce150 : h148 102 0 = v141 := ((my_cp_role fh148 is_102 is_103 rfl).trans ((my_up_fld fh144 (by decide)).trans (my_up_self fh142)))
                        have ce151 : h148 98 1 = v143 := ((my_cp_role fh148 is_98 is_103 rfl).trans ((my_up_ne fh144 (by omega)).trans ev143.symm))
                        have ce152 : h148 102 1 = v143 := ((my_cp_role fh148 is_102 is_103 rfl).trans (my_up_self fh144))
                        have o98 : ∀ j : Int, h148 98 j = h5 98 j := fun j => ((my_cp_role fh148 is_98 is_103 rfl).trans ((my_up_ne fh144 (by omega)).trans ((my_up_ne fh142 (by omega)).trans ((my_up_role fh137 is_98 is_94 rfl).trans ((my_up_role fh136 is_98 is_94 rfl).trans (rfl : h5 98 j = h5 98 j))))))
                        have o980 := o98 0
                        have o981 := o98 1
                        have cp : ∀ (m : Int) (r : Nat), m ≤ 16 → (r : Int) < 12 → zqE h148 102 m r = zqE h148 98 m r := fun m r a b => zqE_cp (v := 102) a b fcp (fun j => (my_cp_ne fcp (by omega)).symm) rfl
                        have e93 : h148 93 = h 93 := funext (fun j => my_fr.at gh148 is_93 rfl)
                        refine w_iload_n gz_87_99 rfl ?_
                        refine w_ifne (t := 119) gz_87_100 rfl (fun u153 => by exfalso; omega) (fun u153 => ?_)
                        have hi154 : 0 ≤ x4 := by omega
                        have hi155 : x4 ≤ 9 := by omega
                        have hi156 : 0 ≤ x5 := by omega
                        have hi157 : x5 ≤ 7 := by omega
                        refine w_aload_n gz_87_103 rfl ?_
                        refine w_getX (v := 102) gz_87_104 is_94 rd_2 rfl (by decide) rfl ?_
                        refine w_iload gz_87_107 rfl ?_
                        refine w_iload gz_87_109 rfl ?_
                        refine w_iload gz_87_111 rfl ?_
                        refine w_inv (k := 0) (as := [(0, x6), (0, x5), (0, x4)]) (r := []) (x := 102) (ls0 := [(2, 102), (0, x4), (0, x5), (0, x6)]) gz_87_113 gm_89 rfl is_102 rd_8 rfl rfl rfl rfl rfl ?_
                        refine w_aload_n gz_89_0 rfl ?_
                        refine w_getX (v := 103) gz_89_1 is_102 rd_8 rfl (by decide) rfl ?_
                        refine w_iload_n gz_89_4 rfl ?_
                        refine w_bipush gz_89_5 (by decide) ?_
                        refine w_imul gz_89_7 ⟨by omega, by omega⟩ ?_
                        refine w_iload_n gz_89_8 rfl ?_
                        refine w_iadd gz_89_9 ⟨by omega, by omega⟩ ?_
                        refine w_iload_n gz_89_10 rfl ?_
                        refine w_gstV gz_89_11 is_103 rd_42 (by omega) (by omega) (by omega) (fun h160 fh160 => ?_)
                        have gh160 : my_fr [(2, 15), (2, 16), (8, 0), (8, 1), (42, -1), (43, -1), (44, -1)] h h160 := my_fr.up gh148 is_103 fh160 rfl
                        have Ln_h160 : Ln h160 := Ln_ag (my_ag.up fh160 is_103 rfl) Ln_h148
                        have Td_h160 : Td h160 x2 := Td_ag (my_ag.up fh160 is_103 rfl) Ln_h148 Td_h148
                        have fch := fh160
                        refine w_vret gz_89_12 gm_89 ?_
                        show wp l rho (d + 5) 87 116 [(2, 94), (2, x1), (0, x2), (0, x3), (0, x4), (0, x5), (0, x6)] [] h160 Q
                        have wq : WtQ h160 x3 x4 x5 x6 (h 93) := WtQ_c (by omega) cp (by omega) (by omega) (by omega) (by omega) (by omega) (by omega) (by omega) (by omega) (by omega) fch (by omega)
                        refine w_goto (t := 147) gz_87_116 rfl ?_
                        have ce161 : h160 98 0 = v141 := ((my_up_role fh160 is_98 is_103 rfl).trans ((my_cp_role fh148 is_98 is_103 rfl).trans ((my_up_fld fh144 (by decide)).trans ((my_up_ne fh142 (by omega)).trans ev141.symm))))
                        have ce162 : h160 98 1 = v143 := ((my_up_role fh160 is_98 is_103 rfl).trans ((my_cp_role fh148 is_98 is_103 rfl).trans ((my_up_ne fh144 (by omega)).trans ev143.symm)))
                        have n99 : ∀ j : Int, h160 99 j = h5 99 j := fun j => ((my_up_ne fh160 (by omega)).trans ((my_cp_ne fh148 (by omega)).trans ((my_up_role fh144 is_99 is_102 rfl).trans ((my_up_role fh142 is_99 is_102 rfl).trans ((my_up_role fh137 is_99 is_94 rfl).trans ((my_up_role fh136 is_99 is_94 rfl).trans (rfl : h5 99 j = h5 99 j)))))))
                        have vb2 := vb_mv vb (by omega) (by omega) (by omega) n99
                        have wq2 : WtQ h160 x3 x4 x5 x6 (h 93) := by
                          first
                          | exact wq
                          | (have z := WtQ_a (e := x3) (i := x4) (j := x5) (v := x6) (by omega) cp (by omega) (by omega) (by omega) (by omega) (by omega) (by omega) fa4 (by omega) (by omega) fa5 (by omega); rw [e93] at z; exact z)
                        have wb : ∀ i : Nat, (i : Int) < h160 102 0 → zqBe (zqE h160 102 (h160 102 1) i).2 := WtQ_be wq2 vb2 (fun _ => ⟨by omega, by omega⟩) ⟨by omega, by omega⟩ (fun c a b => by have z := kD c a (by omega); omega)
                        refine w_aload_n gz_87_147 rfl ?_
                        refine w_getX (v := 102) gz_87_148 is_94 rd_2 rfl (by decide) rfl ?_
                        refine w_inv (k := 3) (as := []) (r := []) (x := 102) (ls0 := [(2, 102), (9, 0), (9, 0), (9, 0)]) gz_87_151 gm_79 rfl is_102 rd_8 rfl rfl rfl rfl rfl (c_View_sort5 (d := (d + 2)) (x0 := 102) is_102 (by first | assumption | exact no_such_saying | exact Fp_told (by omega) (by omega) | omega | (subst_vars; omega) | omega) (fun h164 frh164 fxh164 xp165 xp166 xp167 => ?_))
                        have gh164 : my_fr [(2, 15), (2, 16), (8, 0), (8, 1), (42, -1), (43, -1), (44, -1)] h h164 := my_fr.tr gh160 (frh164.mo rfl)
                        have Ln_h164 : Ln h164 := Ln_ag (my_ag.fr frh164 rfl) Ln_h160
                        have Td_h164 : Td h164 x2 := Td_ag (my_ag.fr frh164 rfl) Ln_h160 Td_h160
                        show wp l rho (d + 5) 87 154 [(2, 94), (2, x1), (0, x2), (0, x3), (0, x4), (0, x5), (0, x6)] [] h164 Q
                        have so := WtQ_so wq2 wb xp165 xp166 xp167 (my_fr.at frh164 is_98 rfl) (my_fr.at frh164 is_98 rfl) (by omega) (fun y => fxh164 99 y (Or.inl (by omega)))
                        refine w_iconst gz_87_154 (by decide) ?_
                        have ce168 : h164 94 15 = x3 := ((my_fr.at frh164 is_94 rfl).trans ((my_up_role fh160 is_94 is_103 rfl).trans ((my_cp_role fh148 is_94 is_103 rfl).trans ((my_up_role fh144 is_94 is_102 rfl).trans ((my_up_role fh142 is_94 is_102 rfl).trans ((my_up_fld fh137 (by decide)).trans (my_up_self fh136)))))))
                        have ce169 : h164 94 16 = x4 := ((my_fr.at frh164 is_94 rfl).trans ((my_up_role fh160 is_94 is_103 rfl).trans ((my_cp_role fh148 is_94 is_103 rfl).trans ((my_up_role fh144 is_94 is_102 rfl).trans ((my_up_role fh142 is_94 is_102 rfl).trans (my_up_self fh137))))))
                        have ce170 : h164 98 0 = v141 := ((my_fr.at frh164 is_98 rfl).trans ((my_up_role fh160 is_98 is_103 rfl).trans ((my_cp_role fh148 is_98 is_103 rfl).trans ((my_up_fld fh144 (by decide)).trans ((my_up_ne fh142 (by omega)).trans ev141.symm)))))
                        have ce171 : h164 98 1 = v143 := ((my_fr.at frh164 is_98 rfl).trans ((my_up_role fh160 is_98 is_103 rfl).trans ((my_cp_role fh148 is_98 is_103 rfl).trans ((my_up_ne fh144 (by omega)).trans ev143.symm))))
                        have ce172 : h164 102 0 = v141 := ((my_fr.at frh164 is_102 rfl).trans ((my_up_role fh160 is_102 is_103 rfl).trans ((my_cp_role fh148 is_102 is_103 rfl).trans ((my_up_fld fh144 (by decide)).trans (my_up_self fh142)))))
                        have ce173 : h164 102 1 = v143 := ((my_fr.at frh164 is_102 rfl).trans ((my_up_role fh160 is_102 is_103 rfl).trans ((my_cp_role fh148 is_102 is_103 rfl).trans (my_up_self fh144))))
                        have m99 : ∀ j : Int, h164 99 j = h5 99 j := fun j => ((my_fx.at fxh164 (by omega)).trans ((my_up_ne fh160 (by omega)).trans ((my_cp_ne fh148 (by omega)).trans ((my_up_role fh144 is_99 is_102 rfl).trans ((my_up_role fh142 is_99 is_102 rfl).trans ((my_up_role fh137 is_99 is_94 rfl).trans ((my_up_role fh136 is_99 is_94 rfl).trans (rfl : h5 99 j = h5 99 j))))))))
                        have m101 : ∀ j : Int, h164 101 j = h5 101 j := fun j => ((my_fr.at frh164 is_101 rfl).trans ((my_up_role fh160 is_101 is_103 rfl).trans ((my_cp_role fh148 is_101 is_103 rfl).trans ((my_up_role fh144 is_101 is_102 rfl).trans ((my_up_role fh142 is_101 is_102 rfl).trans ((my_up_role fh137 is_101 is_94 rfl).trans ((my_up_role fh136 is_101 is_94 rfl).trans (rfl : h5 101 j = h5 101 j))))))))
                        have c174 := ((my_fr.at frh164 is_94 rfl).trans ((my_up_role fh160 is_94 is_103 rfl).trans ((my_cp_role fh148 is_94 is_103 rfl).trans ((my_up_role fh144 is_94 is_102 rfl).trans ((my_up_role fh142 is_94 is_102 rfl).trans ((my_up_fld fh137 (by decide)).trans (my_up_self fh136)))))))
                        exact w_bret gz_87_155 gm_87 (by omega) (by omega) (k1 h164 (gh164) (by omega) (by omega) (by omega) (by omega) (by omega) (by omega) (by first | exact Td_h164 | exact VwI_cg vn (by omega) (by omega) (by omega) m99 m101 | exact VwS_cg vs (by omega) (by omega) (by omega) m99 | exact so.1 | exact so.2.1 | exact so.2.2.1 | exact so.2.2.2.1 | exact so.2.2.2.2 | (unfold EdOk; exact ⟨⟨by omega, by omega⟩, ⟨by omega, by omega, tq⟩, (fun _ => ⟨by omega, by omega⟩), (fun _ => ⟨by omega, by omega, by omega, by omega⟩)⟩) | (intro z; have z1 := z.1; omega) | (intro z; exact vf z.2.1) | (intro z; have z3 := z.2.2.1 (by omega); omega) | (intro z; have z4 := z.2.2.2 (by omega); omega) | (subst_vars; omega) | assumption | omega) (by first | exact Td_h164 | exact VwI_cg vn (by omega) (by omega) (by omega) m99 m101 | exact VwS_cg vs (by omega) (by omega) (by omega) m99 | exact so.1 | exact so.2.1 | exact so.2.2.1 | exact so.2.2.2.1 | exact so.2.2.2.2 | (unfold EdOk; exact ⟨⟨by omega, by omega⟩, ⟨by omega, by omega, tq⟩, (fun _ => ⟨by omega, by omega⟩), (fun _ => ⟨by omega, by omega, by omega, by omega⟩)⟩) | (intro z; have z1 := z.1; omega) | (intro z; exact vf z.2.1) | (intro z; have z3 := z.2.2.1 (by omega); omega) | (intro z; have z4 := z.2.2.2 (by omega); omega) | (subst_vars; omega) | assumption | omega) (by first | exact Td_h164 | exact VwI_cg vn (by omega) (by omega) (by omega) m99 m101 | exact VwS_cg vs (by omega) (by omega) (by omega) m99 | exact so.1 | exact so.2.1 | exact so.2.2.1 | exact so.2.2.2.1 | exact so.2.2.2.2 | (unfold EdOk; exact ⟨⟨by omega, by omega⟩, ⟨by omega, by omega, tq⟩, (fun _ => ⟨by omega, by omega⟩), (fun _ => ⟨by omega, by omega, by omega, by omega⟩)⟩) | (intro z; have z1 := z.1; omega) | (intro z; exact vf z.2.1) | (intro z; have z3 := z.2.2.1 (by omega); omega) | (intro z; have z4 := z.2.2.2 (by omega); omega) | (subst_vars; omega) | assumption | omega) (by first | exact Td_h164 | exact VwI_cg vn (by omega) (by omega) (by omega) m99 m101 | exact VwS_cg vs (by omega) (by omega) (by omega) m99 | exact so.1 | exact so.2.1 | exact so.2.2.1 | exact so.2.2.2.1 | exact so.2.2.2.2 | (unfold EdOk; exact ⟨⟨by omega, by omega⟩, ⟨by omega, by omega, tq⟩, (fun _ => ⟨by omega, by omega⟩), (fun _ => ⟨by omega, by omega, by omega, by omega⟩)⟩) | (intro z; have z1 := z.1; omega) | (intro z; exact vf z.2.1) | (intro z; have z3 := z.2.2.1 (by omega); omega) | (intro z; have z4 := z.2.2.2 (by omega); omega) | (subst_vars; omega) | assumption | omega) (by first | exact Td_h164 | exact VwI_cg vn (by omega) (by omega) (by omega) m99 m101 | exact VwS_cg vs (by omega) (by omega) (by omega) m99 | exact so.1 | exact so.2.1 | exact so.2.2.1 | exact so.2.2.2.1 | exact so.2.2.2.2 | (unfold EdOk; exact ⟨⟨by omega, by omega⟩, ⟨by omega, by omega, tq⟩, (fun _ => ⟨by omega, by omega⟩), (fun _ => ⟨by omega, by omega, by omega, by omega⟩)⟩) | (intro z; have z1 := z.1; omega) | (intro z; exact vf z.2.1) | (intro z; have z3 := z.2.2.1 (by omega); omega) | (intro z; have z4 := z.2.2.2 (by omega); omega) | (subst_vars; omega) | assumption | omega) (by first | exact Td_h164 | exact VwI_cg vn (by omega) (by omega) (by omega) m99 m101 | exact VwS_cg vs (by omega) (by omega) (by omega) m99 | exact so.1 | exact so.2.1 | exact so.2.2.1 | exact so.2.2.2.1 | exact so.2.2.2.2 | (unfold EdOk; exact ⟨⟨by omega, by omega⟩, ⟨by omega, by omega, tq⟩, (fun _ => ⟨by omega, by omega⟩), (fun _ => ⟨by omega, by omega, by omega, by omega⟩)⟩) | (intro z; have z1 := z.1; omega) | (intro z; exact vf z.2.1) | (intro z; have z3 := z.2.2.1 (by omega); omega) | (intro z; have z4 := z.2.2.2 (by omega); omega) | (subst_vars; omega) | assumption | omega) (by first | exact Td_h164 | exact VwI_cg vn (by omega) (by omega) (by omega) m99 m101 | exact VwS_cg vs (by omega) (by omega) (by omega) m99 | exact so.1 | exact so.2.1 | exact so.2.2.1 | exact so.2.2.2.1 | exact so.2.2.2.2 | (unfold EdOk; exact ⟨⟨by omega, by omega⟩, ⟨by omega, by omega, tq⟩, (fun _ => ⟨by omega, by omega⟩), (fun _ => ⟨by omega, by omega, by omega, by omega⟩)⟩) | (intro z; have z1 := z.1; omega) | (intro z; exact vf z.2.1) | (intro z; have z3 := z.2.2.1 (by omega); omega) | (intro z; have z4 := z.2.2.2 (by omega); omega) | (subst_vars; omega) | assumption | omega) (by first | exact Td_h164 | exact VwI_cg vn (by omega) (by omega) (by omega) m99 m101 | exact VwS_cg vs (by omega) (by omega) (by omega) m99 | exact so.1 | exact so.2.1 | exact so.2.2.1 | exact so.2.2.2.1 | exact so.2.2.2.2 | (unfold EdOk; exact ⟨⟨by omega, by omega⟩, ⟨by omega, by omega, tq⟩, (fun _ => ⟨by omega, by omega⟩), (fun _ => ⟨by omega, by omega, by omega, by omega⟩)⟩) | (intro z; have z1 := z.1; omega) | (intro z; exact vf z.2.1) | (intro z; have z3 := z.2.2.1 (by omega); omega) | (intro z; have z4 := z.2.2.2 (by omega); omega) | (subst_vars; omega) | assumption | omega) (by first | exact Td_h164 | exact VwI_cg vn (by omega) (by omega) (by omega) m99 m101 | exact VwS_cg vs (by omega) (by omega) (by omega) m99 | exact so.1 | exact so.2.1 | exact so.2.2.1 | exact so.2.2.2.1 | exact so.2.2.2.2 | (unfold EdOk; exact ⟨⟨by omega, by omega⟩, ⟨by omega, by omega, tq⟩, (fun _ => ⟨by omega, by omega⟩), (fun _ => ⟨by omega, by omega, by omega, by omega⟩)⟩) | (intro z; have z1 := z.1; omega) | (intro z; exact vf z.2.1) | (intro z; have z3 := z.2.2.1 (by omega); omega) | (intro z; have z4 := z.2.2.2 (by omega); omega) | (subst_vars; omega) | assumption | omega) (by first | exact Td_h164 | exact VwI_cg vn (by omega) (by omega) (by omega) m99 m101 | exact VwS_cg vs (by omega) (by omega) (by omega) m99 | exact so.1 | exact so.2.1 | exact so.2.2.1 | exact so.2.2.2.1 | exact so.2.2.2.2 | (unfold EdOk; exact ⟨⟨by omega, by omega⟩, ⟨by omega, by omega, tq⟩, (fun _ => ⟨by omega, by omega⟩), (fun _ => ⟨by omega, by omega, by omega, by omega⟩)⟩) | (intro z; have z1 := z.1; omega) | (intro z; exact vf z.2.1) | (intro z; have z3 := z.2.2.1 (by omega); omega) | (intro z; have z4 := z.2.2.2 (by omega); omega) | (subst_vars; omega) | assumption | omega) (by first | exact Td_h164 | exact VwI_cg vn (by omega) (by omega) (by omega) m99 m101 | exact VwS_cg vs (by omega) (by omega) (by omega) m99 | exact so.1 | exact so.2.1 | exact so.2.2.1 | exact so.2.2.2.1 | exact so.2.2.2.2 | (unfold EdOk; exact ⟨⟨by omega, by omega⟩, ⟨by omega, by omega, tq⟩, (fun _ => ⟨by omega, by omega⟩), (fun _ => ⟨by omega, by omega, by omega, by omega⟩)⟩) | (intro z; have z1 := z.1; omega) | (intro z; exact vf z.2.1) | (intro z; have z3 := z.2.2.1 (by omega); omega) | (intro z; have z4 := z.2.2.2 (by omega); omega) | (subst_vars; omega) | assumption | omega) (by first | exact Td_h164 | exact VwI_cg vn (by omega) (by omega) (by omega) m99 m101 | exact VwS_cg vs (by omega) (by omega) (by omega) m99 | exact so.1 | exact so.2.1 | exact so.2.2.1 | exact so.2.2.2.1 | exact so.2.2.2.2 | (unfold EdOk; exact ⟨⟨by omega, by omega⟩, ⟨by omega, by omega, tq⟩, (fun _ => ⟨by omega, by omega⟩), (fun _ => ⟨by omega, by omega, by omega, by omega⟩)⟩) | (intro z; have z1 := z.1; omega) | (intro z; exact vf z.2.1) | (intro z; have z3 := z.2.2.1 (by omega); omega) | (intro z; have z4 := z.2.2.2 (by omega); omega) | (subst_vars; omega) | assumption | omega) (by first | exact Td_h164 | exact VwI_cg vn (by omega) (by omega) (by omega) m99 m101 | exact VwS_cg vs (by omega) (by omega) (by omega) m99 | exact so.1 | exact so.2.1 | exact so.2.2.1 | exact so.2.2.2.1 | exact so.2.2.2.2 | (unfold EdOk; exact ⟨⟨by omega, by omega⟩, ⟨by omega, by omega, tq⟩, (fun _ => ⟨by omega, by omega⟩), (fun _ => ⟨by omega, by omega, by omega, by omega⟩)⟩) | (intro z; have z1 := z.1; omega) | (intro z; exact vf z.2.1) | (intro z; have z3 := z.2.2.1 (by omega); omega) | (intro z; have z4 := z.2.2.2 (by omega); omega) | (subst_vars; omega) | assumption | omega))
                      ·
                        refine w_iconst gz_87_75 (by decide) ?_
                        have ce175 : h5 94 15 = h 94 15 := ((my_fr.at frh5 is_94 rfl).trans (rfl : h 94 15 = h 94 15))
                        have ce176 : h5 94 16 = h 94 16 := ((my_fr.at frh5 is_94 rfl).trans (rfl : h 94 16 = h 94 16))
                        have ce177 : h5 98 0 = v115 := ev115.symm
                        have ce178 : h5 98 1 = v122 := ev122.symm
                        have m99 : ∀ j : Int, h5 99 j = h5 99 j := fun j => rfl
                        have m101 : ∀ j : Int, h5 101 j = h5 101 j := fun j => rfl
                        exact w_bret gz_87_76 gm_87 (by omega) (by omega) (k0 h5 (gh5) (by first | exact Td_h5t16 | exact VwI_cg vn (by omega) (by omega) (by omega) m99 m101 | exact VwS_cg vs (by omega) (by omega) (by omega) m99 | exact so.1 | exact so.2.1 | exact so.2.2.1 | exact so.2.2.2.1 | exact so.2.2.2.2 | (unfold EdOk; exact ⟨⟨by omega, by omega⟩, ⟨by omega, by omega, tq⟩, (fun _ => ⟨by omega, by omega⟩), (fun _ => ⟨by omega, by omega, by omega, by omega⟩)⟩) | (intro z; have z1 := z.1; omega) | (intro z; exact vf z.2.1) | (intro z; have z3 := z.2.2.1 (by omega); omega) | (intro z; have z4 := z.2.2.2 (by omega); omega) | (subst_vars; omega) | assumption | omega))
            ·
              refine w_iconst gz_87_42 (by decide) ?_
              have ce179 : h5 94 15 = h 94 15 := ((my_fr.at frh5 is_94 rfl).trans (rfl : h 94 15 = h 94 15))
              have ce180 : h5 94 16 = h 94 16 := ((my_fr.at frh5 is_94 rfl).trans (rfl : h 94 16 = h 94 16))
              have ce181 : h5 98 0 = v67 := ev67.symm
              have m99 : ∀ j : Int, h5 99 j = h5 99 j := fun j => rfl
              have m101 : ∀ j : Int, h5 101 j = h5 101 j := fun j => rfl
              exact w_bret gz_87_43 gm_87 (by omega) (by omega) (k0 h5 (gh5) (by first | exact Td_h5t16 | exact VwI_cg vn (by omega) (by omega) (by omega) m99 m101 | exact VwS_cg vs (by omega) (by omega) (by omega) m99 | exact so.1 | exact so.2.1 | exact so.2.2.1 | exact so.2.2.2.1 | exact so.2.2.2.2 | (unfold EdOk; exact ⟨⟨by omega, by omega⟩, ⟨by omega, by omega, tq⟩, (fun _ => ⟨by omega, by omega⟩), (fun _ => ⟨by omega, by omega, by omega, by omega⟩)⟩) | (intro z; have z1 := z.1; omega) | (intro z; exact vf z.2.1) | (intro z; have z3 := z.2.2.1 (by omega); omega) | (intro z; have z4 := z.2.2.2 (by omega); omega) | (subst_vars; omega) | assumption | omega))
end MYNDesk_looks5
