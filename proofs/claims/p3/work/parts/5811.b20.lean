/-! contracts, printed by wip/gen/gy.py -/
section MYNModel_twice
theorem c_Model_twice {l : Launch} {rho : Nat → Int32} {d : Nat} {h : my_H} {Q : my_H → my_V → Prop} {x1 x2 x3 x4 x5 : Int} (n_Mw : Mw h) (n_Mw3 : Mw3 h) (n_Rws : Rws h) (k0 : ∀ (h' : my_H), my_fr [(10, 0), (10, 27), (10, 32), (10, 33), (10, 37), (10, 46), (10, 48), (61, -1), (62, -1), (73, -1), (74, -1), (75, -1), (76, -1), (77, -1), (78, -1), (79, -1), (80, -1), (81, -1), (82, -1), (83, -1), (84, -1), (85, -1), (86, -1), (88, -1), (89, -1), (90, -1), (91, -1), (92, -1), (93, -1), (94, -1)] h h' → h' 151 0 = 0 → Rws h' → Q h' (0, (-1))) (k1 : ∀ (h' : my_H), my_fr [(10, 0), (10, 27), (10, 32), (10, 33), (10, 37), (10, 46), (10, 48), (61, -1), (62, -1), (73, -1), (74, -1), (75, -1), (76, -1), (77, -1), (78, -1), (79, -1), (80, -1), (81, -1), (82, -1), (83, -1), (84, -1), (85, -1), (86, -1), (88, -1), (89, -1), (90, -1), (91, -1), (92, -1), (93, -1), (94, -1)] h h' → 0 ≤ x1 → x1 ≤ 5 → h' 151 0 = 0 → Rws h' → Q h' (0, 0)) (k2 : ∀ (h' : my_H), my_fr [(10, 0), (10, 27), (10, 32), (10, 33), (10, 37), (10, 46), (10, 48), (61, -1), (62, -1), (73, -1), (74, -1), (75, -1), (76, -1), (77, -1), (78, -1), (79, -1), (80, -1), (81, -1), (82, -1), (83, -1), (84, -1), (85, -1), (86, -1), (88, -1), (89, -1), (90, -1), (91, -1), (92, -1), (93, -1), (94, -1)] h h' → 0 ≤ x1 → x1 ≤ 5 → h' 151 0 = 0 → Rws h' → Q h' (0, 1)) : wp l rho (d + 8) 229 0 [(2, 151), (0, x1), (0, x2), (0, x3), (0, x4), (0, x5), (9, 0)] [] h Q := by
  have J80_0 : ∀ (h80_0 : my_H), my_fr [(10, 0), (10, 27), (10, 32), (10, 33), (10, 37), (10, 46), (10, 48), (61, -1), (62, -1), (73, -1), (74, -1), (75, -1), (76, -1), (77, -1), (78, -1), (79, -1), (80, -1), (81, -1), (82, -1), (83, -1), (84, -1), (85, -1), (86, -1), (88, -1), (89, -1), (90, -1), (91, -1), (92, -1), (93, -1), (94, -1)] h h80_0 → 0 ≤ x1 → x1 ≤ 5 → h80_0 151 0 = 0 → Mw h80_0 → Mw3 h80_0 → Rws h80_0 → wp l rho (d + 8) 229 80 [(2, 151), (0, x1), (0, x2), (0, x3), (0, x4), (0, x5), (9, 0)] [] h80_0 Q := by
    intro h80_0 gh_80_0 q0_80_0 q1_80_0 c151_0_80_0 n_Mw_80_0 n_Mw3_80_0 n_Rws_80_0
    refine w_iconst gz_229_80 (by decide) ?_
    refine w_istore (ls' := [(2, 151), (0, x1), (0, x2), (0, x3), (0, x4), (0, x5), (0, 0)]) gz_229_81 gm_229 rfl rfl rfl ?_
    refine w_iload gz_229_83 rfl ?_
    refine w_ifeq (t := 117) gz_229_85 rfl (fun u1 => ?_) (fun u1 => by exfalso; omega)
    refine w_iconst gz_229_117 (by decide) ?_
    have c2 := c151_0_80_0
    exact w_iret gz_229_118 gm_229 (k1 h80_0 (gh_80_0) (by omega) (by omega) (by omega) n_Rws_80_0)
  refine w_aload_n gz_229_0 rfl ?_
  refine w_iconst gz_229_1 (by decide) ?_
  refine v_putI (j := 0) gz_229_2 rfl is_151 rd_10 rfl (by omega) (by omega) rfl (fun h3 fh3 => ?_)
  have gh3 : my_fr [(10, 0), (10, 27), (10, 32), (10, 33), (10, 37), (10, 46), (10, 48), (61, -1), (62, -1), (73, -1), (74, -1), (75, -1), (76, -1), (77, -1), (78, -1), (79, -1), (80, -1), (81, -1), (82, -1), (83, -1), (84, -1), (85, -1), (86, -1), (88, -1), (89, -1), (90, -1), (91, -1), (92, -1), (93, -1), (94, -1)] h h3 := my_fr.up my_fr.rf is_151 fh3 rfl
  have Mw_h3 : Mw h3 := Mw_ag (my_ag.up fh3 is_151 rfl) n_Mw
  have Mw3_h3 : Mw3 h3 := Mw3_ag (my_ag.up fh3 is_151 rfl) n_Mw3
  have Rws_h3 : Rws h3 := Rws_ag (my_ag.up fh3 is_151 rfl) n_Rws
  refine w_aload_n gz_229_5 rfl ?_
  refine w_iconst gz_229_6 (by decide) ?_
  refine w_iload_n gz_229_7 rfl ?_
  refine w_iconst gz_229_8 (by decide) ?_
  refine w_iload_n gz_229_9 rfl ?_
  refine w_iload_n gz_229_10 rfl ?_
  refine w_iload gz_229_11 rfl ?_
  refine w_inv (k := 1) (as := [(0, x4), (0, x3), (0, x2), (0, 0), (0, x1), (0, 0)]) (r := []) (x := 151) (ls0 := [(2, 151), (0, 0), (0, x1), (0, 0), (0, x2), (0, x3), (0, x4), (9, 0)]) gz_229_13 gm_208 rfl is_151 rd_10 rfl rfl rfl rfl rfl (c_Model_isEdit (d := (d + 3)) (x1 := 0) (x2 := x1) (x3 := 0) (x4 := x2) (x5 := x3) (x6 := x4) (by omega) (by omega) Mw_h3 Mw3_h3 Rws_h3 (fun h4 frh4 => ?_) (fun h5 frh5 w6 w7 w8 w9 xp10 xp11 xp12 xp13 xp14 xp15 xp16 xp17 => ?_))
  ·
    have gh4 : my_fr [(10, 0), (10, 27), (10, 32), (10, 33), (10, 37), (10, 46), (10, 48), (61, -1), (62, -1), (73, -1), (74, -1), (75, -1), (76, -1), (77, -1), (78, -1), (79, -1), (80, -1), (81, -1), (82, -1), (83, -1), (84, -1), (85, -1), (86, -1), (88, -1), (89, -1), (90, -1), (91, -1), (92, -1), (93, -1), (94, -1)] h h4 := my_fr.tr gh3 (frh4.mo rfl)
    have Mw_h4 : Mw h4 := Mw_ag (my_ag.fr frh4 rfl) Mw_h3
    have Mw3_h4 : Mw3 h4 := Mw3_ag (my_ag.fr frh4 rfl) Mw3_h3
    have Rws_h4 : Rws h4 := Rws_ag (my_ag.fr frh4 rfl) Rws_h3
    show wp l rho (d + 8) 229 16 [(2, 151), (0, x1), (0, x2), (0, x3), (0, x4), (0, x5), (9, 0)] [(0, 0)] h4 Q
    refine w_ifeq (t := 33) gz_229_16 rfl (fun u18 => ?_) (fun u18 => by exfalso; omega)
    refine w_iconst gz_229_33 (by decide) ?_
    have c19 := ((my_fr.at frh4 is_151 rfl).trans (my_up_self fh3))
    exact w_iret gz_229_34 gm_229 (k0 h4 (gh4) (by omega) Rws_h4)
  ·
    have gh5 : my_fr [(10, 0), (10, 27), (10, 32), (10, 33), (10, 37), (10, 46), (10, 48), (61, -1), (62, -1), (73, -1), (74, -1), (75, -1), (76, -1), (77, -1), (78, -1), (79, -1), (80, -1), (81, -1), (82, -1), (83, -1), (84, -1), (85, -1), (86, -1), (88, -1), (89, -1), (90, -1), (91, -1), (92, -1), (93, -1), (94, -1)] h h5 := my_fr.tr gh3 (frh5.mo rfl)
    have Mw_h5 : Mw h5 := Mw_ag (my_ag.fr frh5 rfl) Mw_h3
    have Mw3_h5 : Mw3 h5 := Mw3_ag (my_ag.fr frh5 rfl) Mw3_h3
    have Rws_h5 : Rws h5 := Rws_ag (my_ag.fr frh5 rfl) Rws_h3
    show wp l rho (d + 8) 229 16 [(2, 151), (0, x1), (0, x2), (0, x3), (0, x4), (0, x5), (9, 0)] [(0, 1)] h5 Q
    refine w_ifeq (t := 33) gz_229_16 rfl (fun u20 => by exfalso; omega) (fun u20 => ?_)
    refine w_aload_n gz_229_19 rfl ?_
    refine w_iconst gz_229_20 (by decide) ?_
    refine w_iload_n gz_229_21 rfl ?_
    refine w_iconst gz_229_22 (by decide) ?_
    refine w_iload_n gz_229_23 rfl ?_
    refine w_iload_n gz_229_24 rfl ?_
    refine w_iload gz_229_25 rfl ?_
    refine w_inv (k := 1) (as := [(0, x5), (0, x3), (0, x2), (0, 0), (0, x1), (0, 0)]) (r := []) (x := 151) (ls0 := [(2, 151), (0, 0), (0, x1), (0, 0), (0, x2), (0, x3), (0, x5), (9, 0)]) gz_229_27 gm_208 rfl is_151 rd_10 rfl rfl rfl rfl rfl (c_Model_isEdit (d := (d + 3)) (x1 := 0) (x2 := x1) (x3 := 0) (x4 := x2) (x5 := x3) (x6 := x5) (by omega) (by omega) Mw_h5 Mw3_h5 Rws_h5 (fun h21 frh21 => ?_) (fun h22 frh22 w23 w24 w25 w26 xp27 xp28 xp29 xp30 xp31 xp32 xp33 xp34 => ?_))
    ·
      have gh21 : my_fr [(10, 0), (10, 27), (10, 32), (10, 33), (10, 37), (10, 46), (10, 48), (61, -1), (62, -1), (73, -1), (74, -1), (75, -1), (76, -1), (77, -1), (78, -1), (79, -1), (80, -1), (81, -1), (82, -1), (83, -1), (84, -1), (85, -1), (86, -1), (88, -1), (89, -1), (90, -1), (91, -1), (92, -1), (93, -1), (94, -1)] h h21 := my_fr.tr gh5 (frh21.mo rfl)
      have Mw_h21 : Mw h21 := Mw_ag (my_ag.fr frh21 rfl) Mw_h5
      have Mw3_h21 : Mw3 h21 := Mw3_ag (my_ag.fr frh21 rfl) Mw3_h5
      have Rws_h21 : Rws h21 := Rws_ag (my_ag.fr frh21 rfl) Rws_h5
      show wp l rho (d + 8) 229 30 [(2, 151), (0, x1), (0, x2), (0, x3), (0, x4), (0, x5), (9, 0)] [(0, 0)] h21 Q
      refine w_ifne (t := 35) gz_229_30 rfl (fun u35 => by exfalso; omega) (fun u35 => ?_)
      refine w_iconst gz_229_33 (by decide) ?_
      have c36 := ((my_fr.at frh21 is_151 rfl).trans ((my_fr.at frh5 is_151 rfl).trans (my_up_self fh3)))
      exact w_iret gz_229_34 gm_229 (k0 h21 (gh21) (by omega) Rws_h21)
    ·
      have gh22 : my_fr [(10, 0), (10, 27), (10, 32), (10, 33), (10, 37), (10, 46), (10, 48), (61, -1), (62, -1), (73, -1), (74, -1), (75, -1), (76, -1), (77, -1), (78, -1), (79, -1), (80, -1), (81, -1), (82, -1), (83, -1), (84, -1), (85, -1), (86, -1), (88, -1), (89, -1), (90, -1), (91, -1), (92, -1), (93, -1), (94, -1)] h h22 := my_fr.tr gh5 (frh22.mo rfl)
      have Mw_h22 : Mw h22 := Mw_ag (my_ag.fr frh22 rfl) Mw_h5
      have Mw3_h22 : Mw3 h22 := Mw3_ag (my_ag.fr frh22 rfl) Mw3_h5
      have Rws_h22 : Rws h22 := Rws_ag (my_ag.fr frh22 rfl) Rws_h5
      show wp l rho (d + 8) 229 30 [(2, 151), (0, x1), (0, x2), (0, x3), (0, x4), (0, x5), (9, 0)] [(0, 1)] h22 Q
      refine w_ifne (t := 35) gz_229_30 rfl (fun u37 => ?_) (fun u37 => by exfalso; omega)
      refine w_aload_n gz_229_35 rfl ?_
      refine w_iconst gz_229_36 (by decide) ?_
      refine w_iconst gz_229_37 (by decide) ?_
      refine w_inv (k := 1) (as := [(0, 5), (0, 0)]) (r := []) (x := 151) (ls0 := [(2, 151), (0, 0), (0, 5), (9, 0)]) gz_229_38 gm_152 rfl is_151 rd_10 rfl rfl rfl rfl rfl (c_Model_copies2 (d := (d + 7)) (x1 := 0) (x2 := 5) (by omega) (by omega) (by omega) (by omega) Rws_h22 (fun h38 frh38 xp39 Rws_h38t40 => ?_))
      have gh38 : my_fr [(10, 0), (10, 27), (10, 32), (10, 33), (10, 37), (10, 46), (10, 48), (61, -1), (62, -1), (73, -1), (74, -1), (75, -1), (76, -1), (77, -1), (78, -1), (79, -1), (80, -1), (81, -1), (82, -1), (83, -1), (84, -1), (85, -1), (86, -1), (88, -1), (89, -1), (90, -1), (91, -1), (92, -1), (93, -1), (94, -1)] h h38 := my_fr.tr gh22 (frh38.mo rfl)
      have Mw_h38 : Mw h38 := Mw_ag (my_ag.fr frh38 rfl) Mw_h22
      have Mw3_h38 : Mw3 h38 := Mw3_ag (my_ag.fr frh38 rfl) Mw3_h22
      show wp l rho (d + 8) 229 41 [(2, 151), (0, x1), (0, x2), (0, x3), (0, x4), (0, x5), (9, 0)] [] h38 Q
      refine w_aload_n gz_229_41 rfl ?_
      refine w_iconst gz_229_42 (by decide) ?_
      refine w_bipush gz_229_43 (by decide) ?_
      refine w_inv (k := 1) (as := [(0, 6), (0, 0)]) (r := []) (x := 151) (ls0 := [(2, 151), (0, 0), (0, 6), (9, 0)]) gz_229_45 gm_152 rfl is_151 rd_10 rfl rfl rfl rfl rfl (c_Model_copies2 (d := (d + 7)) (x1 := 0) (x2 := 6) (by omega) (by omega) (by omega) (by omega) Rws_h38t40 (fun h41 frh41 xp42 Rws_h41t43 => ?_))
      have gh41 : my_fr [(10, 0), (10, 27), (10, 32), (10, 33), (10, 37), (10, 46), (10, 48), (61, -1), (62, -1), (73, -1), (74, -1), (75, -1), (76, -1), (77, -1), (78, -1), (79, -1), (80, -1), (81, -1), (82, -1), (83, -1), (84, -1), (85, -1), (86, -1), (88, -1), (89, -1), (90, -1), (91, -1), (92, -1), (93, -1), (94, -1)] h h41 := my_fr.tr gh38 (frh41.mo rfl)
      have Mw_h41 : Mw h41 := Mw_ag (my_ag.fr frh41 rfl) Mw_h38
      have Mw3_h41 : Mw3 h41 := Mw3_ag (my_ag.fr frh41 rfl) Mw3_h38
      show wp l rho (d + 8) 229 48 [(2, 151), (0, x1), (0, x2), (0, x3), (0, x4), (0, x5), (9, 0)] [] h41 Q
      refine w_aload_n gz_229_48 rfl ?_
      refine w_iconst gz_229_49 (by decide) ?_
      refine w_iload_n gz_229_50 rfl ?_
      refine w_iconst gz_229_51 (by decide) ?_
      refine w_iload_n gz_229_52 rfl ?_
      refine w_iload_n gz_229_53 rfl ?_
      refine w_iload gz_229_54 rfl ?_
      refine w_inv (k := 2) (as := [(0, x4), (0, x3), (0, x2), (0, 0), (0, x1), (0, 5)]) (r := []) (x := 151) (ls0 := [(2, 151), (0, 5), (0, x1), (0, 0), (0, x2), (0, x3), (0, x4), (9, 0), (9, 0)]) gz_229_56 gm_223 rfl is_151 rd_10 rfl rfl rfl rfl rfl (c_Model_puts (d := d) (x1 := 5) (x2 := x1) (x3 := 0) (x4 := x2) (x5 := x3) (x6 := x4) (by omega) (by omega) Mw_h41 Mw3_h41 Rws_h41t43 (by first | assumption | exact no_such_saying | exact Fp_told (by omega) (by omega) | omega | (subst_vars; omega) | omega) (fun h44 frh44 Rws_h44t45 => ?_) (fun h46 v47 frh46 w48 w49 w50 w51 w52 w53 Rws_h46t54 => ?_))
      ·
        have gh44 : my_fr [(10, 0), (10, 27), (10, 32), (10, 33), (10, 37), (10, 46), (10, 48), (61, -1), (62, -1), (73, -1), (74, -1), (75, -1), (76, -1), (77, -1), (78, -1), (79, -1), (80, -1), (81, -1), (82, -1), (83, -1), (84, -1), (85, -1), (86, -1), (88, -1), (89, -1), (90, -1), (91, -1), (92, -1), (93, -1), (94, -1)] h h44 := my_fr.tr gh41 (frh44.mo rfl)
        have Mw_h44 : Mw h44 := Mw_ag (my_ag.fr frh44 rfl) Mw_h41
        have Mw3_h44 : Mw3 h44 := Mw3_ag (my_ag.fr frh44 rfl) Mw3_h41
        show wp l rho (d + 8) 229 59 [(2, 151), (0, x1), (0, x2), (0, x3), (0, x4), (0, x5), (9, 0)] [(0, (-1))] h44 Q
        refine w_iflt (t := 80) gz_229_59 rfl (fun u55 => ?_) (fun u55 => by exfalso; omega)
        exact J80_0 h44 (gh44) (by omega) (by omega) (((my_fr.at frh44 is_151 rfl).trans ((my_fr.at frh41 is_151 rfl).trans ((my_fr.at frh38 is_151 rfl).trans ((my_fr.at frh22 is_151 rfl).trans ((my_fr.at frh5 is_151 rfl).trans (my_up_self fh3)))))).trans (by omega)) Mw_h44 Mw3_h44 Rws_h44t45
      ·
        have gh46 : my_fr [(10, 0), (10, 27), (10, 32), (10, 33), (10, 37), (10, 46), (10, 48), (61, -1), (62, -1), (73, -1), (74, -1), (75, -1), (76, -1), (77, -1), (78, -1), (79, -1), (80, -1), (81, -1), (82, -1), (83, -1), (84, -1), (85, -1), (86, -1), (88, -1), (89, -1), (90, -1), (91, -1), (92, -1), (93, -1), (94, -1)] h h46 := my_fr.tr gh41 (frh46.mo rfl)
        have Mw_h46 : Mw h46 := Mw_ag (my_ag.fr frh46 rfl) Mw_h41
        have Mw3_h46 : Mw3 h46 := Mw3_ag (my_ag.fr frh46 rfl) Mw3_h41
        show wp l rho (d + 8) 229 59 [(2, 151), (0, x1), (0, x2), (0, x3), (0, x4), (0, x5), (9, 0)] [(0, v47)] h46 Q
        refine w_iflt (t := 80) gz_229_59 rfl (fun u56 => by exfalso; omega) (fun u56 => ?_)
        refine w_aload_n gz_229_62 rfl ?_
        refine w_iconst gz_229_63 (by decide) ?_
        refine w_iload_n gz_229_64 rfl ?_
        refine w_iconst gz_229_65 (by decide) ?_
        refine w_iload_n gz_229_66 rfl ?_
        refine w_iload_n gz_229_67 rfl ?_
        refine w_iload gz_229_68 rfl ?_
        refine w_inv (k := 2) (as := [(0, x5), (0, x3), (0, x2), (0, 0), (0, x1), (0, 5)]) (r := []) (x := 151) (ls0 := [(2, 151), (0, 5), (0, x1), (0, 0), (0, x2), (0, x3), (0, x5), (9, 0), (9, 0)]) gz_229_70 gm_223 rfl is_151 rd_10 rfl rfl rfl rfl rfl (c_Model_puts (d := d) (x1 := 5) (x2 := x1) (x3 := 0) (x4 := x2) (x5 := x3) (x6 := x5) (by omega) (by omega) Mw_h46 Mw3_h46 Rws_h46t54 (by first | assumption | exact no_such_saying | exact Fp_told (by omega) (by omega) | omega | (subst_vars; omega) | omega) (fun h57 frh57 Rws_h57t58 => ?_) (fun h59 v60 frh59 w61 w62 w63 w64 w65 w66 Rws_h59t67 => ?_))
        ·
          have gh57 : my_fr [(10, 0), (10, 27), (10, 32), (10, 33), (10, 37), (10, 46), (10, 48), (61, -1), (62, -1), (73, -1), (74, -1), (75, -1), (76, -1), (77, -1), (78, -1), (79, -1), (80, -1), (81, -1), (82, -1), (83, -1), (84, -1), (85, -1), (86, -1), (88, -1), (89, -1), (90, -1), (91, -1), (92, -1), (93, -1), (94, -1)] h h57 := my_fr.tr gh46 (frh57.mo rfl)
          have Mw_h57 : Mw h57 := Mw_ag (my_ag.fr frh57 rfl) Mw_h46
          have Mw3_h57 : Mw3 h57 := Mw3_ag (my_ag.fr frh57 rfl) Mw3_h46
          show wp l rho (d + 8) 229 73 [(2, 151), (0, x1), (0, x2), (0, x3), (0, x4), (0, x5), (9, 0)] [(0, (-1))] h57 Q
          refine w_iflt (t := 80) gz_229_73 rfl (fun u68 => ?_) (fun u68 => by exfalso; omega)
          exact J80_0 h57 (gh57) (by omega) (by omega) (((my_fr.at frh57 is_151 rfl).trans ((my_fr.at frh46 is_151 rfl).trans ((my_fr.at frh41 is_151 rfl).trans ((my_fr.at frh38 is_151 rfl).trans ((my_fr.at frh22 is_151 rfl).trans ((my_fr.at frh5 is_151 rfl).trans (my_up_self fh3))))))).trans (by omega)) Mw_h57 Mw3_h57 Rws_h57t58
        ·
          have gh59 : my_fr [(10, 0), (10, 27), (10, 32), (10, 33), (10, 37), (10, 46), (10, 48), (61, -1), (62, -1), (73, -1), (74, -1), (75, -1), (76, -1), (77, -1), (78, -1), (79, -1), (80, -1), (81, -1), (82, -1), (83, -1), (84, -1), (85, -1), (86, -1), (88, -1), (89, -1), (90, -1), (91, -1), (92, -1), (93, -1), (94, -1)] h h59 := my_fr.tr gh46 (frh59.mo rfl)
          have Mw_h59 : Mw h59 := Mw_ag (my_ag.fr frh59 rfl) Mw_h46
          have Mw3_h59 : Mw3 h59 := Mw3_ag (my_ag.fr frh59 rfl) Mw3_h46
          show wp l rho (d + 8) 229 73 [(2, 151), (0, x1), (0, x2), (0, x3), (0, x4), (0, x5), (9, 0)] [(0, v60)] h59 Q
          refine w_iflt (t := 80) gz_229_73 rfl (fun u69 => by exfalso; omega) (fun u69 => ?_)
          refine w_iconst gz_229_76 (by decide) ?_
          refine w_goto (t := 81) gz_229_77 rfl ?_
          refine w_istore (ls' := [(2, 151), (0, x1), (0, x2), (0, x3), (0, x4), (0, x5), (0, 1)]) gz_229_81 gm_229 rfl rfl rfl ?_
          refine w_iload gz_229_83 rfl ?_
          refine w_ifeq (t := 117) gz_229_85 rfl (fun u70 => by exfalso; omega) (fun u70 => ?_)
          refine w_aload_n gz_229_88 rfl ?_
          refine w_bipush gz_229_89 (by decide) ?_
          refine w_iload_n gz_229_91 rfl ?_
          refine w_iconst gz_229_92 (by decide) ?_
          refine w_iload_n gz_229_93 rfl ?_
          refine w_iload_n gz_229_94 rfl ?_
          refine w_iload gz_229_95 rfl ?_
          refine w_inv (k := 2) (as := [(0, x5), (0, x3), (0, x2), (0, 0), (0, x1), (0, 6)]) (r := []) (x := 151) (ls0 := [(2, 151), (0, 6), (0, x1), (0, 0), (0, x2), (0, x3), (0, x5), (9, 0), (9, 0)]) gz_229_97 gm_223 rfl is_151 rd_10 rfl rfl rfl rfl rfl (c_Model_puts (d := d) (x1 := 6) (x2 := x1) (x3 := 0) (x4 := x2) (x5 := x3) (x6 := x5) (by omega) (by omega) Mw_h59 Mw3_h59 Rws_h59t67 (by first | assumption | exact no_such_saying | exact Fp_told (by omega) (by omega) | omega | (subst_vars; omega) | omega) (fun h71 frh71 Rws_h71t72 => ?_) (fun h73 v74 frh73 w75 w76 w77 w78 w79 w80 Rws_h73t81 => ?_))
          ·
            have gh71 : my_fr [(10, 0), (10, 27), (10, 32), (10, 33), (10, 37), (10, 46), (10, 48), (61, -1), (62, -1), (73, -1), (74, -1), (75, -1), (76, -1), (77, -1), (78, -1), (79, -1), (80, -1), (81, -1), (82, -1), (83, -1), (84, -1), (85, -1), (86, -1), (88, -1), (89, -1), (90, -1), (91, -1), (92, -1), (93, -1), (94, -1)] h h71 := my_fr.tr gh59 (frh71.mo rfl)
            have Mw_h71 : Mw h71 := Mw_ag (my_ag.fr frh71 rfl) Mw_h59
            have Mw3_h71 : Mw3 h71 := Mw3_ag (my_ag.fr frh71 rfl) Mw3_h59
            show wp l rho (d + 8) 229 100 [(2, 151), (0, x1), (0, x2), (0, x3), (0, x4), (0, x5), (0, 1)] [(0, (-1))] h71 Q
            refine w_iflt (t := 117) gz_229_100 rfl (fun u82 => ?_) (fun u82 => by exfalso; omega)
            refine w_iconst gz_229_117 (by decide) ?_
            have c83 := ((my_fr.at frh71 is_151 rfl).trans ((my_fr.at frh59 is_151 rfl).trans ((my_fr.at frh46 is_151 rfl).trans ((my_fr.at frh41 is_151 rfl).trans ((my_fr.at frh38 is_151 rfl).trans ((my_fr.at frh22 is_151 rfl).trans ((my_fr.at frh5 is_151 rfl).trans (my_up_self fh3))))))))
            exact w_iret gz_229_118 gm_229 (k1 h71 (gh71) (by omega) (by omega) (by omega) Rws_h71t72)
          ·
            have gh73 : my_fr [(10, 0), (10, 27), (10, 32), (10, 33), (10, 37), (10, 46), (10, 48), (61, -1), (62, -1), (73, -1), (74, -1), (75, -1), (76, -1), (77, -1), (78, -1), (79, -1), (80, -1), (81, -1), (82, -1), (83, -1), (84, -1), (85, -1), (86, -1), (88, -1), (89, -1), (90, -1), (91, -1), (92, -1), (93, -1), (94, -1)] h h73 := my_fr.tr gh59 (frh73.mo rfl)
            have Mw_h73 : Mw h73 := Mw_ag (my_ag.fr frh73 rfl) Mw_h59
            have Mw3_h73 : Mw3 h73 := Mw3_ag (my_ag.fr frh73 rfl) Mw3_h59
            show wp l rho (d + 8) 229 100 [(2, 151), (0, x1), (0, x2), (0, x3), (0, x4), (0, x5), (0, 1)] [(0, v74)] h73 Q
            refine w_iflt (t := 117) gz_229_100 rfl (fun u84 => by exfalso; omega) (fun u84 => ?_)
            refine w_aload_n gz_229_103 rfl ?_
            refine w_iconst gz_229_104 (by decide) ?_
            refine w_bipush gz_229_105 (by decide) ?_
            refine w_inv (k := 3) (as := [(0, 6), (0, 5)]) (r := []) (x := 151) (ls0 := [(2, 151), (0, 5), (0, 6), (9, 0), (9, 0), (9, 0)]) gz_229_107 gm_230 rfl is_151 rd_10 rfl rfl rfl rfl rfl (c_Model_areAlike (d := (d + 7)) (x1 := 5) (x2 := 6) (by omega) (by omega) (by omega) (by omega) (fun v85 w86 w87 => ?_))
            show wp l rho (d + 8) 229 110 [(2, 151), (0, x1), (0, x2), (0, x3), (0, x4), (0, x5), (0, 1)] [(0, v85)] h73 Q
            refine w_ifeq (t := 117) gz_229_110 rfl (fun u88 => ?_) (fun u88 => ?_)
            ·
              refine w_iconst gz_229_117 (by decide) ?_
              have c89 := ((my_fr.at frh73 is_151 rfl).trans ((my_fr.at frh59 is_151 rfl).trans ((my_fr.at frh46 is_151 rfl).trans ((my_fr.at frh41 is_151 rfl).trans ((my_fr.at frh38 is_151 rfl).trans ((my_fr.at frh22 is_151 rfl).trans ((my_fr.at frh5 is_151 rfl).trans (my_up_self fh3))))))))
              exact w_iret gz_229_118 gm_229 (k1 h73 (gh73) (by omega) (by omega) (by omega) Rws_h73t81)
            ·
              refine w_iconst gz_229_113 (by decide) ?_
              refine w_goto (t := 118) gz_229_114 rfl ?_
              have c90 := ((my_fr.at frh73 is_151 rfl).trans ((my_fr.at frh59 is_151 rfl).trans ((my_fr.at frh46 is_151 rfl).trans ((my_fr.at frh41 is_151 rfl).trans ((my_fr.at frh38 is_151 rfl).trans ((my_fr.at frh22 is_151 rfl).trans ((my_fr.at frh5 is_151 rfl).trans (my_up_self fh3))))))))
              exact w_iret gz_229_118 gm_229 (k2 h73 (gh73) (by omega) (by omega) (by omega) Rws_h73t81)
theorem c_Model_back {l : Launch} {rho : Nat → Int32} {d : Nat} {h : my_H} {Q : my_H → my_V → Prop} {x1 x2 x3 x4 : Int} (n_Mw : Mw h) (n_Mw3 : Mw3 h) (n_Rws : Rws h) (k0 : ∀ (h' : my_H), my_fr [(10, 0), (10, 27), (10, 32), (10, 33), (10, 37), (10, 46), (10, 48), (61, -1), (62, -1), (73, -1), (74, -1), (75, -1), (76, -1), (77, -1), (78, -1), (79, -1), (80, -1), (81, -1), (82, -1), (83, -1), (84, -1), (85, -1), (86, -1), (88, -1), (89, -1), (90, -1), (91, -1), (92, -1), (93, -1), (94, -1)] h h' → h' 151 0 = 0 → Rws h' → Q h' (0, (-1))) (k1 : ∀ (h' : my_H), my_fr [(10, 0), (10, 27), (10, 32), (10, 33), (10, 37), (10, 46), (10, 48), (61, -1), (62, -1), (73, -1), (74, -1), (75, -1), (76, -1), (77, -1), (78, -1), (79, -1), (80, -1), (81, -1), (82, -1), (83, -1), (84, -1), (85, -1), (86, -1), (88, -1), (89, -1), (90, -1), (91, -1), (92, -1), (93, -1), (94, -1)] h h' → 0 ≤ x1 → x1 ≤ 5 → 0 ≤ x2 → x2 ≤ 9 → 0 ≤ x3 → x3 ≤ 7 → h' 151 0 = 0 → Rws h' → Q h' (0, 0)) (k2 : ∀ (h' : my_H), my_fr [(10, 0), (10, 27), (10, 32), (10, 33), (10, 37), (10, 46), (10, 48), (61, -1), (62, -1), (73, -1), (74, -1), (75, -1), (76, -1), (77, -1), (78, -1), (79, -1), (80, -1), (81, -1), (82, -1), (83, -1), (84, -1), (85, -1), (86, -1), (88, -1), (89, -1), (90, -1), (91, -1), (92, -1), (93, -1), (94, -1)] h h' → 0 ≤ x1 → x1 ≤ 5 → 0 ≤ x2 → x2 ≤ 9 → 0 ≤ x3 → x3 ≤ 7 → h' 151 0 = 0 → Rws h' → Q h' (0, 1)) : wp l rho (d + 8) 231 0 [(2, 151), (0, x1), (0, x2), (0, x3), (0, x4), (9, 0), (9, 0)] [] h Q := by
  have J72_0 : ∀ (p72_0 : Int) (h72_0 : my_H), my_fr [(10, 0), (10, 27), (10, 32), (10, 33), (10, 37), (10, 46), (10, 48), (61, -1), (62, -1), (73, -1), (74, -1), (75, -1), (76, -1), (77, -1), (78, -1), (79, -1), (80, -1), (81, -1), (82, -1), (83, -1), (84, -1), (85, -1), (86, -1), (88, -1), (89, -1), (90, -1), (91, -1), (92, -1), (93, -1), (94, -1)] h h72_0 → 0 ≤ x1 → x1 ≤ 5 → 0 ≤ x2 → x2 ≤ 9 → 0 ≤ x3 → x3 ≤ 7 → 0 ≤ p72_0 → h72_0 151 0 = 0 → Mw h72_0 → Mw3 h72_0 → Rws h72_0 → wp l rho (d + 8) 231 72 [(2, 151), (0, x1), (0, x2), (0, x3), (0, x4), (0, p72_0), (9, 0)] [] h72_0 Q := by
    intro p72_0 h72_0 gh_72_0 q0_72_0 q1_72_0 q2_72_0 q3_72_0 q4_72_0 q5_72_0 q6_72_0 c151_0_72_0 n_Mw_72_0 n_Mw3_72_0 n_Rws_72_0
    refine w_iconst gz_231_72 (by decide) ?_
    refine w_istore (ls' := [(2, 151), (0, x1), (0, x2), (0, x3), (0, x4), (0, p72_0), (0, 0)]) gz_231_73 gm_231 rfl rfl rfl ?_
    refine w_iload gz_231_75 rfl ?_
    refine w_ifeq (t := 93) gz_231_77 rfl (fun u1 => ?_) (fun u1 => by exfalso; omega)
    refine w_iconst gz_231_93 (by decide) ?_
    have c2 := c151_0_72_0
    exact w_iret gz_231_94 gm_231 (k1 h72_0 (gh_72_0) (by omega) (by omega) (by omega) (by omega) (by omega) (by omega) (by omega) n_Rws_72_0)
  refine w_aload_n gz_231_0 rfl ?_
  refine w_iconst gz_231_1 (by decide) ?_
  refine v_putI (j := 0) gz_231_2 rfl is_151 rd_10 rfl (by omega) (by omega) rfl (fun h3 fh3 => ?_)
  have gh3 : my_fr [(10, 0), (10, 27), (10, 32), (10, 33), (10, 37), (10, 46), (10, 48), (61, -1), (62, -1), (73, -1), (74, -1), (75, -1), (76, -1), (77, -1), (78, -1), (79, -1), (80, -1), (81, -1), (82, -1), (83, -1), (84, -1), (85, -1), (86, -1), (88, -1), (89, -1), (90, -1), (91, -1), (92, -1), (93, -1), (94, -1)] h h3 := my_fr.up my_fr.rf is_151 fh3 rfl
  have Mw_h3 : Mw h3 := Mw_ag (my_ag.up fh3 is_151 rfl) n_Mw
  have Mw3_h3 : Mw3 h3 := Mw3_ag (my_ag.up fh3 is_151 rfl) n_Mw3
  have Rws_h3 : Rws h3 := Rws_ag (my_ag.up fh3 is_151 rfl) n_Rws
  refine w_aload_n gz_231_5 rfl ?_
  refine w_iconst gz_231_6 (by decide) ?_
  refine w_iload_n gz_231_7 rfl ?_
  refine w_iconst gz_231_8 (by decide) ?_
  refine w_iload_n gz_231_9 rfl ?_
  refine w_iload_n gz_231_10 rfl ?_
  refine w_iload gz_231_11 rfl ?_
  refine w_inv (k := 1) (as := [(0, x4), (0, x3), (0, x2), (0, 0), (0, x1), (0, 0)]) (r := []) (x := 151) (ls0 := [(2, 151), (0, 0), (0, x1), (0, 0), (0, x2), (0, x3), (0, x4), (9, 0)]) gz_231_13 gm_208 rfl is_151 rd_10 rfl rfl rfl rfl rfl (c_Model_isEdit (d := (d + 3)) (x1 := 0) (x2 := x1) (x3 := 0) (x4 := x2) (x5 := x3) (x6 := x4) (by omega) (by omega) Mw_h3 Mw3_h3 Rws_h3 (fun h4 frh4 => ?_) (fun h5 frh5 w6 w7 w8 w9 xp10 xp11 xp12 xp13 xp14 xp15 xp16 xp17 => ?_))
  ·
    have gh4 : my_fr [(10, 0), (10, 27), (10, 32), (10, 33), (10, 37), (10, 46), (10, 48), (61, -1), (62, -1), (73, -1), (74, -1), (75, -1), (76, -1), (77, -1), (78, -1), (79, -1), (80, -1), (81, -1), (82, -1), (83, -1), (84, -1), (85, -1), (86, -1), (88, -1), (89, -1), (90, -1), (91, -1), (92, -1), (93, -1), (94, -1)] h h4 := my_fr.tr gh3 (frh4.mo rfl)
    have Mw_h4 : Mw h4 := Mw_ag (my_ag.fr frh4 rfl) Mw_h3
    have Mw3_h4 : Mw3 h4 := Mw3_ag (my_ag.fr frh4 rfl) Mw3_h3
    have Rws_h4 : Rws h4 := Rws_ag (my_ag.fr frh4 rfl) Rws_h3
    show wp l rho (d + 8) 231 16 [(2, 151), (0, x1), (0, x2), (0, x3), (0, x4), (9, 0), (9, 0)] [(0, 0)] h4 Q
    refine w_ifne (t := 21) gz_231_16 rfl (fun u18 => by exfalso; omega) (fun u18 => ?_)
    refine w_iconst gz_231_19 (by decide) ?_
    have c19 := ((my_fr.at frh4 is_151 rfl).trans (my_up_self fh3))
    exact w_iret gz_231_20 gm_231 (k0 h4 (gh4) (by omega) Rws_h4)
  ·
    have gh5 : my_fr [(10, 0), (10, 27), (10, 32), (10, 33), (10, 37), (10, 46), (10, 48), (61, -1), (62, -1), (73, -1), (74, -1), (75, -1), (76, -1), (77, -1), (78, -1), (79, -1), (80, -1), (81, -1), (82, -1), (83, -1), (84, -1), (85, -1), (86, -1), (88, -1), (89, -1), (90, -1), (91, -1), (92, -1), (93, -1), (94, -1)] h h5 := my_fr.tr gh3 (frh5.mo rfl)
    have Mw_h5 : Mw h5 := Mw_ag (my_ag.fr frh5 rfl) Mw_h3
    have Mw3_h5 : Mw3 h5 := Mw3_ag (my_ag.fr frh5 rfl) Mw3_h3
    have Rws_h5 : Rws h5 := Rws_ag (my_ag.fr frh5 rfl) Rws_h3
    show wp l rho (d + 8) 231 16 [(2, 151), (0, x1), (0, x2), (0, x3), (0, x4), (9, 0), (9, 0)] [(0, 1)] h5 Q
    have e5 := xp15
    have e6 := xp16
    refine w_ifne (t := 21) gz_231_16 rfl (fun u20 => ?_) (fun u20 => by exfalso; omega)
    refine v_know (x := 151) (j := 37) (b := 37) rfl is_151 rd_10 rfl (fun k37 ek37 pk37 qk37 => ?_)
    refine v_know (x := 151) (j := 27) (b := 27) rfl is_151 rd_10 rfl (fun k27 ek27 pk27 qk27 => ?_)
    refine w_aload_n gz_231_21 rfl ?_
    refine w_getX (v := 182) gz_231_22 is_151 rd_10 rfl (by decide) rfl ?_
    refine w_bipush gz_231_25 (by decide) ?_
    refine w_iload_n gz_231_27 rfl ?_
    have hi22 : 0 ≤ x2 := by omega
    have hi23 : x2 ≤ 9 := by omega
    refine w_imul gz_231_28 ⟨by omega, by omega⟩ ?_
    refine w_iload_n gz_231_29 rfl ?_
    have hi24 : 0 ≤ x3 := by omega
    have hi25 : x3 ≤ 7 := by omega
    refine w_iadd gz_231_30 ⟨by omega, by omega⟩ ?_
    have hi26 : 0 ≤ ((8 * x2) + x3) := by omega
    have hi27 : ((8 * x2) + x3) ≤ 79 := by omega
    refine w_iald gz_231_31 is_182 rd_81 (by omega) (by omega) (fun v28 ev28 pv28 qv28 => ?_)
    refine w_istore (ls' := [(2, 151), (0, x1), (0, x2), (0, x3), (0, x4), (0, v28), (9, 0)]) gz_231_32 gm_231 rfl rfl rfl ?_
    refine w_aload_n gz_231_34 rfl ?_
    refine w_iconst gz_231_35 (by decide) ?_
    refine w_iconst gz_231_36 (by decide) ?_
    refine w_inv (k := 1) (as := [(0, 5), (0, 0)]) (r := []) (x := 151) (ls0 := [(2, 151), (0, 0), (0, 5), (9, 0)]) gz_231_37 gm_152 rfl is_151 rd_10 rfl rfl rfl rfl rfl (c_Model_copies2 (d := (d + 7)) (x1 := 0) (x2 := 5) (by omega) (by omega) (by omega) (by omega) Rws_h5 (fun h29 frh29 xp30 Rws_h29t31 => ?_))
    have gh29 : my_fr [(10, 0), (10, 27), (10, 32), (10, 33), (10, 37), (10, 46), (10, 48), (61, -1), (62, -1), (73, -1), (74, -1), (75, -1), (76, -1), (77, -1), (78, -1), (79, -1), (80, -1), (81, -1), (82, -1), (83, -1), (84, -1), (85, -1), (86, -1), (88, -1), (89, -1), (90, -1), (91, -1), (92, -1), (93, -1), (94, -1)] h h29 := my_fr.tr gh5 (frh29.mo rfl)
    have Mw_h29 : Mw h29 := Mw_ag (my_ag.fr frh29 rfl) Mw_h5
    have Mw3_h29 : Mw3 h29 := Mw3_ag (my_ag.fr frh29 rfl) Mw3_h5
    show wp l rho (d + 8) 231 40 [(2, 151), (0, x1), (0, x2), (0, x3), (0, x4), (0, v28), (9, 0)] [] h29 Q
    refine w_aload_n gz_231_40 rfl ?_
    refine w_iconst gz_231_41 (by decide) ?_
    refine w_iload_n gz_231_42 rfl ?_
    refine w_iconst gz_231_43 (by decide) ?_
    refine w_iload_n gz_231_44 rfl ?_
    refine w_iload_n gz_231_45 rfl ?_
    refine w_iload gz_231_46 rfl ?_
    refine w_inv (k := 2) (as := [(0, x4), (0, x3), (0, x2), (0, 0), (0, x1), (0, 5)]) (r := []) (x := 151) (ls0 := [(2, 151), (0, 5), (0, x1), (0, 0), (0, x2), (0, x3), (0, x4), (9, 0), (9, 0)]) gz_231_48 gm_223 rfl is_151 rd_10 rfl rfl rfl rfl rfl (c_Model_puts (d := d) (x1 := 5) (x2 := x1) (x3 := 0) (x4 := x2) (x5 := x3) (x6 := x4) (by omega) (by omega) Mw_h29 Mw3_h29 Rws_h29t31 (by first | assumption | exact no_such_saying | exact Fp_told (by omega) (by omega) | omega | (subst_vars; omega) | omega) (fun h32 frh32 Rws_h32t33 => ?_) (fun h34 v35 frh34 w36 w37 w38 w39 w40 w41 Rws_h34t42 => ?_))
    ·
      have gh32 : my_fr [(10, 0), (10, 27), (10, 32), (10, 33), (10, 37), (10, 46), (10, 48), (61, -1), (62, -1), (73, -1), (74, -1), (75, -1), (76, -1), (77, -1), (78, -1), (79, -1), (80, -1), (81, -1), (82, -1), (83, -1), (84, -1), (85, -1), (86, -1), (88, -1), (89, -1), (90, -1), (91, -1), (92, -1), (93, -1), (94, -1)] h h32 := my_fr.tr gh29 (frh32.mo rfl)
      have Mw_h32 : Mw h32 := Mw_ag (my_ag.fr frh32 rfl) Mw_h29
      have Mw3_h32 : Mw3 h32 := Mw3_ag (my_ag.fr frh32 rfl) Mw3_h29
      show wp l rho (d + 8) 231 51 [(2, 151), (0, x1), (0, x2), (0, x3), (0, x4), (0, v28), (9, 0)] [(0, (-1))] h32 Q
      refine w_iflt (t := 72) gz_231_51 rfl (fun u43 => ?_) (fun u43 => by exfalso; omega)
      exact J72_0 (v28) h32 (gh32) (by omega) (by omega) (by omega) (by omega) (by omega) (by omega) (by omega) (((my_fr.at frh32 is_151 rfl).trans ((my_fr.at frh29 is_151 rfl).trans ((my_fr.at frh5 is_151 rfl).trans (my_up_self fh3)))).trans (by omega)) Mw_h32 Mw3_h32 Rws_h32t33
    ·
      have gh34 : my_fr [(10, 0), (10, 27), (10, 32), (10, 33), (10, 37), (10, 46), (10, 48), (61, -1), (62, -1), (73, -1), (74, -1), (75, -1), (76, -1), (77, -1), (78, -1), (79, -1), (80, -1), (81, -1), (82, -1), (83, -1), (84, -1), (85, -1), (86, -1), (88, -1), (89, -1), (90, -1), (91, -1), (92, -1), (93, -1), (94, -1)] h h34 := my_fr.tr gh29 (frh34.mo rfl)
      have Mw_h34 : Mw h34 := Mw_ag (my_ag.fr frh34 rfl) Mw_h29
      have Mw3_h34 : Mw3 h34 := Mw3_ag (my_ag.fr frh34 rfl) Mw3_h29
      show wp l rho (d + 8) 231 51 [(2, 151), (0, x1), (0, x2), (0, x3), (0, x4), (0, v28), (9, 0)] [(0, v35)] h34 Q
      refine w_iflt (t := 72) gz_231_51 rfl (fun u44 => by exfalso; omega) (fun u44 => ?_)
      refine w_aload_n gz_231_54 rfl ?_
      refine w_iconst gz_231_55 (by decide) ?_
      refine w_iload_n gz_231_56 rfl ?_
      refine w_iconst gz_231_57 (by decide) ?_
      refine w_iload_n gz_231_58 rfl ?_
      refine w_iload_n gz_231_59 rfl ?_
      refine w_iload gz_231_60 rfl ?_
      refine w_inv (k := 2) (as := [(0, v28), (0, x3), (0, x2), (0, 0), (0, x1), (0, 5)]) (r := []) (x := 151) (ls0 := [(2, 151), (0, 5), (0, x1), (0, 0), (0, x2), (0, x3), (0, v28), (9, 0), (9, 0)]) gz_231_62 gm_223 rfl is_151 rd_10 rfl rfl rfl rfl rfl (c_Model_puts (d := d) (x1 := 5) (x2 := x1) (x3 := 0) (x4 := x2) (x5 := x3) (x6 := v28) (by omega) (by omega) Mw_h34 Mw3_h34 Rws_h34t42 (by first | assumption | exact no_such_saying | exact Fp_told (by omega) (by omega) | omega | (subst_vars; omega) | omega) (fun h45 frh45 Rws_h45t46 => ?_) (fun h47 v48 frh47 w49 w50 w51 w52 w53 w54 Rws_h47t55 => ?_))
      ·
        have gh45 : my_fr [(10, 0), (10, 27), (10, 32), (10, 33), (10, 37), (10, 46), (10, 48), (61, -1), (62, -1), (73, -1), (74, -1), (75, -1), (76, -1), (77, -1), (78, -1), (79, -1), (80, -1), (81, -1), (82, -1), (83, -1), (84, -1), (85, -1), (86, -1), (88, -1), (89, -1), (90, -1), (91, -1), (92, -1), (93, -1), (94, -1)] h h45 := my_fr.tr gh34 (frh45.mo rfl)
        have Mw_h45 : Mw h45 := Mw_ag (my_ag.fr frh45 rfl) Mw_h34
        have Mw3_h45 : Mw3 h45 := Mw3_ag (my_ag.fr frh45 rfl) Mw3_h34
        show wp l rho (d + 8) 231 65 [(2, 151), (0, x1), (0, x2), (0, x3), (0, x4), (0, v28), (9, 0)] [(0, (-1))] h45 Q
        refine w_iflt (t := 72) gz_231_65 rfl (fun u56 => ?_) (fun u56 => by exfalso; omega)
        exact J72_0 (v28) h45 (gh45) (by omega) (by omega) (by omega) (by omega) (by omega) (by omega) (by omega) (((my_fr.at frh45 is_151 rfl).trans ((my_fr.at frh34 is_151 rfl).trans ((my_fr.at frh29 is_151 rfl).trans ((my_fr.at frh5 is_151 rfl).trans (my_up_self fh3))))).trans (by omega)) Mw_h45 Mw3_h45 Rws_h45t46
      ·
        have gh47 : my_fr [(10, 0), (10, 27), (10, 32), (10, 33), (10, 37), (10, 46), (10, 48), (61, -1), (62, -1), (73, -1), (74, -1), (75, -1), (76, -1), (77, -1), (78, -1), (79, -1), (80, -1), (81, -1), (82, -1), (83, -1), (84, -1), (85, -1), (86, -1), (88, -1), (89, -1), (90, -1), (91, -1), (92, -1), (93, -1), (94, -1)] h h47 := my_fr.tr gh34 (frh47.mo rfl)
        have Mw_h47 : Mw h47 := Mw_ag (my_ag.fr frh47 rfl) Mw_h34
        have Mw3_h47 : Mw3 h47 := Mw3_ag (my_ag.fr frh47 rfl) Mw3_h34
        show wp l rho (d + 8) 231 65 [(2, 151), (0, x1), (0, x2), (0, x3), (0, x4), (0, v28), (9, 0)] [(0, v48)] h47 Q
        refine w_iflt (t := 72) gz_231_65 rfl (fun u57 => by exfalso; omega) (fun u57 => ?_)
        refine w_iconst gz_231_68 (by decide) ?_
        refine w_goto (t := 73) gz_231_69 rfl ?_
        refine w_istore (ls' := [(2, 151), (0, x1), (0, x2), (0, x3), (0, x4), (0, v28), (0, 1)]) gz_231_73 gm_231 rfl rfl rfl ?_
        refine w_iload gz_231_75 rfl ?_
        refine w_ifeq (t := 93) gz_231_77 rfl (fun u58 => by exfalso; omega) (fun u58 => ?_)
        refine w_aload_n gz_231_80 rfl ?_
        refine w_iconst gz_231_81 (by decide) ?_
        refine w_iconst gz_231_82 (by decide) ?_
        refine w_inv (k := 3) (as := [(0, 0), (0, 5)]) (r := []) (x := 151) (ls0 := [(2, 151), (0, 5), (0, 0), (9, 0), (9, 0), (9, 0)]) gz_231_83 gm_230 rfl is_151 rd_10 rfl rfl rfl rfl rfl (c_Model_areAlike (d := (d + 7)) (x1 := 5) (x2 := 0) (by omega) (by omega) (by omega) (by omega) (fun v59 w60 w61 => ?_))
        show wp l rho (d + 8) 231 86 [(2, 151), (0, x1), (0, x2), (0, x3), (0, x4), (0, v28), (0, 1)] [(0, v59)] h47 Q
        refine w_ifeq (t := 93) gz_231_86 rfl (fun u62 => ?_) (fun u62 => ?_)
        ·
          refine w_iconst gz_231_93 (by decide) ?_
          have c63 := ((my_fr.at frh47 is_151 rfl).trans ((my_fr.at frh34 is_151 rfl).trans ((my_fr.at frh29 is_151 rfl).trans ((my_fr.at frh5 is_151 rfl).trans (my_up_self fh3)))))
          exact w_iret gz_231_94 gm_231 (k1 h47 (gh47) (by omega) (by omega) (by omega) (by omega) (by omega) (by omega) (by omega) Rws_h47t55)
        ·
          refine w_iconst gz_231_89 (by decide) ?_
          refine w_goto (t := 94) gz_231_90 rfl ?_
          have c64 := ((my_fr.at frh47 is_151 rfl).trans ((my_fr.at frh34 is_151 rfl).trans ((my_fr.at frh29 is_151 rfl).trans ((my_fr.at frh5 is_151 rfl).trans (my_up_self fh3)))))
          exact w_iret gz_231_94 gm_231 (k2 h47 (gh47) (by omega) (by omega) (by omega) (by omega) (by omega) (by omega) (by omega) Rws_h47t55)
theorem c_Model_both {l : Launch} {rho : Nat → Int32} {d : Nat} {h : my_H} {Q : my_H → my_V → Prop} {x1 x2 x3 x4 x5 x6 x7 : Int} (a1 : 0 ≤ x1) (b1 : x1 ≤ 15) (a2 : 0 ≤ x2) (b2 : x2 ≤ 5) (a3 : 0 ≤ x3) (a5 : 0 ≤ x5) (b5 : x5 ≤ 5) (a6 : 0 ≤ x6) (n_Mw : Mw h) (n_Mw3 : Mw3 h) (n_Rws : Rws h) (s8 : x1 ≠ 8) (k0 : ∀ (h' : my_H), my_fr [(10, 27), (10, 32), (10, 33), (10, 37), (10, 46), (10, 48), (61, -1), (62, -1), (73, -1), (74, -1), (75, -1), (76, -1), (77, -1), (78, -1), (79, -1), (80, -1), (81, -1), (82, -1), (83, -1), (84, -1), (85, -1), (86, -1), (88, -1), (89, -1), (90, -1), (91, -1), (92, -1), (93, -1), (94, -1)] h h' → Rws h' → Q h' (0, 0)) (k1 : ∀ (h' : my_H), my_fr [(10, 27), (10, 32), (10, 33), (10, 37), (10, 46), (10, 48), (61, -1), (62, -1), (73, -1), (74, -1), (75, -1), (76, -1), (77, -1), (78, -1), (79, -1), (80, -1), (81, -1), (82, -1), (83, -1), (84, -1), (85, -1), (86, -1), (88, -1), (89, -1), (90, -1), (91, -1), (92, -1), (93, -1), (94, -1)] h h' → Rws h' → Q h' (0, 1)) : wp l rho (d + 8) 233 0 [(2, 151), (0, x1), (0, x2), (0, x3), (0, x4), (0, x5), (0, x6), (0, x7)] [] h Q := by
  refine w_aload_n gz_233_0 rfl ?_
  refine w_iconst gz_233_1 (by decide) ?_
  refine w_iload_n gz_233_2 rfl ?_
  refine w_inv (k := 1) (as := [(0, x1), (0, 0)]) (r := []) (x := 151) (ls0 := [(2, 151), (0, 0), (0, x1), (9, 0)]) gz_233_3 gm_152 rfl is_151 rd_10 rfl rfl rfl rfl rfl (c_Model_copies2 (d := (d + 7)) (x1 := 0) (x2 := x1) (by omega) (by omega) (by omega) (by omega) n_Rws (fun h1 frh1 xp2 Rws_h1t3 => ?_))
  have gh1 : my_fr [(10, 27), (10, 32), (10, 33), (10, 37), (10, 46), (10, 48), (61, -1), (62, -1), (73, -1), (74, -1), (75, -1), (76, -1), (77, -1), (78, -1), (79, -1), (80, -1), (81, -1), (82, -1), (83, -1), (84, -1), (85, -1), (86, -1), (88, -1), (89, -1), (90, -1), (91, -1), (92, -1), (93, -1), (94, -1)] h h1 := my_fr.tr my_fr.rf (frh1.mo rfl)
  have Mw_h1 : Mw h1 := Mw_ag (my_ag.fr frh1 rfl) n_Mw
  have Mw3_h1 : Mw3 h1 := Mw3_ag (my_ag.fr frh1 rfl) n_Mw3
  show wp l rho (d + 8) 233 6 [(2, 151), (0, x1), (0, x2), (0, x3), (0, x4), (0, x5), (0, x6), (0, x7)] [] h1 Q
  refine w_aload_n gz_233_6 rfl ?_
  refine w_iload_n gz_233_7 rfl ?_
  refine w_iload_n gz_233_8 rfl ?_
  refine w_iconst gz_233_9 (by decide) ?_
  refine w_iload_n gz_233_10 rfl ?_
  refine w_bipush gz_233_11 (by decide) ?_
  refine w_idiv gz_233_13 (by omega) (by decide) ?_
  refine w_iload_n gz_233_14 rfl ?_
  refine w_bipush gz_233_15 (by decide) ?_
  refine w_irem gz_233_17 (by omega) (by decide) ?_
  refine w_iload gz_233_18 rfl ?_
  refine w_inv (k := 2) (as := [(0, x4), (0, (x3 % 8)), (0, (x3 / 8)), (0, 0), (0, x2), (0, x1)]) (r := []) (x := 151) (ls0 := [(2, 151), (0, x1), (0, x2), (0, 0), (0, (x3 / 8)), (0, (x3 % 8)), (0, x4), (9, 0), (9, 0)]) gz_233_20 gm_223 rfl is_151 rd_10 rfl rfl rfl rfl rfl (c_Model_puts (d := d) (x1 := x1) (x2 := x2) (x3 := 0) (x4 := (x3 / 8)) (x5 := (x3 % 8)) (x6 := x4) (by omega) (by omega) Mw_h1 Mw3_h1 Rws_h1t3 (by first | assumption | exact no_such_saying | exact Fp_told (by omega) (by omega) | omega | (subst_vars; omega) | omega) (fun h4 frh4 Rws_h4t5 => ?_) (fun h6 v7 frh6 w8 w9 w10 w11 w12 w13 Rws_h6t14 => ?_))
  ·
    have gh4 : my_fr [(10, 27), (10, 32), (10, 33), (10, 37), (10, 46), (10, 48), (61, -1), (62, -1), (73, -1), (74, -1), (75, -1), (76, -1), (77, -1), (78, -1), (79, -1), (80, -1), (81, -1), (82, -1), (83, -1), (84, -1), (85, -1), (86, -1), (88, -1), (89, -1), (90, -1), (91, -1), (92, -1), (93, -1), (94, -1)] h h4 := my_fr.tr gh1 (frh4.mo rfl)
    have Mw_h4 : Mw h4 := Mw_ag (my_ag.fr frh4 rfl) Mw_h1
    have Mw3_h4 : Mw3 h4 := Mw3_ag (my_ag.fr frh4 rfl) Mw3_h1
    show wp l rho (d + 8) 233 23 [(2, 151), (0, x1), (0, x2), (0, x3), (0, x4), (0, x5), (0, x6), (0, x7)] [(0, (-1))] h4 Q
    refine w_iflt (t := 53) gz_233_23 rfl (fun u15 => ?_) (fun u15 => by exfalso; omega)
    refine w_iconst gz_233_53 (by decide) ?_
    exact w_bret gz_233_54 gm_233 (by omega) (by omega) (k0 h4 (gh4) Rws_h4t5)
  ·
    have gh6 : my_fr [(10, 27), (10, 32), (10, 33), (10, 37), (10, 46), (10, 48), (61, -1), (62, -1), (73, -1), (74, -1), (75, -1), (76, -1), (77, -1), (78, -1), (79, -1), (80, -1), (81, -1), (82, -1), (83, -1), (84, -1), (85, -1), (86, -1), (88, -1), (89, -1), (90, -1), (91, -1), (92, -1), (93, -1), (94, -1)] h h6 := my_fr.tr gh1 (frh6.mo rfl)
    have Mw_h6 : Mw h6 := Mw_ag (my_ag.fr frh6 rfl) Mw_h1
    have Mw3_h6 : Mw3 h6 := Mw3_ag (my_ag.fr frh6 rfl) Mw3_h1
    show wp l rho (d + 8) 233 23 [(2, 151), (0, x1), (0, x2), (0, x3), (0, x4), (0, x5), (0, x6), (0, x7)] [(0, v7)] h6 Q
    refine w_iflt (t := 53) gz_233_23 rfl (fun u16 => by exfalso; omega) (fun u16 => ?_)
    refine w_aload_n gz_233_26 rfl ?_
    refine w_iload_n gz_233_27 rfl ?_
    refine w_iload gz_233_28 rfl ?_
    refine w_iconst gz_233_30 (by decide) ?_
    refine w_iload gz_233_31 rfl ?_
    refine w_bipush gz_233_33 (by decide) ?_
    refine w_idiv gz_233_35 (by omega) (by decide) ?_
    refine w_iload gz_233_36 rfl ?_
    refine w_bipush gz_233_38 (by decide) ?_
    refine w_irem gz_233_40 (by omega) (by decide) ?_
    refine w_iload gz_233_41 rfl ?_
    refine w_inv (k := 2) (as := [(0, x7), (0, (x6 % 8)), (0, (x6 / 8)), (0, 0), (0, x5), (0, x1)]) (r := []) (x := 151) (ls0 := [(2, 151), (0, x1), (0, x5), (0, 0), (0, (x6 / 8)), (0, (x6 % 8)), (0, x7), (9, 0), (9, 0)]) gz_233_43 gm_223 rfl is_151 rd_10 rfl rfl rfl rfl rfl (c_Model_puts (d := d) (x1 := x1) (x2 := x5) (x3 := 0) (x4 := (x6 / 8)) (x5 := (x6 % 8)) (x6 := x7) (by omega) (by omega) Mw_h6 Mw3_h6 Rws_h6t14 (by first | assumption | exact no_such_saying | exact Fp_told (by omega) (by omega) | omega | (subst_vars; omega) | omega) (fun h17 frh17 Rws_h17t18 => ?_) (fun h19 v20 frh19 w21 w22 w23 w24 w25 w26 Rws_h19t27 => ?_))
    ·
      have gh17 : my_fr [(10, 27), (10, 32), (10, 33), (10, 37), (10, 46), (10, 48), (61, -1), (62, -1), (73, -1), (74, -1), (75, -1), (76, -1), (77, -1), (78, -1), (79, -1), (80, -1), (81, -1), (82, -1), (83, -1), (84, -1), (85, -1), (86, -1), (88, -1), (89, -1), (90, -1), (91, -1), (92, -1), (93, -1), (94, -1)] h h17 := my_fr.tr gh6 (frh17.mo rfl)
      have Mw_h17 : Mw h17 := Mw_ag (my_ag.fr frh17 rfl) Mw_h6
      have Mw3_h17 : Mw3 h17 := Mw3_ag (my_ag.fr frh17 rfl) Mw3_h6
      show wp l rho (d + 8) 233 46 [(2, 151), (0, x1), (0, x2), (0, x3), (0, x4), (0, x5), (0, x6), (0, x7)] [(0, (-1))] h17 Q
      refine w_iflt (t := 53) gz_233_46 rfl (fun u28 => ?_) (fun u28 => by exfalso; omega)
      refine w_iconst gz_233_53 (by decide) ?_
      exact w_bret gz_233_54 gm_233 (by omega) (by omega) (k0 h17 (gh17) Rws_h17t18)
    ·
      have gh19 : my_fr [(10, 27), (10, 32), (10, 33), (10, 37), (10, 46), (10, 48), (61, -1), (62, -1), (73, -1), (74, -1), (75, -1), (76, -1), (77, -1), (78, -1), (79, -1), (80, -1), (81, -1), (82, -1), (83, -1), (84, -1), (85, -1), (86, -1), (88, -1), (89, -1), (90, -1), (91, -1), (92, -1), (93, -1), (94, -1)] h h19 := my_fr.tr gh6 (frh19.mo rfl)
      have Mw_h19 : Mw h19 := Mw_ag (my_ag.fr frh19 rfl) Mw_h6
      have Mw3_h19 : Mw3 h19 := Mw3_ag (my_ag.fr frh19 rfl) Mw3_h6
      show wp l rho (d + 8) 233 46 [(2, 151), (0, x1), (0, x2), (0, x3), (0, x4), (0, x5), (0, x6), (0, x7)] [(0, v20)] h19 Q
      refine w_iflt (t := 53) gz_233_46 rfl (fun u29 => by exfalso; omega) (fun u29 => ?_)
      refine w_iconst gz_233_49 (by decide) ?_
      refine w_goto (t := 54) gz_233_50 rfl ?_
      exact w_bret gz_233_54 gm_233 (by omega) (by omega) (k1 h19 (gh19) Rws_h19t27)
theorem c_Model_fits {l : Launch} {rho : Nat → Int32} {d : Nat} {h : my_H} {Q : my_H → my_V → Prop} {x1 x2 : Int} (n_Mw : Mw h) (n_Mw3 : Mw3 h) (n_Rws : Rws h) (k0 : ∀ (h' : my_H), my_fr [(10, 0), (10, 27), (10, 32), (10, 33), (10, 37), (10, 46), (73, -1), (74, -1), (75, -1), (76, -1), (77, -1), (78, -1), (79, -1), (80, -1), (81, -1), (82, -1), (83, -1), (84, -1), (85, -1), (86, -1), (88, -1), (95, -1), (96, -1), (97, -1)] h h' → h' 151 0 = 0 → Q h' (0, (-1))) (k1 : ∀ (h' : my_H), my_fr [(10, 0), (10, 27), (10, 32), (10, 33), (10, 37), (10, 46), (73, -1), (74, -1), (75, -1), (76, -1), (77, -1), (78, -1), (79, -1), (80, -1), (81, -1), (82, -1), (83, -1), (84, -1), (85, -1), (86, -1), (88, -1), (95, -1), (96, -1), (97, -1)] h h' → 0 ≤ x1 → x1 ≤ 5 → 0 ≤ x2 → x2 ≤ 2 → h' 151 0 = 0 → 2 ≤ h' 151 27 → h' 151 27 ≤ 8 → Q h' (0, 0)) (k2 : ∀ (h' : my_H) (y : Int), my_fr [(10, 0), (10, 27), (10, 32), (10, 33), (10, 37), (10, 46), (73, -1), (74, -1), (75, -1), (76, -1), (77, -1), (78, -1), (79, -1), (80, -1), (81, -1), (82, -1), (83, -1), (84, -1), (85, -1), (86, -1), (88, -1), (95, -1), (96, -1), (97, -1)] h h' → 0 ≤ x1 → x1 ≤ 5 → 0 ≤ x2 → x2 ≤ 2 → h' 151 0 = 0 → 0 ≤ h' 151 27 → h' 151 27 ≤ 4 → Q h' (0, y)) : wp l rho (d + 10) 236 0 [(2, 151), (0, x1), (0, x2), (9, 0), (9, 0)] [] h Q := by
  have J93_0 : ∀ (n : Nat) (p93_0 p93_1 p93_2 : Int) (h93_0 : my_H), my_fr [(10, 0), (10, 27), (10, 32), (10, 33), (10, 37), (10, 46), (73, -1), (74, -1), (75, -1), (76, -1), (77, -1), (78, -1), (79, -1), (80, -1), (81, -1), (82, -1), (83, -1), (84, -1), (85, -1), (86, -1), (88, -1), (95, -1), (96, -1), (97, -1)] h h93_0 → 0 ≤ x1 → x1 ≤ 5 → 0 ≤ x2 → x2 ≤ 2 → 0 ≤ p93_1 → p93_1 ≤ 16005 → 0 ≤ p93_2 → p93_2 ≤ 4 → h93_0 151 0 = 0 → h93_0 151 27 = p93_2 → Mw h93_0 → Mw3 h93_0 → Rws h93_0 → h93_0 151 27 ≤ 4 → 16006 - p93_1 ≤ (n : Int) → wp l rho (d + 10) 236 93 [(2, 151), (0, x1), (0, x2), (0, p93_0), (0, p93_1)] [] h93_0 Q := by
    intro n
    induction n with
    | zero => intro p93_0 p93_1 p93_2 h93_0 gh_93_0 q0_93_0 q1_93_0 q2_93_0 q3_93_0 q4_93_0 q5_93_0 q6_93_0 q7_93_0 c151_0_93_0 c151_27_93_0 n_Mw_93_0 n_Mw3_93_0 n_Rws_93_0 w4_93_0 hm_93_0; exfalso; omega
    | succ n ih_93_0 =>
      intro p93_0 p93_1 p93_2 h93_0 gh_93_0 q0_93_0 q1_93_0 q2_93_0 q3_93_0 q4_93_0 q5_93_0 q6_93_0 q7_93_0 c151_0_93_0 c151_27_93_0 n_Mw_93_0 n_Mw3_93_0 n_Rws_93_0 w4_93_0 hm_93_0
      refine w_iload gz_236_93 rfl ?_
      refine w_sipush gz_236_95 (by decide) ?_
      refine w_aload_n gz_236_98 rfl ?_
      refine w_getX (v := 157) gz_236_99 is_151 rd_10 rfl (by decide) rfl ?_
      refine w_iload_n gz_236_102 rfl ?_
      refine w_iald gz_236_103 is_157 rd_56 (by omega) (by omega) (fun v2 ev2 pv2 qv2 => ?_)
      refine w_imul gz_236_104 ⟨by omega, by omega⟩ ?_
      refine w_icge (t := 147) gz_236_105 rfl (fun u3 => ?_) (fun u3 => ?_)
      ·
        refine w_iload_n gz_236_147 rfl ?_
        have c4 := c151_0_93_0
        have c5 := c151_27_93_0
        exact w_iret gz_236_148 gm_236 (k2 h93_0 (p93_0) (gh_93_0) (by omega) (by omega) (by omega) (by omega) (by omega) (by omega) (by omega))
      ·
        refine w_iload_n gz_236_108 rfl ?_
        refine w_aload_n gz_236_109 rfl ?_
        refine w_iload_n gz_236_110 rfl ?_
        refine w_aload_n gz_236_111 rfl ?_
        refine w_iload_n gz_236_112 rfl ?_
        refine w_iload gz_236_113 rfl ?_
        refine w_sipush gz_236_115 (by decide) ?_
        refine w_idiv gz_236_118 (by omega) (by decide) ?_
        refine w_iload gz_236_119 rfl ?_
        refine w_sipush gz_236_121 (by decide) ?_
        refine w_idiv gz_236_124 (by omega) (by decide) ?_
        refine w_iconst gz_236_125 (by decide) ?_
        refine w_irem gz_236_126 (by omega) (by decide) ?_
        refine w_iload gz_236_127 rfl ?_
        refine w_sipush gz_236_129 (by decide) ?_
        refine w_irem gz_236_132 (by omega) (by decide) ?_
        refine w_inv (k := 4) (as := [(0, (p93_1 % 200)), (0, ((p93_1 / 200) % 3)), (0, (p93_1 / 600)), (0, x2)]) (r := [(0, x2), (2, 151), (0, p93_0)]) (x := 151) (ls0 := [(2, 151), (0, x2), (0, (p93_1 / 600)), (0, ((p93_1 / 200) % 3)), (0, (p93_1 % 200)), (9, 0), (9, 0), (9, 0), (9, 0)]) gz_236_133 gm_240 rfl is_151 rd_10 rfl rfl rfl rfl rfl (c_Model_shownBy2 (d := (d + 7)) (x1 := x2) (x2 := (p93_1 / 600)) (x3 := ((p93_1 / 200) % 3)) (x4 := (p93_1 % 200)) (by omega) (by omega) (by omega) (by omega) (by omega) (by omega) (by omega) (by omega) n_Rws_93_0 (fun v6 xp7 xp8 => ?_))
        show wp l rho (d + 10) 236 136 [(2, 151), (0, x1), (0, x2), (0, p93_0), (0, p93_1)] [(0, v6), (0, x2), (2, 151), (0, p93_0)] h93_0 Q
        have ce9 : h93_0 151 27 = p93_2 := c151_27_93_0
        have hi10 : 0 ≤ v6 := by omega
        have hi11 : v6 ≤ 1023 := by omega
        refine w_inv (k := 2) (as := [(0, v6), (0, x2)]) (r := [(0, p93_0)]) (x := 151) (ls0 := [(2, 151), (0, x2), (0, v6), (9, 0), (9, 0)]) gz_236_136 gm_237 rfl is_151 rd_10 rfl rfl rfl rfl rfl (c_Model_fewsBy (d := d) (x1 := x2) (x2 := v6) (by omega) (by omega) (by omega) (by omega) n_Rws_93_0 (by first | assumption | exact no_such_saying | exact Fp_told (by omega) (by omega) | omega | (subst_vars; omega) | omega) (fun h12 frh12 => ?_) (fun h13 v14 frh13 => ?_))
        ·
          have gh12 : my_fr [(10, 0), (10, 27), (10, 32), (10, 33), (10, 37), (10, 46), (73, -1), (74, -1), (75, -1), (76, -1), (77, -1), (78, -1), (79, -1), (80, -1), (81, -1), (82, -1), (83, -1), (84, -1), (85, -1), (86, -1), (88, -1), (95, -1), (96, -1), (97, -1)] h h12 := my_fr.tr gh_93_0 (frh12.mo rfl)
          have Mw_h12 : Mw h12 := Mw_ag (my_ag.fr frh12 rfl) n_Mw_93_0
          have Mw3_h12 : Mw3 h12 := Mw3_ag (my_ag.fr frh12 rfl) n_Mw3_93_0
          have Rws_h12 : Rws h12 := Rws_ag (my_ag.fr frh12 rfl) n_Rws_93_0
          show wp l rho (d + 10) 236 139 [(2, 151), (0, x1), (0, x2), (0, p93_0), (0, p93_1)] [(0, 0), (0, p93_0)] h12 Q
          refine w_iaddB gz_236_139 (fun _ _ _ _ => ⟨by omega, by omega⟩) ?_
          refine w_istore_n (ls' := [(2, 151), (0, x1), (0, x2), (0, (p93_0 + 0)), (0, p93_1)]) gz_236_140 gm_236 rfl rfl rfl ?_
          refine w_iinc (ls' := [(2, 151), (0, x1), (0, x2), (0, (p93_0 + 0)), (0, (p93_1 + 1))]) gz_236_141 rfl gm_236 rfl rfl rfl ⟨by omega, by omega⟩ ?_
          refine w_goto (t := 93) gz_236_144 rfl ?_
          have ce15 : h12 151 27 = p93_2 := ((my_fr.at frh12 is_151 rfl).trans c151_27_93_0)
          exact ih_93_0 ((p93_0 + 0)) ((p93_1 + 1)) (p93_2) h12 (gh12) (by omega) (by omega) (by omega) (by omega) (by omega) (by omega) (by omega) (by omega) (((my_fr.at frh12 is_151 rfl).trans c151_0_93_0).trans (by omega)) (((my_fr.at frh12 is_151 rfl).trans c151_27_93_0).trans (by omega)) Mw_h12 Mw3_h12 Rws_h12 (by first | assumption | omega | (subst_vars; omega) | omega) (by omega)
        ·
          have gh13 : my_fr [(10, 0), (10, 27), (10, 32), (10, 33), (10, 37), (10, 46), (73, -1), (74, -1), (75, -1), (76, -1), (77, -1), (78, -1), (79, -1), (80, -1), (81, -1), (82, -1), (83, -1), (84, -1), (85, -1), (86, -1), (88, -1), (95, -1), (96, -1), (97, -1)] h h13 := my_fr.tr gh_93_0 (frh13.mo rfl)
          have Mw_h13 : Mw h13 := Mw_ag (my_ag.fr frh13 rfl) n_Mw_93_0
          have Mw3_h13 : Mw3 h13 := Mw3_ag (my_ag.fr frh13 rfl) n_Mw3_93_0
          have Rws_h13 : Rws h13 := Rws_ag (my_ag.fr frh13 rfl) n_Rws_93_0
          show wp l rho (d + 10) 236 139 [(2, 151), (0, x1), (0, x2), (0, p93_0), (0, p93_1)] [(0, v14), (0, p93_0)] h13 Q
          refine w_ianyA gz_236_139 (fun v16 pv16 qv16 => ?_)
          refine w_istore_n (ls' := [(2, 151), (0, x1), (0, x2), (0, v16), (0, p93_1)]) gz_236_140 gm_236 rfl rfl rfl ?_
          refine w_iinc (ls' := [(2, 151), (0, x1), (0, x2), (0, v16), (0, (p93_1 + 1))]) gz_236_141 rfl gm_236 rfl rfl rfl ⟨by omega, by omega⟩ ?_
          refine w_goto (t := 93) gz_236_144 rfl ?_
          have ce17 : h13 151 27 = p93_2 := ((my_fr.at frh13 is_151 rfl).trans c151_27_93_0)
          exact ih_93_0 (v16) ((p93_1 + 1)) (p93_2) h13 (gh13) (by omega) (by omega) (by omega) (by omega) (by omega) (by omega) (by omega) (by omega) (((my_fr.at frh13 is_151 rfl).trans c151_0_93_0).trans (by omega)) (((my_fr.at frh13 is_151 rfl).trans c151_27_93_0).trans (by omega)) Mw_h13 Mw3_h13 Rws_h13 (by first | assumption | omega | (subst_vars; omega) | omega) (by omega)
  have J54_0 : ∀ (n : Nat) (p54_0 p54_1 : Int) (h54_0 : my_H), my_fr [(10, 0), (10, 27), (10, 32), (10, 33), (10, 37), (10, 46), (73, -1), (74, -1), (75, -1), (76, -1), (77, -1), (78, -1), (79, -1), (80, -1), (81, -1), (82, -1), (83, -1), (84, -1), (85, -1), (86, -1), (88, -1), (95, -1), (96, -1), (97, -1)] h h54_0 → 0 ≤ x1 → x1 ≤ 5 → 0 ≤ x2 → x2 ≤ 2 → 0 ≤ p54_0 → p54_0 ≤ 1024 → 0 ≤ p54_1 → p54_1 ≤ 4 → h54_0 151 0 = 0 → h54_0 151 27 = p54_1 → Mw h54_0 → Mw3 h54_0 → Rws h54_0 → h54_0 151 27 ≤ 4 → 1025 - p54_0 ≤ (n : Int) → wp l rho (d + 10) 236 54 [(2, 151), (0, x1), (0, x2), (0, p54_0), (9, 0)] [] h54_0 Q := by
    intro n
    induction n with
    | zero => intro p54_0 p54_1 h54_0 gh_54_0 q0_54_0 q1_54_0 q2_54_0 q3_54_0 q4_54_0 q5_54_0 q6_54_0 q7_54_0 c151_0_54_0 c151_27_54_0 n_Mw_54_0 n_Mw3_54_0 n_Rws_54_0 w4_54_0 hm_54_0; exfalso; omega
    | succ n ih_54_0 =>
      intro p54_0 p54_1 h54_0 gh_54_0 q0_54_0 q1_54_0 q2_54_0 q3_54_0 q4_54_0 q5_54_0 q6_54_0 q7_54_0 c151_0_54_0 c151_27_54_0 n_Mw_54_0 n_Mw3_54_0 n_Rws_54_0 w4_54_0 hm_54_0
      refine w_iload_n gz_236_54 rfl ?_
      refine w_sipush gz_236_55 (by decide) ?_
      refine w_icge (t := 74) gz_236_58 rfl (fun u18 => ?_) (fun u18 => ?_)
      ·
        refine w_aload_n gz_236_74 rfl ?_
        refine w_iload_n gz_236_75 rfl ?_
        refine w_iconst gz_236_76 (by decide) ?_
        refine w_aload_n gz_236_77 rfl ?_
        refine w_iconst gz_236_78 (by decide) ?_
        refine w_iload_n gz_236_79 rfl ?_
        refine w_inv (k := 2) (as := [(0, x2), (0, 0)]) (r := [(0, 1), (0, x2), (2, 151)]) (x := 151) (ls0 := [(2, 151), (0, 0), (0, x2), (9, 0), (9, 0)]) gz_236_80 gm_151 rfl is_151 rd_10 rfl rfl rfl rfl rfl (c_Model_rowsOf2 (d := (d + 8)) (x1 := 0) (x2 := x2) (by omega) (by omega) (by omega) (by omega) (fun v19 w20 w21 xp22 => ?_))
        show wp l rho (d + 10) 236 83 [(2, 151), (0, x1), (0, x2), (0, p54_0), (9, 0)] [(0, v19), (0, 1), (0, x2), (2, 151)] h54_0 Q
        have ry := xp22
        have rb := (n_Rws_54_0) 0 x2 (by omega) (by omega) (by omega) (by omega)
        have b10 := bsl_bd (i := v19) (by omega) (by omega)
        refine w_ishlX gz_236_83 (fun v23 ev23 pv23 qv23 => ?_)
        refine w_iconst gz_236_84 (by decide) ?_
        have hi24 : 1 ≤ v23 := by omega
        have hi25 : v23 ≤ 1024 := by omega
        refine w_isub gz_236_85 ⟨by omega, by omega⟩ ?_
        have ce26 : h54_0 151 27 = p54_1 := c151_27_54_0
        have hi27 : 0 ≤ (v23 - 1) := by omega
        have hi28 : (v23 - 1) ≤ 1023 := by omega
        refine w_inv (k := 2) (as := [(0, (v23 - 1)), (0, x2)]) (r := []) (x := 151) (ls0 := [(2, 151), (0, x2), (0, (v23 - 1)), (9, 0), (9, 0)]) gz_236_86 gm_237 rfl is_151 rd_10 rfl rfl rfl rfl rfl (c_Model_fewsBy (d := d) (x1 := x2) (x2 := (v23 - 1)) (by omega) (by omega) (by omega) (by omega) n_Rws_54_0 (by first | assumption | exact no_such_saying | exact Fp_told (by omega) (by omega) | omega | (subst_vars; omega) | omega) (fun h29 frh29 => ?_) (fun h30 v31 frh30 => ?_))
        ·
          have gh29 : my_fr [(10, 0), (10, 27), (10, 32), (10, 33), (10, 37), (10, 46), (73, -1), (74, -1), (75, -1), (76, -1), (77, -1), (78, -1), (79, -1), (80, -1), (81, -1), (82, -1), (83, -1), (84, -1), (85, -1), (86, -1), (88, -1), (95, -1), (96, -1), (97, -1)] h h29 := my_fr.tr gh_54_0 (frh29.mo rfl)
          have Mw_h29 : Mw h29 := Mw_ag (my_ag.fr frh29 rfl) n_Mw_54_0
          have Mw3_h29 : Mw3 h29 := Mw3_ag (my_ag.fr frh29 rfl) n_Mw3_54_0
          have Rws_h29 : Rws h29 := Rws_ag (my_ag.fr frh29 rfl) n_Rws_54_0
          show wp l rho (d + 10) 236 89 [(2, 151), (0, x1), (0, x2), (0, p54_0), (9, 0)] [(0, 0)] h29 Q
          refine w_istore_n (ls' := [(2, 151), (0, x1), (0, x2), (0, 0), (9, 0)]) gz_236_89 gm_236 rfl rfl rfl ?_
          refine w_iconst gz_236_90 (by decide) ?_
          refine w_istore (ls' := [(2, 151), (0, x1), (0, x2), (0, 0), (0, 0)]) gz_236_91 gm_236 rfl rfl rfl ?_
          have ce32 : h29 151 27 = p54_1 := ((my_fr.at frh29 is_151 rfl).trans c151_27_54_0)
          exact J93_0 16006 (0) (0) (p54_1) h29 (gh29) (by omega) (by omega) (by omega) (by omega) (by omega) (by omega) (by omega) (by omega) (((my_fr.at frh29 is_151 rfl).trans c151_0_54_0).trans (by omega)) (((my_fr.at frh29 is_151 rfl).trans c151_27_54_0).trans (by omega)) Mw_h29 Mw3_h29 Rws_h29 (by first | assumption | omega | (subst_vars; omega) | omega) (by omega)
        ·
          have gh30 : my_fr [(10, 0), (10, 27), (10, 32), (10, 33), (10, 37), (10, 46), (73, -1), (74, -1), (75, -1), (76, -1), (77, -1), (78, -1), (79, -1), (80, -1), (81, -1), (82, -1), (83, -1), (84, -1), (85, -1), (86, -1), (88, -1), (95, -1), (96, -1), (97, -1)] h h30 := my_fr.tr gh_54_0 (frh30.mo rfl)
          have Mw_h30 : Mw h30 := Mw_ag (my_ag.fr frh30 rfl) n_Mw_54_0
          have Mw3_h30 : Mw3 h30 := Mw3_ag (my_ag.fr frh30 rfl) n_Mw3_54_0
          have Rws_h30 : Rws h30 := Rws_ag (my_ag.fr frh30 rfl) n_Rws_54_0
          show wp l rho (d + 10) 236 89 [(2, 151), (0, x1), (0, x2), (0, p54_0), (9, 0)] [(0, v31)] h30 Q
          refine w_istore_n (ls' := [(2, 151), (0, x1), (0, x2), (0, v31), (9, 0)]) gz_236_89 gm_236 rfl rfl rfl ?_
          refine w_iconst gz_236_90 (by decide) ?_
          refine w_istore (ls' := [(2, 151), (0, x1), (0, x2), (0, v31), (0, 0)]) gz_236_91 gm_236 rfl rfl rfl ?_
          have ce33 : h30 151 27 = p54_1 := ((my_fr.at frh30 is_151 rfl).trans c151_27_54_0)
          exact J93_0 16006 (v31) (0) (p54_1) h30 (gh30) (by omega) (by omega) (by omega) (by omega) (by omega) (by omega) (by omega) (by omega) (((my_fr.at frh30 is_151 rfl).trans c151_0_54_0).trans (by omega)) (((my_fr.at frh30 is_151 rfl).trans c151_27_54_0).trans (by omega)) Mw_h30 Mw3_h30 Rws_h30 (by first | assumption | omega | (subst_vars; omega) | omega) (by omega)
      ·
        refine w_aload_n gz_236_61 rfl ?_
        refine w_getX (v := 198) gz_236_62 is_151 rd_10 rfl (by decide) rfl ?_
        refine w_iload_n gz_236_65 rfl ?_
        refine w_iconst gz_236_66 (by decide) ?_
        refine w_iastA gz_236_67 is_198 rd_97 (by omega) (by omega) (fun h35 fh35 => ?_)
        have gh35 : my_fr [(10, 0), (10, 27), (10, 32), (10, 33), (10, 37), (10, 46), (73, -1), (74, -1), (75, -1), (76, -1), (77, -1), (78, -1), (79, -1), (80, -1), (81, -1), (82, -1), (83, -1), (84, -1), (85, -1), (86, -1), (88, -1), (95, -1), (96, -1), (97, -1)] h h35 := my_fr.up gh_54_0 is_198 fh35 rfl
        have Mw_h35 : Mw h35 := Mw_ag (my_ag.up fh35 is_198 rfl) n_Mw_54_0
        have Mw3_h35 : Mw3 h35 := Mw3_ag (my_ag.up fh35 is_198 rfl) n_Mw3_54_0
        have Rws_h35 : Rws h35 := Rws_ag (my_ag.up fh35 is_198 rfl) n_Rws_54_0
        refine w_iinc (ls' := [(2, 151), (0, x1), (0, x2), (0, (p54_0 + 1)), (9, 0)]) gz_236_68 rfl gm_236 rfl rfl rfl ⟨by omega, by omega⟩ ?_
        refine w_goto (t := 54) gz_236_71 rfl ?_
        have ce36 : h35 151 27 = p54_1 := ((my_up_role fh35 is_151 is_198 rfl).trans c151_27_54_0)
        exact ih_54_0 ((p54_0 + 1)) (p54_1) h35 (gh35) (by omega) (by omega) (by omega) (by omega) (by omega) (by omega) (by omega) (by omega) (((my_up_role fh35 is_151 is_198 rfl).trans c151_0_54_0).trans (by omega)) (((my_up_role fh35 is_151 is_198 rfl).trans c151_27_54_0).trans (by omega)) Mw_h35 Mw3_h35 Rws_h35 (by first | assumption | omega | (subst_vars; omega) | omega) (by omega)
  refine w_aload_n gz_236_0 rfl ?_
  refine w_iconst gz_236_1 (by decide) ?_
  refine v_putI (j := 0) gz_236_2 rfl is_151 rd_10 rfl (by omega) (by omega) rfl (fun h37 fh37 => ?_)
  have gh37 : my_fr [(10, 0), (10, 27), (10, 32), (10, 33), (10, 37), (10, 46), (73, -1), (74, -1), (75, -1), (76, -1), (77, -1), (78, -1), (79, -1), (80, -1), (81, -1), (82, -1), (83, -1), (84, -1), (85, -1), (86, -1), (88, -1), (95, -1), (96, -1), (97, -1)] h h37 := my_fr.up my_fr.rf is_151 fh37 rfl
  have Mw_h37 : Mw h37 := Mw_ag (my_ag.up fh37 is_151 rfl) n_Mw
  have Mw3_h37 : Mw3 h37 := Mw3_ag (my_ag.up fh37 is_151 rfl) n_Mw3
  have Rws_h37 : Rws h37 := Rws_ag (my_ag.up fh37 is_151 rfl) n_Rws
  refine w_aload_n gz_236_5 rfl ?_
  refine w_iload_n gz_236_6 rfl ?_
  refine w_inv (k := 0) (as := [(0, x1)]) (r := []) (x := 151) (ls0 := [(2, 151), (0, x1)]) gz_236_7 gm_193 rfl is_151 rd_10 rfl rfl rfl rfl rfl ?_
  refine w_iload_n gz_193_0 rfl ?_
  refine w_iflt (t := 23) gz_193_1 rfl (fun u38 => ?_) (fun u38 => ?_)
  ·
    refine w_iconst gz_193_23 (by decide) ?_
    refine w_bret gz_193_24 gm_193 (by omega) (by omega) ?_
    show wp l rho (d + 10) 236 10 [(2, 151), (0, x1), (0, x2), (9, 0), (9, 0)] [(0, 0)] h37 Q
    refine w_ifeq (t := 21) gz_236_10 rfl (fun u39 => ?_) (fun u39 => by exfalso; omega)
    refine w_iconst gz_236_21 (by decide) ?_
    have c40 := (my_up_self fh37)
    exact w_iret gz_236_22 gm_236 (k0 h37 (gh37) (by omega))
  ·
    refine w_iload_n gz_193_4 rfl ?_
    refine w_bipush gz_193_5 (by decide) ?_
    refine w_icge (t := 23) gz_193_7 rfl (fun u41 => ?_) (fun u41 => ?_)
    ·
      refine w_iconst gz_193_23 (by decide) ?_
      refine w_bret gz_193_24 gm_193 (by omega) (by omega) ?_
      show wp l rho (d + 10) 236 10 [(2, 151), (0, x1), (0, x2), (9, 0), (9, 0)] [(0, 0)] h37 Q
      refine w_ifeq (t := 21) gz_236_10 rfl (fun u42 => ?_) (fun u42 => by exfalso; omega)
      refine w_iconst gz_236_21 (by decide) ?_
      have c43 := (my_up_self fh37)
      exact w_iret gz_236_22 gm_236 (k0 h37 (gh37) (by omega))
    ·
      refine w_aload_n gz_193_10 rfl ?_
      refine w_getX (v := 164) gz_193_11 is_151 rd_10 rfl (by decide) rfl ?_
      refine w_iload_n gz_193_14 rfl ?_
      refine w_bald gz_193_15 is_164 rd_63 (by omega) (by omega) (fun v45 ev45 pv45 qv45 => ?_)
      refine w_ifeq (t := 23) gz_193_16 rfl (fun u46 => ?_) (fun u46 => ?_)
      ·
        refine w_iconst gz_193_23 (by decide) ?_
        refine w_bret gz_193_24 gm_193 (by omega) (by omega) ?_
        show wp l rho (d + 10) 236 10 [(2, 151), (0, x1), (0, x2), (9, 0), (9, 0)] [(0, 0)] h37 Q
        refine w_ifeq (t := 21) gz_236_10 rfl (fun u47 => ?_) (fun u47 => by exfalso; omega)
        refine w_iconst gz_236_21 (by decide) ?_
        have c48 := (my_up_self fh37)
        exact w_iret gz_236_22 gm_236 (k0 h37 (gh37) (by omega))
      ·
        refine w_iconst gz_193_19 (by decide) ?_
        refine w_goto (t := 24) gz_193_20 rfl ?_
        refine w_bret gz_193_24 gm_193 (by omega) (by omega) ?_
        show wp l rho (d + 10) 236 10 [(2, 151), (0, x1), (0, x2), (9, 0), (9, 0)] [(0, 1)] h37 Q
        refine w_ifeq (t := 21) gz_236_10 rfl (fun u49 => by exfalso; omega) (fun u49 => ?_)
        refine w_aload_n gz_236_13 rfl ?_
        refine w_iload_n gz_236_14 rfl ?_
        refine w_inv (k := 0) (as := [(0, x2)]) (r := []) (x := 151) (ls0 := [(2, 151), (0, x2)]) gz_236_15 gm_149 rfl is_151 rd_10 rfl rfl rfl rfl rfl ?_
        refine w_iload_n gz_149_0 rfl ?_
        refine w_iflt (t := 22) gz_149_1 rfl (fun u50 => ?_) (fun u50 => ?_)
        ·
          refine w_iconst gz_149_22 (by decide) ?_
          refine w_bret gz_149_23 gm_149 (by omega) (by omega) ?_
          show wp l rho (d + 10) 236 18 [(2, 151), (0, x1), (0, x2), (9, 0), (9, 0)] [(0, 0)] h37 Q
          refine w_ifne (t := 23) gz_236_18 rfl (fun u51 => by exfalso; omega) (fun u51 => ?_)
          refine w_iconst gz_236_21 (by decide) ?_
          have c52 := (my_up_self fh37)
          exact w_iret gz_236_22 gm_236 (k0 h37 (gh37) (by omega))
        ·
          refine w_iload_n gz_149_4 rfl ?_
          refine w_iconst gz_149_5 (by decide) ?_
          refine w_icge (t := 22) gz_149_6 rfl (fun u53 => ?_) (fun u53 => ?_)
          ·
            refine w_iconst gz_149_22 (by decide) ?_
            refine w_bret gz_149_23 gm_149 (by omega) (by omega) ?_
            show wp l rho (d + 10) 236 18 [(2, 151), (0, x1), (0, x2), (9, 0), (9, 0)] [(0, 0)] h37 Q
            refine w_ifne (t := 23) gz_236_18 rfl (fun u54 => by exfalso; omega) (fun u54 => ?_)
            refine w_iconst gz_236_21 (by decide) ?_
            have c55 := (my_up_self fh37)
            exact w_iret gz_236_22 gm_236 (k0 h37 (gh37) (by omega))
          ·
            refine w_aload_n gz_149_9 rfl ?_
            refine w_getX (v := 157) gz_149_10 is_151 rd_10 rfl (by decide) rfl ?_
            refine w_iload_n gz_149_13 rfl ?_
            refine w_iald gz_149_14 is_157 rd_56 (by omega) (by omega) (fun v57 ev57 pv57 qv57 => ?_)
            refine w_ifle (t := 22) gz_149_15 rfl (fun u58 => ?_) (fun u58 => ?_)
            ·
              refine w_iconst gz_149_22 (by decide) ?_
              refine w_bret gz_149_23 gm_149 (by omega) (by omega) ?_
              show wp l rho (d + 10) 236 18 [(2, 151), (0, x1), (0, x2), (9, 0), (9, 0)] [(0, 0)] h37 Q
              refine w_ifne (t := 23) gz_236_18 rfl (fun u59 => by exfalso; omega) (fun u59 => ?_)
              refine w_iconst gz_236_21 (by decide) ?_
              have c60 := (my_up_self fh37)
              exact w_iret gz_236_22 gm_236 (k0 h37 (gh37) (by omega))
            ·
              refine w_iconst gz_149_18 (by decide) ?_
              refine w_goto (t := 23) gz_149_19 rfl ?_
              refine w_bret gz_149_23 gm_149 (by omega) (by omega) ?_
              show wp l rho (d + 10) 236 18 [(2, 151), (0, x1), (0, x2), (9, 0), (9, 0)] [(0, 1)] h37 Q
              refine w_ifne (t := 23) gz_236_18 rfl (fun u61 => ?_) (fun u61 => by exfalso; omega)
              refine w_aload_n gz_236_23 rfl ?_
              refine w_iconst gz_236_24 (by decide) ?_
              refine w_iload_n gz_236_25 rfl ?_
              have Fp_h37t62 : Fp h37 x1 := Fp_told (by omega) (by omega)
              refine w_inv (k := 5) (as := [(0, x1), (0, 0)]) (r := []) (x := 151) (ls0 := [(2, 151), (0, 0), (0, x1), (9, 0), (9, 0), (9, 0), (9, 0), (9, 0)]) gz_236_26 gm_194 rfl is_151 rd_10 rfl rfl rfl rfl rfl (c_Model_shows (d := (d + 6)) (x1 := 0) (x2 := x1) (by omega) (by omega) (by omega) (by omega) Mw_h37 Mw3_h37 Rws_h37 (by first | assumption | exact Fp_h37t62 | exact Fp_told (by omega) (by omega) | omega | (subst_vars; omega) | omega) (fun h63 frh63 xp64 => ?_))
              have gh63 : my_fr [(10, 0), (10, 27), (10, 32), (10, 33), (10, 37), (10, 46), (73, -1), (74, -1), (75, -1), (76, -1), (77, -1), (78, -1), (79, -1), (80, -1), (81, -1), (82, -1), (83, -1), (84, -1), (85, -1), (86, -1), (88, -1), (95, -1), (96, -1), (97, -1)] h h63 := my_fr.tr gh37 (frh63.mo rfl)
              have Mw_h63 : Mw h63 := Mw_ag (my_ag.fr frh63 rfl) Mw_h37
              have Mw3_h63 : Mw3 h63 := Mw3_ag (my_ag.fr frh63 rfl) Mw3_h37
              have Rws_h63 : Rws h63 := Rws_ag (my_ag.fr frh63 rfl) Rws_h37
              have Fp_h63 : Fp h63 x1 := Fp_ag (my_ag.fr frh63 rfl) Fp_h37t62
              show wp l rho (d + 10) 236 29 [(2, 151), (0, x1), (0, x2), (9, 0), (9, 0)] [] h63 Q
              refine w_aload_n gz_236_29 rfl ?_
              refine v_getI (j := 27) gz_236_30 rfl is_151 rd_10 rfl (fun v65 ev65 pv65 qv65 => ?_)
              refine w_aload_n gz_236_33 rfl ?_
              refine w_getX (v := 157) gz_236_34 is_151 rd_10 rfl (by decide) rfl ?_
              refine w_iload_n gz_236_37 rfl ?_
              refine w_iald gz_236_38 is_157 rd_56 (by omega) (by omega) (fun v67 ev67 pv67 qv67 => ?_)
              have zv67 := ev67.trans ((my_fr.at frh63 is_157 rfl).trans ev57.symm)
              refine w_icle (t := 44) gz_236_39 rfl (fun u68 => ?_) (fun u68 => ?_)
              ·
                refine w_aload_n gz_236_44 rfl ?_
                refine w_iconst gz_236_45 (by decide) ?_
                refine w_iconst gz_236_46 (by decide) ?_
                refine w_iconst gz_236_47 (by decide) ?_
                refine w_iconst gz_236_48 (by decide) ?_
                refine w_inv (k := 2) (as := [(0, (-1)), (0, (-1)), (0, (-1)), (0, (-1))]) (r := []) (x := 151) (ls0 := [(2, 151), (0, (-1)), (0, (-1)), (0, (-1)), (0, (-1)), (9, 0), (9, 0)]) gz_236_49 gm_210 rfl is_151 rd_10 rfl rfl rfl rfl rfl (c_Model_findWanted (d := (d + 8)) (x1 := (-1)) (x2 := (-1)) (x3 := (-1)) (x4 := (-1)) (by omega) (by omega) (by first | assumption | exact Fp_h63 | exact Fp_told (by omega) (by omega) | omega | (subst_vars; omega) | omega) (fun h69 frh69 => ?_))
                have gh69 : my_fr [(10, 0), (10, 27), (10, 32), (10, 33), (10, 37), (10, 46), (73, -1), (74, -1), (75, -1), (76, -1), (77, -1), (78, -1), (79, -1), (80, -1), (81, -1), (82, -1), (83, -1), (84, -1), (85, -1), (86, -1), (88, -1), (95, -1), (96, -1), (97, -1)] h h69 := my_fr.tr gh63 (frh69.mo rfl)
                have Mw_h69 : Mw h69 := Mw_ag (my_ag.fr frh69 rfl) Mw_h63
                have Mw3_h69 : Mw3 h69 := Mw3_ag (my_ag.fr frh69 rfl) Mw3_h63
                have Rws_h69 : Rws h69 := Rws_ag (my_ag.fr frh69 rfl) Rws_h63
                have Fp_h69 : Fp h69 x1 := Fp_ag (my_ag.fr frh69 rfl) Fp_h63
                show wp l rho (d + 10) 236 52 [(2, 151), (0, x1), (0, x2), (9, 0), (9, 0)] [] h69 Q
                refine w_iconst gz_236_52 (by decide) ?_
                refine w_istore_n (ls' := [(2, 151), (0, x1), (0, x2), (0, 0), (9, 0)]) gz_236_53 gm_236 rfl rfl rfl ?_
                have ce70 : h69 151 27 = v65 := ((my_fr.at frh69 is_151 rfl).trans ev65.symm)
                exact J54_0 1025 (0) (v65) h69 (gh69) (by omega) (by omega) (by omega) (by omega) (by omega) (by omega) (by omega) (by omega) (((my_fr.at frh69 is_151 rfl).trans ((my_fr.at frh63 is_151 rfl).trans (my_up_self fh37))).trans (by omega)) (((my_fr.at frh69 is_151 rfl).trans ev65.symm).trans (by omega)) Mw_h69 Mw3_h69 Rws_h69 (by first | assumption | omega | (subst_vars; omega) | omega) (by omega)
              ·
                refine w_iconst gz_236_42 (by decide) ?_
                have c71 := ((my_fr.at frh63 is_151 rfl).trans (my_up_self fh37))
                have c72 := ev65.symm
                exact w_iret gz_236_43 gm_236 (k1 h63 (gh63) (by omega) (by omega) (by omega) (by omega) (by omega) (by omega) (by omega))
theorem c_Model_ordered {l : Launch} {rho : Nat → Int32} {d : Nat} {h : my_H} {Q : my_H → my_V → Prop} {x1 x2 x3 : Int} (a1 : (-1) ≤ x1) (b1 : x1 ≤ 2) (a2 : (-1) ≤ x2) (b2 : x2 ≤ 2) (a3 : (-1) ≤ x3) (b3 : x3 ≤ 2) (n_Mw : Mw h) (n_Mw3 : Mw3 h) (n_Rws : Rws h) (he : h 151 63 ≤ 5) (k0 : ∀ (h' : my_H), my_fr [(10, 27), (10, 32), (10, 33), (10, 37), (10, 46), (10, 48), (10, 62), (10, 63), (10, 64), (10, 65), (61, -1), (62, -1), (73, -1), (74, -1), (75, -1), (76, -1), (77, -1), (78, -1), (79, -1), (80, -1), (81, -1), (82, -1), (83, -1), (84, -1), (85, -1), (86, -1), (88, -1), (89, -1), (90, -1), (91, -1), (92, -1), (93, -1), (94, -1)] h h' → 0 ≤ h' 151 64 → h' 151 63 ≤ h 151 63 + 1 → Rws h' → Q h' (9, 0)) : wp l rho (d + 8) 245 0 [(2, 151), (0, x1), (0, x2), (0, x3), (9, 0), (9, 0), (9, 0), (9, 0)] [] h Q := by
  refine v_know (x := 151) (j := 63) (b := 63) rfl is_151 rd_10 rfl (fun k151_63 ek151_63 pk151_63 qk151_63 => ?_)
  have J167_0 : ∀ (n : Nat) (p167_0 p167_1 p167_2 p167_3 p167_4 p167_5 p167_6 p167_7 : Int) (h167_0 : my_H), my_fr [(10, 27), (10, 32), (10, 33), (10, 37), (10, 46), (10, 48), (10, 62), (10, 63), (10, 64), (10, 65), (61, -1), (62, -1), (73, -1), (74, -1), (75, -1), (76, -1), (77, -1), (78, -1), (79, -1), (80, -1), (81, -1), (82, -1), (83, -1), (84, -1), (85, -1), (86, -1), (88, -1), (89, -1), (90, -1), (91, -1), (92, -1), (93, -1), (94, -1)] h h167_0 → (-1) ≤ p167_0 → p167_0 ≤ 2 → 0 ≤ p167_1 → p167_1 ≤ 3 → 0 ≤ p167_2 → p167_2 ≤ 3 → 0 ≤ p167_3 → p167_3 ≤ 1 → 0 ≤ p167_4 → p167_4 ≤ 6 → 0 ≤ p167_6 → p167_0 ≤ x1 → p167_1 ≤ p167_2 → p167_1 ≤ p167_6 → p167_2 ≤ p167_1 → p167_2 ≤ p167_6 → p167_3 ≤ p167_4 → p167_3 ≤ k151_63 → p167_4 ≤ k151_63 → x1 ≤ p167_0 → h167_0 151 62 = p167_5 → h167_0 151 63 = k151_63 → h167_0 151 64 = p167_6 → h167_0 151 65 = p167_7 → Mw h167_0 → Mw3 h167_0 → Rws h167_0 → h167_0 151 63 = h 151 63 → 7 - p167_4 ≤ (n : Int) → wp l rho (d + 8) 245 167 [(2, 151), (0, p167_0), (0, x2), (0, x3), (0, p167_1), (0, p167_2), (0, p167_3), (0, p167_4)] [] h167_0 Q := by
    intro n
    induction n with
    | zero => intro p167_0 p167_1 p167_2 p167_3 p167_4 p167_5 p167_6 p167_7 h167_0 gh_167_0 q0_167_0 q1_167_0 q2_167_0 q3_167_0 q4_167_0 q5_167_0 q6_167_0 q7_167_0 q8_167_0 q9_167_0 q10_167_0 q11_167_0 q12_167_0 q13_167_0 q14_167_0 q15_167_0 q16_167_0 q17_167_0 q18_167_0 q19_167_0 c151_62_167_0 c151_63_167_0 c151_64_167_0 c151_65_167_0 n_Mw_167_0 n_Mw3_167_0 n_Rws_167_0 ee_167_0 hm_167_0; exfalso; omega
    | succ n ih_167_0 =>
      intro p167_0 p167_1 p167_2 p167_3 p167_4 p167_5 p167_6 p167_7 h167_0 gh_167_0 q0_167_0 q1_167_0 q2_167_0 q3_167_0 q4_167_0 q5_167_0 q6_167_0 q7_167_0 q8_167_0 q9_167_0 q10_167_0 q11_167_0 q12_167_0 q13_167_0 q14_167_0 q15_167_0 q16_167_0 q17_167_0 q18_167_0 q19_167_0 c151_62_167_0 c151_63_167_0 c151_64_167_0 c151_65_167_0 n_Mw_167_0 n_Mw3_167_0 n_Rws_167_0 ee_167_0 hm_167_0
      have J195_0 : ∀ (p195_0 : Int) (h195_0 : my_H), my_fr [(10, 27), (10, 32), (10, 33), (10, 37), (10, 46), (10, 48), (10, 62), (10, 63), (10, 64), (10, 65), (61, -1), (62, -1), (73, -1), (74, -1), (75, -1), (76, -1), (77, -1), (78, -1), (79, -1), (80, -1), (81, -1), (82, -1), (83, -1), (84, -1), (85, -1), (86, -1), (88, -1), (89, -1), (90, -1), (91, -1), (92, -1), (93, -1), (94, -1)] h h195_0 → 0 ≤ p195_0 → p195_0 ≤ 1 → p167_4 ≤ 5 → 1 ≤ k151_63 → p195_0 ≤ p167_4 → p195_0 ≤ (k151_63 - 1) → p195_0 ≤ p167_3 → p167_0 ≤ x1 → p167_1 ≤ p167_2 → p167_1 ≤ p167_6 → p167_2 ≤ p167_1 → p167_2 ≤ p167_6 → p167_4 ≤ (k151_63 - 1) → p167_3 ≤ p195_0 → p167_3 ≤ p167_4 → p167_3 ≤ (k151_63 - 1) → x1 ≤ p167_0 → h195_0 151 62 = p167_5 → h195_0 151 63 = k151_63 → h195_0 151 64 = p167_6 → h195_0 151 65 = p167_7 → Mw h195_0 → Mw3 h195_0 → Rws h195_0 → wp l rho (d + 8) 245 195 [(2, 151), (0, p167_0), (0, x2), (0, x3), (0, p167_1), (0, p167_2), (0, p195_0), (0, p167_4)] [] h195_0 Q := by
        intro p195_0 h195_0 gh_195_0 q0_195_0 q1_195_0 q2_195_0 q3_195_0 q4_195_0 q5_195_0 q6_195_0 q7_195_0 q8_195_0 q9_195_0 q10_195_0 q11_195_0 q12_195_0 q13_195_0 q14_195_0 q15_195_0 q16_195_0 c151_62_195_0 c151_63_195_0 c151_64_195_0 c151_65_195_0 n_Mw_195_0 n_Mw3_195_0 n_Rws_195_0
        refine w_iconst gz_245_195 (by decide) ?_
        refine w_goto (t := 200) gz_245_196 rfl ?_
        refine w_istore (ls' := [(2, 151), (0, p167_0), (0, x2), (0, x3), (0, p167_1), (0, p167_2), (0, 1), (0, p167_4)]) gz_245_200 gm_245 rfl rfl rfl ?_
        refine w_iinc (ls' := [(2, 151), (0, p167_0), (0, x2), (0, x3), (0, p167_1), (0, p167_2), (0, 1), (0, (p167_4 + 1))]) gz_245_202 rfl gm_245 rfl rfl rfl ⟨by omega, by omega⟩ ?_
        refine w_goto (t := 167) gz_245_205 rfl ?_
        have ce1 : h195_0 151 63 = k151_63 := c151_63_195_0
        exact ih_167_0 (p167_0) (p167_1) (p167_2) (1) ((p167_4 + 1)) (p167_5) (p167_6) (p167_7) h195_0 (gh_195_0) (by omega) (by omega) (by omega) (by omega) (by omega) (by omega) (by omega) (by omega) (by omega) (by omega) (by omega) (by omega) (by omega) (by omega) (by omega) (by omega) (by omega) (by omega) (by omega) (by omega) (c151_62_195_0.trans (by omega)) (c151_63_195_0.trans (by omega)) (c151_64_195_0.trans (by omega)) (c151_65_195_0.trans (by omega)) n_Mw_195_0 n_Mw3_195_0 n_Rws_195_0 (by first | assumption | omega | (subst_vars; omega) | omega) (by omega)
      refine w_iload gz_245_167 rfl ?_
      refine w_aload_n gz_245_169 rfl ?_
      refine v_getI (j := 63) gz_245_170 rfl is_151 rd_10 rfl (fun v2 ev2 pv2 qv2 => ?_)
      have zv2 := ev2.trans c151_63_167_0
      refine w_icge (t := 208) gz_245_173 rfl (fun u3 => ?_) (fun u3 => ?_)
      ·
        refine w_iload gz_245_208 rfl ?_
        refine w_ifne (t := 236) gz_245_210 rfl (fun u4 => ?_) (fun u4 => ?_)
        ·
          have ce5 : h167_0 151 63 = v2 := ev2.symm
          have c6 := c151_64_167_0
          exact w_vret gz_245_236 gm_245 (k0 h167_0 (gh_167_0) (by omega) (by first | assumption | omega | (subst_vars; omega) | omega) n_Rws_167_0)
        ·
          refine w_aload_n gz_245_213 rfl ?_
          refine w_bipush gz_245_214 (by decide) ?_
          refine w_bipush gz_245_216 (by decide) ?_
          refine w_aload_n gz_245_218 rfl ?_
          refine v_getI (j := 63) gz_245_219 rfl is_151 rd_10 rfl (fun v7 ev7 pv7 qv7 => ?_)
          have zv7 := ev7.trans ev2.symm
          refine w_iadd gz_245_222 ⟨by omega, by omega⟩ ?_
          have ce8 : h167_0 151 63 = v7 := ev7.symm
          have hi9 : 10 ≤ (10 + v7) := by omega
          have hi10 : (10 + v7) ≤ 15 := by omega
          refine w_inv (k := 1) (as := [(0, (10 + v7)), (0, 6)]) (r := []) (x := 151) (ls0 := [(2, 151), (0, 6), (0, (10 + v7)), (9, 0)]) gz_245_223 gm_152 rfl is_151 rd_10 rfl rfl rfl rfl rfl (c_Model_copies2 (d := (d + 7)) (x1 := 6) (x2 := (10 + v7)) (by omega) (by omega) (by omega) (by omega) n_Rws_167_0 (fun h11 frh11 xp12 Rws_h11t13 => ?_))
          have gh11 : my_fr [(10, 27), (10, 32), (10, 33), (10, 37), (10, 46), (10, 48), (10, 62), (10, 63), (10, 64), (10, 65), (61, -1), (62, -1), (73, -1), (74, -1), (75, -1), (76, -1), (77, -1), (78, -1), (79, -1), (80, -1), (81, -1), (82, -1), (83, -1), (84, -1), (85, -1), (86, -1), (88, -1), (89, -1), (90, -1), (91, -1), (92, -1), (93, -1), (94, -1)] h h11 := my_fr.tr gh_167_0 (frh11.mo rfl)
          have Mw_h11 : Mw h11 := Mw_ag (my_ag.fr frh11 rfl) n_Mw_167_0
          have Mw3_h11 : Mw3 h11 := Mw3_ag (my_ag.fr frh11 rfl) n_Mw3_167_0
          show wp l rho (d + 8) 245 226 [(2, 151), (0, p167_0), (0, x2), (0, x3), (0, p167_1), (0, p167_2), (0, p167_3), (0, p167_4)] [] h11 Q
          refine w_aload_n gz_245_226 rfl ?_
          refine w_dup gz_245_227 rfl ?_
          refine v_getI (j := 63) gz_245_228 rfl is_151 rd_10 rfl (fun v14 ev14 pv14 qv14 => ?_)
          have zv14 := ev14.trans ((my_fr.at frh11 is_151 rfl).trans ev7.symm)
          refine w_iconst gz_245_231 (by decide) ?_
          refine w_iadd gz_245_232 ⟨by omega, by omega⟩ ?_
          have hi15 : 0 ≤ (v14 + 1) := by omega
          have hi16 : (v14 + 1) ≤ 6 := by omega
          refine v_putI (j := 63) gz_245_233 rfl is_151 rd_10 rfl (by omega) (by omega) rfl (fun h17 fh17 => ?_)
          have gh17 : my_fr [(10, 27), (10, 32), (10, 33), (10, 37), (10, 46), (10, 48), (10, 62), (10, 63), (10, 64), (10, 65), (61, -1), (62, -1), (73, -1), (74, -1), (75, -1), (76, -1), (77, -1), (78, -1), (79, -1), (80, -1), (81, -1), (82, -1), (83, -1), (84, -1), (85, -1), (86, -1), (88, -1), (89, -1), (90, -1), (91, -1), (92, -1), (93, -1), (94, -1)] h h17 := my_fr.up gh11 is_151 fh17 rfl
          have Mw_h17 : Mw h17 := Mw_ag (my_ag.up fh17 is_151 rfl) Mw_h11
          have Mw3_h17 : Mw3 h17 := Mw3_ag (my_ag.up fh17 is_151 rfl) Mw3_h11
          have Rws_h17 : Rws h17 := Rws_ag (my_ag.up fh17 is_151 rfl) Rws_h11t13
          have ce18 : h17 151 63 = (v14 + 1) := (my_up_self fh17)
          have c19 := ((my_up_fld fh17 (by decide)).trans ((my_fr.at frh11 is_151 rfl).trans c151_64_167_0))
          exact w_vret gz_245_236 gm_245 (k0 h17 (gh17) (by omega) (by first | assumption | omega | (subst_vars; omega) | omega) Rws_h17)
      ·
        refine w_iload gz_245_176 rfl ?_
        refine w_ifne (t := 195) gz_245_178 rfl (fun u20 => ?_) (fun u20 => ?_)
        ·
          exact J195_0 (p167_3) h167_0 (gh_167_0) (by omega) (by omega) (by omega) (by omega) (by omega) (by omega) (by omega) (by omega) (by omega) (by omega) (by omega) (by omega) (by omega) (by omega) (by omega) (by omega) (by omega) (c151_62_167_0.trans (by omega)) (ev2.symm.trans (by omega)) (c151_64_167_0.trans (by omega)) (c151_65_167_0.trans (by omega)) n_Mw_167_0 n_Mw3_167_0 n_Rws_167_0
        ·
          refine w_aload_n gz_245_181 rfl ?_
          refine w_bipush gz_245_182 (by decide) ?_
          refine w_bipush gz_245_184 (by decide) ?_
          refine w_iload gz_245_186 rfl ?_
          refine w_iadd gz_245_188 ⟨by omega, by omega⟩ ?_
          refine w_inv (k := 3) (as := [(0, (10 + p167_4)), (0, 6)]) (r := []) (x := 151) (ls0 := [(2, 151), (0, 6), (0, (10 + p167_4)), (9, 0), (9, 0), (9, 0)]) gz_245_189 gm_230 rfl is_151 rd_10 rfl rfl rfl rfl rfl (c_Model_areAlike (d := (d + 7)) (x1 := 6) (x2 := (10 + p167_4)) (by omega) (by omega) (by omega) (by omega) (fun v21 w22 w23 => ?_))
          show wp l rho (d + 8) 245 192 [(2, 151), (0, p167_0), (0, x2), (0, x3), (0, p167_1), (0, p167_2), (0, p167_3), (0, p167_4)] [(0, v21)] h167_0 Q
          refine w_ifeq (t := 199) gz_245_192 rfl (fun u24 => ?_) (fun u24 => ?_)
          ·
            refine w_iconst gz_245_199 (by decide) ?_
            refine w_istore (ls' := [(2, 151), (0, p167_0), (0, x2), (0, x3), (0, p167_1), (0, p167_2), (0, 0), (0, p167_4)]) gz_245_200 gm_245 rfl rfl rfl ?_
            refine w_iinc (ls' := [(2, 151), (0, p167_0), (0, x2), (0, x3), (0, p167_1), (0, p167_2), (0, 0), (0, (p167_4 + 1))]) gz_245_202 rfl gm_245 rfl rfl rfl ⟨by omega, by omega⟩ ?_
            refine w_goto (t := 167) gz_245_205 rfl ?_
            have ce25 : h167_0 151 63 = v2 := ev2.symm
            exact ih_167_0 (p167_0) (p167_1) (p167_2) (0) ((p167_4 + 1)) (p167_5) (p167_6) (p167_7) h167_0 (gh_167_0) (by omega) (by omega) (by omega) (by omega) (by omega) (by omega) (by omega) (by omega) (by omega) (by omega) (by omega) (by omega) (by omega) (by omega) (by omega) (by omega) (by omega) (by omega) (by omega) (by omega) (c151_62_167_0.trans (by omega)) (ev2.symm.trans (by omega)) (c151_64_167_0.trans (by omega)) (c151_65_167_0.trans (by omega)) n_Mw_167_0 n_Mw3_167_0 n_Rws_167_0 (by first | assumption | omega | (subst_vars; omega) | omega) (by omega)
          ·
            exact J195_0 (p167_3) h167_0 (gh_167_0) (by omega) (by omega) (by omega) (by omega) (by omega) (by omega) (by omega) (by omega) (by omega) (by omega) (by omega) (by omega) (by omega) (by omega) (by omega) (by omega) (by omega) (c151_62_167_0.trans (by omega)) (ev2.symm.trans (by omega)) (c151_64_167_0.trans (by omega)) (c151_65_167_0.trans (by omega)) n_Mw_167_0 n_Mw3_167_0 n_Rws_167_0
  have J141_0 : ∀ (p141_0 p141_1 p141_2 p141_3 p141_4 p141_5 : Int) (h141_0 : my_H), my_fr [(10, 27), (10, 32), (10, 33), (10, 37), (10, 46), (10, 48), (10, 62), (10, 63), (10, 64), (10, 65), (61, -1), (62, -1), (73, -1), (74, -1), (75, -1), (76, -1), (77, -1), (78, -1), (79, -1), (80, -1), (81, -1), (82, -1), (83, -1), (84, -1), (85, -1), (86, -1), (88, -1), (89, -1), (90, -1), (91, -1), (92, -1), (93, -1), (94, -1)] h h141_0 → (-1) ≤ p141_0 → p141_0 ≤ 2 → 0 ≤ p141_1 → p141_1 ≤ 3 → 0 ≤ p141_2 → p141_2 ≤ 3 → 0 ≤ p141_3 → p141_0 ≤ x1 → p141_1 ≤ p141_2 → p141_1 ≤ p141_3 → p141_4 ≤ p141_3 → x1 ≤ p141_0 → h141_0 151 63 = k151_63 → h141_0 151 64 = p141_4 → h141_0 151 65 = p141_5 → Mw h141_0 → Mw3 h141_0 → Rws h141_0 → wp l rho (d + 8) 245 141 [(2, 151), (0, p141_0), (0, x2), (0, x3), (0, p141_1), (0, p141_2), (0, 3), (9, 0)] [(0, p141_3), (2, 151)] h141_0 Q := by
    intro p141_0 p141_1 p141_2 p141_3 p141_4 p141_5 h141_0 gh_141_0 q0_141_0 q1_141_0 q2_141_0 q3_141_0 q4_141_0 q5_141_0 q6_141_0 q7_141_0 q8_141_0 q9_141_0 q10_141_0 q11_141_0 c151_63_141_0 c151_64_141_0 c151_65_141_0 n_Mw_141_0 n_Mw3_141_0 n_Rws_141_0
    refine v_putA (j := 64) gz_245_141 rfl is_151 rd_10 rfl rfl (fun h26 fh26 => ?_)
    have gh26 : my_fr [(10, 27), (10, 32), (10, 33), (10, 37), (10, 46), (10, 48), (10, 62), (10, 63), (10, 64), (10, 65), (61, -1), (62, -1), (73, -1), (74, -1), (75, -1), (76, -1), (77, -1), (78, -1), (79, -1), (80, -1), (81, -1), (82, -1), (83, -1), (84, -1), (85, -1), (86, -1), (88, -1), (89, -1), (90, -1), (91, -1), (92, -1), (93, -1), (94, -1)] h h26 := my_fr.up gh_141_0 is_151 fh26 rfl
    have Mw_h26 : Mw h26 := Mw_ag (my_ag.up fh26 is_151 rfl) n_Mw_141_0
    have Mw3_h26 : Mw3 h26 := Mw3_ag (my_ag.up fh26 is_151 rfl) n_Mw3_141_0
    have Rws_h26 : Rws h26 := Rws_ag (my_ag.up fh26 is_151 rfl) n_Rws_141_0
    refine w_iload gz_245_144 rfl ?_
    refine w_iload gz_245_146 rfl ?_
    refine w_icne (t := 236) gz_245_148 rfl (fun u27 => ?_) (fun u27 => ?_)
    ·
      have ce28 : h26 151 63 = k151_63 := ((my_up_fld fh26 (by decide)).trans c151_63_141_0)
      have c29 := (my_up_self fh26)
      exact w_vret gz_245_236 gm_245 (k0 h26 (gh26) (by omega) (by first | assumption | omega | (subst_vars; omega) | omega) Rws_h26)
    ·
      refine w_aload_n gz_245_151 rfl ?_
      refine w_dup gz_245_152 rfl ?_
      refine v_getI (j := 62) gz_245_153 rfl is_151 rd_10 rfl (fun v30 ev30 pv30 qv30 => ?_)
      refine w_iconst gz_245_156 (by decide) ?_
      refine w_ianyA gz_245_157 (fun v31 pv31 qv31 => ?_)
      refine v_putA (j := 62) gz_245_158 rfl is_151 rd_10 rfl rfl (fun h32 fh32 => ?_)
      have gh32 : my_fr [(10, 27), (10, 32), (10, 33), (10, 37), (10, 46), (10, 48), (10, 62), (10, 63), (10, 64), (10, 65), (61, -1), (62, -1), (73, -1), (74, -1), (75, -1), (76, -1), (77, -1), (78, -1), (79, -1), (80, -1), (81, -1), (82, -1), (83, -1), (84, -1), (85, -1), (86, -1), (88, -1), (89, -1), (90, -1), (91, -1), (92, -1), (93, -1), (94, -1)] h h32 := my_fr.up gh26 is_151 fh32 rfl
      have Mw_h32 : Mw h32 := Mw_ag (my_ag.up fh32 is_151 rfl) Mw_h26
      have Mw3_h32 : Mw3 h32 := Mw3_ag (my_ag.up fh32 is_151 rfl) Mw3_h26
      have Rws_h32 : Rws h32 := Rws_ag (my_ag.up fh32 is_151 rfl) Rws_h26
      refine w_iconst gz_245_161 (by decide) ?_
      refine w_istore (ls' := [(2, 151), (0, p141_0), (0, x2), (0, x3), (0, p141_1), (0, p141_2), (0, 0), (9, 0)]) gz_245_162 gm_245 rfl rfl rfl ?_
      refine w_iconst gz_245_164 (by decide) ?_
      refine w_istore (ls' := [(2, 151), (0, p141_0), (0, x2), (0, x3), (0, p141_1), (0, p141_2), (0, 0), (0, 0)]) gz_245_165 gm_245 rfl rfl rfl ?_
      have ce33 : h32 151 63 = k151_63 := ((my_up_fld fh32 (by decide)).trans ((my_up_fld fh26 (by decide)).trans c151_63_141_0))
      exact J167_0 7 (p141_0) (p141_1) (p141_2) (0) (0) (v31) (p141_3) (p141_5) h32 (gh32) (by omega) (by omega) (by omega) (by omega) (by omega) (by omega) (by omega) (by omega) (by omega) (by omega) (by omega) (by omega) (by omega) (by omega) (by omega) (by omega) (by omega) (by omega) (by omega) (by omega) ((my_up_self fh32).trans (by omega)) (((my_up_fld fh32 (by decide)).trans ((my_up_fld fh26 (by decide)).trans c151_63_141_0)).trans (by omega)) (((my_up_fld fh32 (by decide)).trans (my_up_self fh26)).trans (by omega)) (((my_up_fld fh32 (by decide)).trans ((my_up_fld fh26 (by decide)).trans c151_65_141_0)).trans (by omega)) Mw_h32 Mw3_h32 Rws_h32 (by first | assumption | omega | (subst_vars; omega) | omega) (by omega)
  have J16_0 : ∀ (n : Nat) (p16_0 p16_1 p16_2 p16_3 : Int) (h16_0 : my_H), my_fr [(10, 27), (10, 32), (10, 33), (10, 37), (10, 46), (10, 48), (10, 62), (10, 63), (10, 64), (10, 65), (61, -1), (62, -1), (73, -1), (74, -1), (75, -1), (76, -1), (77, -1), (78, -1), (79, -1), (80, -1), (81, -1), (82, -1), (83, -1), (84, -1), (85, -1), (86, -1), (88, -1), (89, -1), (90, -1), (91, -1), (92, -1), (93, -1), (94, -1)] h h16_0 → (-1) ≤ p16_0 → p16_0 ≤ 2 → 0 ≤ p16_1 → p16_1 ≤ 3 → 0 ≤ p16_2 → p16_2 ≤ 3 → 0 ≤ p16_3 → p16_3 ≤ 3 → p16_0 ≤ x1 → p16_1 ≤ p16_2 → p16_1 ≤ p16_3 → p16_2 ≤ p16_3 → x1 ≤ p16_0 → h16_0 151 63 = k151_63 → Mw h16_0 → Mw3 h16_0 → Rws h16_0 → h16_0 151 63 = h 151 63 → 4 - p16_3 ≤ (n : Int) → wp l rho (d + 8) 245 16 [(2, 151), (0, p16_0), (0, x2), (0, x3), (0, p16_1), (0, p16_2), (0, p16_3), (9, 0)] [] h16_0 Q := by
    intro n
    induction n with
    | zero => intro p16_0 p16_1 p16_2 p16_3 h16_0 gh_16_0 q0_16_0 q1_16_0 q2_16_0 q3_16_0 q4_16_0 q5_16_0 q6_16_0 q7_16_0 q8_16_0 q9_16_0 q10_16_0 q11_16_0 q12_16_0 c151_63_16_0 n_Mw_16_0 n_Mw3_16_0 n_Rws_16_0 ee_16_0 hm_16_0; exfalso; omega
    | succ n ih_16_0 =>
      intro p16_0 p16_1 p16_2 p16_3 h16_0 gh_16_0 q0_16_0 q1_16_0 q2_16_0 q3_16_0 q4_16_0 q5_16_0 q6_16_0 q7_16_0 q8_16_0 q9_16_0 q10_16_0 q11_16_0 q12_16_0 c151_63_16_0 n_Mw_16_0 n_Mw3_16_0 n_Rws_16_0 ee_16_0 hm_16_0
      have J106_0 : ∀ (p106_0 p106_1 p106_2 p106_3 : Int) (h106_0 : my_H), my_fr [(10, 27), (10, 32), (10, 33), (10, 37), (10, 46), (10, 48), (10, 62), (10, 63), (10, 64), (10, 65), (61, -1), (62, -1), (73, -1), (74, -1), (75, -1), (76, -1), (77, -1), (78, -1), (79, -1), (80, -1), (81, -1), (82, -1), (83, -1), (84, -1), (85, -1), (86, -1), (88, -1), (89, -1), (90, -1), (91, -1), (92, -1), (93, -1), (94, -1)] h h106_0 → 0 ≤ p106_0 → p106_0 ≤ 3 → 0 ≤ p106_1 → p106_1 ≤ 3 → 0 ≤ p106_2 → p106_2 ≤ 2 → (-1) ≤ p106_3 → p106_3 ≤ 2 → p16_1 ≤ 2 → p16_2 ≤ 2 → p16_3 ≤ 2 → p106_0 ≤ p106_1 → p106_0 ≤ (p106_2 + 1) → p106_0 ≤ (p106_3 + 3) → p106_0 ≤ (p16_1 + 1) → p106_0 ≤ (p16_2 + 1) → p106_0 ≤ (p16_3 + 1) → p106_1 ≤ (p106_2 + 1) → p106_1 ≤ (p106_3 + 3) → p106_1 ≤ (p16_2 + 1) → p106_1 ≤ (p16_3 + 1) → p106_2 ≤ p16_3 → p106_3 ≤ (p106_1 + 1) → p16_0 ≤ x1 → p16_1 ≤ p106_0 → p16_1 ≤ p106_1 → p16_1 ≤ p106_2 → p16_1 ≤ p16_2 → p16_1 ≤ p16_3 → p16_2 ≤ p106_1 → p16_2 ≤ p106_2 → p16_2 ≤ p16_3 → p16_3 ≤ p106_2 → x1 ≤ p16_0 → h106_0 151 63 = k151_63 → Mw h106_0 → Mw3 h106_0 → Rws h106_0 → wp l rho (d + 8) 245 106 [(2, 151), (0, p16_0), (0, x2), (0, x3), (0, p106_0), (0, p106_1), (0, p106_2), (0, p106_3)] [] h106_0 Q := by
        intro p106_0 p106_1 p106_2 p106_3 h106_0 gh_106_0 q0_106_0 q1_106_0 q2_106_0 q3_106_0 q4_106_0 q5_106_0 q6_106_0 q7_106_0 q8_106_0 q9_106_0 q10_106_0 q11_106_0 q12_106_0 q13_106_0 q14_106_0 q15_106_0 q16_106_0 q17_106_0 q18_106_0 q19_106_0 q20_106_0 q21_106_0 q22_106_0 q23_106_0 q24_106_0 q25_106_0 q26_106_0 q27_106_0 q28_106_0 q29_106_0 q30_106_0 q31_106_0 q32_106_0 q33_106_0 c151_63_106_0 n_Mw_106_0 n_Mw3_106_0 n_Rws_106_0
        refine w_iinc (ls' := [(2, 151), (0, p16_0), (0, x2), (0, x3), (0, p106_0), (0, p106_1), (0, (p106_2 + 1)), (0, p106_3)]) gz_245_106 rfl gm_245 rfl rfl rfl ⟨by omega, by omega⟩ ?_
        refine w_goto (t := 16) gz_245_109 rfl ?_
        have ce34 : h106_0 151 63 = k151_63 := c151_63_106_0
        refine w_weak (ls' := [(2, 151), (0, p16_0), (0, x2), (0, x3), (0, p106_0), (0, p106_1), (0, (p106_2 + 1)), (9, 0)]) (wk_e (wk_e (wk_e (wk_e (wk_e (wk_e (wk_e (wk_9 wk_n)))))))) ?_
        exact ih_16_0 (p16_0) (p106_0) (p106_1) ((p106_2 + 1)) h106_0 (gh_106_0) (by omega) (by omega) (by omega) (by omega) (by omega) (by omega) (by omega) (by omega) (by omega) (by omega) (by omega) (by omega) (by omega) (c151_63_106_0.trans (by omega)) n_Mw_106_0 n_Mw3_106_0 n_Rws_106_0 (by first | assumption | omega | (subst_vars; omega) | omega) (by omega)
      have J42_0 : ∀ (p42_0 p42_1 p42_2 p42_3 : Int) (h42_0 : my_H), my_fr [(10, 27), (10, 32), (10, 33), (10, 37), (10, 46), (10, 48), (10, 62), (10, 63), (10, 64), (10, 65), (61, -1), (62, -1), (73, -1), (74, -1), (75, -1), (76, -1), (77, -1), (78, -1), (79, -1), (80, -1), (81, -1), (82, -1), (83, -1), (84, -1), (85, -1), (86, -1), (88, -1), (89, -1), (90, -1), (91, -1), (92, -1), (93, -1), (94, -1)] h h42_0 → 0 ≤ p42_0 → p42_0 ≤ 2 → 0 ≤ p42_1 → p42_1 ≤ 2 → 0 ≤ p42_2 → p42_2 ≤ 2 → (-1) ≤ p42_3 → p42_3 ≤ 2 → p16_1 ≤ 2 → p16_2 ≤ 2 → p16_3 ≤ 2 → p42_0 ≤ p42_1 → p42_0 ≤ p42_2 → p42_0 ≤ p16_1 → p42_0 ≤ p16_2 → p42_0 ≤ p16_3 → p42_1 ≤ p42_2 → p42_1 ≤ p16_2 → p42_1 ≤ p16_3 → p42_2 ≤ p16_3 → p16_0 ≤ x1 → p16_1 ≤ p42_0 → p16_1 ≤ p42_1 → p16_1 ≤ p42_2 → p16_1 ≤ p16_2 → p16_1 ≤ p16_3 → p16_2 ≤ p42_1 → p16_2 ≤ p42_2 → p16_2 ≤ p16_3 → p16_3 ≤ p42_2 → x1 ≤ p16_0 → h42_0 151 63 = k151_63 → Mw h42_0 → Mw3 h42_0 → Rws h42_0 → wp l rho (d + 8) 245 42 [(2, 151), (0, p16_0), (0, x2), (0, x3), (0, p42_0), (0, p42_1), (0, p42_2), (9, 0)] [(0, p42_3)] h42_0 Q := by
        intro p42_0 p42_1 p42_2 p42_3 h42_0 gh_42_0 q0_42_0 q1_42_0 q2_42_0 q3_42_0 q4_42_0 q5_42_0 q6_42_0 q7_42_0 q8_42_0 q9_42_0 q10_42_0 q11_42_0 q12_42_0 q13_42_0 q14_42_0 q15_42_0 q16_42_0 q17_42_0 q18_42_0 q19_42_0 q20_42_0 q21_42_0 q22_42_0 q23_42_0 q24_42_0 q25_42_0 q26_42_0 q27_42_0 q28_42_0 q29_42_0 q30_42_0 c151_63_42_0 n_Mw_42_0 n_Mw3_42_0 n_Rws_42_0
        refine w_istore (ls' := [(2, 151), (0, p16_0), (0, x2), (0, x3), (0, p42_0), (0, p42_1), (0, p42_2), (0, p42_3)]) gz_245_42 gm_245 rfl rfl rfl ?_
        refine w_iload gz_245_44 rfl ?_
        refine w_iflt (t := 106) gz_245_46 rfl (fun u35 => ?_) (fun u35 => ?_)
        ·
          exact J106_0 (p42_0) (p42_1) (p42_2) (p42_3) h42_0 (gh_42_0) (by omega) (by omega) (by omega) (by omega) (by omega) (by omega) (by omega) (by omega) (by omega) (by omega) (by omega) (by omega) (by omega) (by omega) (by omega) (by omega) (by omega) (by omega) (by omega) (by omega) (by omega) (by omega) (by omega) (by omega) (by omega) (by omega) (by omega) (by omega) (by omega) (by omega) (by omega) (by omega) (by omega) (by omega) (c151_63_42_0.trans (by omega)) n_Mw_42_0 n_Mw3_42_0 n_Rws_42_0
        ·
          refine w_iinc (ls' := [(2, 151), (0, p16_0), (0, x2), (0, x3), (0, p42_0), (0, (p42_1 + 1)), (0, p42_2), (0, p42_3)]) gz_245_49 rfl gm_245 rfl rfl rfl ⟨by omega, by omega⟩ ?_
          refine w_iload gz_245_52 rfl ?_
          refine w_aload_n gz_245_54 rfl ?_
          refine w_bipush gz_245_55 (by decide) ?_
          refine w_aload_n gz_245_57 rfl ?_
          refine w_getX (v := 199) gz_245_58 is_151 rd_10 rfl (by decide) rfl ?_
          refine w_iload gz_245_61 rfl ?_
          refine w_iald gz_245_63 is_199 rd_98 (by omega) (by omega) (fun v37 ev37 pv37 qv37 => ?_)
          refine w_iconst gz_245_64 (by decide) ?_
          refine w_aload_n gz_245_65 rfl ?_
          refine w_getX (v := 200) gz_245_66 is_151 rd_10 rfl (by decide) rfl ?_
          refine w_iload gz_245_69 rfl ?_
          refine w_iald gz_245_71 is_200 rd_99 (by omega) (by omega) (fun v39 ev39 pv39 qv39 => ?_)
          refine w_bipush gz_245_72 (by decide) ?_
          refine w_ianyD gz_245_74 (by decide) (fun v40 pv40 qv40 => ?_)
          refine w_aload_n gz_245_75 rfl ?_
          refine w_getX (v := 200) gz_245_76 is_151 rd_10 rfl (by decide) rfl ?_
          refine w_iload gz_245_79 rfl ?_
          refine w_iald gz_245_81 is_200 rd_99 (by omega) (by omega) (fun v42 ev42 pv42 qv42 => ?_)
          have zv42 := ev42.trans ev39.symm
          refine w_bipush gz_245_82 (by decide) ?_
          refine w_ianyQ gz_245_84 (by decide) (fun v43 pv43 qv43 => ?_)
          refine w_aload_n gz_245_85 rfl ?_
          refine w_getX (v := 201) gz_245_86 is_151 rd_10 rfl (by decide) rfl ?_
          refine w_iload gz_245_89 rfl ?_
          refine w_iald gz_245_91 is_201 rd_100 (by omega) (by omega) (fun v45 ev45 pv45 qv45 => ?_)
          refine w_inv (k := 2) (as := [(0, v45), (0, v43), (0, v40), (0, 0), (0, v37), (0, 6)]) (r := [(0, p42_0)]) (x := 151) (ls0 := [(2, 151), (0, 6), (0, v37), (0, 0), (0, v40), (0, v43), (0, v45), (9, 0), (9, 0)]) gz_245_92 gm_223 rfl is_151 rd_10 rfl rfl rfl rfl rfl (c_Model_puts (d := d) (x1 := 6) (x2 := v37) (x3 := 0) (x4 := v40) (x5 := v43) (x6 := v45) (by omega) (by omega) n_Mw_42_0 n_Mw3_42_0 n_Rws_42_0 (by first | assumption | exact no_such_saying | exact Fp_told (by omega) (by omega) | omega | (subst_vars; omega) | omega) (fun h46 frh46 Rws_h46t47 => ?_) (fun h48 v49 frh48 w50 w51 w52 w53 w54 w55 Rws_h48t56 => ?_))
          ·
            have gh46 : my_fr [(10, 27), (10, 32), (10, 33), (10, 37), (10, 46), (10, 48), (10, 62), (10, 63), (10, 64), (10, 65), (61, -1), (62, -1), (73, -1), (74, -1), (75, -1), (76, -1), (77, -1), (78, -1), (79, -1), (80, -1), (81, -1), (82, -1), (83, -1), (84, -1), (85, -1), (86, -1), (88, -1), (89, -1), (90, -1), (91, -1), (92, -1), (93, -1), (94, -1)] h h46 := my_fr.tr gh_42_0 (frh46.mo rfl)
            have Mw_h46 : Mw h46 := Mw_ag (my_ag.fr frh46 rfl) n_Mw_42_0
            have Mw3_h46 : Mw3 h46 := Mw3_ag (my_ag.fr frh46 rfl) n_Mw3_42_0
            show wp l rho (d + 8) 245 95 [(2, 151), (0, p16_0), (0, x2), (0, x3), (0, p42_0), (0, (p42_1 + 1)), (0, p42_2), (0, p42_3)] [(0, (-1)), (0, p42_0)] h46 Q
            refine w_iflt (t := 102) gz_245_95 rfl (fun u57 => ?_) (fun u57 => by exfalso; omega)
            refine w_iconst gz_245_102 (by decide) ?_
            refine w_iadd gz_245_103 ⟨by omega, by omega⟩ ?_
            refine w_istore (ls' := [(2, 151), (0, p16_0), (0, x2), (0, x3), (0, (p42_0 + 0)), (0, (p42_1 + 1)), (0, p42_2), (0, p42_3)]) gz_245_104 gm_245 rfl rfl rfl ?_
            exact J106_0 ((p42_0 + 0)) ((p42_1 + 1)) (p42_2) (p42_3) h46 (gh46) (by omega) (by omega) (by omega) (by omega) (by omega) (by omega) (by omega) (by omega) (by omega) (by omega) (by omega) (by omega) (by omega) (by omega) (by omega) (by omega) (by omega) (by omega) (by omega) (by omega) (by omega) (by omega) (by omega) (by omega) (by omega) (by omega) (by omega) (by omega) (by omega) (by omega) (by omega) (by omega) (by omega) (by omega) (((my_fr.at frh46 is_151 rfl).trans c151_63_42_0).trans (by omega)) Mw_h46 Mw3_h46 Rws_h46t47
          ·
            have gh48 : my_fr [(10, 27), (10, 32), (10, 33), (10, 37), (10, 46), (10, 48), (10, 62), (10, 63), (10, 64), (10, 65), (61, -1), (62, -1), (73, -1), (74, -1), (75, -1), (76, -1), (77, -1), (78, -1), (79, -1), (80, -1), (81, -1), (82, -1), (83, -1), (84, -1), (85, -1), (86, -1), (88, -1), (89, -1), (90, -1), (91, -1), (92, -1), (93, -1), (94, -1)] h h48 := my_fr.tr gh_42_0 (frh48.mo rfl)
            have Mw_h48 : Mw h48 := Mw_ag (my_ag.fr frh48 rfl) n_Mw_42_0
            have Mw3_h48 : Mw3 h48 := Mw3_ag (my_ag.fr frh48 rfl) n_Mw3_42_0
            show wp l rho (d + 8) 245 95 [(2, 151), (0, p16_0), (0, x2), (0, x3), (0, p42_0), (0, (p42_1 + 1)), (0, p42_2), (0, p42_3)] [(0, v49), (0, p42_0)] h48 Q
            refine w_iflt (t := 102) gz_245_95 rfl (fun u58 => by exfalso; omega) (fun u58 => ?_)
            refine w_iconst gz_245_98 (by decide) ?_
            refine w_goto (t := 103) gz_245_99 rfl ?_
            refine w_iadd gz_245_103 ⟨by omega, by omega⟩ ?_
            refine w_istore (ls' := [(2, 151), (0, p16_0), (0, x2), (0, x3), (0, (p42_0 + 1)), (0, (p42_1 + 1)), (0, p42_2), (0, p42_3)]) gz_245_104 gm_245 rfl rfl rfl ?_
            exact J106_0 ((p42_0 + 1)) ((p42_1 + 1)) (p42_2) (p42_3) h48 (gh48) (by omega) (by omega) (by omega) (by omega) (by omega) (by omega) (by omega) (by omega) (by omega) (by omega) (by omega) (by omega) (by omega) (by omega) (by omega) (by omega) (by omega) (by omega) (by omega) (by omega) (by omega) (by omega) (by omega) (by omega) (by omega) (by omega) (by omega) (by omega) (by omega) (by omega) (by omega) (by omega) (by omega) (by omega) (((my_fr.at frh48 is_151 rfl).trans c151_63_42_0).trans (by omega)) Mw_h48 Mw3_h48 Rws_h48t56
      refine w_iload gz_245_16 rfl ?_
      refine w_iconst gz_245_18 (by decide) ?_
      refine w_icge (t := 112) gz_245_19 rfl (fun u59 => ?_) (fun u59 => ?_)
      ·
        refine w_aload_n gz_245_112 rfl ?_
        refine w_dup gz_245_113 rfl ?_
        refine v_getI (j := 65) gz_245_114 rfl is_151 rd_10 rfl (fun v60 ev60 pv60 qv60 => ?_)
        refine w_iconst gz_245_117 (by decide) ?_
        refine w_ianyA gz_245_118 (fun v61 pv61 qv61 => ?_)
        refine v_putA (j := 65) gz_245_119 rfl is_151 rd_10 rfl rfl (fun h62 fh62 => ?_)
        have gh62 : my_fr [(10, 27), (10, 32), (10, 33), (10, 37), (10, 46), (10, 48), (10, 62), (10, 63), (10, 64), (10, 65), (61, -1), (62, -1), (73, -1), (74, -1), (75, -1), (76, -1), (77, -1), (78, -1), (79, -1), (80, -1), (81, -1), (82, -1), (83, -1), (84, -1), (85, -1), (86, -1), (88, -1), (89, -1), (90, -1), (91, -1), (92, -1), (93, -1), (94, -1)] h h62 := my_fr.up gh_16_0 is_151 fh62 rfl
        have Mw_h62 : Mw h62 := Mw_ag (my_ag.up fh62 is_151 rfl) n_Mw_16_0
        have Mw3_h62 : Mw3 h62 := Mw3_ag (my_ag.up fh62 is_151 rfl) n_Mw3_16_0
        have Rws_h62 : Rws h62 := Rws_ag (my_ag.up fh62 is_151 rfl) n_Rws_16_0
        refine w_aload_n gz_245_122 rfl ?_
        refine w_iload gz_245_123 rfl ?_
        refine w_aload_n gz_245_125 rfl ?_
        refine v_getI (j := 64) gz_245_126 rfl is_151 rd_10 rfl (fun v63 ev63 pv63 qv63 => ?_)
        refine w_icle (t := 137) gz_245_129 rfl (fun u64 => ?_) (fun u64 => ?_)
        ·
          refine w_aload_n gz_245_137 rfl ?_
          refine v_getI (j := 64) gz_245_138 rfl is_151 rd_10 rfl (fun v65 ev65 pv65 qv65 => ?_)
          have zv65 := ev65.trans ev63.symm
          rw [show (p16_3 : Int) = 3 from by omega]
          exact J141_0 (p16_0) (p16_1) (p16_2) (v65) (v65) (v61) h62 (gh62) (by omega) (by omega) (by omega) (by omega) (by omega) (by omega) (by omega) (by omega) (by omega) (by omega) (by omega) (by omega) (((my_up_fld fh62 (by decide)).trans c151_63_16_0).trans (by omega)) (ev65.symm.trans (by omega)) ((my_up_self fh62).trans (by omega)) Mw_h62 Mw3_h62 Rws_h62
        ·
          refine w_iload gz_245_132 rfl ?_
          refine w_goto (t := 141) gz_245_134 rfl ?_
          rw [show (p16_3 : Int) = 3 from by omega]
          exact J141_0 (p16_0) (p16_1) (p16_2) (p16_1) (v63) (v61) h62 (gh62) (by omega) (by omega) (by omega) (by omega) (by omega) (by omega) (by omega) (by omega) (by omega) (by omega) (by omega) (by omega) (((my_up_fld fh62 (by decide)).trans c151_63_16_0).trans (by omega)) (ev63.symm.trans (by omega)) ((my_up_self fh62).trans (by omega)) Mw_h62 Mw3_h62 Rws_h62
      ·
        refine w_iload gz_245_22 rfl ?_
        refine w_ifne (t := 31) gz_245_24 rfl (fun u66 => ?_) (fun u66 => ?_)
        ·
          refine w_iload gz_245_31 rfl ?_
          refine w_iconst gz_245_33 (by decide) ?_
          refine w_icne (t := 41) gz_245_34 rfl (fun u67 => ?_) (fun u67 => ?_)
          ·
            refine w_iload_n gz_245_41 rfl ?_
            exact J42_0 (p16_1) (p16_2) (p16_3) (x3) h16_0 (gh_16_0) (by omega) (by omega) (by omega) (by omega) (by omega) (by omega) (by omega) (by omega) (by omega) (by omega) (by omega) (by omega) (by omega) (by omega) (by omega) (by omega) (by omega) (by omega) (by omega) (by omega) (by omega) (by omega) (by omega) (by omega) (by omega) (by omega) (by omega) (by omega) (by omega) (by omega) (by omega) (c151_63_16_0.trans (by omega)) n_Mw_16_0 n_Mw3_16_0 n_Rws_16_0
          ·
            refine w_iload_n gz_245_37 rfl ?_
            refine w_goto (t := 42) gz_245_38 rfl ?_
            exact J42_0 (p16_1) (p16_2) (p16_3) (x2) h16_0 (gh_16_0) (by omega) (by omega) (by omega) (by omega) (by omega) (by omega) (by omega) (by omega) (by omega) (by omega) (by omega) (by omega) (by omega) (by omega) (by omega) (by omega) (by omega) (by omega) (by omega) (by omega) (by omega) (by omega) (by omega) (by omega) (by omega) (by omega) (by omega) (by omega) (by omega) (by omega) (by omega) (c151_63_16_0.trans (by omega)) n_Mw_16_0 n_Mw3_16_0 n_Rws_16_0
        ·
          refine w_iload_n gz_245_27 rfl ?_
          refine w_goto (t := 42) gz_245_28 rfl ?_
          exact J42_0 (p16_1) (p16_2) (p16_3) (p16_0) h16_0 (gh_16_0) (by omega) (by omega) (by omega) (by omega) (by omega) (by omega) (by omega) (by omega) (by omega) (by omega) (by omega) (by omega) (by omega) (by omega) (by omega) (by omega) (by omega) (by omega) (by omega) (by omega) (by omega) (by omega) (by omega) (by omega) (by omega) (by omega) (by omega) (by omega) (by omega) (by omega) (by omega) (c151_63_16_0.trans (by omega)) n_Mw_16_0 n_Mw3_16_0 n_Rws_16_0
  refine w_aload_n gz_245_0 rfl ?_
  refine w_iconst gz_245_1 (by decide) ?_
  refine w_bipush gz_245_2 (by decide) ?_
  refine w_inv (k := 1) (as := [(0, 6), (0, 0)]) (r := []) (x := 151) (ls0 := [(2, 151), (0, 0), (0, 6), (9, 0)]) gz_245_4 gm_152 rfl is_151 rd_10 rfl rfl rfl rfl rfl (c_Model_copies2 (d := (d + 7)) (x1 := 0) (x2 := 6) (by omega) (by omega) (by omega) (by omega) n_Rws (fun h68 frh68 xp69 Rws_h68t70 => ?_))
  have gh68 : my_fr [(10, 27), (10, 32), (10, 33), (10, 37), (10, 46), (10, 48), (10, 62), (10, 63), (10, 64), (10, 65), (61, -1), (62, -1), (73, -1), (74, -1), (75, -1), (76, -1), (77, -1), (78, -1), (79, -1), (80, -1), (81, -1), (82, -1), (83, -1), (84, -1), (85, -1), (86, -1), (88, -1), (89, -1), (90, -1), (91, -1), (92, -1), (93, -1), (94, -1)] h h68 := my_fr.tr my_fr.rf (frh68.mo rfl)
  have Mw_h68 : Mw h68 := Mw_ag (my_ag.fr frh68 rfl) n_Mw
  have Mw3_h68 : Mw3 h68 := Mw3_ag (my_ag.fr frh68 rfl) n_Mw3
  show wp l rho (d + 8) 245 7 [(2, 151), (0, x1), (0, x2), (0, x3), (9, 0), (9, 0), (9, 0), (9, 0)] [] h68 Q
  refine w_iconst gz_245_7 (by decide) ?_
  refine w_istore (ls' := [(2, 151), (0, x1), (0, x2), (0, x3), (0, 0), (9, 0), (9, 0), (9, 0)]) gz_245_8 gm_245 rfl rfl rfl ?_
  refine w_iconst gz_245_10 (by decide) ?_
  refine w_istore (ls' := [(2, 151), (0, x1), (0, x2), (0, x3), (0, 0), (0, 0), (9, 0), (9, 0)]) gz_245_11 gm_245 rfl rfl rfl ?_
  refine w_iconst gz_245_13 (by decide) ?_
  refine w_istore (ls' := [(2, 151), (0, x1), (0, x2), (0, x3), (0, 0), (0, 0), (0, 0), (9, 0)]) gz_245_14 gm_245 rfl rfl rfl ?_
  have ce71 : h68 151 63 = k151_63 := ((my_fr.at frh68 is_151 rfl).trans ek151_63.symm)
  exact J16_0 4 (x1) (0) (0) (0) h68 (gh68) (by omega) (by omega) (by omega) (by omega) (by omega) (by omega) (by omega) (by omega) (by omega) (by omega) (by omega) (by omega) (by omega) (((my_fr.at frh68 is_151 rfl).trans ek151_63.symm).trans (by omega)) Mw_h68 Mw3_h68 Rws_h68t70 (by first | assumption | omega | (subst_vars; omega) | omega) (by omega)
theorem c_Model_carried {l : Launch} {rho : Nat → Int32} {d : Nat} {h : my_H} {Q : my_H → my_V → Prop} {x1 x2 : Int} (n_Mw : Mw h) (n_Mw3 : Mw3 h) (n_Rws : Rws h) (k0 : ∀ (h' : my_H), my_fr [(10, 0), (10, 27), (10, 32), (10, 33), (10, 37), (10, 46), (73, -1), (74, -1), (75, -1), (76, -1), (77, -1), (78, -1), (79, -1), (80, -1), (81, -1), (82, -1), (83, -1), (84, -1), (85, -1), (86, -1), (88, -1)] h h' → h' 151 0 = 0 → Q h' (0, (-1))) (k1 : ∀ (h' : my_H) (y : Int), my_fr [(10, 0), (10, 27), (10, 32), (10, 33), (10, 37), (10, 46), (73, -1), (74, -1), (75, -1), (76, -1), (77, -1), (78, -1), (79, -1), (80, -1), (81, -1), (82, -1), (83, -1), (84, -1), (85, -1), (86, -1), (88, -1)] h h' → 0 ≤ y → y ≤ 10 → 0 ≤ x1 → x1 ≤ 5 → 0 ≤ x2 → x2 ≤ 1 → h' 151 0 = 0 → h' 151 55 = 1 → Q h' (0, y)) : wp l rho (d + 5) 246 0 [(2, 151), (0, x1), (0, x2)] [] h Q := by
  refine w_aload_n gz_246_0 rfl ?_
  refine w_iconst gz_246_1 (by decide) ?_
  refine v_putI (j := 0) gz_246_2 rfl is_151 rd_10 rfl (by omega) (by omega) rfl (fun h1 fh1 => ?_)
  have gh1 : my_fr [(10, 0), (10, 27), (10, 32), (10, 33), (10, 37), (10, 46), (73, -1), (74, -1), (75, -1), (76, -1), (77, -1), (78, -1), (79, -1), (80, -1), (81, -1), (82, -1), (83, -1), (84, -1), (85, -1), (86, -1), (88, -1)] h h1 := my_fr.up my_fr.rf is_151 fh1 rfl
  have Mw_h1 : Mw h1 := Mw_ag (my_ag.up fh1 is_151 rfl) n_Mw
  have Mw3_h1 : Mw3 h1 := Mw3_ag (my_ag.up fh1 is_151 rfl) n_Mw3
  have Rws_h1 : Rws h1 := Rws_ag (my_ag.up fh1 is_151 rfl) n_Rws
  refine w_aload_n gz_246_5 rfl ?_
  refine w_iload_n gz_246_6 rfl ?_
  refine w_inv (k := 0) (as := [(0, x1)]) (r := []) (x := 151) (ls0 := [(2, 151), (0, x1)]) gz_246_7 gm_193 rfl is_151 rd_10 rfl rfl rfl rfl rfl ?_
  refine w_iload_n gz_193_0 rfl ?_
  refine w_iflt (t := 23) gz_193_1 rfl (fun u2 => ?_) (fun u2 => ?_)
  ·
    refine w_iconst gz_193_23 (by decide) ?_
    refine w_bret gz_193_24 gm_193 (by omega) (by omega) ?_
    show wp l rho (d + 5) 246 10 [(2, 151), (0, x1), (0, x2)] [(0, 0)] h1 Q
    refine w_ifeq (t := 29) gz_246_10 rfl (fun u3 => ?_) (fun u3 => by exfalso; omega)
    refine w_iconst gz_246_29 (by decide) ?_
    have c4 := (my_up_self fh1)
    exact w_iret gz_246_30 gm_246 (k0 h1 (gh1) (by omega))
  ·
    refine w_iload_n gz_193_4 rfl ?_
    refine w_bipush gz_193_5 (by decide) ?_
    refine w_icge (t := 23) gz_193_7 rfl (fun u5 => ?_) (fun u5 => ?_)
    ·
      refine w_iconst gz_193_23 (by decide) ?_
      refine w_bret gz_193_24 gm_193 (by omega) (by omega) ?_
      show wp l rho (d + 5) 246 10 [(2, 151), (0, x1), (0, x2)] [(0, 0)] h1 Q
      refine w_ifeq (t := 29) gz_246_10 rfl (fun u6 => ?_) (fun u6 => by exfalso; omega)
      refine w_iconst gz_246_29 (by decide) ?_
      have c7 := (my_up_self fh1)
      exact w_iret gz_246_30 gm_246 (k0 h1 (gh1) (by omega))
    ·
      refine w_aload_n gz_193_10 rfl ?_
      refine w_getX (v := 164) gz_193_11 is_151 rd_10 rfl (by decide) rfl ?_
      refine w_iload_n gz_193_14 rfl ?_
      refine w_bald gz_193_15 is_164 rd_63 (by omega) (by omega) (fun v9 ev9 pv9 qv9 => ?_)
      refine w_ifeq (t := 23) gz_193_16 rfl (fun u10 => ?_) (fun u10 => ?_)
      ·
        refine w_iconst gz_193_23 (by decide) ?_
        refine w_bret gz_193_24 gm_193 (by omega) (by omega) ?_
        show wp l rho (d + 5) 246 10 [(2, 151), (0, x1), (0, x2)] [(0, 0)] h1 Q
        refine w_ifeq (t := 29) gz_246_10 rfl (fun u11 => ?_) (fun u11 => by exfalso; omega)
        refine w_iconst gz_246_29 (by decide) ?_
        have c12 := (my_up_self fh1)
        exact w_iret gz_246_30 gm_246 (k0 h1 (gh1) (by omega))
      ·
        refine w_iconst gz_193_19 (by decide) ?_
        refine w_goto (t := 24) gz_193_20 rfl ?_
        refine w_bret gz_193_24 gm_193 (by omega) (by omega) ?_
        show wp l rho (d + 5) 246 10 [(2, 151), (0, x1), (0, x2)] [(0, 1)] h1 Q
        refine w_ifeq (t := 29) gz_246_10 rfl (fun u13 => by exfalso; omega) (fun u13 => ?_)
        refine w_iload_n gz_246_13 rfl ?_
        refine w_iconst gz_246_14 (by decide) ?_
        refine w_iconst gz_246_15 (by decide) ?_
        refine w_inS (k := 0) (as := [(0, 1), (0, 0), (0, x2)]) (r := []) (ls0 := [(0, x2), (0, 0), (0, 1)]) gz_246_16 gm_147 rfl rfl rfl rfl rfl rfl ?_
        refine w_iload_n gz_147_0 rfl ?_
        refine w_iload_n gz_147_1 rfl ?_
        refine w_iclt (t := 14) gz_147_2 rfl (fun u14 => ?_) (fun u14 => ?_)
        ·
          refine w_iconst gz_147_14 (by decide) ?_
          refine w_bret gz_147_15 gm_147 (by omega) (by omega) ?_
          show wp l rho (d + 5) 246 19 [(2, 151), (0, x1), (0, x2)] [(0, 0)] h1 Q
          refine w_ifeq (t := 29) gz_246_19 rfl (fun u15 => ?_) (fun u15 => by exfalso; omega)
          refine w_iconst gz_246_29 (by decide) ?_
          have c16 := (my_up_self fh1)
          exact w_iret gz_246_30 gm_246 (k0 h1 (gh1) (by omega))
        ·
          refine w_iload_n gz_147_5 rfl ?_
          refine w_iload_n gz_147_6 rfl ?_
          refine w_icgt (t := 14) gz_147_7 rfl (fun u17 => ?_) (fun u17 => ?_)
          ·
            refine w_iconst gz_147_14 (by decide) ?_
            refine w_bret gz_147_15 gm_147 (by omega) (by omega) ?_
            show wp l rho (d + 5) 246 19 [(2, 151), (0, x1), (0, x2)] [(0, 0)] h1 Q
            refine w_ifeq (t := 29) gz_246_19 rfl (fun u18 => ?_) (fun u18 => by exfalso; omega)
            refine w_iconst gz_246_29 (by decide) ?_
            have c19 := (my_up_self fh1)
            exact w_iret gz_246_30 gm_246 (k0 h1 (gh1) (by omega))
          ·
            refine w_iconst gz_147_10 (by decide) ?_
            refine w_goto (t := 15) gz_147_11 rfl ?_
            refine w_bret gz_147_15 gm_147 (by omega) (by omega) ?_
            show wp l rho (d + 5) 246 19 [(2, 151), (0, x1), (0, x2)] [(0, 1)] h1 Q
            refine w_ifeq (t := 29) gz_246_19 rfl (fun u20 => by exfalso; omega) (fun u20 => ?_)
            refine w_aload_n gz_246_22 rfl ?_
            refine v_getI (j := 55) gz_246_23 rfl is_151 rd_10 rfl (fun v21 ev21 pv21 qv21 => ?_)
            refine w_ifne (t := 31) gz_246_26 rfl (fun u22 => ?_) (fun u22 => ?_)
            ·
              refine w_iload_n gz_246_31 rfl ?_
              refine w_ifne (t := 46) gz_246_32 rfl (fun u23 => ?_) (fun u23 => ?_)
              ·
                refine w_aload_n gz_246_46 rfl ?_
                refine w_bipush gz_246_47 (by decide) ?_
                refine w_iconst gz_246_49 (by decide) ?_
                refine w_iload_n gz_246_50 rfl ?_
                have Fp_h1t24 : Fp h1 x1 := Fp_told (by omega) (by omega)
                refine w_inv (k := 7) (as := [(0, x1), (0, 0), (0, 9)]) (r := []) (x := 151) (ls0 := [(2, 151), (0, 9), (0, 0), (0, x1), (9, 0), (9, 0), (9, 0), (9, 0), (9, 0), (9, 0), (9, 0)]) gz_246_51 gm_247 rfl is_151 rd_10 rfl rfl rfl rfl rfl (c_Model_more (d := d) (x1 := 9) (x2 := 0) (x3 := x1) (by omega) (by omega) (by omega) (by omega) (by omega) (by omega) Mw_h1 Mw3_h1 Rws_h1 Fp_h1t24 (fun h25 v26 frh25 w27 w28 => ?_))
                have gh25 : my_fr [(10, 0), (10, 27), (10, 32), (10, 33), (10, 37), (10, 46), (73, -1), (74, -1), (75, -1), (76, -1), (77, -1), (78, -1), (79, -1), (80, -1), (81, -1), (82, -1), (83, -1), (84, -1), (85, -1), (86, -1), (88, -1)] h h25 := my_fr.tr gh1 (frh25.mo rfl)
                have Mw_h25 : Mw h25 := Mw_ag (my_ag.fr frh25 rfl) Mw_h1
                have Mw3_h25 : Mw3 h25 := Mw3_ag (my_ag.fr frh25 rfl) Mw3_h1
                have Rws_h25 : Rws h25 := Rws_ag (my_ag.fr frh25 rfl) Rws_h1
                have Fp_h25 : Fp h25 x1 := Fp_ag (my_ag.fr frh25 rfl) Fp_h1t24
                show wp l rho (d + 5) 246 54 [(2, 151), (0, x1), (0, x2)] [(0, v26)] h25 Q
                have c29 := ((my_fr.at frh25 is_151 rfl).trans (my_up_self fh1))
                have c30 := ((my_fr.at frh25 is_151 rfl).trans ev21.symm)
                exact w_iret gz_246_54 gm_246 (k1 h25 (v26) (gh25) (by omega) (by omega) (by omega) (by omega) (by omega) (by omega) (by omega) (by omega))
              ·
                refine w_aload_n gz_246_35 rfl ?_
                refine w_iconst gz_246_36 (by decide) ?_
                refine w_bipush gz_246_37 (by decide) ?_
                refine w_iload_n gz_246_39 rfl ?_
                have Fp_h1t31 : Fp h1 x1 := Fp_told (by omega) (by omega)
                refine w_inv (k := 7) (as := [(0, x1), (0, 9), (0, 0)]) (r := []) (x := 151) (ls0 := [(2, 151), (0, 0), (0, 9), (0, x1), (9, 0), (9, 0), (9, 0), (9, 0), (9, 0), (9, 0), (9, 0)]) gz_246_40 gm_247 rfl is_151 rd_10 rfl rfl rfl rfl rfl (c_Model_more (d := d) (x1 := 0) (x2 := 9) (x3 := x1) (by omega) (by omega) (by omega) (by omega) (by omega) (by omega) Mw_h1 Mw3_h1 Rws_h1 Fp_h1t31 (fun h32 v33 frh32 w34 w35 => ?_))
                have gh32 : my_fr [(10, 0), (10, 27), (10, 32), (10, 33), (10, 37), (10, 46), (73, -1), (74, -1), (75, -1), (76, -1), (77, -1), (78, -1), (79, -1), (80, -1), (81, -1), (82, -1), (83, -1), (84, -1), (85, -1), (86, -1), (88, -1)] h h32 := my_fr.tr gh1 (frh32.mo rfl)
                have Mw_h32 : Mw h32 := Mw_ag (my_ag.fr frh32 rfl) Mw_h1
                have Mw3_h32 : Mw3 h32 := Mw3_ag (my_ag.fr frh32 rfl) Mw3_h1
                have Rws_h32 : Rws h32 := Rws_ag (my_ag.fr frh32 rfl) Rws_h1
                have Fp_h32 : Fp h32 x1 := Fp_ag (my_ag.fr frh32 rfl) Fp_h1t31
                show wp l rho (d + 5) 246 43 [(2, 151), (0, x1), (0, x2)] [(0, v33)] h32 Q
                refine w_goto (t := 54) gz_246_43 rfl ?_
                have c36 := ((my_fr.at frh32 is_151 rfl).trans (my_up_self fh1))
                have c37 := ((my_fr.at frh32 is_151 rfl).trans ev21.symm)
                exact w_iret gz_246_54 gm_246 (k1 h32 (v33) (gh32) (by omega) (by omega) (by omega) (by omega) (by omega) (by omega) (by omega) (by omega))
            ·
              refine w_iconst gz_246_29 (by decide) ?_
              have c38 := (my_up_self fh1)
              exact w_iret gz_246_30 gm_246 (k0 h1 (gh1) (by omega))
theorem c_Model_ways {l : Launch} {rho : Nat → Int32} {d : Nat} {h : my_H} {Q : my_H → my_V → Prop} {x1 x2 x3 x4 x5 : Int} (n_Mw : Mw h) (n_Mw3 : Mw3 h) (n_Rws : Rws h) (k0 : ∀ (h' : my_H), my_fr [(10, 0), (10, 27), (10, 32), (10, 33), (10, 37), (10, 46), (10, 48), (61, -1), (62, -1), (73, -1), (74, -1), (75, -1), (76, -1), (77, -1), (78, -1), (79, -1), (80, -1), (81, -1), (82, -1), (83, -1), (84, -1), (85, -1), (86, -1), (88, -1), (89, -1), (90, -1), (91, -1), (92, -1), (93, -1), (94, -1)] h h' → h' 151 0 = 0 → Rws h' → Q h' (0, (-1))) (k1 : ∀ (h' : my_H) (y : Int), my_fr [(10, 0), (10, 27), (10, 32), (10, 33), (10, 37), (10, 46), (10, 48), (61, -1), (62, -1), (73, -1), (74, -1), (75, -1), (76, -1), (77, -1), (78, -1), (79, -1), (80, -1), (81, -1), (82, -1), (83, -1), (84, -1), (85, -1), (86, -1), (88, -1), (89, -1), (90, -1), (91, -1), (92, -1), (93, -1), (94, -1)] h h' → 0 ≤ y → y ≤ 1800 → 0 ≤ x1 → x1 ≤ 5 → 0 ≤ x2 → x2 ≤ 2 → h' 151 0 = 0 → Rws h' → Q h' (0, y)) : wp l rho (d + 7) 207 0 [(2, 151), (0, x1), (0, x2), (0, x3), (0, x4), (0, x5)] [] h Q := by
  refine w_aload_n gz_207_0 rfl ?_
  refine w_iconst gz_207_1 (by decide) ?_
  refine v_putI (j := 0) gz_207_2 rfl is_151 rd_10 rfl (by omega) (by omega) rfl (fun h1 fh1 => ?_)
  have gh1 : my_fr [(10, 0), (10, 27), (10, 32), (10, 33), (10, 37), (10, 46), (10, 48), (61, -1), (62, -1), (73, -1), (74, -1), (75, -1), (76, -1), (77, -1), (78, -1), (79, -1), (80, -1), (81, -1), (82, -1), (83, -1), (84, -1), (85, -1), (86, -1), (88, -1), (89, -1), (90, -1), (91, -1), (92, -1), (93, -1), (94, -1)] h h1 := my_fr.up my_fr.rf is_151 fh1 rfl
  have Mw_h1 : Mw h1 := Mw_ag (my_ag.up fh1 is_151 rfl) n_Mw
  have Mw3_h1 : Mw3 h1 := Mw3_ag (my_ag.up fh1 is_151 rfl) n_Mw3
  have Rws_h1 : Rws h1 := Rws_ag (my_ag.up fh1 is_151 rfl) n_Rws
  refine w_aload_n gz_207_5 rfl ?_
  refine w_iconst gz_207_6 (by decide) ?_
  refine w_iload_n gz_207_7 rfl ?_
  refine w_iload_n gz_207_8 rfl ?_
  refine w_iload_n gz_207_9 rfl ?_
  refine w_iload gz_207_10 rfl ?_
  refine w_iload gz_207_12 rfl ?_
  refine w_inv (k := 1) (as := [(0, x5), (0, x4), (0, x3), (0, x2), (0, x1), (0, 0)]) (r := []) (x := 151) (ls0 := [(2, 151), (0, 0), (0, x1), (0, x2), (0, x3), (0, x4), (0, x5), (9, 0)]) gz_207_14 gm_208 rfl is_151 rd_10 rfl rfl rfl rfl rfl (c_Model_isEdit (d := (d + 2)) (x1 := 0) (x2 := x1) (x3 := x2) (x4 := x3) (x5 := x4) (x6 := x5) (by omega) (by omega) Mw_h1 Mw3_h1 Rws_h1 (fun h2 frh2 => ?_) (fun h3 frh3 w4 w5 w6 w7 xp8 xp9 xp10 xp11 xp12 xp13 xp14 xp15 => ?_))
  ·
    have gh2 : my_fr [(10, 0), (10, 27), (10, 32), (10, 33), (10, 37), (10, 46), (10, 48), (61, -1), (62, -1), (73, -1), (74, -1), (75, -1), (76, -1), (77, -1), (78, -1), (79, -1), (80, -1), (81, -1), (82, -1), (83, -1), (84, -1), (85, -1), (86, -1), (88, -1), (89, -1), (90, -1), (91, -1), (92, -1), (93, -1), (94, -1)] h h2 := my_fr.tr gh1 (frh2.mo rfl)
    have Mw_h2 : Mw h2 := Mw_ag (my_ag.fr frh2 rfl) Mw_h1
    have Mw3_h2 : Mw3 h2 := Mw3_ag (my_ag.fr frh2 rfl) Mw3_h1
    have Rws_h2 : Rws h2 := Rws_ag (my_ag.fr frh2 rfl) Rws_h1
    show wp l rho (d + 7) 207 17 [(2, 151), (0, x1), (0, x2), (0, x3), (0, x4), (0, x5)] [(0, 0)] h2 Q
    refine w_ifne (t := 22) gz_207_17 rfl (fun u16 => by exfalso; omega) (fun u16 => ?_)
    refine w_iconst gz_207_20 (by decide) ?_
    have c17 := ((my_fr.at frh2 is_151 rfl).trans (my_up_self fh1))
    exact w_iret gz_207_21 gm_207 (k0 h2 (gh2) (by omega) Rws_h2)
  ·
    have gh3 : my_fr [(10, 0), (10, 27), (10, 32), (10, 33), (10, 37), (10, 46), (10, 48), (61, -1), (62, -1), (73, -1), (74, -1), (75, -1), (76, -1), (77, -1), (78, -1), (79, -1), (80, -1), (81, -1), (82, -1), (83, -1), (84, -1), (85, -1), (86, -1), (88, -1), (89, -1), (90, -1), (91, -1), (92, -1), (93, -1), (94, -1)] h h3 := my_fr.tr gh1 (frh3.mo rfl)
    have Mw_h3 : Mw h3 := Mw_ag (my_ag.fr frh3 rfl) Mw_h1
    have Mw3_h3 : Mw3 h3 := Mw3_ag (my_ag.fr frh3 rfl) Mw3_h1
    have Rws_h3 : Rws h3 := Rws_ag (my_ag.fr frh3 rfl) Rws_h1
    show wp l rho (d + 7) 207 17 [(2, 151), (0, x1), (0, x2), (0, x3), (0, x4), (0, x5)] [(0, 1)] h3 Q
    have Fp_h3t18 : Fp h3 x1 := xp10
    refine w_ifne (t := 22) gz_207_17 rfl (fun u19 => ?_) (fun u19 => by exfalso; omega)
    refine w_aload_n gz_207_22 rfl ?_
    refine w_iconst gz_207_23 (by decide) ?_
    refine w_iload_n gz_207_24 rfl ?_
    refine w_iload_n gz_207_25 rfl ?_
    refine w_iload_n gz_207_26 rfl ?_
    refine w_iload gz_207_27 rfl ?_
    refine w_iload gz_207_29 rfl ?_
    refine w_inv (k := 4) (as := [(0, x5), (0, x4), (0, x3), (0, x2), (0, x1), (0, 0)]) (r := []) (x := 151) (ls0 := [(2, 151), (0, 0), (0, x1), (0, x2), (0, x3), (0, x4), (0, x5), (9, 0), (9, 0), (9, 0), (9, 0)]) gz_207_31 gm_209 rfl is_151 rd_10 rfl rfl rfl rfl rfl (c_Model_findWays (d := d) (x1 := 0) (x2 := x1) (x3 := x2) (x4 := x3) (x5 := x4) (x6 := x5) (by omega) (by omega) (by omega) (by omega) (by omega) (by omega) Mw_h3 Mw3_h3 Rws_h3 Fp_h3t18 (by first | assumption | exact Fp_h3t18 | exact Fp_told (by omega) (by omega) | omega | (subst_vars; omega) | omega) (by first | assumption | exact Fp_h3t18 | exact Fp_told (by omega) (by omega) | omega | (subst_vars; omega) | omega) (fun h20 frh20 Rws_h20t21 Wys_h20t22 => ?_))
    have gh20 : my_fr [(10, 0), (10, 27), (10, 32), (10, 33), (10, 37), (10, 46), (10, 48), (61, -1), (62, -1), (73, -1), (74, -1), (75, -1), (76, -1), (77, -1), (78, -1), (79, -1), (80, -1), (81, -1), (82, -1), (83, -1), (84, -1), (85, -1), (86, -1), (88, -1), (89, -1), (90, -1), (91, -1), (92, -1), (93, -1), (94, -1)] h h20 := my_fr.tr gh3 (frh20.mo rfl)
    have Mw_h20 : Mw h20 := Mw_ag (my_ag.fr frh20 rfl) Mw_h3
    have Mw3_h20 : Mw3 h20 := Mw3_ag (my_ag.fr frh20 rfl) Mw3_h3
    have Fp_h20 : Fp h20 x1 := Fp_ag (my_ag.fr frh20 rfl) Fp_h3t18
    show wp l rho (d + 7) 207 34 [(2, 151), (0, x1), (0, x2), (0, x3), (0, x4), (0, x5)] [] h20 Q
    refine w_aload_n gz_207_34 rfl ?_
    refine v_getI (j := 48) gz_207_35 rfl is_151 rd_10 rfl (fun v23 ev23 pv23 qv23 => ?_)
    have c24 := ((my_fr.at frh20 is_151 rfl).trans ((my_fr.at frh3 is_151 rfl).trans (my_up_self fh1)))
    exact w_iret gz_207_38 gm_207 (k1 h20 (v23) (gh20) (by omega) (by omega) (by omega) (by omega) (by omega) (by omega) (by omega) Rws_h20t21)
theorem c_Model_put {l : Launch} {rho : Nat → Int32} {d : Nat} {h : my_H} {Q : my_H → my_V → Prop} {x1 x2 x3 x4 x5 : Int} (n_Mw : Mw h) (n_Mw3 : Mw3 h) (n_Rws : Rws h) (k0 : ∀ (h' : my_H) (y : Int), my_fr [(10, 0), (10, 27), (10, 32), (10, 33), (10, 37), (10, 46), (10, 48), (10, 55), (61, -1), (62, -1), (73, -1), (74, -1), (75, -1), (76, -1), (77, -1), (78, -1), (79, -1), (80, -1), (81, -1), (82, -1), (83, -1), (84, -1), (85, -1), (86, -1), (88, -1), (89, -1), (90, -1), (91, -1), (92, -1), (93, -1), (94, -1)] h h' → (-1) ≤ y → y ≤ 4 → h' 151 0 = 0 → Rws h' → Q h' (0, y)) : wp l rho (d + 8) 222 0 [(2, 151), (0, x1), (0, x2), (0, x3), (0, x4), (0, x5), (9, 0)] [] h Q := by
  refine w_aload_n gz_222_0 rfl ?_
  refine w_iconst gz_222_1 (by decide) ?_
  refine v_putI (j := 0) gz_222_2 rfl is_151 rd_10 rfl (by omega) (by omega) rfl (fun h1 fh1 => ?_)
  have gh1 : my_fr [(10, 0), (10, 27), (10, 32), (10, 33), (10, 37), (10, 46), (10, 48), (10, 55), (61, -1), (62, -1), (73, -1), (74, -1), (75, -1), (76, -1), (77, -1), (78, -1), (79, -1), (80, -1), (81, -1), (82, -1), (83, -1), (84, -1), (85, -1), (86, -1), (88, -1), (89, -1), (90, -1), (91, -1), (92, -1), (93, -1), (94, -1)] h h1 := my_fr.up my_fr.rf is_151 fh1 rfl
  have Mw_h1 : Mw h1 := Mw_ag (my_ag.up fh1 is_151 rfl) n_Mw
  have Mw3_h1 : Mw3 h1 := Mw3_ag (my_ag.up fh1 is_151 rfl) n_Mw3
  have Rws_h1 : Rws h1 := Rws_ag (my_ag.up fh1 is_151 rfl) n_Rws
  refine w_aload_n gz_222_5 rfl ?_
  refine w_iconst gz_222_6 (by decide) ?_
  refine w_iconst gz_222_7 (by decide) ?_
  refine w_inv (k := 1) (as := [(0, 5), (0, 0)]) (r := []) (x := 151) (ls0 := [(2, 151), (0, 0), (0, 5), (9, 0)]) gz_222_8 gm_152 rfl is_151 rd_10 rfl rfl rfl rfl rfl (c_Model_copies2 (d := (d + 7)) (x1 := 0) (x2 := 5) (by omega) (by omega) (by omega) (by omega) Rws_h1 (fun h2 frh2 xp3 Rws_h2t4 => ?_))
  have gh2 : my_fr [(10, 0), (10, 27), (10, 32), (10, 33), (10, 37), (10, 46), (10, 48), (10, 55), (61, -1), (62, -1), (73, -1), (74, -1), (75, -1), (76, -1), (77, -1), (78, -1), (79, -1), (80, -1), (81, -1), (82, -1), (83, -1), (84, -1), (85, -1), (86, -1), (88, -1), (89, -1), (90, -1), (91, -1), (92, -1), (93, -1), (94, -1)] h h2 := my_fr.tr gh1 (frh2.mo rfl)
  have Mw_h2 : Mw h2 := Mw_ag (my_ag.fr frh2 rfl) Mw_h1
  have Mw3_h2 : Mw3 h2 := Mw3_ag (my_ag.fr frh2 rfl) Mw3_h1
  show wp l rho (d + 8) 222 11 [(2, 151), (0, x1), (0, x2), (0, x3), (0, x4), (0, x5), (9, 0)] [] h2 Q
  refine w_aload_n gz_222_11 rfl ?_
  refine w_iconst gz_222_12 (by decide) ?_
  refine w_iload_n gz_222_13 rfl ?_
  refine w_iload_n gz_222_14 rfl ?_
  refine w_iload_n gz_222_15 rfl ?_
  refine w_iload gz_222_16 rfl ?_
  refine w_iload gz_222_18 rfl ?_
  refine w_inv (k := 2) (as := [(0, x5), (0, x4), (0, x3), (0, x2), (0, x1), (0, 5)]) (r := []) (x := 151) (ls0 := [(2, 151), (0, 5), (0, x1), (0, x2), (0, x3), (0, x4), (0, x5), (9, 0), (9, 0)]) gz_222_20 gm_223 rfl is_151 rd_10 rfl rfl rfl rfl rfl (c_Model_puts (d := d) (x1 := 5) (x2 := x1) (x3 := x2) (x4 := x3) (x5 := x4) (x6 := x5) (by omega) (by omega) Mw_h2 Mw3_h2 Rws_h2t4 (by first | assumption | exact no_such_saying | exact Fp_told (by omega) (by omega) | omega | (subst_vars; omega) | omega) (fun h5 frh5 Rws_h5t6 => ?_) (fun h7 v8 frh7 w9 w10 w11 w12 w13 w14 Rws_h7t15 => ?_))
  ·
    have gh5 : my_fr [(10, 0), (10, 27), (10, 32), (10, 33), (10, 37), (10, 46), (10, 48), (10, 55), (61, -1), (62, -1), (73, -1), (74, -1), (75, -1), (76, -1), (77, -1), (78, -1), (79, -1), (80, -1), (81, -1), (82, -1), (83, -1), (84, -1), (85, -1), (86, -1), (88, -1), (89, -1), (90, -1), (91, -1), (92, -1), (93, -1), (94, -1)] h h5 := my_fr.tr gh2 (frh5.mo rfl)
    have Mw_h5 : Mw h5 := Mw_ag (my_ag.fr frh5 rfl) Mw_h2
    have Mw3_h5 : Mw3 h5 := Mw3_ag (my_ag.fr frh5 rfl) Mw3_h2
    show wp l rho (d + 8) 222 23 [(2, 151), (0, x1), (0, x2), (0, x3), (0, x4), (0, x5), (9, 0)] [(0, (-1))] h5 Q
    refine w_istore (ls' := [(2, 151), (0, x1), (0, x2), (0, x3), (0, x4), (0, x5), (0, (-1))]) gz_222_23 gm_222 rfl rfl rfl ?_
    refine w_iload gz_222_25 rfl ?_
    refine w_iflt (t := 48) gz_222_27 rfl (fun u16 => ?_) (fun u16 => by exfalso; omega)
    refine w_iload gz_222_48 rfl ?_
    have c17 := ((my_fr.at frh5 is_151 rfl).trans ((my_fr.at frh2 is_151 rfl).trans (my_up_self fh1)))
    exact w_iret gz_222_50 gm_222 (k0 h5 ((-1)) (gh5) (by omega) (by omega) (by omega) Rws_h5t6)
  ·
    have gh7 : my_fr [(10, 0), (10, 27), (10, 32), (10, 33), (10, 37), (10, 46), (10, 48), (10, 55), (61, -1), (62, -1), (73, -1), (74, -1), (75, -1), (76, -1), (77, -1), (78, -1), (79, -1), (80, -1), (81, -1), (82, -1), (83, -1), (84, -1), (85, -1), (86, -1), (88, -1), (89, -1), (90, -1), (91, -1), (92, -1), (93, -1), (94, -1)] h h7 := my_fr.tr gh2 (frh7.mo rfl)
    have Mw_h7 : Mw h7 := Mw_ag (my_ag.fr frh7 rfl) Mw_h2
    have Mw3_h7 : Mw3 h7 := Mw3_ag (my_ag.fr frh7 rfl) Mw3_h2
    show wp l rho (d + 8) 222 23 [(2, 151), (0, x1), (0, x2), (0, x3), (0, x4), (0, x5), (9, 0)] [(0, v8)] h7 Q
    refine w_istore (ls' := [(2, 151), (0, x1), (0, x2), (0, x3), (0, x4), (0, x5), (0, v8)]) gz_222_23 gm_222 rfl rfl rfl ?_
    refine w_iload gz_222_25 rfl ?_
    refine w_iflt (t := 48) gz_222_27 rfl (fun u18 => by exfalso; omega) (fun u18 => ?_)
    refine w_aload_n gz_222_30 rfl ?_
    refine w_iconst gz_222_31 (by decide) ?_
    refine w_bipush gz_222_32 (by decide) ?_
    refine w_inv (k := 1) (as := [(0, 9), (0, 0)]) (r := []) (x := 151) (ls0 := [(2, 151), (0, 0), (0, 9), (9, 0)]) gz_222_34 gm_152 rfl is_151 rd_10 rfl rfl rfl rfl rfl (c_Model_copies2 (d := (d + 7)) (x1 := 0) (x2 := 9) (by omega) (by omega) (by omega) (by omega) Rws_h7t15 (fun h19 frh19 xp20 Rws_h19t21 => ?_))
    have gh19 : my_fr [(10, 0), (10, 27), (10, 32), (10, 33), (10, 37), (10, 46), (10, 48), (10, 55), (61, -1), (62, -1), (73, -1), (74, -1), (75, -1), (76, -1), (77, -1), (78, -1), (79, -1), (80, -1), (81, -1), (82, -1), (83, -1), (84, -1), (85, -1), (86, -1), (88, -1), (89, -1), (90, -1), (91, -1), (92, -1), (93, -1), (94, -1)] h h19 := my_fr.tr gh7 (frh19.mo rfl)
    have Mw_h19 : Mw h19 := Mw_ag (my_ag.fr frh19 rfl) Mw_h7
    have Mw3_h19 : Mw3 h19 := Mw3_ag (my_ag.fr frh19 rfl) Mw3_h7
    show wp l rho (d + 8) 222 37 [(2, 151), (0, x1), (0, x2), (0, x3), (0, x4), (0, x5), (0, v8)] [] h19 Q
    refine w_aload_n gz_222_37 rfl ?_
    refine w_iconst gz_222_38 (by decide) ?_
    refine w_iconst gz_222_39 (by decide) ?_
    refine w_inv (k := 1) (as := [(0, 0), (0, 5)]) (r := []) (x := 151) (ls0 := [(2, 151), (0, 5), (0, 0), (9, 0)]) gz_222_40 gm_152 rfl is_151 rd_10 rfl rfl rfl rfl rfl (c_Model_copies2 (d := (d + 7)) (x1 := 5) (x2 := 0) (by omega) (by omega) (by omega) (by omega) Rws_h19t21 (fun h22 frh22 xp23 Rws_h22t24 => ?_))
    have gh22 : my_fr [(10, 0), (10, 27), (10, 32), (10, 33), (10, 37), (10, 46), (10, 48), (10, 55), (61, -1), (62, -1), (73, -1), (74, -1), (75, -1), (76, -1), (77, -1), (78, -1), (79, -1), (80, -1), (81, -1), (82, -1), (83, -1), (84, -1), (85, -1), (86, -1), (88, -1), (89, -1), (90, -1), (91, -1), (92, -1), (93, -1), (94, -1)] h h22 := my_fr.tr gh19 (frh22.mo rfl)
    have Mw_h22 : Mw h22 := Mw_ag (my_ag.fr frh22 rfl) Mw_h19
    have Mw3_h22 : Mw3 h22 := Mw3_ag (my_ag.fr frh22 rfl) Mw3_h19
    show wp l rho (d + 8) 222 43 [(2, 151), (0, x1), (0, x2), (0, x3), (0, x4), (0, x5), (0, v8)] [] h22 Q
    refine w_aload_n gz_222_43 rfl ?_
    refine w_iconst gz_222_44 (by decide) ?_
    refine v_putB (j := 55) gz_222_45 rfl is_151 rd_10 rfl (by omega) (by omega) rfl (fun h25 fh25 => ?_)
    have gh25 : my_fr [(10, 0), (10, 27), (10, 32), (10, 33), (10, 37), (10, 46), (10, 48), (10, 55), (61, -1), (62, -1), (73, -1), (74, -1), (75, -1), (76, -1), (77, -1), (78, -1), (79, -1), (80, -1), (81, -1), (82, -1), (83, -1), (84, -1), (85, -1), (86, -1), (88, -1), (89, -1), (90, -1), (91, -1), (92, -1), (93, -1), (94, -1)] h h25 := my_fr.up gh22 is_151 fh25 rfl
    have Mw_h25 : Mw h25 := Mw_ag (my_ag.up fh25 is_151 rfl) Mw_h22
    have Mw3_h25 : Mw3 h25 := Mw3_ag (my_ag.up fh25 is_151 rfl) Mw3_h22
    have Rws_h25 : Rws h25 := Rws_ag (my_ag.up fh25 is_151 rfl) Rws_h22t24
    refine w_iload gz_222_48 rfl ?_
    have c26 := ((my_up_fld fh25 (by decide)).trans ((my_fr.at frh22 is_151 rfl).trans ((my_fr.at frh19 is_151 rfl).trans ((my_fr.at frh7 is_151 rfl).trans ((my_fr.at frh2 is_151 rfl).trans (my_up_self fh1))))))
    exact w_iret gz_222_50 gm_222 (k0 h25 (v8) (gh25) (by omega) (by omega) (by omega) Rws_h25)
theorem c_Model_clash {l : Launch} {rho : Nat → Int32} {d : Nat} {h : my_H} {Q : my_H → my_V → Prop} {x1 x2 x3 x4 x5 x6 : Int} (n_Mw : Mw h) (n_Mw3 : Mw3 h) (n_Rws : Rws h) (k0 : ∀ (h' : my_H), my_fr [(10, 0), (10, 27), (10, 32), (10, 33), (10, 37), (10, 46), (10, 48), (61, -1), (62, -1), (73, -1), (74, -1), (75, -1), (76, -1), (77, -1), (78, -1), (79, -1), (80, -1), (81, -1), (82, -1), (83, -1), (84, -1), (85, -1), (86, -1), (88, -1), (89, -1), (90, -1), (91, -1), (92, -1), (93, -1), (94, -1)] h h' → h' 151 0 = 0 → Rws h' → Q h' (0, (-1))) (k1 : ∀ (h' : my_H), my_fr [(10, 0), (10, 27), (10, 32), (10, 33), (10, 37), (10, 46), (10, 48), (61, -1), (62, -1), (73, -1), (74, -1), (75, -1), (76, -1), (77, -1), (78, -1), (79, -1), (80, -1), (81, -1), (82, -1), (83, -1), (84, -1), (85, -1), (86, -1), (88, -1), (89, -1), (90, -1), (91, -1), (92, -1), (93, -1), (94, -1)] h h' → 0 ≤ x1 → x1 ≤ 5 → 0 ≤ x2 → 0 ≤ x4 → x4 ≤ 5 → 0 ≤ x5 → h' 151 0 = 0 → Rws h' → Q h' (0, 0)) (k2 : ∀ (h' : my_H), my_fr [(10, 0), (10, 27), (10, 32), (10, 33), (10, 37), (10, 46), (10, 48), (61, -1), (62, -1), (73, -1), (74, -1), (75, -1), (76, -1), (77, -1), (78, -1), (79, -1), (80, -1), (81, -1), (82, -1), (83, -1), (84, -1), (85, -1), (86, -1), (88, -1), (89, -1), (90, -1), (91, -1), (92, -1), (93, -1), (94, -1)] h h' → 0 ≤ x1 → x1 ≤ 5 → 0 ≤ x2 → 0 ≤ x4 → x4 ≤ 5 → 0 ≤ x5 → h' 151 0 = 0 → Rws h' → Q h' (0, 1)) (k3 : ∀ (h' : my_H) (y : Int), my_fr [(10, 0), (10, 27), (10, 32), (10, 33), (10, 37), (10, 46), (10, 48), (61, -1), (62, -1), (73, -1), (74, -1), (75, -1), (76, -1), (77, -1), (78, -1), (79, -1), (80, -1), (81, -1), (82, -1), (83, -1), (84, -1), (85, -1), (86, -1), (88, -1), (89, -1), (90, -1), (91, -1), (92, -1), (93, -1), (94, -1)] h h' → 2 ≤ y → y ≤ 4 → 0 ≤ x1 → x1 ≤ 5 → 0 ≤ x2 → 0 ≤ x4 → x4 ≤ 5 → 0 ≤ x5 → h' 151 0 = 0 → Rws h' → Q h' (0, y)) : wp l rho (d + 9) 232 0 [(2, 151), (0, x1), (0, x2), (0, x3), (0, x4), (0, x5), (0, x6), (9, 0), (9, 0)] [] h Q := by
  refine w_aload_n gz_232_0 rfl ?_
  refine w_iconst gz_232_1 (by decide) ?_
  refine v_putI (j := 0) gz_232_2 rfl is_151 rd_10 rfl (by omega) (by omega) rfl (fun h1 fh1 => ?_)
  have gh1 : my_fr [(10, 0), (10, 27), (10, 32), (10, 33), (10, 37), (10, 46), (10, 48), (61, -1), (62, -1), (73, -1), (74, -1), (75, -1), (76, -1), (77, -1), (78, -1), (79, -1), (80, -1), (81, -1), (82, -1), (83, -1), (84, -1), (85, -1), (86, -1), (88, -1), (89, -1), (90, -1), (91, -1), (92, -1), (93, -1), (94, -1)] h h1 := my_fr.up my_fr.rf is_151 fh1 rfl
  have Mw_h1 : Mw h1 := Mw_ag (my_ag.up fh1 is_151 rfl) n_Mw
  have Mw3_h1 : Mw3 h1 := Mw3_ag (my_ag.up fh1 is_151 rfl) n_Mw3
  have Rws_h1 : Rws h1 := Rws_ag (my_ag.up fh1 is_151 rfl) n_Rws
  refine w_iload_n gz_232_5 rfl ?_
  refine w_iflt (t := 56) gz_232_6 rfl (fun u2 => ?_) (fun u2 => ?_)
  ·
    refine w_iconst gz_232_56 (by decide) ?_
    have c3 := (my_up_self fh1)
    exact w_iret gz_232_57 gm_232 (k0 h1 (gh1) (by omega) Rws_h1)
  ·
    refine w_iload gz_232_9 rfl ?_
    refine w_iflt (t := 56) gz_232_11 rfl (fun u4 => ?_) (fun u4 => ?_)
    ·
      refine w_iconst gz_232_56 (by decide) ?_
      have c5 := (my_up_self fh1)
      exact w_iret gz_232_57 gm_232 (k0 h1 (gh1) (by omega) Rws_h1)
    ·
      refine w_aload_n gz_232_14 rfl ?_
      refine w_iconst gz_232_15 (by decide) ?_
      refine w_iload_n gz_232_16 rfl ?_
      refine w_iconst gz_232_17 (by decide) ?_
      refine w_iload_n gz_232_18 rfl ?_
      refine w_bipush gz_232_19 (by decide) ?_
      refine w_idiv gz_232_21 (by omega) (by decide) ?_
      refine w_iload_n gz_232_22 rfl ?_
      refine w_bipush gz_232_23 (by decide) ?_
      refine w_irem gz_232_25 (by omega) (by decide) ?_
      refine w_iload_n gz_232_26 rfl ?_
      refine w_inv (k := 1) (as := [(0, x3), (0, (x2 % 8)), (0, (x2 / 8)), (0, 0), (0, x1), (0, 0)]) (r := []) (x := 151) (ls0 := [(2, 151), (0, 0), (0, x1), (0, 0), (0, (x2 / 8)), (0, (x2 % 8)), (0, x3), (9, 0)]) gz_232_27 gm_208 rfl is_151 rd_10 rfl rfl rfl rfl rfl (c_Model_isEdit (d := (d + 4)) (x1 := 0) (x2 := x1) (x3 := 0) (x4 := (x2 / 8)) (x5 := (x2 % 8)) (x6 := x3) (by omega) (by omega) Mw_h1 Mw3_h1 Rws_h1 (fun h6 frh6 => ?_) (fun h7 frh7 w8 w9 w10 w11 xp12 xp13 xp14 xp15 xp16 xp17 xp18 xp19 => ?_))
      ·
        have gh6 : my_fr [(10, 0), (10, 27), (10, 32), (10, 33), (10, 37), (10, 46), (10, 48), (61, -1), (62, -1), (73, -1), (74, -1), (75, -1), (76, -1), (77, -1), (78, -1), (79, -1), (80, -1), (81, -1), (82, -1), (83, -1), (84, -1), (85, -1), (86, -1), (88, -1), (89, -1), (90, -1), (91, -1), (92, -1), (93, -1), (94, -1)] h h6 := my_fr.tr gh1 (frh6.mo rfl)
        have Mw_h6 : Mw h6 := Mw_ag (my_ag.fr frh6 rfl) Mw_h1
        have Mw3_h6 : Mw3 h6 := Mw3_ag (my_ag.fr frh6 rfl) Mw3_h1
        have Rws_h6 : Rws h6 := Rws_ag (my_ag.fr frh6 rfl) Rws_h1
        show wp l rho (d + 9) 232 30 [(2, 151), (0, x1), (0, x2), (0, x3), (0, x4), (0, x5), (0, x6), (9, 0), (9, 0)] [(0, 0)] h6 Q
        refine w_ifeq (t := 56) gz_232_30 rfl (fun u20 => ?_) (fun u20 => by exfalso; omega)
        refine w_iconst gz_232_56 (by decide) ?_
        have c21 := ((my_fr.at frh6 is_151 rfl).trans (my_up_self fh1))
        exact w_iret gz_232_57 gm_232 (k0 h6 (gh6) (by omega) Rws_h6)
      ·
        have gh7 : my_fr [(10, 0), (10, 27), (10, 32), (10, 33), (10, 37), (10, 46), (10, 48), (61, -1), (62, -1), (73, -1), (74, -1), (75, -1), (76, -1), (77, -1), (78, -1), (79, -1), (80, -1), (81, -1), (82, -1), (83, -1), (84, -1), (85, -1), (86, -1), (88, -1), (89, -1), (90, -1), (91, -1), (92, -1), (93, -1), (94, -1)] h h7 := my_fr.tr gh1 (frh7.mo rfl)
        have Mw_h7 : Mw h7 := Mw_ag (my_ag.fr frh7 rfl) Mw_h1
        have Mw3_h7 : Mw3 h7 := Mw3_ag (my_ag.fr frh7 rfl) Mw3_h1
        have Rws_h7 : Rws h7 := Rws_ag (my_ag.fr frh7 rfl) Rws_h1
        show wp l rho (d + 9) 232 30 [(2, 151), (0, x1), (0, x2), (0, x3), (0, x4), (0, x5), (0, x6), (9, 0), (9, 0)] [(0, 1)] h7 Q
        refine w_ifeq (t := 56) gz_232_30 rfl (fun u22 => by exfalso; omega) (fun u22 => ?_)
        refine w_aload_n gz_232_33 rfl ?_
        refine w_iconst gz_232_34 (by decide) ?_
        refine w_iload gz_232_35 rfl ?_
        refine w_iconst gz_232_37 (by decide) ?_
        refine w_iload gz_232_38 rfl ?_
        refine w_bipush gz_232_40 (by decide) ?_
        refine w_idiv gz_232_42 (by omega) (by decide) ?_
        refine w_iload gz_232_43 rfl ?_
        refine w_bipush gz_232_45 (by decide) ?_
        refine w_irem gz_232_47 (by omega) (by decide) ?_
        refine w_iload gz_232_48 rfl ?_
        refine w_inv (k := 1) (as := [(0, x6), (0, (x5 % 8)), (0, (x5 / 8)), (0, 0), (0, x4), (0, 0)]) (r := []) (x := 151) (ls0 := [(2, 151), (0, 0), (0, x4), (0, 0), (0, (x5 / 8)), (0, (x5 % 8)), (0, x6), (9, 0)]) gz_232_50 gm_208 rfl is_151 rd_10 rfl rfl rfl rfl rfl (c_Model_isEdit (d := (d + 4)) (x1 := 0) (x2 := x4) (x3 := 0) (x4 := (x5 / 8)) (x5 := (x5 % 8)) (x6 := x6) (by omega) (by omega) Mw_h7 Mw3_h7 Rws_h7 (fun h23 frh23 => ?_) (fun h24 frh24 w25 w26 w27 w28 xp29 xp30 xp31 xp32 xp33 xp34 xp35 xp36 => ?_))
        ·
          have gh23 : my_fr [(10, 0), (10, 27), (10, 32), (10, 33), (10, 37), (10, 46), (10, 48), (61, -1), (62, -1), (73, -1), (74, -1), (75, -1), (76, -1), (77, -1), (78, -1), (79, -1), (80, -1), (81, -1), (82, -1), (83, -1), (84, -1), (85, -1), (86, -1), (88, -1), (89, -1), (90, -1), (91, -1), (92, -1), (93, -1), (94, -1)] h h23 := my_fr.tr gh7 (frh23.mo rfl)
          have Mw_h23 : Mw h23 := Mw_ag (my_ag.fr frh23 rfl) Mw_h7
          have Mw3_h23 : Mw3 h23 := Mw3_ag (my_ag.fr frh23 rfl) Mw3_h7
          have Rws_h23 : Rws h23 := Rws_ag (my_ag.fr frh23 rfl) Rws_h7
          show wp l rho (d + 9) 232 53 [(2, 151), (0, x1), (0, x2), (0, x3), (0, x4), (0, x5), (0, x6), (9, 0), (9, 0)] [(0, 0)] h23 Q
          refine w_ifne (t := 58) gz_232_53 rfl (fun u37 => by exfalso; omega) (fun u37 => ?_)
          refine w_iconst gz_232_56 (by decide) ?_
          have c38 := ((my_fr.at frh23 is_151 rfl).trans ((my_fr.at frh7 is_151 rfl).trans (my_up_self fh1)))
          exact w_iret gz_232_57 gm_232 (k0 h23 (gh23) (by omega) Rws_h23)
        ·
          have gh24 : my_fr [(10, 0), (10, 27), (10, 32), (10, 33), (10, 37), (10, 46), (10, 48), (61, -1), (62, -1), (73, -1), (74, -1), (75, -1), (76, -1), (77, -1), (78, -1), (79, -1), (80, -1), (81, -1), (82, -1), (83, -1), (84, -1), (85, -1), (86, -1), (88, -1), (89, -1), (90, -1), (91, -1), (92, -1), (93, -1), (94, -1)] h h24 := my_fr.tr gh7 (frh24.mo rfl)
          have Mw_h24 : Mw h24 := Mw_ag (my_ag.fr frh24 rfl) Mw_h7
          have Mw3_h24 : Mw3 h24 := Mw3_ag (my_ag.fr frh24 rfl) Mw3_h7
          have Rws_h24 : Rws h24 := Rws_ag (my_ag.fr frh24 rfl) Rws_h7
          show wp l rho (d + 9) 232 53 [(2, 151), (0, x1), (0, x2), (0, x3), (0, x4), (0, x5), (0, x6), (9, 0), (9, 0)] [(0, 1)] h24 Q
          refine w_ifne (t := 58) gz_232_53 rfl (fun u39 => ?_) (fun u39 => by exfalso; omega)
          refine w_aload_n gz_232_58 rfl ?_
          refine w_iconst gz_232_59 (by decide) ?_
          refine w_iload_n gz_232_60 rfl ?_
          refine w_iload_n gz_232_61 rfl ?_
          refine w_iload_n gz_232_62 rfl ?_
          refine w_iload gz_232_63 rfl ?_
          refine w_iload gz_232_65 rfl ?_
          refine w_iload gz_232_67 rfl ?_
          refine w_inv (k := 0) (as := [(0, x6), (0, x5), (0, x4), (0, x3), (0, x2), (0, x1), (0, 5)]) (r := []) (x := 151) (ls0 := [(2, 151), (0, 5), (0, x1), (0, x2), (0, x3), (0, x4), (0, x5), (0, x6)]) gz_232_69 gm_233 rfl is_151 rd_10 rfl rfl rfl rfl rfl (c_Model_both (d := d) (x1 := 5) (x2 := x1) (x3 := x2) (x4 := x3) (x5 := x4) (x6 := x5) (x7 := x6) (by omega) (by omega) (by omega) (by omega) (by omega) (by omega) (by omega) (by omega) Mw_h24 Mw3_h24 Rws_h24 (by first | assumption | exact no_such_saying | exact Fp_told (by omega) (by omega) | omega | (subst_vars; omega) | omega) (fun h40 frh40 Rws_h40t41 => ?_) (fun h42 frh42 Rws_h42t43 => ?_))
          ·
            have gh40 : my_fr [(10, 0), (10, 27), (10, 32), (10, 33), (10, 37), (10, 46), (10, 48), (61, -1), (62, -1), (73, -1), (74, -1), (75, -1), (76, -1), (77, -1), (78, -1), (79, -1), (80, -1), (81, -1), (82, -1), (83, -1), (84, -1), (85, -1), (86, -1), (88, -1), (89, -1), (90, -1), (91, -1), (92, -1), (93, -1), (94, -1)] h h40 := my_fr.tr gh24 (frh40.mo rfl)
            have Mw_h40 : Mw h40 := Mw_ag (my_ag.fr frh40 rfl) Mw_h24
            have Mw3_h40 : Mw3 h40 := Mw3_ag (my_ag.fr frh40 rfl) Mw3_h24
            show wp l rho (d + 9) 232 72 [(2, 151), (0, x1), (0, x2), (0, x3), (0, x4), (0, x5), (0, x6), (9, 0), (9, 0)] [(0, 0)] h40 Q
            refine w_istore (ls' := [(2, 151), (0, x1), (0, x2), (0, x3), (0, x4), (0, x5), (0, x6), (0, 0), (9, 0)]) gz_232_72 gm_232 rfl rfl rfl ?_
            refine w_aload_n gz_232_74 rfl ?_
            refine w_bipush gz_232_75 (by decide) ?_
            refine w_iload gz_232_77 rfl ?_
            refine w_iload gz_232_79 rfl ?_
            refine w_iload gz_232_81 rfl ?_
            refine w_iload_n gz_232_83 rfl ?_
            refine w_iload_n gz_232_84 rfl ?_
            refine w_iload_n gz_232_85 rfl ?_
            refine w_inv (k := 0) (as := [(0, x3), (0, x2), (0, x1), (0, x6), (0, x5), (0, x4), (0, 6)]) (r := []) (x := 151) (ls0 := [(2, 151), (0, 6), (0, x4), (0, x5), (0, x6), (0, x1), (0, x2), (0, x3)]) gz_232_86 gm_233 rfl is_151 rd_10 rfl rfl rfl rfl rfl (c_Model_both (d := d) (x1 := 6) (x2 := x4) (x3 := x5) (x4 := x6) (x5 := x1) (x6 := x2) (x7 := x3) (by omega) (by omega) (by omega) (by omega) (by omega) (by omega) (by omega) (by omega) Mw_h40 Mw3_h40 Rws_h40t41 (by first | assumption | exact no_such_saying | exact Fp_told (by omega) (by omega) | omega | (subst_vars; omega) | omega) (fun h44 frh44 Rws_h44t45 => ?_) (fun h46 frh46 Rws_h46t47 => ?_))
            ·
              have gh44 : my_fr [(10, 0), (10, 27), (10, 32), (10, 33), (10, 37), (10, 46), (10, 48), (61, -1), (62, -1), (73, -1), (74, -1), (75, -1), (76, -1), (77, -1), (78, -1), (79, -1), (80, -1), (81, -1), (82, -1), (83, -1), (84, -1), (85, -1), (86, -1), (88, -1), (89, -1), (90, -1), (91, -1), (92, -1), (93, -1), (94, -1)] h h44 := my_fr.tr gh40 (frh44.mo rfl)
              have Mw_h44 : Mw h44 := Mw_ag (my_ag.fr frh44 rfl) Mw_h40
              have Mw3_h44 : Mw3 h44 := Mw3_ag (my_ag.fr frh44 rfl) Mw3_h40
              show wp l rho (d + 9) 232 89 [(2, 151), (0, x1), (0, x2), (0, x3), (0, x4), (0, x5), (0, x6), (0, 0), (9, 0)] [(0, 0)] h44 Q
              refine w_istore (ls' := [(2, 151), (0, x1), (0, x2), (0, x3), (0, x4), (0, x5), (0, x6), (0, 0), (0, 0)]) gz_232_89 gm_232 rfl rfl rfl ?_
              refine w_iload gz_232_91 rfl ?_
              refine w_ifeq (t := 119) gz_232_93 rfl (fun u48 => ?_) (fun u48 => by exfalso; omega)
              refine w_iload gz_232_119 rfl ?_
              refine w_ifeq (t := 128) gz_232_121 rfl (fun u49 => ?_) (fun u49 => by exfalso; omega)
              refine w_iload gz_232_128 rfl ?_
              refine w_ifeq (t := 137) gz_232_130 rfl (fun u50 => ?_) (fun u50 => by exfalso; omega)
              refine w_iconst gz_232_137 (by decide) ?_
              have c51 := ((my_fr.at frh44 is_151 rfl).trans ((my_fr.at frh40 is_151 rfl).trans ((my_fr.at frh24 is_151 rfl).trans ((my_fr.at frh7 is_151 rfl).trans (my_up_self fh1)))))
              exact w_iret gz_232_138 gm_232 (k3 h44 (4) (gh44) (by omega) (by omega) (by omega) (by omega) (by omega) (by omega) (by omega) (by omega) (by omega) Rws_h44t45)
            ·
              have gh46 : my_fr [(10, 0), (10, 27), (10, 32), (10, 33), (10, 37), (10, 46), (10, 48), (61, -1), (62, -1), (73, -1), (74, -1), (75, -1), (76, -1), (77, -1), (78, -1), (79, -1), (80, -1), (81, -1), (82, -1), (83, -1), (84, -1), (85, -1), (86, -1), (88, -1), (89, -1), (90, -1), (91, -1), (92, -1), (93, -1), (94, -1)] h h46 := my_fr.tr gh40 (frh46.mo rfl)
              have Mw_h46 : Mw h46 := Mw_ag (my_ag.fr frh46 rfl) Mw_h40
              have Mw3_h46 : Mw3 h46 := Mw3_ag (my_ag.fr frh46 rfl) Mw3_h40
              show wp l rho (d + 9) 232 89 [(2, 151), (0, x1), (0, x2), (0, x3), (0, x4), (0, x5), (0, x6), (0, 0), (9, 0)] [(0, 1)] h46 Q
              refine w_istore (ls' := [(2, 151), (0, x1), (0, x2), (0, x3), (0, x4), (0, x5), (0, x6), (0, 0), (0, 1)]) gz_232_89 gm_232 rfl rfl rfl ?_
              refine w_iload gz_232_91 rfl ?_
              refine w_ifeq (t := 119) gz_232_93 rfl (fun u52 => ?_) (fun u52 => by exfalso; omega)
              refine w_iload gz_232_119 rfl ?_
              refine w_ifeq (t := 128) gz_232_121 rfl (fun u53 => ?_) (fun u53 => by exfalso; omega)
              refine w_iload gz_232_128 rfl ?_
              refine w_ifeq (t := 137) gz_232_130 rfl (fun u54 => by exfalso; omega) (fun u54 => ?_)
              refine w_iconst gz_232_133 (by decide) ?_
              refine w_goto (t := 138) gz_232_134 rfl ?_
              have c55 := ((my_fr.at frh46 is_151 rfl).trans ((my_fr.at frh40 is_151 rfl).trans ((my_fr.at frh24 is_151 rfl).trans ((my_fr.at frh7 is_151 rfl).trans (my_up_self fh1)))))
              exact w_iret gz_232_138 gm_232 (k3 h46 (3) (gh46) (by omega) (by omega) (by omega) (by omega) (by omega) (by omega) (by omega) (by omega) (by omega) Rws_h46t47)
          ·
            have gh42 : my_fr [(10, 0), (10, 27), (10, 32), (10, 33), (10, 37), (10, 46), (10, 48), (61, -1), (62, -1), (73, -1), (74, -1), (75, -1), (76, -1), (77, -1), (78, -1), (79, -1), (80, -1), (81, -1), (82, -1), (83, -1), (84, -1), (85, -1), (86, -1), (88, -1), (89, -1), (90, -1), (91, -1), (92, -1), (93, -1), (94, -1)] h h42 := my_fr.tr gh24 (frh42.mo rfl)
            have Mw_h42 : Mw h42 := Mw_ag (my_ag.fr frh42 rfl) Mw_h24
            have Mw3_h42 : Mw3 h42 := Mw3_ag (my_ag.fr frh42 rfl) Mw3_h24
            show wp l rho (d + 9) 232 72 [(2, 151), (0, x1), (0, x2), (0, x3), (0, x4), (0, x5), (0, x6), (9, 0), (9, 0)] [(0, 1)] h42 Q
            refine w_istore (ls' := [(2, 151), (0, x1), (0, x2), (0, x3), (0, x4), (0, x5), (0, x6), (0, 1), (9, 0)]) gz_232_72 gm_232 rfl rfl rfl ?_
            refine w_aload_n gz_232_74 rfl ?_
            refine w_bipush gz_232_75 (by decide) ?_
            refine w_iload gz_232_77 rfl ?_
            refine w_iload gz_232_79 rfl ?_
            refine w_iload gz_232_81 rfl ?_
            refine w_iload_n gz_232_83 rfl ?_
            refine w_iload_n gz_232_84 rfl ?_
            refine w_iload_n gz_232_85 rfl ?_
            refine w_inv (k := 0) (as := [(0, x3), (0, x2), (0, x1), (0, x6), (0, x5), (0, x4), (0, 6)]) (r := []) (x := 151) (ls0 := [(2, 151), (0, 6), (0, x4), (0, x5), (0, x6), (0, x1), (0, x2), (0, x3)]) gz_232_86 gm_233 rfl is_151 rd_10 rfl rfl rfl rfl rfl (c_Model_both (d := d) (x1 := 6) (x2 := x4) (x3 := x5) (x4 := x6) (x5 := x1) (x6 := x2) (x7 := x3) (by omega) (by omega) (by omega) (by omega) (by omega) (by omega) (by omega) (by omega) Mw_h42 Mw3_h42 Rws_h42t43 (by first | assumption | exact no_such_saying | exact Fp_told (by omega) (by omega) | omega | (subst_vars; omega) | omega) (fun h56 frh56 Rws_h56t57 => ?_) (fun h58 frh58 Rws_h58t59 => ?_))
            ·
              have gh56 : my_fr [(10, 0), (10, 27), (10, 32), (10, 33), (10, 37), (10, 46), (10, 48), (61, -1), (62, -1), (73, -1), (74, -1), (75, -1), (76, -1), (77, -1), (78, -1), (79, -1), (80, -1), (81, -1), (82, -1), (83, -1), (84, -1), (85, -1), (86, -1), (88, -1), (89, -1), (90, -1), (91, -1), (92, -1), (93, -1), (94, -1)] h h56 := my_fr.tr gh42 (frh56.mo rfl)
              have Mw_h56 : Mw h56 := Mw_ag (my_ag.fr frh56 rfl) Mw_h42
              have Mw3_h56 : Mw3 h56 := Mw3_ag (my_ag.fr frh56 rfl) Mw3_h42
              show wp l rho (d + 9) 232 89 [(2, 151), (0, x1), (0, x2), (0, x3), (0, x4), (0, x5), (0, x6), (0, 1), (9, 0)] [(0, 0)] h56 Q
              refine w_istore (ls' := [(2, 151), (0, x1), (0, x2), (0, x3), (0, x4), (0, x5), (0, x6), (0, 1), (0, 0)]) gz_232_89 gm_232 rfl rfl rfl ?_
              refine w_iload gz_232_91 rfl ?_
              refine w_ifeq (t := 119) gz_232_93 rfl (fun u60 => by exfalso; omega) (fun u60 => ?_)
              refine w_iload gz_232_96 rfl ?_
              refine w_ifeq (t := 119) gz_232_98 rfl (fun u61 => ?_) (fun u61 => by exfalso; omega)
              refine w_iload gz_232_119 rfl ?_
              refine w_ifeq (t := 128) gz_232_121 rfl (fun u62 => by exfalso; omega) (fun u62 => ?_)
              refine w_iconst gz_232_124 (by decide) ?_
              refine w_goto (t := 138) gz_232_125 rfl ?_
              have c63 := ((my_fr.at frh56 is_151 rfl).trans ((my_fr.at frh42 is_151 rfl).trans ((my_fr.at frh24 is_151 rfl).trans ((my_fr.at frh7 is_151 rfl).trans (my_up_self fh1)))))
              exact w_iret gz_232_138 gm_232 (k3 h56 (2) (gh56) (by omega) (by omega) (by omega) (by omega) (by omega) (by omega) (by omega) (by omega) (by omega) Rws_h56t57)
            ·
              have gh58 : my_fr [(10, 0), (10, 27), (10, 32), (10, 33), (10, 37), (10, 46), (10, 48), (61, -1), (62, -1), (73, -1), (74, -1), (75, -1), (76, -1), (77, -1), (78, -1), (79, -1), (80, -1), (81, -1), (82, -1), (83, -1), (84, -1), (85, -1), (86, -1), (88, -1), (89, -1), (90, -1), (91, -1), (92, -1), (93, -1), (94, -1)] h h58 := my_fr.tr gh42 (frh58.mo rfl)
              have Mw_h58 : Mw h58 := Mw_ag (my_ag.fr frh58 rfl) Mw_h42
              have Mw3_h58 : Mw3 h58 := Mw3_ag (my_ag.fr frh58 rfl) Mw3_h42
              show wp l rho (d + 9) 232 89 [(2, 151), (0, x1), (0, x2), (0, x3), (0, x4), (0, x5), (0, x6), (0, 1), (9, 0)] [(0, 1)] h58 Q
              refine w_istore (ls' := [(2, 151), (0, x1), (0, x2), (0, x3), (0, x4), (0, x5), (0, x6), (0, 1), (0, 1)]) gz_232_89 gm_232 rfl rfl rfl ?_
              refine w_iload gz_232_91 rfl ?_
              refine w_ifeq (t := 119) gz_232_93 rfl (fun u64 => by exfalso; omega) (fun u64 => ?_)
              refine w_iload gz_232_96 rfl ?_
              refine w_ifeq (t := 119) gz_232_98 rfl (fun u65 => by exfalso; omega) (fun u65 => ?_)
              refine w_aload_n gz_232_101 rfl ?_
              refine w_iconst gz_232_102 (by decide) ?_
              refine w_bipush gz_232_103 (by decide) ?_
              refine w_inv (k := 3) (as := [(0, 6), (0, 5)]) (r := []) (x := 151) (ls0 := [(2, 151), (0, 5), (0, 6), (9, 0), (9, 0), (9, 0)]) gz_232_105 gm_230 rfl is_151 rd_10 rfl rfl rfl rfl rfl (c_Model_areAlike (d := (d + 8)) (x1 := 5) (x2 := 6) (by omega) (by omega) (by omega) (by omega) (fun v66 w67 w68 => ?_))
              show wp l rho (d + 9) 232 108 [(2, 151), (0, x1), (0, x2), (0, x3), (0, x4), (0, x5), (0, x6), (0, 1), (0, 1)] [(0, v66)] h58 Q
              refine w_ifeq (t := 115) gz_232_108 rfl (fun u69 => ?_) (fun u69 => ?_)
              ·
                refine w_iconst gz_232_115 (by decide) ?_
                refine w_goto (t := 138) gz_232_116 rfl ?_
                have c70 := ((my_fr.at frh58 is_151 rfl).trans ((my_fr.at frh42 is_151 rfl).trans ((my_fr.at frh24 is_151 rfl).trans ((my_fr.at frh7 is_151 rfl).trans (my_up_self fh1)))))
                exact w_iret gz_232_138 gm_232 (k2 h58 (gh58) (by omega) (by omega) (by omega) (by omega) (by omega) (by omega) (by omega) Rws_h58t59)
              ·
                refine w_iconst gz_232_111 (by decide) ?_
                refine w_goto (t := 138) gz_232_112 rfl ?_
                have c71 := ((my_fr.at frh58 is_151 rfl).trans ((my_fr.at frh42 is_151 rfl).trans ((my_fr.at frh24 is_151 rfl).trans ((my_fr.at frh7 is_151 rfl).trans (my_up_self fh1)))))
                exact w_iret gz_232_138 gm_232 (k1 h58 (gh58) (by omega) (by omega) (by omega) (by omega) (by omega) (by omega) (by omega) Rws_h58t59)
theorem c_Model_night {l : Launch} {rho : Nat → Int32} {d : Nat} {h : my_H} {Q : my_H → my_V → Prop} {x1 : Int} (n_Mw : Mw h) (n_Mw3 : Mw3 h) (n_Rws : Rws h) (k0 : ∀ (h' : my_H), my_fr [(10, 0), (10, 27), (10, 32), (10, 33), (10, 37), (10, 46), (10, 48), (10, 62), (10, 63), (10, 64), (10, 65), (61, -1), (62, -1), (73, -1), (74, -1), (75, -1), (76, -1), (77, -1), (78, -1), (79, -1), (80, -1), (81, -1), (82, -1), (83, -1), (84, -1), (85, -1), (86, -1), (88, -1), (89, -1), (90, -1), (91, -1), (92, -1), (93, -1), (94, -1)] h h' → h' 151 0 = 0 → Rws h' → Q h' (0, (-1))) (k1 : ∀ (h' : my_H), my_fr [(10, 0), (10, 27), (10, 32), (10, 33), (10, 37), (10, 46), (10, 48), (10, 62), (10, 63), (10, 64), (10, 65), (61, -1), (62, -1), (73, -1), (74, -1), (75, -1), (76, -1), (77, -1), (78, -1), (79, -1), (80, -1), (81, -1), (82, -1), (83, -1), (84, -1), (85, -1), (86, -1), (88, -1), (89, -1), (90, -1), (91, -1), (92, -1), (93, -1), (94, -1)] h h' → 0 ≤ x1 → x1 ≤ 3 → h' 151 0 = 0 → h' 151 62 = 0 → h' 151 63 = 0 → h' 151 64 = 0 → h' 151 65 = 0 → Rws h' → Q h' (0, 0)) (k2 : ∀ (h' : my_H) (y : Int), my_fr [(10, 0), (10, 27), (10, 32), (10, 33), (10, 37), (10, 46), (10, 48), (10, 62), (10, 63), (10, 64), (10, 65), (61, -1), (62, -1), (73, -1), (74, -1), (75, -1), (76, -1), (77, -1), (78, -1), (79, -1), (80, -1), (81, -1), (82, -1), (83, -1), (84, -1), (85, -1), (86, -1), (88, -1), (89, -1), (90, -1), (91, -1), (92, -1), (93, -1), (94, -1)] h h' → 0 ≤ x1 → x1 ≤ 3 → h' 151 0 = 0 → 0 ≤ h' 151 64 → Rws h' → Q h' (0, y)) : wp l rho (d + 9) 242 0 [(2, 151), (0, x1), (9, 0), (9, 0), (9, 0), (9, 0)] [] h Q := by
  have J38_0 : ∀ (n : Nat) (p38_0 p38_1 : Int) (h38_0 : my_H), my_fr [(10, 0), (10, 27), (10, 32), (10, 33), (10, 37), (10, 46), (10, 48), (10, 62), (10, 63), (10, 64), (10, 65), (61, -1), (62, -1), (73, -1), (74, -1), (75, -1), (76, -1), (77, -1), (78, -1), (79, -1), (80, -1), (81, -1), (82, -1), (83, -1), (84, -1), (85, -1), (86, -1), (88, -1), (89, -1), (90, -1), (91, -1), (92, -1), (93, -1), (94, -1)] h h38_0 → 0 ≤ x1 → x1 ≤ 3 → 0 ≤ p38_0 → p38_0 ≤ 3 → 0 ≤ p38_1 → h38_0 151 0 = 0 → h38_0 151 64 = p38_1 → Mw h38_0 → Mw3 h38_0 → Rws h38_0 → h38_0 151 63 ≤ 2 * p38_0 → 4 - p38_0 ≤ (n : Int) → wp l rho (d + 9) 242 38 [(2, 151), (0, x1), (0, p38_0), (9, 0), (9, 0), (9, 0)] [] h38_0 Q := by
    intro n
    induction n with
    | zero => intro p38_0 p38_1 h38_0 gh_38_0 q0_38_0 q1_38_0 q2_38_0 q3_38_0 q4_38_0 c151_0_38_0 c151_64_38_0 n_Mw_38_0 n_Mw3_38_0 n_Rws_38_0 ea_38_0 hm_38_0; exfalso; omega
    | succ n ih_38_0 =>
      intro p38_0 p38_1 h38_0 gh_38_0 q0_38_0 q1_38_0 q2_38_0 q3_38_0 q4_38_0 c151_0_38_0 c151_64_38_0 n_Mw_38_0 n_Mw3_38_0 n_Rws_38_0 ea_38_0 hm_38_0
      have J45_0 : ∀ (n : Nat) (p45_0 p45_1 : Int) (h45_0 : my_H), my_fr [(10, 0), (10, 27), (10, 32), (10, 33), (10, 37), (10, 46), (10, 48), (10, 62), (10, 63), (10, 64), (10, 65), (61, -1), (62, -1), (73, -1), (74, -1), (75, -1), (76, -1), (77, -1), (78, -1), (79, -1), (80, -1), (81, -1), (82, -1), (83, -1), (84, -1), (85, -1), (86, -1), (88, -1), (89, -1), (90, -1), (91, -1), (92, -1), (93, -1), (94, -1)] h h45_0 → p38_0 ≤ 2 → 0 ≤ p45_0 → p45_0 ≤ 3 → 0 ≤ p45_1 → h45_0 151 0 = 0 → h45_0 151 64 = p45_1 → Mw h45_0 → Mw3 h45_0 → Rws h45_0 → ((p45_0 ≤ p38_0 → h45_0 151 63 ≤ 2 * p38_0 + p45_0) ∧ (p38_0 < p45_0 → h45_0 151 63 ≤ 2 * p38_0 + p45_0 - 1)) → 4 - p45_0 ≤ (n : Int) → wp l rho (d + 9) 242 45 [(2, 151), (0, x1), (0, p38_0), (0, p45_0), (9, 0), (9, 0)] [] h45_0 Q := by
        intro n
        induction n with
        | zero => intro p45_0 p45_1 h45_0 gh_45_0 q0_45_0 q1_45_0 q2_45_0 q3_45_0 c151_0_45_0 c151_64_45_0 n_Mw_45_0 n_Mw3_45_0 n_Rws_45_0 eb_45_0 hm_45_0; exfalso; omega
        | succ n ih_45_0 =>
          intro p45_0 p45_1 h45_0 gh_45_0 q0_45_0 q1_45_0 q2_45_0 q3_45_0 c151_0_45_0 c151_64_45_0 n_Mw_45_0 n_Mw3_45_0 n_Rws_45_0 eb_45_0 hm_45_0
          refine w_iload_n gz_242_45 rfl ?_
          refine w_iconst gz_242_46 (by decide) ?_
          refine w_icge (t := 144) gz_242_47 rfl (fun u1 => ?_) (fun u1 => ?_)
          ·
            refine w_iinc (ls' := [(2, 151), (0, x1), (0, (p38_0 + 1)), (0, p45_0), (9, 0), (9, 0)]) gz_242_144 rfl gm_242 rfl rfl rfl ⟨by omega, by omega⟩ ?_
            refine w_goto (t := 38) gz_242_147 rfl ?_
            refine w_weak (ls' := [(2, 151), (0, x1), (0, (p38_0 + 1)), (9, 0), (9, 0), (9, 0)]) (wk_e (wk_e (wk_e (wk_9 (wk_9 (wk_9 wk_n)))))) ?_
            exact ih_38_0 ((p38_0 + 1)) (p45_1) h45_0 (gh_45_0) (by omega) (by omega) (by omega) (by omega) (by omega) (c151_0_45_0.trans (by omega)) (c151_64_45_0.trans (by omega)) n_Mw_45_0 n_Mw3_45_0 n_Rws_45_0 (by first | assumption | omega | (subst_vars; omega) | omega) (by omega)
          ·
            refine w_iconst gz_242_50 (by decide) ?_
            refine w_iload_n gz_242_51 rfl ?_
            refine w_isub gz_242_52 ⟨by omega, by omega⟩ ?_
            refine w_iload_n gz_242_53 rfl ?_
            refine w_isub gz_242_54 ⟨by omega, by omega⟩ ?_
            refine w_istore (ls' := [(2, 151), (0, x1), (0, p38_0), (0, p45_0), (0, ((3 - p38_0) - p45_0)), (9, 0)]) gz_242_55 gm_242 rfl rfl rfl ?_
            refine w_iload_n gz_242_57 rfl ?_
            refine w_iload_n gz_242_58 rfl ?_
            refine w_iceq (t := 85) gz_242_59 rfl (fun u2 => ?_) (fun u2 => ?_)
            ·
              refine w_iconst gz_242_85 (by decide) ?_
              refine w_istore (ls' := [(2, 151), (0, x1), (0, p38_0), (0, p45_0), (0, ((3 - p38_0) - p45_0)), (0, 0)]) gz_242_86 gm_242 rfl rfl rfl ?_
              refine w_iload gz_242_88 rfl ?_
              refine w_ifeq (t := 138) gz_242_90 rfl (fun u3 => ?_) (fun u3 => by exfalso; omega)
              refine w_iinc (ls' := [(2, 151), (0, x1), (0, p38_0), (0, (p45_0 + 1)), (0, ((3 - p38_0) - p45_0)), (0, 0)]) gz_242_138 rfl gm_242 rfl rfl rfl ⟨by omega, by omega⟩ ?_
              refine w_goto (t := 45) gz_242_141 rfl ?_
              refine w_weak (ls' := [(2, 151), (0, x1), (0, p38_0), (0, (p45_0 + 1)), (9, 0), (9, 0)]) (wk_e (wk_e (wk_e (wk_e (wk_9 (wk_9 wk_n)))))) ?_
              exact ih_45_0 ((p45_0 + 1)) (p45_1) h45_0 (gh_45_0) (by omega) (by omega) (by omega) (by omega) (c151_0_45_0.trans (by omega)) (c151_64_45_0.trans (by omega)) n_Mw_45_0 n_Mw3_45_0 n_Rws_45_0 (by first | assumption | omega | (subst_vars; omega) | omega) (by omega)
            ·
              refine w_aload_n gz_242_62 rfl ?_
              refine w_iload_n gz_242_63 rfl ?_
              refine w_iload_n gz_242_64 rfl ?_
              refine w_inv (k := 0) (as := [(0, p45_0), (0, p38_0)]) (r := []) (x := 151) (ls0 := [(2, 151), (0, p38_0), (0, p45_0)]) gz_242_65 gm_243 rfl is_151 rd_10 rfl rfl rfl rfl rfl ?_
              refine w_aload_n gz_243_0 rfl ?_
              refine w_iload_n gz_243_1 rfl ?_
              refine w_inv (k := 0) (as := [(0, p38_0)]) (r := []) (x := 151) (ls0 := [(2, 151), (0, p38_0)]) gz_243_2 gm_244 rfl is_151 rd_10 rfl rfl rfl rfl rfl ?_
              refine w_aload_n gz_244_0 rfl ?_
              refine w_getX (v := 199) gz_244_1 is_151 rd_10 rfl (by decide) rfl ?_
              refine w_iload_n gz_244_4 rfl ?_
              have hi5 : 0 ≤ p38_0 := by omega
              have hi6 : p38_0 ≤ 2 := by omega
              refine w_iald gz_244_5 is_199 rd_98 (by omega) (by omega) (fun v7 ev7 pv7 qv7 => ?_)
              refine w_iflt (t := 13) gz_244_6 rfl (fun u8 => ?_) (fun u8 => ?_)
              ·
                refine w_iconst gz_244_13 (by decide) ?_
                refine w_bret gz_244_14 gm_244 (by omega) (by omega) ?_
                show wp l rho (d + 8) 243 5 [(2, 151), (0, p38_0), (0, p45_0)] [(0, 0)] h45_0 _
                refine w_ifne (t := 21) gz_243_5 rfl (fun u9 => by exfalso; omega) (fun u9 => ?_)
                refine w_aload_n gz_243_8 rfl ?_
                refine w_iload_n gz_243_9 rfl ?_
                refine w_inv (k := 0) (as := [(0, p45_0)]) (r := []) (x := 151) (ls0 := [(2, 151), (0, p45_0)]) gz_243_10 gm_244 rfl is_151 rd_10 rfl rfl rfl rfl rfl ?_
                refine w_aload_n gz_244_0 rfl ?_
                refine w_getX (v := 199) gz_244_1 is_151 rd_10 rfl (by decide) rfl ?_
                refine w_iload_n gz_244_4 rfl ?_
                have hi11 : 0 ≤ p45_0 := by omega
                have hi12 : p45_0 ≤ 2 := by omega
                refine w_iald gz_244_5 is_199 rd_98 (by omega) (by omega) (fun v13 ev13 pv13 qv13 => ?_)
                refine w_iflt (t := 13) gz_244_6 rfl (fun u14 => ?_) (fun u14 => ?_)
                ·
                  refine w_iconst gz_244_13 (by decide) ?_
                  refine w_bret gz_244_14 gm_244 (by omega) (by omega) ?_
                  show wp l rho (d + 8) 243 13 [(2, 151), (0, p38_0), (0, p45_0)] [(0, 0)] h45_0 _
                  refine w_ifne (t := 25) gz_243_13 rfl (fun u15 => by exfalso; omega) (fun u15 => ?_)
                  refine w_iload_n gz_243_16 rfl ?_
                  refine w_iload_n gz_243_17 rfl ?_
                  refine w_icge (t := 25) gz_243_18 rfl (fun u16 => ?_) (fun u16 => ?_)
                  ·
                    refine w_iconst gz_243_25 (by decide) ?_
                    refine w_bret gz_243_26 gm_243 (by omega) (by omega) ?_
                    show wp l rho (d + 9) 242 68 [(2, 151), (0, x1), (0, p38_0), (0, p45_0), (0, ((3 - p38_0) - p45_0)), (9, 0)] [(0, 0)] h45_0 Q
                    refine w_ifeq (t := 85) gz_242_68 rfl (fun u17 => ?_) (fun u17 => by exfalso; omega)
                    refine w_iconst gz_242_85 (by decide) ?_
                    refine w_istore (ls' := [(2, 151), (0, x1), (0, p38_0), (0, p45_0), (0, ((3 - p38_0) - p45_0)), (0, 0)]) gz_242_86 gm_242 rfl rfl rfl ?_
                    refine w_iload gz_242_88 rfl ?_
                    refine w_ifeq (t := 138) gz_242_90 rfl (fun u18 => ?_) (fun u18 => by exfalso; omega)
                    refine w_iinc (ls' := [(2, 151), (0, x1), (0, p38_0), (0, (p45_0 + 1)), (0, ((3 - p38_0) - p45_0)), (0, 0)]) gz_242_138 rfl gm_242 rfl rfl rfl ⟨by omega, by omega⟩ ?_
                    refine w_goto (t := 45) gz_242_141 rfl ?_
                    refine w_weak (ls' := [(2, 151), (0, x1), (0, p38_0), (0, (p45_0 + 1)), (9, 0), (9, 0)]) (wk_e (wk_e (wk_e (wk_e (wk_9 (wk_9 wk_n)))))) ?_
                    exact ih_45_0 ((p45_0 + 1)) (p45_1) h45_0 (gh_45_0) (by omega) (by omega) (by omega) (by omega) (c151_0_45_0.trans (by omega)) (c151_64_45_0.trans (by omega)) n_Mw_45_0 n_Mw3_45_0 n_Rws_45_0 (by first | assumption | omega | (subst_vars; omega) | omega) (by omega)
                  ·
                    refine w_iconst gz_243_21 (by decide) ?_
                    refine w_goto (t := 26) gz_243_22 rfl ?_
                    refine w_bret gz_243_26 gm_243 (by omega) (by omega) ?_
                    show wp l rho (d + 9) 242 68 [(2, 151), (0, x1), (0, p38_0), (0, p45_0), (0, ((3 - p38_0) - p45_0)), (9, 0)] [(0, 1)] h45_0 Q
                    refine w_ifeq (t := 85) gz_242_68 rfl (fun u19 => by exfalso; omega) (fun u19 => ?_)
                    refine w_aload_n gz_242_71 rfl ?_
                    refine w_iload_n gz_242_72 rfl ?_
                    refine w_iload gz_242_73 rfl ?_
                    refine w_inv (k := 0) (as := [(0, ((3 - p38_0) - p45_0)), (0, p45_0)]) (r := []) (x := 151) (ls0 := [(2, 151), (0, p45_0), (0, ((3 - p38_0) - p45_0))]) gz_242_75 gm_243 rfl is_151 rd_10 rfl rfl rfl rfl rfl ?_
                    refine w_aload_n gz_243_0 rfl ?_
                    refine w_iload_n gz_243_1 rfl ?_
                    refine w_inv (k := 0) (as := [(0, p45_0)]) (r := []) (x := 151) (ls0 := [(2, 151), (0, p45_0)]) gz_243_2 gm_244 rfl is_151 rd_10 rfl rfl rfl rfl rfl ?_
                    refine w_aload_n gz_244_0 rfl ?_
                    refine w_getX (v := 199) gz_244_1 is_151 rd_10 rfl (by decide) rfl ?_
                    refine w_iload_n gz_244_4 rfl ?_
                    have hi21 : 0 ≤ p45_0 := by omega
                    have hi22 : p45_0 ≤ 2 := by omega
                    refine w_iald gz_244_5 is_199 rd_98 (by omega) (by omega) (fun v23 ev23 pv23 qv23 => ?_)
                    have zv23 := ev23.trans ev13.symm
                    refine w_iflt (t := 13) gz_244_6 rfl (fun u24 => ?_) (fun u24 => by exfalso; omega)
                    refine w_iconst gz_244_13 (by decide) ?_
                    refine w_bret gz_244_14 gm_244 (by omega) (by omega) ?_
                    show wp l rho (d + 8) 243 5 [(2, 151), (0, p45_0), (0, ((3 - p38_0) - p45_0))] [(0, 0)] h45_0 _
                    refine w_ifne (t := 21) gz_243_5 rfl (fun u25 => by exfalso; omega) (fun u25 => ?_)
                    refine w_aload_n gz_243_8 rfl ?_
                    refine w_iload_n gz_243_9 rfl ?_
                    refine w_inv (k := 0) (as := [(0, ((3 - p38_0) - p45_0))]) (r := []) (x := 151) (ls0 := [(2, 151), (0, ((3 - p38_0) - p45_0))]) gz_243_10 gm_244 rfl is_151 rd_10 rfl rfl rfl rfl rfl ?_
                    refine w_aload_n gz_244_0 rfl ?_
                    refine w_getX (v := 199) gz_244_1 is_151 rd_10 rfl (by decide) rfl ?_
                    refine w_iload_n gz_244_4 rfl ?_
                    have hi27 : 0 ≤ ((3 - p38_0) - p45_0) := by omega
                    have hi28 : ((3 - p38_0) - p45_0) ≤ 2 := by omega
                    refine w_iald gz_244_5 is_199 rd_98 (by omega) (by omega) (fun v29 ev29 pv29 qv29 => ?_)
                    refine w_iflt (t := 13) gz_244_6 rfl (fun u30 => ?_) (fun u30 => ?_)
                    ·
                      refine w_iconst gz_244_13 (by decide) ?_
                      refine w_bret gz_244_14 gm_244 (by omega) (by omega) ?_
                      show wp l rho (d + 8) 243 13 [(2, 151), (0, p45_0), (0, ((3 - p38_0) - p45_0))] [(0, 0)] h45_0 _
                      refine w_ifne (t := 25) gz_243_13 rfl (fun u31 => by exfalso; omega) (fun u31 => ?_)
                      refine w_iload_n gz_243_16 rfl ?_
                      refine w_iload_n gz_243_17 rfl ?_
                      refine w_icge (t := 25) gz_243_18 rfl (fun u32 => ?_) (fun u32 => ?_)
                      ·
                        refine w_iconst gz_243_25 (by decide) ?_
                        refine w_bret gz_243_26 gm_243 (by omega) (by omega) ?_
                        show wp l rho (d + 9) 242 78 [(2, 151), (0, x1), (0, p38_0), (0, p45_0), (0, ((3 - p38_0) - p45_0)), (9, 0)] [(0, 0)] h45_0 Q
                        refine w_ifeq (t := 85) gz_242_78 rfl (fun u33 => ?_) (fun u33 => by exfalso; omega)
                        refine w_iconst gz_242_85 (by decide) ?_
                        refine w_istore (ls' := [(2, 151), (0, x1), (0, p38_0), (0, p45_0), (0, ((3 - p38_0) - p45_0)), (0, 0)]) gz_242_86 gm_242 rfl rfl rfl ?_
                        refine w_iload gz_242_88 rfl ?_
                        refine w_ifeq (t := 138) gz_242_90 rfl (fun u34 => ?_) (fun u34 => by exfalso; omega)
                        refine w_iinc (ls' := [(2, 151), (0, x1), (0, p38_0), (0, (p45_0 + 1)), (0, ((3 - p38_0) - p45_0)), (0, 0)]) gz_242_138 rfl gm_242 rfl rfl rfl ⟨by omega, by omega⟩ ?_
                        refine w_goto (t := 45) gz_242_141 rfl ?_
                        refine w_weak (ls' := [(2, 151), (0, x1), (0, p38_0), (0, (p45_0 + 1)), (9, 0), (9, 0)]) (wk_e (wk_e (wk_e (wk_e (wk_9 (wk_9 wk_n)))))) ?_
                        exact ih_45_0 ((p45_0 + 1)) (p45_1) h45_0 (gh_45_0) (by omega) (by omega) (by omega) (by omega) (c151_0_45_0.trans (by omega)) (c151_64_45_0.trans (by omega)) n_Mw_45_0 n_Mw3_45_0 n_Rws_45_0 (by first | assumption | omega | (subst_vars; omega) | omega) (by omega)
                      ·
                        refine w_iconst gz_243_21 (by decide) ?_
                        refine w_goto (t := 26) gz_243_22 rfl ?_
                        refine w_bret gz_243_26 gm_243 (by omega) (by omega) ?_
                        show wp l rho (d + 9) 242 78 [(2, 151), (0, x1), (0, p38_0), (0, p45_0), (0, ((3 - p38_0) - p45_0)), (9, 0)] [(0, 1)] h45_0 Q
                        refine w_ifeq (t := 85) gz_242_78 rfl (fun u35 => by exfalso; omega) (fun u35 => ?_)
                        refine w_iconst gz_242_81 (by decide) ?_
                        refine w_goto (t := 86) gz_242_82 rfl ?_
                        refine w_istore (ls' := [(2, 151), (0, x1), (0, p38_0), (0, p45_0), (0, ((3 - p38_0) - p45_0)), (0, 1)]) gz_242_86 gm_242 rfl rfl rfl ?_
                        refine w_iload gz_242_88 rfl ?_
                        refine w_ifeq (t := 138) gz_242_90 rfl (fun u36 => by exfalso; omega) (fun u36 => ?_)
                        refine w_aload_n gz_242_93 rfl ?_
                        refine w_aload_n gz_242_94 rfl ?_
                        refine w_iload_n gz_242_95 rfl ?_
                        refine w_inv (k := 0) (as := [(0, p38_0)]) (r := [(2, 151)]) (x := 151) (ls0 := [(2, 151), (0, p38_0)]) gz_242_96 gm_244 rfl is_151 rd_10 rfl rfl rfl rfl rfl ?_
                        refine w_aload_n gz_244_0 rfl ?_
                        refine w_getX (v := 199) gz_244_1 is_151 rd_10 rfl (by decide) rfl ?_
                        refine w_iload_n gz_244_4 rfl ?_
                        have hi38 : 0 ≤ p38_0 := by omega
                        have hi39 : p38_0 ≤ 2 := by omega
                        refine w_iald gz_244_5 is_199 rd_98 (by omega) (by omega) (fun v40 ev40 pv40 qv40 => ?_)
                        have zv40 := ev40.trans ev7.symm
                        refine w_iflt (t := 13) gz_244_6 rfl (fun u41 => ?_) (fun u41 => by exfalso; omega)
                        refine w_iconst gz_244_13 (by decide) ?_
                        refine w_bret gz_244_14 gm_244 (by omega) (by omega) ?_
                        show wp l rho (d + 9) 242 99 [(2, 151), (0, x1), (0, p38_0), (0, p45_0), (0, ((3 - p38_0) - p45_0)), (0, 1)] [(0, 0), (2, 151)] h45_0 Q
                        refine w_ifeq (t := 106) gz_242_99 rfl (fun u42 => ?_) (fun u42 => by exfalso; omega)
                        refine w_iconst gz_242_106 (by decide) ?_
                        refine w_aload_n gz_242_107 rfl ?_
                        refine w_iload_n gz_242_108 rfl ?_
                        refine w_inv (k := 0) (as := [(0, p45_0)]) (r := [(0, (-1)), (2, 151)]) (x := 151) (ls0 := [(2, 151), (0, p45_0)]) gz_242_109 gm_244 rfl is_151 rd_10 rfl rfl rfl rfl rfl ?_
                        refine w_aload_n gz_244_0 rfl ?_
                        refine w_getX (v := 199) gz_244_1 is_151 rd_10 rfl (by decide) rfl ?_
                        refine w_iload_n gz_244_4 rfl ?_
                        have hi44 : 0 ≤ p45_0 := by omega
                        have hi45 : p45_0 ≤ 2 := by omega
                        refine w_iald gz_244_5 is_199 rd_98 (by omega) (by omega) (fun v46 ev46 pv46 qv46 => ?_)
                        have zv46 := ev46.trans ev23.symm
                        refine w_iflt (t := 13) gz_244_6 rfl (fun u47 => ?_) (fun u47 => by exfalso; omega)
                        refine w_iconst gz_244_13 (by decide) ?_
                        refine w_bret gz_244_14 gm_244 (by omega) (by omega) ?_
                        show wp l rho (d + 9) 242 112 [(2, 151), (0, x1), (0, p38_0), (0, p45_0), (0, ((3 - p38_0) - p45_0)), (0, 1)] [(0, 0), (0, (-1)), (2, 151)] h45_0 Q
                        refine w_ifeq (t := 119) gz_242_112 rfl (fun u48 => ?_) (fun u48 => by exfalso; omega)
                        refine w_iconst gz_242_119 (by decide) ?_
                        refine w_aload_n gz_242_120 rfl ?_
                        refine w_iload gz_242_121 rfl ?_
                        refine w_inv (k := 0) (as := [(0, ((3 - p38_0) - p45_0))]) (r := [(0, (-1)), (0, (-1)), (2, 151)]) (x := 151) (ls0 := [(2, 151), (0, ((3 - p38_0) - p45_0))]) gz_242_123 gm_244 rfl is_151 rd_10 rfl rfl rfl rfl rfl ?_
                        refine w_aload_n gz_244_0 rfl ?_
                        refine w_getX (v := 199) gz_244_1 is_151 rd_10 rfl (by decide) rfl ?_
                        refine w_iload_n gz_244_4 rfl ?_
                        have hi50 : 0 ≤ ((3 - p38_0) - p45_0) := by omega
                        have hi51 : ((3 - p38_0) - p45_0) ≤ 2 := by omega
                        refine w_iald gz_244_5 is_199 rd_98 (by omega) (by omega) (fun v52 ev52 pv52 qv52 => ?_)
                        have zv52 := ev52.trans ev29.symm
                        refine w_iflt (t := 13) gz_244_6 rfl (fun u53 => ?_) (fun u53 => by exfalso; omega)
                        refine w_iconst gz_244_13 (by decide) ?_
                        refine w_bret gz_244_14 gm_244 (by omega) (by omega) ?_
                        show wp l rho (d + 9) 242 126 [(2, 151), (0, x1), (0, p38_0), (0, p45_0), (0, ((3 - p38_0) - p45_0)), (0, 1)] [(0, 0), (0, (-1)), (0, (-1)), (2, 151)] h45_0 Q
                        refine w_ifeq (t := 134) gz_242_126 rfl (fun u54 => ?_) (fun u54 => by exfalso; omega)
                        refine w_iconst gz_242_134 (by decide) ?_
                        refine w_inv (k := 4) (as := [(0, (-1)), (0, (-1)), (0, (-1))]) (r := []) (x := 151) (ls0 := [(2, 151), (0, (-1)), (0, (-1)), (0, (-1)), (9, 0), (9, 0), (9, 0), (9, 0)]) gz_242_135 gm_245 rfl is_151 rd_10 rfl rfl rfl rfl rfl (c_Model_ordered (d := d) (x1 := (-1)) (x2 := (-1)) (x3 := (-1)) (by omega) (by omega) (by omega) (by omega) (by omega) (by omega) n_Mw_45_0 n_Mw3_45_0 n_Rws_45_0 (by first | assumption | exact no_such_saying | exact Fp_told (by omega) (by omega) | omega | (subst_vars; omega) | omega) (fun h55 frh55 w56 xp57 Rws_h55t58 => ?_))
                        have gh55 : my_fr [(10, 0), (10, 27), (10, 32), (10, 33), (10, 37), (10, 46), (10, 48), (10, 62), (10, 63), (10, 64), (10, 65), (61, -1), (62, -1), (73, -1), (74, -1), (75, -1), (76, -1), (77, -1), (78, -1), (79, -1), (80, -1), (81, -1), (82, -1), (83, -1), (84, -1), (85, -1), (86, -1), (88, -1), (89, -1), (90, -1), (91, -1), (92, -1), (93, -1), (94, -1)] h h55 := my_fr.tr gh_45_0 (frh55.mo rfl)
                        have Mw_h55 : Mw h55 := Mw_ag (my_ag.fr frh55 rfl) n_Mw_45_0
                        have Mw3_h55 : Mw3 h55 := Mw3_ag (my_ag.fr frh55 rfl) n_Mw3_45_0
                        show wp l rho (d + 9) 242 138 [(2, 151), (0, x1), (0, p38_0), (0, p45_0), (0, ((3 - p38_0) - p45_0)), (0, 1)] [] h55 Q
                        refine w_iinc (ls' := [(2, 151), (0, x1), (0, p38_0), (0, (p45_0 + 1)), (0, ((3 - p38_0) - p45_0)), (0, 1)]) gz_242_138 rfl gm_242 rfl rfl rfl ⟨by omega, by omega⟩ ?_
                        refine w_goto (t := 45) gz_242_141 rfl ?_
                        refine w_weak (ls' := [(2, 151), (0, x1), (0, p38_0), (0, (p45_0 + 1)), (9, 0), (9, 0)]) (wk_e (wk_e (wk_e (wk_e (wk_9 (wk_9 wk_n)))))) ?_
                        exact ih_45_0 ((p45_0 + 1)) ((h55 151 64)) h55 (gh55) (by omega) (by omega) (by omega) (by omega) (((my_fr.at frh55 is_151 rfl).trans c151_0_45_0).trans (by omega)) ((rfl : h55 151 64 = h55 151 64).trans (by omega)) Mw_h55 Mw3_h55 Rws_h55t58 (by first | assumption | omega | (subst_vars; omega) | omega) (by omega)
                    ·
                      refine w_iconst gz_244_9 (by decide) ?_
                      refine w_goto (t := 14) gz_244_10 rfl ?_
                      refine w_bret gz_244_14 gm_244 (by omega) (by omega) ?_
                      show wp l rho (d + 8) 243 13 [(2, 151), (0, p45_0), (0, ((3 - p38_0) - p45_0))] [(0, 1)] h45_0 _
                      refine w_ifne (t := 25) gz_243_13 rfl (fun u59 => ?_) (fun u59 => by exfalso; omega)
                      refine w_iconst gz_243_25 (by decide) ?_
                      refine w_bret gz_243_26 gm_243 (by omega) (by omega) ?_
                      show wp l rho (d + 9) 242 78 [(2, 151), (0, x1), (0, p38_0), (0, p45_0), (0, ((3 - p38_0) - p45_0)), (9, 0)] [(0, 0)] h45_0 Q
                      refine w_ifeq (t := 85) gz_242_78 rfl (fun u60 => ?_) (fun u60 => by exfalso; omega)
                      refine w_iconst gz_242_85 (by decide) ?_
                      refine w_istore (ls' := [(2, 151), (0, x1), (0, p38_0), (0, p45_0), (0, ((3 - p38_0) - p45_0)), (0, 0)]) gz_242_86 gm_242 rfl rfl rfl ?_
                      refine w_iload gz_242_88 rfl ?_
                      refine w_ifeq (t := 138) gz_242_90 rfl (fun u61 => ?_) (fun u61 => by exfalso; omega)
                      refine w_iinc (ls' := [(2, 151), (0, x1), (0, p38_0), (0, (p45_0 + 1)), (0, ((3 - p38_0) - p45_0)), (0, 0)]) gz_242_138 rfl gm_242 rfl rfl rfl ⟨by omega, by omega⟩ ?_
                      refine w_goto (t := 45) gz_242_141 rfl ?_
                      refine w_weak (ls' := [(2, 151), (0, x1), (0, p38_0), (0, (p45_0 + 1)), (9, 0), (9, 0)]) (wk_e (wk_e (wk_e (wk_e (wk_9 (wk_9 wk_n)))))) ?_
                      exact ih_45_0 ((p45_0 + 1)) (p45_1) h45_0 (gh_45_0) (by omega) (by omega) (by omega) (by omega) (c151_0_45_0.trans (by omega)) (c151_64_45_0.trans (by omega)) n_Mw_45_0 n_Mw3_45_0 n_Rws_45_0 (by first | assumption | omega | (subst_vars; omega) | omega) (by omega)
                ·
                  refine w_iconst gz_244_9 (by decide) ?_
                  refine w_goto (t := 14) gz_244_10 rfl ?_
                  refine w_bret gz_244_14 gm_244 (by omega) (by omega) ?_
                  show wp l rho (d + 8) 243 13 [(2, 151), (0, p38_0), (0, p45_0)] [(0, 1)] h45_0 _
                  refine w_ifne (t := 25) gz_243_13 rfl (fun u62 => ?_) (fun u62 => by exfalso; omega)
                  refine w_iconst gz_243_25 (by decide) ?_
                  refine w_bret gz_243_26 gm_243 (by omega) (by omega) ?_
                  show wp l rho (d + 9) 242 68 [(2, 151), (0, x1), (0, p38_0), (0, p45_0), (0, ((3 - p38_0) - p45_0)), (9, 0)] [(0, 0)] h45_0 Q
                  refine w_ifeq (t := 85) gz_242_68 rfl (fun u63 => ?_) (fun u63 => by exfalso; omega)
                  refine w_iconst gz_242_85 (by decide) ?_
                  refine w_istore (ls' := [(2, 151), (0, x1), (0, p38_0), (0, p45_0), (0, ((3 - p38_0) - p45_0)), (0, 0)]) gz_242_86 gm_242 rfl rfl rfl ?_
                  refine w_iload gz_242_88 rfl ?_
                  refine w_ifeq (t := 138) gz_242_90 rfl (fun u64 => ?_) (fun u64 => by exfalso; omega)
                  refine w_iinc (ls' := [(2, 151), (0, x1), (0, p38_0), (0, (p45_0 + 1)), (0, ((3 - p38_0) - p45_0)), (0, 0)]) gz_242_138 rfl gm_242 rfl rfl rfl ⟨by omega, by omega⟩ ?_
                  refine w_goto (t := 45) gz_242_141 rfl ?_
                  refine w_weak (ls' := [(2, 151), (0, x1), (0, p38_0), (0, (p45_0 + 1)), (9, 0), (9, 0)]) (wk_e (wk_e (wk_e (wk_e (wk_9 (wk_9 wk_n)))))) ?_
                  exact ih_45_0 ((p45_0 + 1)) (p45_1) h45_0 (gh_45_0) (by omega) (by omega) (by omega) (by omega) (c151_0_45_0.trans (by omega)) (c151_64_45_0.trans (by omega)) n_Mw_45_0 n_Mw3_45_0 n_Rws_45_0 (by first | assumption | omega | (subst_vars; omega) | omega) (by omega)
              ·
                refine w_iconst gz_244_9 (by decide) ?_
                refine w_goto (t := 14) gz_244_10 rfl ?_
                refine w_bret gz_244_14 gm_244 (by omega) (by omega) ?_
                show wp l rho (d + 8) 243 5 [(2, 151), (0, p38_0), (0, p45_0)] [(0, 1)] h45_0 _
                refine w_ifne (t := 21) gz_243_5 rfl (fun u65 => ?_) (fun u65 => by exfalso; omega)
                refine w_iconst gz_243_21 (by decide) ?_
                refine w_goto (t := 26) gz_243_22 rfl ?_
                refine w_bret gz_243_26 gm_243 (by omega) (by omega) ?_
                show wp l rho (d + 9) 242 68 [(2, 151), (0, x1), (0, p38_0), (0, p45_0), (0, ((3 - p38_0) - p45_0)), (9, 0)] [(0, 1)] h45_0 Q
                refine w_ifeq (t := 85) gz_242_68 rfl (fun u66 => by exfalso; omega) (fun u66 => ?_)
                refine w_aload_n gz_242_71 rfl ?_
                refine w_iload_n gz_242_72 rfl ?_
                refine w_iload gz_242_73 rfl ?_
                refine w_inv (k := 0) (as := [(0, ((3 - p38_0) - p45_0)), (0, p45_0)]) (r := []) (x := 151) (ls0 := [(2, 151), (0, p45_0), (0, ((3 - p38_0) - p45_0))]) gz_242_75 gm_243 rfl is_151 rd_10 rfl rfl rfl rfl rfl ?_
                refine w_aload_n gz_243_0 rfl ?_
                refine w_iload_n gz_243_1 rfl ?_
                refine w_inv (k := 0) (as := [(0, p45_0)]) (r := []) (x := 151) (ls0 := [(2, 151), (0, p45_0)]) gz_243_2 gm_244 rfl is_151 rd_10 rfl rfl rfl rfl rfl ?_
                refine w_aload_n gz_244_0 rfl ?_
                refine w_getX (v := 199) gz_244_1 is_151 rd_10 rfl (by decide) rfl ?_
                refine w_iload_n gz_244_4 rfl ?_
                have hi68 : 0 ≤ p45_0 := by omega
                have hi69 : p45_0 ≤ 2 := by omega
                refine w_iald gz_244_5 is_199 rd_98 (by omega) (by omega) (fun v70 ev70 pv70 qv70 => ?_)
                refine w_iflt (t := 13) gz_244_6 rfl (fun u71 => ?_) (fun u71 => ?_)
                ·
                  refine w_iconst gz_244_13 (by decide) ?_
                  refine w_bret gz_244_14 gm_244 (by omega) (by omega) ?_
                  show wp l rho (d + 8) 243 5 [(2, 151), (0, p45_0), (0, ((3 - p38_0) - p45_0))] [(0, 0)] h45_0 _
                  refine w_ifne (t := 21) gz_243_5 rfl (fun u72 => by exfalso; omega) (fun u72 => ?_)
                  refine w_aload_n gz_243_8 rfl ?_
                  refine w_iload_n gz_243_9 rfl ?_
                  refine w_inv (k := 0) (as := [(0, ((3 - p38_0) - p45_0))]) (r := []) (x := 151) (ls0 := [(2, 151), (0, ((3 - p38_0) - p45_0))]) gz_243_10 gm_244 rfl is_151 rd_10 rfl rfl rfl rfl rfl ?_
                  refine w_aload_n gz_244_0 rfl ?_
                  refine w_getX (v := 199) gz_244_1 is_151 rd_10 rfl (by decide) rfl ?_
                  refine w_iload_n gz_244_4 rfl ?_
                  have hi74 : 0 ≤ ((3 - p38_0) - p45_0) := by omega
                  have hi75 : ((3 - p38_0) - p45_0) ≤ 2 := by omega
                  refine w_iald gz_244_5 is_199 rd_98 (by omega) (by omega) (fun v76 ev76 pv76 qv76 => ?_)
                  refine w_iflt (t := 13) gz_244_6 rfl (fun u77 => ?_) (fun u77 => ?_)
                  ·
                    refine w_iconst gz_244_13 (by decide) ?_
                    refine w_bret gz_244_14 gm_244 (by omega) (by omega) ?_
                    show wp l rho (d + 8) 243 13 [(2, 151), (0, p45_0), (0, ((3 - p38_0) - p45_0))] [(0, 0)] h45_0 _
                    refine w_ifne (t := 25) gz_243_13 rfl (fun u78 => by exfalso; omega) (fun u78 => ?_)
                    refine w_iload_n gz_243_16 rfl ?_
                    refine w_iload_n gz_243_17 rfl ?_
                    refine w_icge (t := 25) gz_243_18 rfl (fun u79 => ?_) (fun u79 => ?_)
                    ·
                      refine w_iconst gz_243_25 (by decide) ?_
                      refine w_bret gz_243_26 gm_243 (by omega) (by omega) ?_
                      show wp l rho (d + 9) 242 78 [(2, 151), (0, x1), (0, p38_0), (0, p45_0), (0, ((3 - p38_0) - p45_0)), (9, 0)] [(0, 0)] h45_0 Q
                      refine w_ifeq (t := 85) gz_242_78 rfl (fun u80 => ?_) (fun u80 => by exfalso; omega)
                      refine w_iconst gz_242_85 (by decide) ?_
                      refine w_istore (ls' := [(2, 151), (0, x1), (0, p38_0), (0, p45_0), (0, ((3 - p38_0) - p45_0)), (0, 0)]) gz_242_86 gm_242 rfl rfl rfl ?_
                      refine w_iload gz_242_88 rfl ?_
                      refine w_ifeq (t := 138) gz_242_90 rfl (fun u81 => ?_) (fun u81 => by exfalso; omega)
                      refine w_iinc (ls' := [(2, 151), (0, x1), (0, p38_0), (0, (p45_0 + 1)), (0, ((3 - p38_0) - p45_0)), (0, 0)]) gz_242_138 rfl gm_242 rfl rfl rfl ⟨by omega, by omega⟩ ?_
                      refine w_goto (t := 45) gz_242_141 rfl ?_
                      refine w_weak (ls' := [(2, 151), (0, x1), (0, p38_0), (0, (p45_0 + 1)), (9, 0), (9, 0)]) (wk_e (wk_e (wk_e (wk_e (wk_9 (wk_9 wk_n)))))) ?_
                      exact ih_45_0 ((p45_0 + 1)) (p45_1) h45_0 (gh_45_0) (by omega) (by omega) (by omega) (by omega) (c151_0_45_0.trans (by omega)) (c151_64_45_0.trans (by omega)) n_Mw_45_0 n_Mw3_45_0 n_Rws_45_0 (by first | assumption | omega | (subst_vars; omega) | omega) (by omega)
                    ·
                      refine w_iconst gz_243_21 (by decide) ?_
                      refine w_goto (t := 26) gz_243_22 rfl ?_
                      refine w_bret gz_243_26 gm_243 (by omega) (by omega) ?_
                      show wp l rho (d + 9) 242 78 [(2, 151), (0, x1), (0, p38_0), (0, p45_0), (0, ((3 - p38_0) - p45_0)), (9, 0)] [(0, 1)] h45_0 Q
                      refine w_ifeq (t := 85) gz_242_78 rfl (fun u82 => by exfalso; omega) (fun u82 => ?_)
                      refine w_iconst gz_242_81 (by decide) ?_
                      refine w_goto (t := 86) gz_242_82 rfl ?_
                      refine w_istore (ls' := [(2, 151), (0, x1), (0, p38_0), (0, p45_0), (0, ((3 - p38_0) - p45_0)), (0, 1)]) gz_242_86 gm_242 rfl rfl rfl ?_
                      refine w_iload gz_242_88 rfl ?_
                      refine w_ifeq (t := 138) gz_242_90 rfl (fun u83 => by exfalso; omega) (fun u83 => ?_)
                      refine w_aload_n gz_242_93 rfl ?_
                      refine w_aload_n gz_242_94 rfl ?_
                      refine w_iload_n gz_242_95 rfl ?_
                      refine w_inv (k := 0) (as := [(0, p38_0)]) (r := [(2, 151)]) (x := 151) (ls0 := [(2, 151), (0, p38_0)]) gz_242_96 gm_244 rfl is_151 rd_10 rfl rfl rfl rfl rfl ?_
                      refine w_aload_n gz_244_0 rfl ?_
                      refine w_getX (v := 199) gz_244_1 is_151 rd_10 rfl (by decide) rfl ?_
                      refine w_iload_n gz_244_4 rfl ?_
                      have hi85 : 0 ≤ p38_0 := by omega
                      have hi86 : p38_0 ≤ 2 := by omega
                      refine w_iald gz_244_5 is_199 rd_98 (by omega) (by omega) (fun v87 ev87 pv87 qv87 => ?_)
                      have zv87 := ev87.trans ev7.symm
                      refine w_iflt (t := 13) gz_244_6 rfl (fun u88 => by exfalso; omega) (fun u88 => ?_)
                      refine w_iconst gz_244_9 (by decide) ?_
                      refine w_goto (t := 14) gz_244_10 rfl ?_
                      refine w_bret gz_244_14 gm_244 (by omega) (by omega) ?_
                      show wp l rho (d + 9) 242 99 [(2, 151), (0, x1), (0, p38_0), (0, p45_0), (0, ((3 - p38_0) - p45_0)), (0, 1)] [(0, 1), (2, 151)] h45_0 Q
                      refine w_ifeq (t := 106) gz_242_99 rfl (fun u89 => by exfalso; omega) (fun u89 => ?_)
                      refine w_iload_n gz_242_102 rfl ?_
                      refine w_goto (t := 107) gz_242_103 rfl ?_
                      refine w_aload_n gz_242_107 rfl ?_
                      refine w_iload_n gz_242_108 rfl ?_
                      refine w_inv (k := 0) (as := [(0, p45_0)]) (r := [(0, p38_0), (2, 151)]) (x := 151) (ls0 := [(2, 151), (0, p45_0)]) gz_242_109 gm_244 rfl is_151 rd_10 rfl rfl rfl rfl rfl ?_
                      refine w_aload_n gz_244_0 rfl ?_
                      refine w_getX (v := 199) gz_244_1 is_151 rd_10 rfl (by decide) rfl ?_
                      refine w_iload_n gz_244_4 rfl ?_
                      have hi91 : 0 ≤ p45_0 := by omega
                      have hi92 : p45_0 ≤ 2 := by omega
                      refine w_iald gz_244_5 is_199 rd_98 (by omega) (by omega) (fun v93 ev93 pv93 qv93 => ?_)
                      have zv93 := ev93.trans ev70.symm
                      refine w_iflt (t := 13) gz_244_6 rfl (fun u94 => ?_) (fun u94 => by exfalso; omega)
                      refine w_iconst gz_244_13 (by decide) ?_
                      refine w_bret gz_244_14 gm_244 (by omega) (by omega) ?_
                      show wp l rho (d + 9) 242 112 [(2, 151), (0, x1), (0, p38_0), (0, p45_0), (0, ((3 - p38_0) - p45_0)), (0, 1)] [(0, 0), (0, p38_0), (2, 151)] h45_0 Q
                      refine w_ifeq (t := 119) gz_242_112 rfl (fun u95 => ?_) (fun u95 => by exfalso; omega)
                      refine w_iconst gz_242_119 (by decide) ?_
                      refine w_aload_n gz_242_120 rfl ?_
                      refine w_iload gz_242_121 rfl ?_
                      refine w_inv (k := 0) (as := [(0, ((3 - p38_0) - p45_0))]) (r := [(0, (-1)), (0, p38_0), (2, 151)]) (x := 151) (ls0 := [(2, 151), (0, ((3 - p38_0) - p45_0))]) gz_242_123 gm_244 rfl is_151 rd_10 rfl rfl rfl rfl rfl ?_
                      refine w_aload_n gz_244_0 rfl ?_
                      refine w_getX (v := 199) gz_244_1 is_151 rd_10 rfl (by decide) rfl ?_
                      refine w_iload_n gz_244_4 rfl ?_
                      have hi97 : 0 ≤ ((3 - p38_0) - p45_0) := by omega
                      have hi98 : ((3 - p38_0) - p45_0) ≤ 2 := by omega
                      refine w_iald gz_244_5 is_199 rd_98 (by omega) (by omega) (fun v99 ev99 pv99 qv99 => ?_)
                      have zv99 := ev99.trans ev76.symm
                      refine w_iflt (t := 13) gz_244_6 rfl (fun u100 => ?_) (fun u100 => by exfalso; omega)
                      refine w_iconst gz_244_13 (by decide) ?_
                      refine w_bret gz_244_14 gm_244 (by omega) (by omega) ?_
                      show wp l rho (d + 9) 242 126 [(2, 151), (0, x1), (0, p38_0), (0, p45_0), (0, ((3 - p38_0) - p45_0)), (0, 1)] [(0, 0), (0, (-1)), (0, p38_0), (2, 151)] h45_0 Q
                      refine w_ifeq (t := 134) gz_242_126 rfl (fun u101 => ?_) (fun u101 => by exfalso; omega)
                      refine w_iconst gz_242_134 (by decide) ?_
                      refine w_inv (k := 4) (as := [(0, (-1)), (0, (-1)), (0, p38_0)]) (r := []) (x := 151) (ls0 := [(2, 151), (0, p38_0), (0, (-1)), (0, (-1)), (9, 0), (9, 0), (9, 0), (9, 0)]) gz_242_135 gm_245 rfl is_151 rd_10 rfl rfl rfl rfl rfl (c_Model_ordered (d := d) (x1 := p38_0) (x2 := (-1)) (x3 := (-1)) (by omega) (by omega) (by omega) (by omega) (by omega) (by omega) n_Mw_45_0 n_Mw3_45_0 n_Rws_45_0 (by first | assumption | exact no_such_saying | exact Fp_told (by omega) (by omega) | omega | (subst_vars; omega) | omega) (fun h102 frh102 w103 xp104 Rws_h102t105 => ?_))
                      have gh102 : my_fr [(10, 0), (10, 27), (10, 32), (10, 33), (10, 37), (10, 46), (10, 48), (10, 62), (10, 63), (10, 64), (10, 65), (61, -1), (62, -1), (73, -1), (74, -1), (75, -1), (76, -1), (77, -1), (78, -1), (79, -1), (80, -1), (81, -1), (82, -1), (83, -1), (84, -1), (85, -1), (86, -1), (88, -1), (89, -1), (90, -1), (91, -1), (92, -1), (93, -1), (94, -1)] h h102 := my_fr.tr gh_45_0 (frh102.mo rfl)
                      have Mw_h102 : Mw h102 := Mw_ag (my_ag.fr frh102 rfl) n_Mw_45_0
                      have Mw3_h102 : Mw3 h102 := Mw3_ag (my_ag.fr frh102 rfl) n_Mw3_45_0
                      show wp l rho (d + 9) 242 138 [(2, 151), (0, x1), (0, p38_0), (0, p45_0), (0, ((3 - p38_0) - p45_0)), (0, 1)] [] h102 Q
                      refine w_iinc (ls' := [(2, 151), (0, x1), (0, p38_0), (0, (p45_0 + 1)), (0, ((3 - p38_0) - p45_0)), (0, 1)]) gz_242_138 rfl gm_242 rfl rfl rfl ⟨by omega, by omega⟩ ?_
                      refine w_goto (t := 45) gz_242_141 rfl ?_
                      refine w_weak (ls' := [(2, 151), (0, x1), (0, p38_0), (0, (p45_0 + 1)), (9, 0), (9, 0)]) (wk_e (wk_e (wk_e (wk_e (wk_9 (wk_9 wk_n)))))) ?_
                      exact ih_45_0 ((p45_0 + 1)) ((h102 151 64)) h102 (gh102) (by omega) (by omega) (by omega) (by omega) (((my_fr.at frh102 is_151 rfl).trans c151_0_45_0).trans (by omega)) ((rfl : h102 151 64 = h102 151 64).trans (by omega)) Mw_h102 Mw3_h102 Rws_h102t105 (by first | assumption | omega | (subst_vars; omega) | omega) (by omega)
                  ·
                    refine w_iconst gz_244_9 (by decide) ?_
                    refine w_goto (t := 14) gz_244_10 rfl ?_
                    refine w_bret gz_244_14 gm_244 (by omega) (by omega) ?_
                    show wp l rho (d + 8) 243 13 [(2, 151), (0, p45_0), (0, ((3 - p38_0) - p45_0))] [(0, 1)] h45_0 _
                    refine w_ifne (t := 25) gz_243_13 rfl (fun u106 => ?_) (fun u106 => by exfalso; omega)
                    refine w_iconst gz_243_25 (by decide) ?_
                    refine w_bret gz_243_26 gm_243 (by omega) (by omega) ?_
                    show wp l rho (d + 9) 242 78 [(2, 151), (0, x1), (0, p38_0), (0, p45_0), (0, ((3 - p38_0) - p45_0)), (9, 0)] [(0, 0)] h45_0 Q
                    refine w_ifeq (t := 85) gz_242_78 rfl (fun u107 => ?_) (fun u107 => by exfalso; omega)
                    refine w_iconst gz_242_85 (by decide) ?_
                    refine w_istore (ls' := [(2, 151), (0, x1), (0, p38_0), (0, p45_0), (0, ((3 - p38_0) - p45_0)), (0, 0)]) gz_242_86 gm_242 rfl rfl rfl ?_
                    refine w_iload gz_242_88 rfl ?_
                    refine w_ifeq (t := 138) gz_242_90 rfl (fun u108 => ?_) (fun u108 => by exfalso; omega)
                    refine w_iinc (ls' := [(2, 151), (0, x1), (0, p38_0), (0, (p45_0 + 1)), (0, ((3 - p38_0) - p45_0)), (0, 0)]) gz_242_138 rfl gm_242 rfl rfl rfl ⟨by omega, by omega⟩ ?_
                    refine w_goto (t := 45) gz_242_141 rfl ?_
                    refine w_weak (ls' := [(2, 151), (0, x1), (0, p38_0), (0, (p45_0 + 1)), (9, 0), (9, 0)]) (wk_e (wk_e (wk_e (wk_e (wk_9 (wk_9 wk_n)))))) ?_
                    exact ih_45_0 ((p45_0 + 1)) (p45_1) h45_0 (gh_45_0) (by omega) (by omega) (by omega) (by omega) (c151_0_45_0.trans (by omega)) (c151_64_45_0.trans (by omega)) n_Mw_45_0 n_Mw3_45_0 n_Rws_45_0 (by first | assumption | omega | (subst_vars; omega) | omega) (by omega)
                ·
                  refine w_iconst gz_244_9 (by decide) ?_
                  refine w_goto (t := 14) gz_244_10 rfl ?_
                  refine w_bret gz_244_14 gm_244 (by omega) (by omega) ?_
                  show wp l rho (d + 8) 243 5 [(2, 151), (0, p45_0), (0, ((3 - p38_0) - p45_0))] [(0, 1)] h45_0 _
                  refine w_ifne (t := 21) gz_243_5 rfl (fun u109 => ?_) (fun u109 => by exfalso; omega)
                  refine w_iconst gz_243_21 (by decide) ?_
                  refine w_goto (t := 26) gz_243_22 rfl ?_
                  refine w_bret gz_243_26 gm_243 (by omega) (by omega) ?_
                  show wp l rho (d + 9) 242 78 [(2, 151), (0, x1), (0, p38_0), (0, p45_0), (0, ((3 - p38_0) - p45_0)), (9, 0)] [(0, 1)] h45_0 Q
                  refine w_ifeq (t := 85) gz_242_78 rfl (fun u110 => by exfalso; omega) (fun u110 => ?_)
                  refine w_iconst gz_242_81 (by decide) ?_
                  refine w_goto (t := 86) gz_242_82 rfl ?_
                  refine w_istore (ls' := [(2, 151), (0, x1), (0, p38_0), (0, p45_0), (0, ((3 - p38_0) - p45_0)), (0, 1)]) gz_242_86 gm_242 rfl rfl rfl ?_
                  refine w_iload gz_242_88 rfl ?_
                  refine w_ifeq (t := 138) gz_242_90 rfl (fun u111 => by exfalso; omega) (fun u111 => ?_)
                  refine w_aload_n gz_242_93 rfl ?_
                  refine w_aload_n gz_242_94 rfl ?_
                  refine w_iload_n gz_242_95 rfl ?_
                  refine w_inv (k := 0) (as := [(0, p38_0)]) (r := [(2, 151)]) (x := 151) (ls0 := [(2, 151), (0, p38_0)]) gz_242_96 gm_244 rfl is_151 rd_10 rfl rfl rfl rfl rfl ?_
                  refine w_aload_n gz_244_0 rfl ?_
                  refine w_getX (v := 199) gz_244_1 is_151 rd_10 rfl (by decide) rfl ?_
                  refine w_iload_n gz_244_4 rfl ?_
                  have hi113 : 0 ≤ p38_0 := by omega
                  have hi114 : p38_0 ≤ 2 := by omega
                  refine w_iald gz_244_5 is_199 rd_98 (by omega) (by omega) (fun v115 ev115 pv115 qv115 => ?_)
                  have zv115 := ev115.trans ev7.symm
                  refine w_iflt (t := 13) gz_244_6 rfl (fun u116 => by exfalso; omega) (fun u116 => ?_)
                  refine w_iconst gz_244_9 (by decide) ?_
                  refine w_goto (t := 14) gz_244_10 rfl ?_
                  refine w_bret gz_244_14 gm_244 (by omega) (by omega) ?_
                  show wp l rho (d + 9) 242 99 [(2, 151), (0, x1), (0, p38_0), (0, p45_0), (0, ((3 - p38_0) - p45_0)), (0, 1)] [(0, 1), (2, 151)] h45_0 Q
                  refine w_ifeq (t := 106) gz_242_99 rfl (fun u117 => by exfalso; omega) (fun u117 => ?_)
                  refine w_iload_n gz_242_102 rfl ?_
                  refine w_goto (t := 107) gz_242_103 rfl ?_
                  refine w_aload_n gz_242_107 rfl ?_
                  refine w_iload_n gz_242_108 rfl ?_
                  refine w_inv (k := 0) (as := [(0, p45_0)]) (r := [(0, p38_0), (2, 151)]) (x := 151) (ls0 := [(2, 151), (0, p45_0)]) gz_242_109 gm_244 rfl is_151 rd_10 rfl rfl rfl rfl rfl ?_
                  refine w_aload_n gz_244_0 rfl ?_
                  refine w_getX (v := 199) gz_244_1 is_151 rd_10 rfl (by decide) rfl ?_
                  refine w_iload_n gz_244_4 rfl ?_
                  have hi119 : 0 ≤ p45_0 := by omega
                  have hi120 : p45_0 ≤ 2 := by omega
                  refine w_iald gz_244_5 is_199 rd_98 (by omega) (by omega) (fun v121 ev121 pv121 qv121 => ?_)
                  have zv121 := ev121.trans ev70.symm
                  refine w_iflt (t := 13) gz_244_6 rfl (fun u122 => by exfalso; omega) (fun u122 => ?_)
                  refine w_iconst gz_244_9 (by decide) ?_
                  refine w_goto (t := 14) gz_244_10 rfl ?_
                  refine w_bret gz_244_14 gm_244 (by omega) (by omega) ?_
                  show wp l rho (d + 9) 242 112 [(2, 151), (0, x1), (0, p38_0), (0, p45_0), (0, ((3 - p38_0) - p45_0)), (0, 1)] [(0, 1), (0, p38_0), (2, 151)] h45_0 Q
                  refine w_ifeq (t := 119) gz_242_112 rfl (fun u123 => by exfalso; omega) (fun u123 => ?_)
                  refine w_iload_n gz_242_115 rfl ?_
                  refine w_goto (t := 120) gz_242_116 rfl ?_
                  refine w_aload_n gz_242_120 rfl ?_
                  refine w_iload gz_242_121 rfl ?_
                  refine w_inv (k := 0) (as := [(0, ((3 - p38_0) - p45_0))]) (r := [(0, p45_0), (0, p38_0), (2, 151)]) (x := 151) (ls0 := [(2, 151), (0, ((3 - p38_0) - p45_0))]) gz_242_123 gm_244 rfl is_151 rd_10 rfl rfl rfl rfl rfl ?_
                  refine w_aload_n gz_244_0 rfl ?_
                  refine w_getX (v := 199) gz_244_1 is_151 rd_10 rfl (by decide) rfl ?_
                  refine w_iload_n gz_244_4 rfl ?_
                  have hi125 : 0 ≤ ((3 - p38_0) - p45_0) := by omega
                  have hi126 : ((3 - p38_0) - p45_0) ≤ 2 := by omega
                  refine w_iald gz_244_5 is_199 rd_98 (by omega) (by omega) (fun v127 ev127 pv127 qv127 => ?_)
                  refine w_iflt (t := 13) gz_244_6 rfl (fun u128 => ?_) (fun u128 => ?_)
                  ·
                    refine w_iconst gz_244_13 (by decide) ?_
                    refine w_bret gz_244_14 gm_244 (by omega) (by omega) ?_
                    show wp l rho (d + 9) 242 126 [(2, 151), (0, x1), (0, p38_0), (0, p45_0), (0, ((3 - p38_0) - p45_0)), (0, 1)] [(0, 0), (0, p45_0), (0, p38_0), (2, 151)] h45_0 Q
                    refine w_ifeq (t := 134) gz_242_126 rfl (fun u129 => ?_) (fun u129 => by exfalso; omega)
                    refine w_iconst gz_242_134 (by decide) ?_
                    refine w_inv (k := 4) (as := [(0, (-1)), (0, p45_0), (0, p38_0)]) (r := []) (x := 151) (ls0 := [(2, 151), (0, p38_0), (0, p45_0), (0, (-1)), (9, 0), (9, 0), (9, 0), (9, 0)]) gz_242_135 gm_245 rfl is_151 rd_10 rfl rfl rfl rfl rfl (c_Model_ordered (d := d) (x1 := p38_0) (x2 := p45_0) (x3 := (-1)) (by omega) (by omega) (by omega) (by omega) (by omega) (by omega) n_Mw_45_0 n_Mw3_45_0 n_Rws_45_0 (by first | assumption | exact no_such_saying | exact Fp_told (by omega) (by omega) | omega | (subst_vars; omega) | omega) (fun h130 frh130 w131 xp132 Rws_h130t133 => ?_))
                    have gh130 : my_fr [(10, 0), (10, 27), (10, 32), (10, 33), (10, 37), (10, 46), (10, 48), (10, 62), (10, 63), (10, 64), (10, 65), (61, -1), (62, -1), (73, -1), (74, -1), (75, -1), (76, -1), (77, -1), (78, -1), (79, -1), (80, -1), (81, -1), (82, -1), (83, -1), (84, -1), (85, -1), (86, -1), (88, -1), (89, -1), (90, -1), (91, -1), (92, -1), (93, -1), (94, -1)] h h130 := my_fr.tr gh_45_0 (frh130.mo rfl)
                    have Mw_h130 : Mw h130 := Mw_ag (my_ag.fr frh130 rfl) n_Mw_45_0
                    have Mw3_h130 : Mw3 h130 := Mw3_ag (my_ag.fr frh130 rfl) n_Mw3_45_0
                    show wp l rho (d + 9) 242 138 [(2, 151), (0, x1), (0, p38_0), (0, p45_0), (0, ((3 - p38_0) - p45_0)), (0, 1)] [] h130 Q
                    refine w_iinc (ls' := [(2, 151), (0, x1), (0, p38_0), (0, (p45_0 + 1)), (0, ((3 - p38_0) - p45_0)), (0, 1)]) gz_242_138 rfl gm_242 rfl rfl rfl ⟨by omega, by omega⟩ ?_
                    refine w_goto (t := 45) gz_242_141 rfl ?_
                    refine w_weak (ls' := [(2, 151), (0, x1), (0, p38_0), (0, (p45_0 + 1)), (9, 0), (9, 0)]) (wk_e (wk_e (wk_e (wk_e (wk_9 (wk_9 wk_n)))))) ?_
                    exact ih_45_0 ((p45_0 + 1)) ((h130 151 64)) h130 (gh130) (by omega) (by omega) (by omega) (by omega) (((my_fr.at frh130 is_151 rfl).trans c151_0_45_0).trans (by omega)) ((rfl : h130 151 64 = h130 151 64).trans (by omega)) Mw_h130 Mw3_h130 Rws_h130t133 (by first | assumption | omega | (subst_vars; omega) | omega) (by omega)
                  ·
                    refine w_iconst gz_244_9 (by decide) ?_
                    refine w_goto (t := 14) gz_244_10 rfl ?_
                    refine w_bret gz_244_14 gm_244 (by omega) (by omega) ?_
                    show wp l rho (d + 9) 242 126 [(2, 151), (0, x1), (0, p38_0), (0, p45_0), (0, ((3 - p38_0) - p45_0)), (0, 1)] [(0, 1), (0, p45_0), (0, p38_0), (2, 151)] h45_0 Q
                    refine w_ifeq (t := 134) gz_242_126 rfl (fun u134 => by exfalso; omega) (fun u134 => ?_)
                    refine w_iload gz_242_129 rfl ?_
                    refine w_goto (t := 135) gz_242_131 rfl ?_
                    refine w_inv (k := 4) (as := [(0, ((3 - p38_0) - p45_0)), (0, p45_0), (0, p38_0)]) (r := []) (x := 151) (ls0 := [(2, 151), (0, p38_0), (0, p45_0), (0, ((3 - p38_0) - p45_0)), (9, 0), (9, 0), (9, 0), (9, 0)]) gz_242_135 gm_245 rfl is_151 rd_10 rfl rfl rfl rfl rfl (c_Model_ordered (d := d) (x1 := p38_0) (x2 := p45_0) (x3 := ((3 - p38_0) - p45_0)) (by omega) (by omega) (by omega) (by omega) (by omega) (by omega) n_Mw_45_0 n_Mw3_45_0 n_Rws_45_0 (by first | assumption | exact no_such_saying | exact Fp_told (by omega) (by omega) | omega | (subst_vars; omega) | omega) (fun h135 frh135 w136 xp137 Rws_h135t138 => ?_))
                    have gh135 : my_fr [(10, 0), (10, 27), (10, 32), (10, 33), (10, 37), (10, 46), (10, 48), (10, 62), (10, 63), (10, 64), (10, 65), (61, -1), (62, -1), (73, -1), (74, -1), (75, -1), (76, -1), (77, -1), (78, -1), (79, -1), (80, -1), (81, -1), (82, -1), (83, -1), (84, -1), (85, -1), (86, -1), (88, -1), (89, -1), (90, -1), (91, -1), (92, -1), (93, -1), (94, -1)] h h135 := my_fr.tr gh_45_0 (frh135.mo rfl)
                    have Mw_h135 : Mw h135 := Mw_ag (my_ag.fr frh135 rfl) n_Mw_45_0
                    have Mw3_h135 : Mw3 h135 := Mw3_ag (my_ag.fr frh135 rfl) n_Mw3_45_0
                    show wp l rho (d + 9) 242 138 [(2, 151), (0, x1), (0, p38_0), (0, p45_0), (0, ((3 - p38_0) - p45_0)), (0, 1)] [] h135 Q
                    refine w_iinc (ls' := [(2, 151), (0, x1), (0, p38_0), (0, (p45_0 + 1)), (0, ((3 - p38_0) - p45_0)), (0, 1)]) gz_242_138 rfl gm_242 rfl rfl rfl ⟨by omega, by omega⟩ ?_
                    refine w_goto (t := 45) gz_242_141 rfl ?_
                    refine w_weak (ls' := [(2, 151), (0, x1), (0, p38_0), (0, (p45_0 + 1)), (9, 0), (9, 0)]) (wk_e (wk_e (wk_e (wk_e (wk_9 (wk_9 wk_n)))))) ?_
                    exact ih_45_0 ((p45_0 + 1)) ((h135 151 64)) h135 (gh135) (by omega) (by omega) (by omega) (by omega) (((my_fr.at frh135 is_151 rfl).trans c151_0_45_0).trans (by omega)) ((rfl : h135 151 64 = h135 151 64).trans (by omega)) Mw_h135 Mw3_h135 Rws_h135t138 (by first | assumption | omega | (subst_vars; omega) | omega) (by omega)
      refine w_iload_n gz_242_38 rfl ?_
      refine w_iconst gz_242_39 (by decide) ?_
      refine w_icge (t := 150) gz_242_40 rfl (fun u139 => ?_) (fun u139 => ?_)
      ·
        refine w_iload_n gz_242_150 rfl ?_
        refine w_ifne (t := 161) gz_242_151 rfl (fun u140 => ?_) (fun u140 => ?_)
        ·
          refine w_iload_n gz_242_161 rfl ?_
          refine w_iconst gz_242_162 (by decide) ?_
          refine w_icne (t := 173) gz_242_163 rfl (fun u141 => ?_) (fun u141 => ?_)
          ·
            refine w_iload_n gz_242_173 rfl ?_
            refine w_iconst gz_242_174 (by decide) ?_
            refine w_icne (t := 185) gz_242_175 rfl (fun u142 => ?_) (fun u142 => ?_)
            ·
              refine w_aload_n gz_242_185 rfl ?_
              refine v_getI (j := 65) gz_242_186 rfl is_151 rd_10 rfl (fun v143 ev143 pv143 qv143 => ?_)
              have c144 := c151_0_38_0
              have c145 := c151_64_38_0
              exact w_iret gz_242_189 gm_242 (k2 h38_0 (v143) (gh_38_0) (by omega) (by omega) (by omega) (by omega) n_Rws_38_0)
            ·
              refine w_aload_n gz_242_178 rfl ?_
              refine v_getI (j := 64) gz_242_179 rfl is_151 rd_10 rfl (fun v146 ev146 pv146 qv146 => ?_)
              have zv146 := ev146.trans c151_64_38_0
              refine w_goto (t := 189) gz_242_182 rfl ?_
              have c147 := c151_0_38_0
              have c148 := ev146.symm
              exact w_iret gz_242_189 gm_242 (k2 h38_0 (v146) (gh_38_0) (by omega) (by omega) (by omega) (by omega) n_Rws_38_0)
          ·
            refine w_aload_n gz_242_166 rfl ?_
            refine v_getI (j := 63) gz_242_167 rfl is_151 rd_10 rfl (fun v149 ev149 pv149 qv149 => ?_)
            refine w_goto (t := 189) gz_242_170 rfl ?_
            have c150 := c151_0_38_0
            have c151 := c151_64_38_0
            exact w_iret gz_242_189 gm_242 (k2 h38_0 (v149) (gh_38_0) (by omega) (by omega) (by omega) (by omega) n_Rws_38_0)
        ·
          refine w_aload_n gz_242_154 rfl ?_
          refine v_getI (j := 62) gz_242_155 rfl is_151 rd_10 rfl (fun v152 ev152 pv152 qv152 => ?_)
          refine w_goto (t := 189) gz_242_158 rfl ?_
          have c153 := c151_0_38_0
          have c154 := c151_64_38_0
          exact w_iret gz_242_189 gm_242 (k2 h38_0 (v152) (gh_38_0) (by omega) (by omega) (by omega) (by omega) n_Rws_38_0)
      ·
        refine w_iconst gz_242_43 (by decide) ?_
        refine w_istore_n (ls' := [(2, 151), (0, x1), (0, p38_0), (0, 0), (9, 0), (9, 0)]) gz_242_44 gm_242 rfl rfl rfl ?_
        exact J45_0 4 (0) (p38_1) h38_0 (gh_38_0) (by omega) (by omega) (by omega) (by omega) (c151_0_38_0.trans (by omega)) (c151_64_38_0.trans (by omega)) n_Mw_38_0 n_Mw3_38_0 n_Rws_38_0 (by first | assumption | omega | (subst_vars; omega) | omega) (by omega)
  refine w_aload_n gz_242_0 rfl ?_
  refine w_iconst gz_242_1 (by decide) ?_
  refine v_putI (j := 0) gz_242_2 rfl is_151 rd_10 rfl (by omega) (by omega) rfl (fun h155 fh155 => ?_)
  have gh155 : my_fr [(10, 0), (10, 27), (10, 32), (10, 33), (10, 37), (10, 46), (10, 48), (10, 62), (10, 63), (10, 64), (10, 65), (61, -1), (62, -1), (73, -1), (74, -1), (75, -1), (76, -1), (77, -1), (78, -1), (79, -1), (80, -1), (81, -1), (82, -1), (83, -1), (84, -1), (85, -1), (86, -1), (88, -1), (89, -1), (90, -1), (91, -1), (92, -1), (93, -1), (94, -1)] h h155 := my_fr.up my_fr.rf is_151 fh155 rfl
  have Mw_h155 : Mw h155 := Mw_ag (my_ag.up fh155 is_151 rfl) n_Mw
  have Mw3_h155 : Mw3 h155 := Mw3_ag (my_ag.up fh155 is_151 rfl) n_Mw3
  have Rws_h155 : Rws h155 := Rws_ag (my_ag.up fh155 is_151 rfl) n_Rws
  refine w_iload_n gz_242_5 rfl ?_
  refine w_iconst gz_242_6 (by decide) ?_
  refine w_iconst gz_242_7 (by decide) ?_
  refine w_inS (k := 0) (as := [(0, 3), (0, 0), (0, x1)]) (r := []) (ls0 := [(0, x1), (0, 0), (0, 3)]) gz_242_8 gm_147 rfl rfl rfl rfl rfl rfl ?_
  refine w_iload_n gz_147_0 rfl ?_
  refine w_iload_n gz_147_1 rfl ?_
  refine w_iclt (t := 14) gz_147_2 rfl (fun u156 => ?_) (fun u156 => ?_)
  ·
    refine w_iconst gz_147_14 (by decide) ?_
    refine w_bret gz_147_15 gm_147 (by omega) (by omega) ?_
    show wp l rho (d + 9) 242 11 [(2, 151), (0, x1), (9, 0), (9, 0), (9, 0), (9, 0)] [(0, 0)] h155 Q
    refine w_ifne (t := 16) gz_242_11 rfl (fun u157 => by exfalso; omega) (fun u157 => ?_)
    refine w_iconst gz_242_14 (by decide) ?_
    have c158 := (my_up_self fh155)
    exact w_iret gz_242_15 gm_242 (k0 h155 (gh155) (by omega) Rws_h155)
  ·
    refine w_iload_n gz_147_5 rfl ?_
    refine w_iload_n gz_147_6 rfl ?_
    refine w_icgt (t := 14) gz_147_7 rfl (fun u159 => ?_) (fun u159 => ?_)
    ·
      refine w_iconst gz_147_14 (by decide) ?_
      refine w_bret gz_147_15 gm_147 (by omega) (by omega) ?_
      show wp l rho (d + 9) 242 11 [(2, 151), (0, x1), (9, 0), (9, 0), (9, 0), (9, 0)] [(0, 0)] h155 Q
      refine w_ifne (t := 16) gz_242_11 rfl (fun u160 => by exfalso; omega) (fun u160 => ?_)
      refine w_iconst gz_242_14 (by decide) ?_
      have c161 := (my_up_self fh155)
      exact w_iret gz_242_15 gm_242 (k0 h155 (gh155) (by omega) Rws_h155)
    ·
      refine w_iconst gz_147_10 (by decide) ?_
      refine w_goto (t := 15) gz_147_11 rfl ?_
      refine w_bret gz_147_15 gm_147 (by omega) (by omega) ?_
      show wp l rho (d + 9) 242 11 [(2, 151), (0, x1), (9, 0), (9, 0), (9, 0), (9, 0)] [(0, 1)] h155 Q
      refine w_ifne (t := 16) gz_242_11 rfl (fun u162 => ?_) (fun u162 => by exfalso; omega)
      refine w_aload_n gz_242_16 rfl ?_
      refine w_iconst gz_242_17 (by decide) ?_
      refine v_putA (j := 62) gz_242_18 rfl is_151 rd_10 rfl rfl (fun h163 fh163 => ?_)
      have gh163 : my_fr [(10, 0), (10, 27), (10, 32), (10, 33), (10, 37), (10, 46), (10, 48), (10, 62), (10, 63), (10, 64), (10, 65), (61, -1), (62, -1), (73, -1), (74, -1), (75, -1), (76, -1), (77, -1), (78, -1), (79, -1), (80, -1), (81, -1), (82, -1), (83, -1), (84, -1), (85, -1), (86, -1), (88, -1), (89, -1), (90, -1), (91, -1), (92, -1), (93, -1), (94, -1)] h h163 := my_fr.up gh155 is_151 fh163 rfl
      have Mw_h163 : Mw h163 := Mw_ag (my_ag.up fh163 is_151 rfl) Mw_h155
      have Mw3_h163 : Mw3 h163 := Mw3_ag (my_ag.up fh163 is_151 rfl) Mw3_h155
      have Rws_h163 : Rws h163 := Rws_ag (my_ag.up fh163 is_151 rfl) Rws_h155
      refine w_aload_n gz_242_21 rfl ?_
      refine w_iconst gz_242_22 (by decide) ?_
      refine v_putI (j := 63) gz_242_23 rfl is_151 rd_10 rfl (by omega) (by omega) rfl (fun h164 fh164 => ?_)
      have gh164 : my_fr [(10, 0), (10, 27), (10, 32), (10, 33), (10, 37), (10, 46), (10, 48), (10, 62), (10, 63), (10, 64), (10, 65), (61, -1), (62, -1), (73, -1), (74, -1), (75, -1), (76, -1), (77, -1), (78, -1), (79, -1), (80, -1), (81, -1), (82, -1), (83, -1), (84, -1), (85, -1), (86, -1), (88, -1), (89, -1), (90, -1), (91, -1), (92, -1), (93, -1), (94, -1)] h h164 := my_fr.up gh163 is_151 fh164 rfl
      have Mw_h164 : Mw h164 := Mw_ag (my_ag.up fh164 is_151 rfl) Mw_h163
      have Mw3_h164 : Mw3 h164 := Mw3_ag (my_ag.up fh164 is_151 rfl) Mw3_h163
      have Rws_h164 : Rws h164 := Rws_ag (my_ag.up fh164 is_151 rfl) Rws_h163
      refine w_aload_n gz_242_26 rfl ?_
      refine w_iconst gz_242_27 (by decide) ?_
      refine v_putA (j := 64) gz_242_28 rfl is_151 rd_10 rfl rfl (fun h165 fh165 => ?_)
      have gh165 : my_fr [(10, 0), (10, 27), (10, 32), (10, 33), (10, 37), (10, 46), (10, 48), (10, 62), (10, 63), (10, 64), (10, 65), (61, -1), (62, -1), (73, -1), (74, -1), (75, -1), (76, -1), (77, -1), (78, -1), (79, -1), (80, -1), (81, -1), (82, -1), (83, -1), (84, -1), (85, -1), (86, -1), (88, -1), (89, -1), (90, -1), (91, -1), (92, -1), (93, -1), (94, -1)] h h165 := my_fr.up gh164 is_151 fh165 rfl
      have Mw_h165 : Mw h165 := Mw_ag (my_ag.up fh165 is_151 rfl) Mw_h164
      have Mw3_h165 : Mw3 h165 := Mw3_ag (my_ag.up fh165 is_151 rfl) Mw3_h164
      have Rws_h165 : Rws h165 := Rws_ag (my_ag.up fh165 is_151 rfl) Rws_h164
      refine w_aload_n gz_242_31 rfl ?_
      refine w_iconst gz_242_32 (by decide) ?_
      refine v_putA (j := 65) gz_242_33 rfl is_151 rd_10 rfl rfl (fun h166 fh166 => ?_)
      have gh166 : my_fr [(10, 0), (10, 27), (10, 32), (10, 33), (10, 37), (10, 46), (10, 48), (10, 62), (10, 63), (10, 64), (10, 65), (61, -1), (62, -1), (73, -1), (74, -1), (75, -1), (76, -1), (77, -1), (78, -1), (79, -1), (80, -1), (81, -1), (82, -1), (83, -1), (84, -1), (85, -1), (86, -1), (88, -1), (89, -1), (90, -1), (91, -1), (92, -1), (93, -1), (94, -1)] h h166 := my_fr.up gh165 is_151 fh166 rfl
      have Mw_h166 : Mw h166 := Mw_ag (my_ag.up fh166 is_151 rfl) Mw_h165
      have Mw3_h166 : Mw3 h166 := Mw3_ag (my_ag.up fh166 is_151 rfl) Mw3_h165
      have Rws_h166 : Rws h166 := Rws_ag (my_ag.up fh166 is_151 rfl) Rws_h165
      refine w_iconst gz_242_36 (by decide) ?_
      refine w_istore_n (ls' := [(2, 151), (0, x1), (0, 0), (9, 0), (9, 0), (9, 0)]) gz_242_37 gm_242 rfl rfl rfl ?_
      have ce167 : h166 151 63 = 0 := ((my_up_fld fh166 (by decide)).trans ((my_up_fld fh165 (by decide)).trans (my_up_self fh164)))
      exact J38_0 4 (0) (0) h166 (gh166) (by omega) (by omega) (by omega) (by omega) (by omega) (((my_up_fld fh166 (by decide)).trans ((my_up_fld fh165 (by decide)).trans ((my_up_fld fh164 (by decide)).trans ((my_up_fld fh163 (by decide)).trans (my_up_self fh155))))).trans (by omega)) (((my_up_fld fh166 (by decide)).trans (my_up_self fh165)).trans (by omega)) Mw_h166 Mw3_h166 Rws_h166 (by first | assumption | omega | (subst_vars; omega) | omega) (by omega)
end MYNModel_twice
