/-! contracts, printed by wip/gen/gy.py -/
section MYNModel_readSum_f0
theorem c_Model_readSum_f0 {l : Launch} {rho : Nat → Int32} {d : Nat} {h : my_H} {Q : my_H → my_V → Prop} {x1 : Int} {wv : Int} (a1 : 36 ≤ x1) (b1 : x1 ≤ 41) (cf : h 151 8 = 0) (hwv : wv ≤ 5) (hwv0 : 0 ≤ wv) (n_Tok : Tok h) (n_Mr : Mr h wv) (hp : x1 = 36 + h 167 6) (k0 : ∀ (h' : my_H), my_fr [(10, 7), (10, 8), (67, -1), (68, -1), (69, -1)] h h' → 1 ≤ h' 151 8 → h' 151 8 ≤ 16004 → h 151 7 ≤ h' 151 7 → Tok h' → Mr h' wv → Q h' (9, 0)) (k1 : ∀ (h' : my_H), my_fr [(10, 7), (10, 8), (67, -1), (68, -1), (69, -1)] h h' → 1 ≤ h' 151 7 → h' 151 7 ≤ 1001 → h' 151 8 = 0 → PaneOk h' x1 → h 151 7 ≤ h' 151 7 → Tok h' → Mr h' wv → Q h' (9, 0)) : wp l rho (d + 3) 190 0 [(2, 151), (0, x1)] [] h Q := by
  refine v_know (x := 151) (j := 7) (b := 7) rfl is_151 rd_10 rfl (fun k151_7 ek151_7 pk151_7 qk151_7 => ?_)
  refine w_aload_n gz_190_0 rfl ?_
  refine w_getX (v := 168) gz_190_1 is_151 rd_10 rfl (by decide) rfl ?_
  refine w_iload_n gz_190_4 rfl ?_
  refine w_iconst gz_190_5 (by decide) ?_
  refine w_iast gz_190_6 is_168 rd_67 (by omega) (by omega) (by omega) (by omega) (fun h2 fh2 => ?_)
  have gh2 : my_fr [(10, 7), (10, 8), (67, -1), (68, -1), (69, -1)] h h2 := my_fr.up my_fr.rf is_168 fh2 rfl
  have Tok_h2 : Tok h2 := Tok_ag (my_ag.up fh2 is_168 rfl) n_Tok
  have Mr_h2 : Mr h2 wv := Mr_u (a := 168) hwv (by decide) (by omega) fh2 n_Mr
  have P6_h2 : h2 167 6 = h 167 6 := P6_ag (my_ag.up fh2 is_168 rfl) (rfl)
  have k168 : h2 168 x1 = 5 := my_up_self fh2
  refine w_aload_n gz_190_7 rfl ?_
  refine w_getX (v := 170) gz_190_8 is_151 rd_10 rfl (by decide) rfl ?_
  refine w_iload_n gz_190_11 rfl ?_
  refine w_aload_n gz_190_12 rfl ?_
  refine w_aload_n gz_190_13 rfl ?_
  refine v_getI (j := 27) gz_190_14 rfl is_151 rd_10 rfl (fun v4 ev4 pv4 qv4 => ?_)
  refine w_iconst gz_190_17 (by decide) ?_
  refine w_isub gz_190_18 ⟨by omega, by omega⟩ ?_
  refine w_inv (k := 0) (as := [(0, (v4 - 1))]) (r := [(0, x1), (2, 170)]) (x := 151) (ls0 := [(2, 151), (0, (v4 - 1))]) gz_190_19 gm_187 rfl is_151 rd_10 rfl rfl rfl rfl rfl (c_Model_takeNumber_f0 (d := (d + 1)) (x1 := (v4 - 1)) (by omega) (by omega) (((my_up_role fh2 is_151 is_168 rfl).trans cf).trans (by omega)) Tok_h2 (fun h5 frh5 w6 w7 xp8 Tok_h5t9 => ?_) (fun h10 v11 frh10 w12 w13 w14 w15 w16 xp17 xp18 xp19 Tok_h10t20 => ?_))
  ·
    have gh5 : my_fr [(10, 7), (10, 8), (67, -1), (68, -1), (69, -1)] h h5 := my_fr.tr gh2 (frh5.mo rfl)
    have Mr_h5 : Mr h5 wv := Mr_ag (my_ag.fr frh5 rfl) Mr_h2
    have P6_h5 : h5 167 6 = h 167 6 := P6_ag (my_ag.fr frh5 rfl) P6_h2
    show wp l rho (d + 3) 190 22 [(2, 151), (0, x1)] [(0, 0), (0, x1), (2, 170)] h5 Q
    have hi21 : 0 ≤ 0 := by omega
    have hi22 : 0 ≤ 7 := by omega
    refine w_iast gz_190_22 is_170 rd_69 (by omega) (by omega) (by omega) (by omega) (fun h23 fh23 => ?_)
    have gh23 : my_fr [(10, 7), (10, 8), (67, -1), (68, -1), (69, -1)] h h23 := my_fr.up gh5 is_170 fh23 rfl
    have Mr_h23 : Mr h23 wv := Mr_u (a := 170) hwv (by decide) (by omega) fh23 Mr_h5
    have P6_h23 : h23 167 6 = h 167 6 := P6_ag (my_ag.up fh23 is_170 rfl) P6_h5
    have Tok_h23 : Tok h23 := Tok_ag (my_ag.up fh23 is_170 rfl) Tok_h5t9
    have a168 : ∀ j : Int, h23 168 j = h2 168 j := fun j => ((my_up_role fh23 is_168 is_170 rfl).trans ((my_fr.at frh5 is_168 rfl).trans (rfl : h2 168 j = h2 168 j)))
    have k168b : h23 168 x1 = 5 := by rw [a168]; exact k168
    have k170 : h23 170 x1 ≤ 7 := by rw [my_up_self fh23]; omega
    refine w_aload_n gz_190_23 rfl ?_
    refine w_bipush gz_190_24 (by decide) ?_
    refine w_inv (k := 0) (as := [(0, 9)]) (r := []) (x := 151) (ls0 := [(2, 151), (0, 9)]) gz_190_26 gm_175 rfl is_151 rd_10 rfl rfl rfl rfl rfl (c_Model_takeWord_f1 (d := d)  ((h5 151 8)) (((my_up_role fh23 is_151 is_170 rfl).trans (rfl : h5 151 8 = h5 151 8))) (by omega) (by omega) Tok_h23 (fun h24 frh24 w25 w26 xp27 Tok_h24t28 => ?_))
    have gh24 : my_fr [(10, 7), (10, 8), (67, -1), (68, -1), (69, -1)] h h24 := my_fr.tr gh23 (frh24.mo rfl)
    have Mr_h24 : Mr h24 wv := Mr_ag (my_ag.fr frh24 rfl) Mr_h23
    have P6_h24 : h24 167 6 = h 167 6 := P6_ag (my_ag.fr frh24 rfl) P6_h23
    show wp l rho (d + 3) 190 29 [(2, 151), (0, x1)] [] h24 Q
    refine w_aload_n gz_190_29 rfl ?_
    refine v_getI (j := 8) gz_190_30 rfl is_151 rd_10 rfl (fun v29 ev29 pv29 qv29 => ?_)
    have zv29 := ev29.trans ((my_fr.at frh24 is_151 rfl).trans ((my_up_role fh23 is_151 is_170 rfl).trans (rfl : h5 151 8 = h5 151 8)))
    refine w_ifne (t := 74) gz_190_33 rfl (fun u30 => ?_) (fun u30 => by exfalso; omega)
    refine w_aload_n gz_190_74 rfl ?_
    refine w_getX (v := 169) gz_190_75 is_151 rd_10 rfl (by decide) rfl ?_
    refine w_iload_n gz_190_78 rfl ?_
    refine w_aload_n gz_190_79 rfl ?_
    refine w_aload_n gz_190_80 rfl ?_
    refine v_getI (j := 27) gz_190_81 rfl is_151 rd_10 rfl (fun v32 ev32 pv32 qv32 => ?_)
    have zv32 := ev32.trans ((my_fr.at frh24 is_151 rfl).trans ((my_up_role fh23 is_151 is_170 rfl).trans ((my_fr.at frh5 is_151 rfl).trans ev4.symm)))
    refine w_iconst gz_190_84 (by decide) ?_
    refine w_isub gz_190_85 ⟨by omega, by omega⟩ ?_
    refine w_inv (k := 0) (as := [(0, (v32 - 1))]) (r := [(0, x1), (2, 169)]) (x := 151) (ls0 := [(2, 151), (0, (v32 - 1))]) gz_190_86 gm_187 rfl is_151 rd_10 rfl rfl rfl rfl rfl (c_Model_takeNumber_f1 (d := (d + 1)) (x1 := (v32 - 1)) (by omega) (by omega) (v29) (ev29.symm) (by omega) (by omega) Tok_h24t28 (fun w33 w34 xp35 Tok_h24t36 => ?_))
    show wp l rho (d + 3) 190 89 [(2, 151), (0, x1)] [(0, 0), (0, x1), (2, 169)] h24 Q
    have hi37 : 0 ≤ 0 := by omega
    have hi38 : 0 ≤ 7 := by omega
    refine w_iast gz_190_89 is_169 rd_68 (by omega) (by omega) (by omega) (by omega) (fun h39 fh39 => ?_)
    have gh39 : my_fr [(10, 7), (10, 8), (67, -1), (68, -1), (69, -1)] h h39 := my_fr.up gh24 is_169 fh39 rfl
    have Mr_h39 : Mr h39 wv := Mr_ag (my_ag.up fh39 is_169 rfl) Mr_h24
    have P6_h39 : h39 167 6 = h 167 6 := P6_ag (my_ag.up fh39 is_169 rfl) P6_h24
    have Tok_h39 : Tok h39 := Tok_ag (my_ag.up fh39 is_169 rfl) Tok_h24t36
    have ce40 : h39 151 7 = h24 151 7 := ((my_up_role fh39 is_151 is_169 rfl).trans (rfl : h24 151 7 = h24 151 7))
    have a168 : ∀ j : Int, h39 168 j = h23 168 j := fun j => ((my_up_role fh39 is_168 is_169 rfl).trans ((my_fr.at frh24 is_168 rfl).trans (rfl : h23 168 j = h23 168 j)))
    have a170 : ∀ j : Int, h39 170 j = h23 170 j := fun j => ((my_up_role fh39 is_170 is_169 rfl).trans ((my_fr.at frh24 is_170 rfl).trans (rfl : h23 170 j = h23 170 j)))
    have c41 := ((my_up_role fh39 is_151 is_169 rfl).trans ev29.symm)
    exact w_vret gz_190_90 gm_190 (k0 h39 (gh39) (by omega) (by omega) (by first | omega | (refine ⟨fun q => ?_, fun q => ?_⟩ <;> first | (rw [a168, k168b] at q; omega) | (rw [a170]; exact k170))) Tok_h39 Mr_h39)
  ·
    have gh10 : my_fr [(10, 7), (10, 8), (67, -1), (68, -1), (69, -1)] h h10 := my_fr.tr gh2 (frh10.mo rfl)
    have Mr_h10 : Mr h10 wv := Mr_ag (my_ag.fr frh10 rfl) Mr_h2
    have P6_h10 : h10 167 6 = h 167 6 := P6_ag (my_ag.fr frh10 rfl) P6_h2
    show wp l rho (d + 3) 190 22 [(2, 151), (0, x1)] [(0, v11), (0, x1), (2, 170)] h10 Q
    have hi42 : 0 ≤ v11 := by omega
    have hi43 : v11 ≤ 7 := by omega
    refine w_iast gz_190_22 is_170 rd_69 (by omega) (by omega) (by omega) (by omega) (fun h44 fh44 => ?_)
    have gh44 : my_fr [(10, 7), (10, 8), (67, -1), (68, -1), (69, -1)] h h44 := my_fr.up gh10 is_170 fh44 rfl
    have Mr_h44 : Mr h44 wv := Mr_u (a := 170) hwv (by decide) (by omega) fh44 Mr_h10
    have P6_h44 : h44 167 6 = h 167 6 := P6_ag (my_ag.up fh44 is_170 rfl) P6_h10
    have Tok_h44 : Tok h44 := Tok_ag (my_ag.up fh44 is_170 rfl) Tok_h10t20
    have a168 : ∀ j : Int, h44 168 j = h44 168 j := fun j => rfl
    have k168b : h44 168 x1 = 5 := by rw [a168]; exact k168
    have k170 : h44 170 x1 ≤ 7 := by rw [my_up_self fh44]; omega
    refine w_aload_n gz_190_23 rfl ?_
    refine w_bipush gz_190_24 (by decide) ?_
    refine w_inv (k := 0) (as := [(0, 9)]) (r := []) (x := 151) (ls0 := [(2, 151), (0, 9)]) gz_190_26 gm_175 rfl is_151 rd_10 rfl rfl rfl rfl rfl (c_Model_takeWord_f0 (d := d) (x1 := 9) (by omega) (by omega) (((my_up_role fh44 is_151 is_170 rfl).trans w16).trans (by omega)) Tok_h44 (fun h45 frh45 w46 w47 xp48 Tok_h45t49 => ?_) (fun h50 frh50 w51 w52 w53 xp54 Tok_h50t55 => ?_))
    ·
      have gh45 : my_fr [(10, 7), (10, 8), (67, -1), (68, -1), (69, -1)] h h45 := my_fr.tr gh44 (frh45.mo rfl)
      have Mr_h45 : Mr h45 wv := Mr_ag (my_ag.fr frh45 rfl) Mr_h44
      have P6_h45 : h45 167 6 = h 167 6 := P6_ag (my_ag.fr frh45 rfl) P6_h44
      show wp l rho (d + 3) 190 29 [(2, 151), (0, x1)] [] h45 Q
      refine w_aload_n gz_190_29 rfl ?_
      refine v_getI (j := 8) gz_190_30 rfl is_151 rd_10 rfl (fun v56 ev56 pv56 qv56 => ?_)
      have zv56 := ev56.trans (rfl : h45 151 8 = h45 151 8)
      refine w_ifne (t := 74) gz_190_33 rfl (fun u57 => ?_) (fun u57 => by exfalso; omega)
      refine w_aload_n gz_190_74 rfl ?_
      refine w_getX (v := 169) gz_190_75 is_151 rd_10 rfl (by decide) rfl ?_
      refine w_iload_n gz_190_78 rfl ?_
      refine w_aload_n gz_190_79 rfl ?_
      refine w_aload_n gz_190_80 rfl ?_
      refine v_getI (j := 27) gz_190_81 rfl is_151 rd_10 rfl (fun v59 ev59 pv59 qv59 => ?_)
      have zv59 := ev59.trans ((my_fr.at frh45 is_151 rfl).trans ((my_up_role fh44 is_151 is_170 rfl).trans ((my_fr.at frh10 is_151 rfl).trans ev4.symm)))
      refine w_iconst gz_190_84 (by decide) ?_
      refine w_isub gz_190_85 ⟨by omega, by omega⟩ ?_
      refine w_inv (k := 0) (as := [(0, (v59 - 1))]) (r := [(0, x1), (2, 169)]) (x := 151) (ls0 := [(2, 151), (0, (v59 - 1))]) gz_190_86 gm_187 rfl is_151 rd_10 rfl rfl rfl rfl rfl (c_Model_takeNumber_f1 (d := (d + 1)) (x1 := (v59 - 1)) (by omega) (by omega) (v56) (ev56.symm) (by omega) (by omega) Tok_h45t49 (fun w60 w61 xp62 Tok_h45t63 => ?_))
      show wp l rho (d + 3) 190 89 [(2, 151), (0, x1)] [(0, 0), (0, x1), (2, 169)] h45 Q
      have hi64 : 0 ≤ 0 := by omega
      have hi65 : 0 ≤ 7 := by omega
      refine w_iast gz_190_89 is_169 rd_68 (by omega) (by omega) (by omega) (by omega) (fun h66 fh66 => ?_)
      have gh66 : my_fr [(10, 7), (10, 8), (67, -1), (68, -1), (69, -1)] h h66 := my_fr.up gh45 is_169 fh66 rfl
      have Mr_h66 : Mr h66 wv := Mr_ag (my_ag.up fh66 is_169 rfl) Mr_h45
      have P6_h66 : h66 167 6 = h 167 6 := P6_ag (my_ag.up fh66 is_169 rfl) P6_h45
      have Tok_h66 : Tok h66 := Tok_ag (my_ag.up fh66 is_169 rfl) Tok_h45t63
      have ce67 : h66 151 7 = h45 151 7 := ((my_up_role fh66 is_151 is_169 rfl).trans (rfl : h45 151 7 = h45 151 7))
      have a168 : ∀ j : Int, h66 168 j = h44 168 j := fun j => ((my_up_role fh66 is_168 is_169 rfl).trans ((my_fr.at frh45 is_168 rfl).trans (rfl : h44 168 j = h44 168 j)))
      have a170 : ∀ j : Int, h66 170 j = h44 170 j := fun j => ((my_up_role fh66 is_170 is_169 rfl).trans ((my_fr.at frh45 is_170 rfl).trans (rfl : h44 170 j = h44 170 j)))
      have c68 := ((my_up_role fh66 is_151 is_169 rfl).trans ev56.symm)
      exact w_vret gz_190_90 gm_190 (k0 h66 (gh66) (by omega) (by omega) (by first | omega | (refine ⟨fun q => ?_, fun q => ?_⟩ <;> first | (rw [a168, k168b] at q; omega) | (rw [a170]; exact k170))) Tok_h66 Mr_h66)
    ·
      have gh50 : my_fr [(10, 7), (10, 8), (67, -1), (68, -1), (69, -1)] h h50 := my_fr.tr gh44 (frh50.mo rfl)
      have Mr_h50 : Mr h50 wv := Mr_ag (my_ag.fr frh50 rfl) Mr_h44
      have P6_h50 : h50 167 6 = h 167 6 := P6_ag (my_ag.fr frh50 rfl) P6_h44
      show wp l rho (d + 3) 190 29 [(2, 151), (0, x1)] [] h50 Q
      refine w_aload_n gz_190_29 rfl ?_
      refine v_getI (j := 8) gz_190_30 rfl is_151 rd_10 rfl (fun v69 ev69 pv69 qv69 => ?_)
      have zv69 := ev69.trans w53
      refine w_ifne (t := 74) gz_190_33 rfl (fun u70 => by exfalso; omega) (fun u70 => ?_)
      refine w_aload_n gz_190_36 rfl ?_
      refine w_getX (v := 153) gz_190_37 is_151 rd_10 rfl (by decide) rfl ?_
      refine w_aload_n gz_190_40 rfl ?_
      refine v_getI (j := 7) gz_190_41 rfl is_151 rd_10 rfl (fun v72 ev72 pv72 qv72 => ?_)
      have zv72 := ev72.trans (rfl : h50 151 7 = h50 151 7)
      refine w_iald gz_190_44 is_153 rd_52 (by omega) (by omega) (fun v73 ev73 pv73 qv73 => ?_)
      refine w_iconst gz_190_45 (by decide) ?_
      refine w_icne (t := 74) gz_190_46 rfl (fun u74 => ?_) (fun u74 => ?_)
      ·
        refine w_aload_n gz_190_74 rfl ?_
        refine w_getX (v := 169) gz_190_75 is_151 rd_10 rfl (by decide) rfl ?_
        refine w_iload_n gz_190_78 rfl ?_
        refine w_aload_n gz_190_79 rfl ?_
        refine w_aload_n gz_190_80 rfl ?_
        refine v_getI (j := 27) gz_190_81 rfl is_151 rd_10 rfl (fun v76 ev76 pv76 qv76 => ?_)
        have zv76 := ev76.trans ((my_fr.at frh50 is_151 rfl).trans ((my_up_role fh44 is_151 is_170 rfl).trans ((my_fr.at frh10 is_151 rfl).trans ev4.symm)))
        refine w_iconst gz_190_84 (by decide) ?_
        refine w_isub gz_190_85 ⟨by omega, by omega⟩ ?_
        refine w_inv (k := 0) (as := [(0, (v76 - 1))]) (r := [(0, x1), (2, 169)]) (x := 151) (ls0 := [(2, 151), (0, (v76 - 1))]) gz_190_86 gm_187 rfl is_151 rd_10 rfl rfl rfl rfl rfl (c_Model_takeNumber_f0 (d := (d + 1)) (x1 := (v76 - 1)) (by omega) (by omega) (ev69.symm.trans (by omega)) Tok_h50t55 (fun h77 frh77 w78 w79 xp80 Tok_h77t81 => ?_) (fun h82 v83 frh82 w84 w85 w86 w87 w88 xp89 xp90 xp91 Tok_h82t92 => ?_))
        ·
          have gh77 : my_fr [(10, 7), (10, 8), (67, -1), (68, -1), (69, -1)] h h77 := my_fr.tr gh50 (frh77.mo rfl)
          have Mr_h77 : Mr h77 wv := Mr_ag (my_ag.fr frh77 rfl) Mr_h50
          have P6_h77 : h77 167 6 = h 167 6 := P6_ag (my_ag.fr frh77 rfl) P6_h50
          show wp l rho (d + 3) 190 89 [(2, 151), (0, x1)] [(0, 0), (0, x1), (2, 169)] h77 Q
          have hi93 : 0 ≤ 0 := by omega
          have hi94 : 0 ≤ 7 := by omega
          refine w_iast gz_190_89 is_169 rd_68 (by omega) (by omega) (by omega) (by omega) (fun h95 fh95 => ?_)
          have gh95 : my_fr [(10, 7), (10, 8), (67, -1), (68, -1), (69, -1)] h h95 := my_fr.up gh77 is_169 fh95 rfl
          have Mr_h95 : Mr h95 wv := Mr_ag (my_ag.up fh95 is_169 rfl) Mr_h77
          have P6_h95 : h95 167 6 = h 167 6 := P6_ag (my_ag.up fh95 is_169 rfl) P6_h77
          have Tok_h95 : Tok h95 := Tok_ag (my_ag.up fh95 is_169 rfl) Tok_h77t81
          have ce96 : h95 151 7 = h77 151 7 := ((my_up_role fh95 is_151 is_169 rfl).trans (rfl : h77 151 7 = h77 151 7))
          have a168 : ∀ j : Int, h95 168 j = h44 168 j := fun j => ((my_up_role fh95 is_168 is_169 rfl).trans ((my_fr.at frh77 is_168 rfl).trans ((my_fr.at frh50 is_168 rfl).trans (rfl : h44 168 j = h44 168 j))))
          have a170 : ∀ j : Int, h95 170 j = h44 170 j := fun j => ((my_up_role fh95 is_170 is_169 rfl).trans ((my_fr.at frh77 is_170 rfl).trans ((my_fr.at frh50 is_170 rfl).trans (rfl : h44 170 j = h44 170 j))))
          have c97 := ((my_up_role fh95 is_151 is_169 rfl).trans (rfl : h77 151 8 = h77 151 8))
          exact w_vret gz_190_90 gm_190 (k0 h95 (gh95) (by omega) (by omega) (by first | omega | (refine ⟨fun q => ?_, fun q => ?_⟩ <;> first | (rw [a168, k168b] at q; omega) | (rw [a170]; exact k170))) Tok_h95 Mr_h95)
        ·
          have gh82 : my_fr [(10, 7), (10, 8), (67, -1), (68, -1), (69, -1)] h h82 := my_fr.tr gh50 (frh82.mo rfl)
          have Mr_h82 : Mr h82 wv := Mr_ag (my_ag.fr frh82 rfl) Mr_h50
          have P6_h82 : h82 167 6 = h 167 6 := P6_ag (my_ag.fr frh82 rfl) P6_h50
          show wp l rho (d + 3) 190 89 [(2, 151), (0, x1)] [(0, v83), (0, x1), (2, 169)] h82 Q
          have hi98 : 0 ≤ v83 := by omega
          have hi99 : v83 ≤ 7 := by omega
          refine w_iast gz_190_89 is_169 rd_68 (by omega) (by omega) (by omega) (by omega) (fun h100 fh100 => ?_)
          have gh100 : my_fr [(10, 7), (10, 8), (67, -1), (68, -1), (69, -1)] h h100 := my_fr.up gh82 is_169 fh100 rfl
          have Mr_h100 : Mr h100 wv := Mr_ag (my_ag.up fh100 is_169 rfl) Mr_h82
          have P6_h100 : h100 167 6 = h 167 6 := P6_ag (my_ag.up fh100 is_169 rfl) P6_h82
          have Tok_h100 : Tok h100 := Tok_ag (my_ag.up fh100 is_169 rfl) Tok_h82t92
          have ce101 : h100 151 7 = (h82 151 7) := ((my_up_role fh100 is_151 is_169 rfl).trans (rfl : h82 151 7 = h82 151 7))
          have a168 : ∀ j : Int, h100 168 j = h44 168 j := fun j => ((my_up_role fh100 is_168 is_169 rfl).trans ((my_fr.at frh82 is_168 rfl).trans ((my_fr.at frh50 is_168 rfl).trans (rfl : h44 168 j = h44 168 j))))
          have a170 : ∀ j : Int, h100 170 j = h44 170 j := fun j => ((my_up_role fh100 is_170 is_169 rfl).trans ((my_fr.at frh82 is_170 rfl).trans ((my_fr.at frh50 is_170 rfl).trans (rfl : h44 170 j = h44 170 j))))
          have c102 := ((my_up_role fh100 is_151 is_169 rfl).trans (rfl : h82 151 7 = h82 151 7))
          have c103 := ((my_up_role fh100 is_151 is_169 rfl).trans w88)
          exact w_vret gz_190_90 gm_190 (k1 h100 (gh100) (by omega) (by omega) (by omega) (by first | omega | (refine ⟨fun q => ?_, fun q => ?_⟩ <;> first | (rw [a168, k168b] at q; omega) | (rw [a170]; exact k170))) (by first | omega | (refine ⟨fun q => ?_, fun q => ?_⟩ <;> first | (rw [a168, k168b] at q; omega) | (rw [a170]; exact k170))) Tok_h100 Mr_h100)
      ·
        refine w_aload_n gz_190_49 rfl ?_
        refine w_getX (v := 155) gz_190_50 is_151 rd_10 rfl (by decide) rfl ?_
        refine w_aload_n gz_190_53 rfl ?_
        refine v_getI (j := 7) gz_190_54 rfl is_151 rd_10 rfl (fun v105 ev105 pv105 qv105 => ?_)
        have zv105 := ev105.trans ev72.symm
        refine w_lald gz_190_57 is_155 rd_54 (by omega) (by omega) (fun v106 ev106 pv106 => ?_)
        refine w_aload_n gz_190_58 rfl ?_
        refine w_getX (v := 170) gz_190_59 is_151 rd_10 rfl (by decide) rfl ?_
        refine w_iload_n gz_190_62 rfl ?_
        refine w_iald gz_190_63 is_170 rd_69 (by omega) (by omega) (fun v108 ev108 pv108 qv108 => ?_)
        have zv108 := ev108.trans ((my_fr.at frh50 is_170 rfl).trans (my_up_self fh44))
        refine w_i2l gz_190_64 ?_
        refine w_lcmpE gz_190_65 (fun v109 pv109 qv109 xv109 => ?_)
        refine w_ifne (t := 74) gz_190_66 rfl (fun u110 => ?_) (fun u110 => ?_)
        ·
          refine w_aload_n gz_190_74 rfl ?_
          refine w_getX (v := 169) gz_190_75 is_151 rd_10 rfl (by decide) rfl ?_
          refine w_iload_n gz_190_78 rfl ?_
          refine w_aload_n gz_190_79 rfl ?_
          refine w_aload_n gz_190_80 rfl ?_
          refine v_getI (j := 27) gz_190_81 rfl is_151 rd_10 rfl (fun v112 ev112 pv112 qv112 => ?_)
          have zv112 := ev112.trans ((my_fr.at frh50 is_151 rfl).trans ((my_up_role fh44 is_151 is_170 rfl).trans ((my_fr.at frh10 is_151 rfl).trans ev4.symm)))
          refine w_iconst gz_190_84 (by decide) ?_
          refine w_isub gz_190_85 ⟨by omega, by omega⟩ ?_
          refine w_inv (k := 0) (as := [(0, (v112 - 1))]) (r := [(0, x1), (2, 169)]) (x := 151) (ls0 := [(2, 151), (0, (v112 - 1))]) gz_190_86 gm_187 rfl is_151 rd_10 rfl rfl rfl rfl rfl (c_Model_takeNumber_f0 (d := (d + 1)) (x1 := (v112 - 1)) (by omega) (by omega) (ev69.symm.trans (by omega)) Tok_h50t55 (fun h113 frh113 w114 w115 xp116 Tok_h113t117 => ?_) (fun h118 v119 frh118 w120 w121 w122 w123 w124 xp125 xp126 xp127 Tok_h118t128 => ?_))
          ·
            have gh113 : my_fr [(10, 7), (10, 8), (67, -1), (68, -1), (69, -1)] h h113 := my_fr.tr gh50 (frh113.mo rfl)
            have Mr_h113 : Mr h113 wv := Mr_ag (my_ag.fr frh113 rfl) Mr_h50
            have P6_h113 : h113 167 6 = h 167 6 := P6_ag (my_ag.fr frh113 rfl) P6_h50
            show wp l rho (d + 3) 190 89 [(2, 151), (0, x1)] [(0, 0), (0, x1), (2, 169)] h113 Q
            have hi129 : 0 ≤ 0 := by omega
            have hi130 : 0 ≤ 7 := by omega
            refine w_iast gz_190_89 is_169 rd_68 (by omega) (by omega) (by omega) (by omega) (fun h131 fh131 => ?_)
            have gh131 : my_fr [(10, 7), (10, 8), (67, -1), (68, -1), (69, -1)] h h131 := my_fr.up gh113 is_169 fh131 rfl
            have Mr_h131 : Mr h131 wv := Mr_ag (my_ag.up fh131 is_169 rfl) Mr_h113
            have P6_h131 : h131 167 6 = h 167 6 := P6_ag (my_ag.up fh131 is_169 rfl) P6_h113
            have Tok_h131 : Tok h131 := Tok_ag (my_ag.up fh131 is_169 rfl) Tok_h113t117
            have ce132 : h131 151 7 = h113 151 7 := ((my_up_role fh131 is_151 is_169 rfl).trans (rfl : h113 151 7 = h113 151 7))
            have a168 : ∀ j : Int, h131 168 j = h44 168 j := fun j => ((my_up_role fh131 is_168 is_169 rfl).trans ((my_fr.at frh113 is_168 rfl).trans ((my_fr.at frh50 is_168 rfl).trans (rfl : h44 168 j = h44 168 j))))
            have a170 : ∀ j : Int, h131 170 j = h44 170 j := fun j => ((my_up_role fh131 is_170 is_169 rfl).trans ((my_fr.at frh113 is_170 rfl).trans ((my_fr.at frh50 is_170 rfl).trans (rfl : h44 170 j = h44 170 j))))
            have c133 := ((my_up_role fh131 is_151 is_169 rfl).trans (rfl : h113 151 8 = h113 151 8))
            exact w_vret gz_190_90 gm_190 (k0 h131 (gh131) (by omega) (by omega) (by first | omega | (refine ⟨fun q => ?_, fun q => ?_⟩ <;> first | (rw [a168, k168b] at q; omega) | (rw [a170]; exact k170))) Tok_h131 Mr_h131)
          ·
            have gh118 : my_fr [(10, 7), (10, 8), (67, -1), (68, -1), (69, -1)] h h118 := my_fr.tr gh50 (frh118.mo rfl)
            have Mr_h118 : Mr h118 wv := Mr_ag (my_ag.fr frh118 rfl) Mr_h50
            have P6_h118 : h118 167 6 = h 167 6 := P6_ag (my_ag.fr frh118 rfl) P6_h50
            show wp l rho (d + 3) 190 89 [(2, 151), (0, x1)] [(0, v119), (0, x1), (2, 169)] h118 Q
            have hi134 : 0 ≤ v119 := by omega
            have hi135 : v119 ≤ 7 := by omega
            refine w_iast gz_190_89 is_169 rd_68 (by omega) (by omega) (by omega) (by omega) (fun h136 fh136 => ?_)
            have gh136 : my_fr [(10, 7), (10, 8), (67, -1), (68, -1), (69, -1)] h h136 := my_fr.up gh118 is_169 fh136 rfl
            have Mr_h136 : Mr h136 wv := Mr_ag (my_ag.up fh136 is_169 rfl) Mr_h118
            have P6_h136 : h136 167 6 = h 167 6 := P6_ag (my_ag.up fh136 is_169 rfl) P6_h118
            have Tok_h136 : Tok h136 := Tok_ag (my_ag.up fh136 is_169 rfl) Tok_h118t128
            have ce137 : h136 151 7 = (h118 151 7) := ((my_up_role fh136 is_151 is_169 rfl).trans (rfl : h118 151 7 = h118 151 7))
            have a168 : ∀ j : Int, h136 168 j = h44 168 j := fun j => ((my_up_role fh136 is_168 is_169 rfl).trans ((my_fr.at frh118 is_168 rfl).trans ((my_fr.at frh50 is_168 rfl).trans (rfl : h44 168 j = h44 168 j))))
            have a170 : ∀ j : Int, h136 170 j = h44 170 j := fun j => ((my_up_role fh136 is_170 is_169 rfl).trans ((my_fr.at frh118 is_170 rfl).trans ((my_fr.at frh50 is_170 rfl).trans (rfl : h44 170 j = h44 170 j))))
            have c138 := ((my_up_role fh136 is_151 is_169 rfl).trans (rfl : h118 151 7 = h118 151 7))
            have c139 := ((my_up_role fh136 is_151 is_169 rfl).trans w124)
            exact w_vret gz_190_90 gm_190 (k1 h136 (gh136) (by omega) (by omega) (by omega) (by first | omega | (refine ⟨fun q => ?_, fun q => ?_⟩ <;> first | (rw [a168, k168b] at q; omega) | (rw [a170]; exact k170))) (by first | omega | (refine ⟨fun q => ?_, fun q => ?_⟩ <;> first | (rw [a168, k168b] at q; omega) | (rw [a170]; exact k170))) Tok_h136 Mr_h136)
        ·
          refine w_aload_n gz_190_69 rfl ?_
          refine w_iconst gz_190_70 (by decide) ?_
          refine w_inv (k := 0) (as := [(0, 3)]) (r := []) (x := 151) (ls0 := [(2, 151), (0, 3)]) gz_190_71 gm_178 rfl is_151 rd_10 rfl rfl rfl rfl rfl ?_
          refine w_aload_n gz_178_0 rfl ?_
          refine v_getI (j := 8) gz_178_1 rfl is_151 rd_10 rfl (fun v140 ev140 pv140 qv140 => ?_)
          have zv140 := ev140.trans ev69.symm
          refine w_ifne (t := 25) gz_178_4 rfl (fun u141 => by exfalso; omega) (fun u141 => ?_)
          refine w_aload_n gz_178_7 rfl ?_
          refine w_iload_n gz_178_8 rfl ?_
          refine w_bipush gz_178_9 (by decide) ?_
          refine w_aload_n gz_178_11 rfl ?_
          refine w_getX (v := 154) gz_178_12 is_151 rd_10 rfl (by decide) rfl ?_
          refine w_aload_n gz_178_15 rfl ?_
          refine v_getI (j := 7) gz_178_16 rfl is_151 rd_10 rfl (fun v143 ev143 pv143 qv143 => ?_)
          have zv143 := ev143.trans ev105.symm
          refine w_iald gz_178_19 is_154 rd_53 (by omega) (by omega) (fun v144 ev144 pv144 qv144 => ?_)
          refine w_imul gz_178_20 ⟨by omega, by omega⟩ ?_
          refine w_iadd gz_178_21 ⟨by omega, by omega⟩ ?_
          refine v_putI (j := 8) gz_178_22 rfl is_151 rd_10 rfl (by omega) (by omega) rfl (fun h145 fh145 => ?_)
          have gh145 : my_fr [(10, 7), (10, 8), (67, -1), (68, -1), (69, -1)] h h145 := my_fr.up gh50 is_151 fh145 rfl
          have Mr_h145 : Mr h145 wv := Mr_ag (my_ag.up fh145 is_151 rfl) Mr_h50
          have P6_h145 : h145 167 6 = h 167 6 := P6_ag (my_ag.up fh145 is_151 rfl) P6_h50
          have Tok_h145 : Tok h145 := Tok_ag (my_ag.up fh145 is_151 rfl) Tok_h50t55
          refine w_vret gz_178_25 gm_178 ?_
          show wp l rho (d + 3) 190 74 [(2, 151), (0, x1)] [] h145 Q
          refine w_aload_n gz_190_74 rfl ?_
          refine w_getX (v := 169) gz_190_75 is_151 rd_10 rfl (by decide) rfl ?_
          refine w_iload_n gz_190_78 rfl ?_
          refine w_aload_n gz_190_79 rfl ?_
          refine w_aload_n gz_190_80 rfl ?_
          refine v_getI (j := 27) gz_190_81 rfl is_151 rd_10 rfl (fun v147 ev147 pv147 qv147 => ?_)
          have zv147 := ev147.trans ((my_up_fld fh145 (by decide)).trans ((my_fr.at frh50 is_151 rfl).trans ((my_up_role fh44 is_151 is_170 rfl).trans ((my_fr.at frh10 is_151 rfl).trans ev4.symm))))
          refine w_iconst gz_190_84 (by decide) ?_
          refine w_isub gz_190_85 ⟨by omega, by omega⟩ ?_
          refine w_inv (k := 0) (as := [(0, (v147 - 1))]) (r := [(0, x1), (2, 169)]) (x := 151) (ls0 := [(2, 151), (0, (v147 - 1))]) gz_190_86 gm_187 rfl is_151 rd_10 rfl rfl rfl rfl rfl (c_Model_takeNumber_f1 (d := (d + 1)) (x1 := (v147 - 1)) (by omega) (by omega) ((3 + (16 * v144))) ((my_up_self fh145)) (by omega) (by omega) Tok_h145 (fun w148 w149 xp150 Tok_h145t151 => ?_))
          show wp l rho (d + 3) 190 89 [(2, 151), (0, x1)] [(0, 0), (0, x1), (2, 169)] h145 Q
          have hi152 : 0 ≤ 0 := by omega
          have hi153 : 0 ≤ 7 := by omega
          refine w_iast gz_190_89 is_169 rd_68 (by omega) (by omega) (by omega) (by omega) (fun h154 fh154 => ?_)
          have gh154 : my_fr [(10, 7), (10, 8), (67, -1), (68, -1), (69, -1)] h h154 := my_fr.up gh145 is_169 fh154 rfl
          have Mr_h154 : Mr h154 wv := Mr_ag (my_ag.up fh154 is_169 rfl) Mr_h145
          have P6_h154 : h154 167 6 = h 167 6 := P6_ag (my_ag.up fh154 is_169 rfl) P6_h145
          have Tok_h154 : Tok h154 := Tok_ag (my_ag.up fh154 is_169 rfl) Tok_h145t151
          have ce155 : h154 151 7 = v143 := ((my_up_role fh154 is_151 is_169 rfl).trans ((my_up_fld fh145 (by decide)).trans ev143.symm))
          have a168 : ∀ j : Int, h154 168 j = h44 168 j := fun j => ((my_up_role fh154 is_168 is_169 rfl).trans ((my_up_role fh145 is_168 is_151 rfl).trans ((my_fr.at frh50 is_168 rfl).trans (rfl : h44 168 j = h44 168 j))))
          have a170 : ∀ j : Int, h154 170 j = h44 170 j := fun j => ((my_up_role fh154 is_170 is_169 rfl).trans ((my_up_role fh145 is_170 is_151 rfl).trans ((my_fr.at frh50 is_170 rfl).trans (rfl : h44 170 j = h44 170 j))))
          have c156 := ((my_up_role fh154 is_151 is_169 rfl).trans (my_up_self fh145))
          exact w_vret gz_190_90 gm_190 (k0 h154 (gh154) (by omega) (by omega) (by first | omega | (refine ⟨fun q => ?_, fun q => ?_⟩ <;> first | (rw [a168, k168b] at q; omega) | (rw [a170]; exact k170))) Tok_h154 Mr_h154)
end MYNModel_readSum_f0
