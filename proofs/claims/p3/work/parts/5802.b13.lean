/-! contracts, printed by wip/gen/gy.py -/
section MYNModel_readSum_f0
theorem c_Model_readSum_f0 {l : Launch} {rho : Nat → Int32} {d : Nat} {h : my_H} {Q : my_H → my_V → Prop} {x1 : Int} {wv : Int} (a1 : 36 ≤ x1) (b1 : x1 ≤ 41) (cf : h 151 8 = 0) (hwv : wv ≤ 5) (hwv0 : 0 ≤ wv) (n_Tok : Tok h) (n_Mr : Mr h wv) (hp : x1 = 36 + h 167 6) (k0 : ∀ (h' : my_H), my_fr [(10, 7), (10, 8), (67, -1), (68, -1), (69, -1)] h h' → 1 ≤ h' 151 8 → h' 151 8 ≤ 16004 → h 151 7 ≤ h' 151 7 → Tok h' → Mr h' wv → Q h' (9, 0)) (k1 : ∀ (h' : my_H), my_fr [(10, 7), (10, 8), (67, -1), (68, -1), (69, -1)] h h' → 1 ≤ h' 151 7 → h' 151 7 ≤ 1001 → h' 151 8 = 0 → PaneOk h' x1 → h 151 7 ≤ h' 151 7 → Tok h' → Mr h' wv → Q h' (9, 0)) : wp l rho (d + 3) 190 0 [(2, 151), (0, x1)] [] h Q := by
  refine v_know (x := 151) (j := 7) (b := 7) rfl is_151 rd_10 rfl (fun k151_7 ek151_7 pk151_7 qk151_7 => ?_)
  refine w_aload_n gz_190_0 rfl ?_
  refine w_getX (v := 168) gz_190_1 is_151 rd_10 rfl (by decide) rfl ?_
  refine w_iload_n gz_190_4 rfl ?_
  refine w_iconst gz_190_5 (by decide) ?_
  refine w_iast gz_190_6 is_168 rd_67 (by omega) (by omega) (by omega) (by omega) (fun h2 fh2 => ?_)
  have gh2 : my_fr [(10, 7), (10, 8), (67, -1), (68, -1), (69, -1)] h h2 := my_fr.up my_fr.rf is_168 fh2 rfl
  have Tok_h2 : Tok h2 := Tok_ag (my_ag.up fh2 is_168 rfl) n_Tok
  have Mr_h2 : Mr h2 wv := Mr_u (a := 168) hwv (by decide) (by omega) fh2 n_Mr
  have P6_h2 : h2 167 6 = h 167 6 := P6_ag (my_ag.up fh2 is_168 rfl) (rfl)
  have k168 : h2 168 x1 = 5 := my_up_self fh2
  refine w_aload_n gz_190_7 rfl ?_
  refine w_getX (v := 170) gz_190_8 is_151 rd_10 rfl (by decide) rfl ?_
  refine w_iload_n gz_190_11 rfl ?_
  refine w_aload_n gz_190_12 rfl ?_
  refine w_aload_n gz_190_13 rfl ?_
  refine v_getI (j := 27) gz_190_14 rfl is_151 rd_10 rfl (fun v4 ev4 pv4 qv4 => ?_)
  refine w_iconst gz_190_17 (by decide) ?_
  refine w_isub gz_190_18 ⟨by omega, by omega⟩ ?_
  have ce5 : h2 151 7 = k151_7 := ((my_up_role fh2 is_151 is_168 rfl).trans ek151_7.symm)
  refine w_inv (k := 0) (as := [(0, (v4 - 1))]) (r := [(0, x1), (2, 170)]) (x := 151) (ls0 := [(2, 151), (0, (v4 - 1))]) gz_190_19 gm_187 rfl is_151 rd_10 rfl rfl rfl rfl rfl (c_Model_takeNumber_f0 (d := (d + 1)) (x1 := (v4 - 1)) (by omega) (by omega) (((my_up_role fh2 is_151 is_168 rfl).trans cf).trans (by omega)) Tok_h2 (fun h6 frh6 w7 w8 xp9 Tok_h6t10 => ?_) (fun h11 v12 frh11 w13 w14 w15 w16 w17 xp18 xp19 xp20 Tok_h11t21 => ?_))
  ·
    have gh6 : my_fr [(10, 7), (10, 8), (67, -1), (68, -1), (69, -1)] h h6 := my_fr.tr gh2 (frh6.mo rfl)
    have Mr_h6 : Mr h6 wv := Mr_ag (my_ag.fr frh6 rfl) Mr_h2
    have P6_h6 : h6 167 6 = h 167 6 := P6_ag (my_ag.fr frh6 rfl) P6_h2
    show wp l rho (d + 3) 190 22 [(2, 151), (0, x1)] [(0, 0), (0, x1), (2, 170)] h6 Q
    have hi22 : 0 ≤ 0 := by omega
    have hi23 : 0 ≤ 7 := by omega
    refine w_iast gz_190_22 is_170 rd_69 (by omega) (by omega) (by omega) (by omega) (fun h24 fh24 => ?_)
    have gh24 : my_fr [(10, 7), (10, 8), (67, -1), (68, -1), (69, -1)] h h24 := my_fr.up gh6 is_170 fh24 rfl
    have Mr_h24 : Mr h24 wv := Mr_u (a := 170) hwv (by decide) (by omega) fh24 Mr_h6
    have P6_h24 : h24 167 6 = h 167 6 := P6_ag (my_ag.up fh24 is_170 rfl) P6_h6
    have Tok_h24 : Tok h24 := Tok_ag (my_ag.up fh24 is_170 rfl) Tok_h6t10
    have k170 : h24 170 x1 ≤ 7 := by rw [my_up_self fh24]; omega
    refine w_aload_n gz_190_23 rfl ?_
    refine w_bipush gz_190_24 (by decide) ?_
    have ce25 : h24 151 7 = h6 151 7 := ((my_up_role fh24 is_151 is_170 rfl).trans (rfl : h6 151 7 = h6 151 7))
    refine w_inv (k := 0) (as := [(0, 9)]) (r := []) (x := 151) (ls0 := [(2, 151), (0, 9)]) gz_190_26 gm_175 rfl is_151 rd_10 rfl rfl rfl rfl rfl (c_Model_takeWord_f1 (d := d)  ((h6 151 8)) (((my_up_role fh24 is_151 is_170 rfl).trans (rfl : h6 151 8 = h6 151 8))) (by omega) (by omega) Tok_h24 (fun h26 frh26 w27 w28 xp29 Tok_h26t30 => ?_))
    have gh26 : my_fr [(10, 7), (10, 8), (67, -1), (68, -1), (69, -1)] h h26 := my_fr.tr gh24 (frh26.mo rfl)
    have Mr_h26 : Mr h26 wv := Mr_ag (my_ag.fr frh26 rfl) Mr_h24
    have P6_h26 : h26 167 6 = h 167 6 := P6_ag (my_ag.fr frh26 rfl) P6_h24
    show wp l rho (d + 3) 190 29 [(2, 151), (0, x1)] [] h26 Q
    refine w_aload_n gz_190_29 rfl ?_
    refine v_getI (j := 8) gz_190_30 rfl is_151 rd_10 rfl (fun v31 ev31 pv31 qv31 => ?_)
    have zv31 := ev31.trans ((my_fr.at frh26 is_151 rfl).trans ((my_up_role fh24 is_151 is_170 rfl).trans (rfl : h6 151 8 = h6 151 8)))
    refine w_ifne (t := 74) gz_190_33 rfl (fun u32 => ?_) (fun u32 => by exfalso; omega)
    refine w_aload_n gz_190_74 rfl ?_
    refine w_getX (v := 169) gz_190_75 is_151 rd_10 rfl (by decide) rfl ?_
    refine w_iload_n gz_190_78 rfl ?_
    refine w_aload_n gz_190_79 rfl ?_
    refine w_aload_n gz_190_80 rfl ?_
    refine v_getI (j := 27) gz_190_81 rfl is_151 rd_10 rfl (fun v34 ev34 pv34 qv34 => ?_)
    have zv34 := ev34.trans ((my_fr.at frh26 is_151 rfl).trans ((my_up_role fh24 is_151 is_170 rfl).trans ((my_fr.at frh6 is_151 rfl).trans ev4.symm)))
    refine w_iconst gz_190_84 (by decide) ?_
    refine w_isub gz_190_85 ⟨by omega, by omega⟩ ?_
    refine w_inv (k := 0) (as := [(0, (v34 - 1))]) (r := [(0, x1), (2, 169)]) (x := 151) (ls0 := [(2, 151), (0, (v34 - 1))]) gz_190_86 gm_187 rfl is_151 rd_10 rfl rfl rfl rfl rfl (c_Model_takeNumber_f1 (d := (d + 1)) (x1 := (v34 - 1)) (by omega) (by omega) (v31) (ev31.symm) (by omega) (by omega) Tok_h26t30 (fun w35 w36 xp37 Tok_h26t38 => ?_))
    show wp l rho (d + 3) 190 89 [(2, 151), (0, x1)] [(0, 0), (0, x1), (2, 169)] h26 Q
    have hi39 : 0 ≤ 0 := by omega
    have hi40 : 0 ≤ 7 := by omega
    refine w_iast gz_190_89 is_169 rd_68 (by omega) (by omega) (by omega) (by omega) (fun h41 fh41 => ?_)
    have gh41 : my_fr [(10, 7), (10, 8), (67, -1), (68, -1), (69, -1)] h h41 := my_fr.up gh26 is_169 fh41 rfl
    have Mr_h41 : Mr h41 wv := Mr_ag (my_ag.up fh41 is_169 rfl) Mr_h26
    have P6_h41 : h41 167 6 = h 167 6 := P6_ag (my_ag.up fh41 is_169 rfl) P6_h26
    have Tok_h41 : Tok h41 := Tok_ag (my_ag.up fh41 is_169 rfl) Tok_h26t38
    have ce42 : h41 151 7 = h26 151 7 := ((my_up_role fh41 is_151 is_169 rfl).trans (rfl : h26 151 7 = h26 151 7))
    have a168 : ∀ j : Int, h41 168 j = h2 168 j := fun j => ((my_up_role fh41 is_168 is_169 rfl).trans ((my_fr.at frh26 is_168 rfl).trans ((my_up_role fh24 is_168 is_170 rfl).trans ((my_fr.at frh6 is_168 rfl).trans (rfl : h2 168 j = h2 168 j)))))
    have a170 : ∀ j : Int, h41 170 j = h24 170 j := fun j => ((my_up_role fh41 is_170 is_169 rfl).trans ((my_fr.at frh26 is_170 rfl).trans (rfl : h24 170 j = h24 170 j)))
    have c43 := ((my_up_role fh41 is_151 is_169 rfl).trans ev31.symm)
    exact w_vret gz_190_90 gm_190 (k0 h41 (gh41) (by omega) (by omega) (by first | omega | (refine ⟨fun q => ?_, fun q => ?_⟩ <;> first | (rw [a168, k168] at q; omega) | (rw [a170]; exact k170))) Tok_h41 Mr_h41)
  ·
    have gh11 : my_fr [(10, 7), (10, 8), (67, -1), (68, -1), (69, -1)] h h11 := my_fr.tr gh2 (frh11.mo rfl)
    have Mr_h11 : Mr h11 wv := Mr_ag (my_ag.fr frh11 rfl) Mr_h2
    have P6_h11 : h11 167 6 = h 167 6 := P6_ag (my_ag.fr frh11 rfl) P6_h2
    show wp l rho (d + 3) 190 22 [(2, 151), (0, x1)] [(0, v12), (0, x1), (2, 170)] h11 Q
    have hi44 : 0 ≤ v12 := by omega
    have hi45 : v12 ≤ 7 := by omega
    refine w_iast gz_190_22 is_170 rd_69 (by omega) (by omega) (by omega) (by omega) (fun h46 fh46 => ?_)
    have gh46 : my_fr [(10, 7), (10, 8), (67, -1), (68, -1), (69, -1)] h h46 := my_fr.up gh11 is_170 fh46 rfl
    have Mr_h46 : Mr h46 wv := Mr_u (a := 170) hwv (by decide) (by omega) fh46 Mr_h11
    have P6_h46 : h46 167 6 = h 167 6 := P6_ag (my_ag.up fh46 is_170 rfl) P6_h11
    have Tok_h46 : Tok h46 := Tok_ag (my_ag.up fh46 is_170 rfl) Tok_h11t21
    have k170 : h46 170 x1 ≤ 7 := by rw [my_up_self fh46]; omega
    refine w_aload_n gz_190_23 rfl ?_
    refine w_bipush gz_190_24 (by decide) ?_
    have ce47 : h46 151 7 = (h11 151 7) := ((my_up_role fh46 is_151 is_170 rfl).trans (rfl : h11 151 7 = h11 151 7))
    refine w_inv (k := 0) (as := [(0, 9)]) (r := []) (x := 151) (ls0 := [(2, 151), (0, 9)]) gz_190_26 gm_175 rfl is_151 rd_10 rfl rfl rfl rfl rfl (c_Model_takeWord_f0 (d := d) (x1 := 9) (by omega) (by omega) (((my_up_role fh46 is_151 is_170 rfl).trans w17).trans (by omega)) Tok_h46 (fun h48 frh48 w49 w50 xp51 Tok_h48t52 => ?_) (fun h53 frh53 w54 w55 w56 xp57 Tok_h53t58 => ?_))
    ·
      have gh48 : my_fr [(10, 7), (10, 8), (67, -1), (68, -1), (69, -1)] h h48 := my_fr.tr gh46 (frh48.mo rfl)
      have Mr_h48 : Mr h48 wv := Mr_ag (my_ag.fr frh48 rfl) Mr_h46
      have P6_h48 : h48 167 6 = h 167 6 := P6_ag (my_ag.fr frh48 rfl) P6_h46
      show wp l rho (d + 3) 190 29 [(2, 151), (0, x1)] [] h48 Q
      refine w_aload_n gz_190_29 rfl ?_
      refine v_getI (j := 8) gz_190_30 rfl is_151 rd_10 rfl (fun v59 ev59 pv59 qv59 => ?_)
      have zv59 := ev59.trans (rfl : h48 151 8 = h48 151 8)
      refine w_ifne (t := 74) gz_190_33 rfl (fun u60 => ?_) (fun u60 => by exfalso; omega)
      refine w_aload_n gz_190_74 rfl ?_
      refine w_getX (v := 169) gz_190_75 is_151 rd_10 rfl (by decide) rfl ?_
      refine w_iload_n gz_190_78 rfl ?_
      refine w_aload_n gz_190_79 rfl ?_
      refine w_aload_n gz_190_80 rfl ?_
      refine v_getI (j := 27) gz_190_81 rfl is_151 rd_10 rfl (fun v62 ev62 pv62 qv62 => ?_)
      have zv62 := ev62.trans ((my_fr.at frh48 is_151 rfl).trans ((my_up_role fh46 is_151 is_170 rfl).trans ((my_fr.at frh11 is_151 rfl).trans ev4.symm)))
      refine w_iconst gz_190_84 (by decide) ?_
      refine w_isub gz_190_85 ⟨by omega, by omega⟩ ?_
      refine w_inv (k := 0) (as := [(0, (v62 - 1))]) (r := [(0, x1), (2, 169)]) (x := 151) (ls0 := [(2, 151), (0, (v62 - 1))]) gz_190_86 gm_187 rfl is_151 rd_10 rfl rfl rfl rfl rfl (c_Model_takeNumber_f1 (d := (d + 1)) (x1 := (v62 - 1)) (by omega) (by omega) (v59) (ev59.symm) (by omega) (by omega) Tok_h48t52 (fun w63 w64 xp65 Tok_h48t66 => ?_))
      show wp l rho (d + 3) 190 89 [(2, 151), (0, x1)] [(0, 0), (0, x1), (2, 169)] h48 Q
      have hi67 : 0 ≤ 0 := by omega
      have hi68 : 0 ≤ 7 := by omega
      refine w_iast gz_190_89 is_169 rd_68 (by omega) (by omega) (by omega) (by omega) (fun h69 fh69 => ?_)
      have gh69 : my_fr [(10, 7), (10, 8), (67, -1), (68, -1), (69, -1)] h h69 := my_fr.up gh48 is_169 fh69 rfl
      have Mr_h69 : Mr h69 wv := Mr_ag (my_ag.up fh69 is_169 rfl) Mr_h48
      have P6_h69 : h69 167 6 = h 167 6 := P6_ag (my_ag.up fh69 is_169 rfl) P6_h48
      have Tok_h69 : Tok h69 := Tok_ag (my_ag.up fh69 is_169 rfl) Tok_h48t66
      have ce70 : h69 151 7 = h48 151 7 := ((my_up_role fh69 is_151 is_169 rfl).trans (rfl : h48 151 7 = h48 151 7))
      have a168 : ∀ j : Int, h69 168 j = h2 168 j := fun j => ((my_up_role fh69 is_168 is_169 rfl).trans ((my_fr.at frh48 is_168 rfl).trans ((my_up_role fh46 is_168 is_170 rfl).trans ((my_fr.at frh11 is_168 rfl).trans (rfl : h2 168 j = h2 168 j)))))
      have a170 : ∀ j : Int, h69 170 j = h46 170 j := fun j => ((my_up_role fh69 is_170 is_169 rfl).trans ((my_fr.at frh48 is_170 rfl).trans (rfl : h46 170 j = h46 170 j)))
      have c71 := ((my_up_role fh69 is_151 is_169 rfl).trans ev59.symm)
      exact w_vret gz_190_90 gm_190 (k0 h69 (gh69) (by omega) (by omega) (by first | omega | (refine ⟨fun q => ?_, fun q => ?_⟩ <;> first | (rw [a168, k168] at q; omega) | (rw [a170]; exact k170))) Tok_h69 Mr_h69)
    ·
      have gh53 : my_fr [(10, 7), (10, 8), (67, -1), (68, -1), (69, -1)] h h53 := my_fr.tr gh46 (frh53.mo rfl)
      have Mr_h53 : Mr h53 wv := Mr_ag (my_ag.fr frh53 rfl) Mr_h46
      have P6_h53 : h53 167 6 = h 167 6 := P6_ag (my_ag.fr frh53 rfl) P6_h46
      show wp l rho (d + 3) 190 29 [(2, 151), (0, x1)] [] h53 Q
      refine w_aload_n gz_190_29 rfl ?_
      refine v_getI (j := 8) gz_190_30 rfl is_151 rd_10 rfl (fun v72 ev72 pv72 qv72 => ?_)
      have zv72 := ev72.trans w56
      refine w_ifne (t := 74) gz_190_33 rfl (fun u73 => by exfalso; omega) (fun u73 => ?_)
      refine w_aload_n gz_190_36 rfl ?_
      refine w_getX (v := 153) gz_190_37 is_151 rd_10 rfl (by decide) rfl ?_
      refine w_aload_n gz_190_40 rfl ?_
      refine v_getI (j := 7) gz_190_41 rfl is_151 rd_10 rfl (fun v75 ev75 pv75 qv75 => ?_)
      have zv75 := ev75.trans (rfl : h53 151 7 = h53 151 7)
      refine w_iald gz_190_44 is_153 rd_52 (by omega) (by omega) (fun v76 ev76 pv76 qv76 => ?_)
      refine w_iconst gz_190_45 (by decide) ?_
      refine w_icne (t := 74) gz_190_46 rfl (fun u77 => ?_) (fun u77 => ?_)
      ·
        refine w_aload_n gz_190_74 rfl ?_
        refine w_getX (v := 169) gz_190_75 is_151 rd_10 rfl (by decide) rfl ?_
        refine w_iload_n gz_190_78 rfl ?_
        refine w_aload_n gz_190_79 rfl ?_
        refine w_aload_n gz_190_80 rfl ?_
        refine v_getI (j := 27) gz_190_81 rfl is_151 rd_10 rfl (fun v79 ev79 pv79 qv79 => ?_)
        have zv79 := ev79.trans ((my_fr.at frh53 is_151 rfl).trans ((my_up_role fh46 is_151 is_170 rfl).trans ((my_fr.at frh11 is_151 rfl).trans ev4.symm)))
        refine w_iconst gz_190_84 (by decide) ?_
        refine w_isub gz_190_85 ⟨by omega, by omega⟩ ?_
        have ce80 : h53 151 7 = v75 := ev75.symm
        refine w_inv (k := 0) (as := [(0, (v79 - 1))]) (r := [(0, x1), (2, 169)]) (x := 151) (ls0 := [(2, 151), (0, (v79 - 1))]) gz_190_86 gm_187 rfl is_151 rd_10 rfl rfl rfl rfl rfl (c_Model_takeNumber_f0 (d := (d + 1)) (x1 := (v79 - 1)) (by omega) (by omega) (ev72.symm.trans (by omega)) Tok_h53t58 (fun h81 frh81 w82 w83 xp84 Tok_h81t85 => ?_) (fun h86 v87 frh86 w88 w89 w90 w91 w92 xp93 xp94 xp95 Tok_h86t96 => ?_))
        ·
          have gh81 : my_fr [(10, 7), (10, 8), (67, -1), (68, -1), (69, -1)] h h81 := my_fr.tr gh53 (frh81.mo rfl)
          have Mr_h81 : Mr h81 wv := Mr_ag (my_ag.fr frh81 rfl) Mr_h53
          have P6_h81 : h81 167 6 = h 167 6 := P6_ag (my_ag.fr frh81 rfl) P6_h53
          show wp l rho (d + 3) 190 89 [(2, 151), (0, x1)] [(0, 0), (0, x1), (2, 169)] h81 Q
          have hi97 : 0 ≤ 0 := by omega
          have hi98 : 0 ≤ 7 := by omega
          refine w_iast gz_190_89 is_169 rd_68 (by omega) (by omega) (by omega) (by omega) (fun h99 fh99 => ?_)
          have gh99 : my_fr [(10, 7), (10, 8), (67, -1), (68, -1), (69, -1)] h h99 := my_fr.up gh81 is_169 fh99 rfl
          have Mr_h99 : Mr h99 wv := Mr_ag (my_ag.up fh99 is_169 rfl) Mr_h81
          have P6_h99 : h99 167 6 = h 167 6 := P6_ag (my_ag.up fh99 is_169 rfl) P6_h81
          have Tok_h99 : Tok h99 := Tok_ag (my_ag.up fh99 is_169 rfl) Tok_h81t85
          have ce100 : h99 151 7 = h81 151 7 := ((my_up_role fh99 is_151 is_169 rfl).trans (rfl : h81 151 7 = h81 151 7))
          have a168 : ∀ j : Int, h99 168 j = h2 168 j := fun j => ((my_up_role fh99 is_168 is_169 rfl).trans ((my_fr.at frh81 is_168 rfl).trans ((my_fr.at frh53 is_168 rfl).trans ((my_up_role fh46 is_168 is_170 rfl).trans ((my_fr.at frh11 is_168 rfl).trans (rfl : h2 168 j = h2 168 j))))))
          have a170 : ∀ j : Int, h99 170 j = h46 170 j := fun j => ((my_up_role fh99 is_170 is_169 rfl).trans ((my_fr.at frh81 is_170 rfl).trans ((my_fr.at frh53 is_170 rfl).trans (rfl : h46 170 j = h46 170 j))))
          have c101 := ((my_up_role fh99 is_151 is_169 rfl).trans (rfl : h81 151 8 = h81 151 8))
          exact w_vret gz_190_90 gm_190 (k0 h99 (gh99) (by omega) (by omega) (by first | omega | (refine ⟨fun q => ?_, fun q => ?_⟩ <;> first | (rw [a168, k168] at q; omega) | (rw [a170]; exact k170))) Tok_h99 Mr_h99)
        ·
          have gh86 : my_fr [(10, 7), (10, 8), (67, -1), (68, -1), (69, -1)] h h86 := my_fr.tr gh53 (frh86.mo rfl)
          have Mr_h86 : Mr h86 wv := Mr_ag (my_ag.fr frh86 rfl) Mr_h53
          have P6_h86 : h86 167 6 = h 167 6 := P6_ag (my_ag.fr frh86 rfl) P6_h53
          show wp l rho (d + 3) 190 89 [(2, 151), (0, x1)] [(0, v87), (0, x1), (2, 169)] h86 Q
          have hi102 : 0 ≤ v87 := by omega
          have hi103 : v87 ≤ 7 := by omega
          refine w_iast gz_190_89 is_169 rd_68 (by omega) (by omega) (by omega) (by omega) (fun h104 fh104 => ?_)
          have gh104 : my_fr [(10, 7), (10, 8), (67, -1), (68, -1), (69, -1)] h h104 := my_fr.up gh86 is_169 fh104 rfl
          have Mr_h104 : Mr h104 wv := Mr_ag (my_ag.up fh104 is_169 rfl) Mr_h86
          have P6_h104 : h104 167 6 = h 167 6 := P6_ag (my_ag.up fh104 is_169 rfl) P6_h86
          have Tok_h104 : Tok h104 := Tok_ag (my_ag.up fh104 is_169 rfl) Tok_h86t96
          have ce105 : h104 151 7 = (h86 151 7) := ((my_up_role fh104 is_151 is_169 rfl).trans (rfl : h86 151 7 = h86 151 7))
          have a168 : ∀ j : Int, h104 168 j = h2 168 j := fun j => ((my_up_role fh104 is_168 is_169 rfl).trans ((my_fr.at frh86 is_168 rfl).trans ((my_fr.at frh53 is_168 rfl).trans ((my_up_role fh46 is_168 is_170 rfl).trans ((my_fr.at frh11 is_168 rfl).trans (rfl : h2 168 j = h2 168 j))))))
          have a170 : ∀ j : Int, h104 170 j = h46 170 j := fun j => ((my_up_role fh104 is_170 is_169 rfl).trans ((my_fr.at frh86 is_170 rfl).trans ((my_fr.at frh53 is_170 rfl).trans (rfl : h46 170 j = h46 170 j))))
          have c106 := ((my_up_role fh104 is_151 is_169 rfl).trans (rfl : h86 151 7 = h86 151 7))
          have c107 := ((my_up_role fh104 is_151 is_169 rfl).trans w92)
          exact w_vret gz_190_90 gm_190 (k1 h104 (gh104) (by omega) (by omega) (by omega) (by first | omega | (refine ⟨fun q => ?_, fun q => ?_⟩ <;> first | (rw [a168, k168] at q; omega) | (rw [a170]; exact k170))) (by first | omega | (refine ⟨fun q => ?_, fun q => ?_⟩ <;> first | (rw [a168, k168] at q; omega) | (rw [a170]; exact k170))) Tok_h104 Mr_h104)
      ·
        refine w_aload_n gz_190_49 rfl ?_
        refine w_getX (v := 155) gz_190_50 is_151 rd_10 rfl (by decide) rfl ?_
        refine w_aload_n gz_190_53 rfl ?_
        refine v_getI (j := 7) gz_190_54 rfl is_151 rd_10 rfl (fun v109 ev109 pv109 qv109 => ?_)
        have zv109 := ev109.trans ev75.symm
        refine w_lald gz_190_57 is_155 rd_54 (by omega) (by omega) (fun v110 ev110 pv110 => ?_)
        refine w_aload_n gz_190_58 rfl ?_
        refine w_getX (v := 170) gz_190_59 is_151 rd_10 rfl (by decide) rfl ?_
        refine w_iload_n gz_190_62 rfl ?_
        refine w_iald gz_190_63 is_170 rd_69 (by omega) (by omega) (fun v112 ev112 pv112 qv112 => ?_)
        have zv112 := ev112.trans ((my_fr.at frh53 is_170 rfl).trans (my_up_self fh46))
        refine w_i2l gz_190_64 ?_
        refine w_lcmpE gz_190_65 (fun v113 pv113 qv113 xv113 => ?_)
        refine w_ifne (t := 74) gz_190_66 rfl (fun u114 => ?_) (fun u114 => ?_)
        ·
          refine w_aload_n gz_190_74 rfl ?_
          refine w_getX (v := 169) gz_190_75 is_151 rd_10 rfl (by decide) rfl ?_
          refine w_iload_n gz_190_78 rfl ?_
          refine w_aload_n gz_190_79 rfl ?_
          refine w_aload_n gz_190_80 rfl ?_
          refine v_getI (j := 27) gz_190_81 rfl is_151 rd_10 rfl (fun v116 ev116 pv116 qv116 => ?_)
          have zv116 := ev116.trans ((my_fr.at frh53 is_151 rfl).trans ((my_up_role fh46 is_151 is_170 rfl).trans ((my_fr.at frh11 is_151 rfl).trans ev4.symm)))
          refine w_iconst gz_190_84 (by decide) ?_
          refine w_isub gz_190_85 ⟨by omega, by omega⟩ ?_
          have ce117 : h53 151 7 = v109 := ev109.symm
          refine w_inv (k := 0) (as := [(0, (v116 - 1))]) (r := [(0, x1), (2, 169)]) (x := 151) (ls0 := [(2, 151), (0, (v116 - 1))]) gz_190_86 gm_187 rfl is_151 rd_10 rfl rfl rfl rfl rfl (c_Model_takeNumber_f0 (d := (d + 1)) (x1 := (v116 - 1)) (by omega) (by omega) (ev72.symm.trans (by omega)) Tok_h53t58 (fun h118 frh118 w119 w120 xp121 Tok_h118t122 => ?_) (fun h123 v124 frh123 w125 w126 w127 w128 w129 xp130 xp131 xp132 Tok_h123t133 => ?_))
          ·
            have gh118 : my_fr [(10, 7), (10, 8), (67, -1), (68, -1), (69, -1)] h h118 := my_fr.tr gh53 (frh118.mo rfl)
            have Mr_h118 : Mr h118 wv := Mr_ag (my_ag.fr frh118 rfl) Mr_h53
            have P6_h118 : h118 167 6 = h 167 6 := P6_ag (my_ag.fr frh118 rfl) P6_h53
            show wp l rho (d + 3) 190 89 [(2, 151), (0, x1)] [(0, 0), (0, x1), (2, 169)] h118 Q
            have hi134 : 0 ≤ 0 := by omega
            have hi135 : 0 ≤ 7 := by omega
            refine w_iast gz_190_89 is_169 rd_68 (by omega) (by omega) (by omega) (by omega) (fun h136 fh136 => ?_)
            have gh136 : my_fr [(10, 7), (10, 8), (67, -1), (68, -1), (69, -1)] h h136 := my_fr.up gh118 is_169 fh136 rfl
            have Mr_h136 : Mr h136 wv := Mr_ag (my_ag.up fh136 is_169 rfl) Mr_h118
            have P6_h136 : h136 167 6 = h 167 6 := P6_ag (my_ag.up fh136 is_169 rfl) P6_h118
            have Tok_h136 : Tok h136 := Tok_ag (my_ag.up fh136 is_169 rfl) Tok_h118t122
            have ce137 : h136 151 7 = h118 151 7 := ((my_up_role fh136 is_151 is_169 rfl).trans (rfl : h118 151 7 = h118 151 7))
            have a168 : ∀ j : Int, h136 168 j = h2 168 j := fun j => ((my_up_role fh136 is_168 is_169 rfl).trans ((my_fr.at frh118 is_168 rfl).trans ((my_fr.at frh53 is_168 rfl).trans ((my_up_role fh46 is_168 is_170 rfl).trans ((my_fr.at frh11 is_168 rfl).trans (rfl : h2 168 j = h2 168 j))))))
            have a170 : ∀ j : Int, h136 170 j = h46 170 j := fun j => ((my_up_role fh136 is_170 is_169 rfl).trans ((my_fr.at frh118 is_170 rfl).trans ((my_fr.at frh53 is_170 rfl).trans (rfl : h46 170 j = h46 170 j))))
            have c138 := ((my_up_role fh136 is_151 is_169 rfl).trans (rfl : h118 151 8 = h118 151 8))
            exact w_vret gz_190_90 gm_190 (k0 h136 (gh136) (by omega) (by omega) (by first | omega | (refine ⟨fun q => ?_, fun q => ?_⟩ <;> first | (rw [a168, k168] at q; omega) | (rw [a170]; exact k170))) Tok_h136 Mr_h136)
          ·
            have gh123 : my_fr [(10, 7), (10, 8), (67, -1), (68, -1), (69, -1)] h h123 := my_fr.tr gh53 (frh123.mo rfl)
            have Mr_h123 : Mr h123 wv := Mr_ag (my_ag.fr frh123 rfl) Mr_h53
            have P6_h123 : h123 167 6 = h 167 6 := P6_ag (my_ag.fr frh123 rfl) P6_h53
            show wp l rho (d + 3) 190 89 [(2, 151), (0, x1)] [(0, v124), (0, x1), (2, 169)] h123 Q
            have hi139 : 0 ≤ v124 := by omega
            have hi140 : v124 ≤ 7 := by omega
            refine w_iast gz_190_89 is_169 rd_68 (by omega) (by omega) (by omega) (by omega) (fun h141 fh141 => ?_)
            have gh141 : my_fr [(10, 7), (10, 8), (67, -1), (68, -1), (69, -1)] h h141 := my_fr.up gh123 is_169 fh141 rfl
            have Mr_h141 : Mr h141 wv := Mr_ag (my_ag.up fh141 is_169 rfl) Mr_h123
            have P6_h141 : h141 167 6 = h 167 6 := P6_ag (my_ag.up fh141 is_169 rfl) P6_h123
            have Tok_h141 : Tok h141 := Tok_ag (my_ag.up fh141 is_169 rfl) Tok_h123t133
            have ce142 : h141 151 7 = (h123 151 7) := ((my_up_role fh141 is_151 is_169 rfl).trans (rfl : h123 151 7 = h123 151 7))
            have a168 : ∀ j : Int, h141 168 j = h2 168 j := fun j => ((my_up_role fh141 is_168 is_169 rfl).trans ((my_fr.at frh123 is_168 rfl).trans ((my_fr.at frh53 is_168 rfl).trans ((my_up_role fh46 is_168 is_170 rfl).trans ((my_fr.at frh11 is_168 rfl).trans (rfl : h2 168 j = h2 168 j))))))
            have a170 : ∀ j : Int, h141 170 j = h46 170 j := fun j => ((my_up_role fh141 is_170 is_169 rfl).trans ((my_fr.at frh123 is_170 rfl).trans ((my_fr.at frh53 is_170 rfl).trans (rfl : h46 170 j = h46 170 j))))
            have c143 := ((my_up_role fh141 is_151 is_169 rfl).trans (rfl : h123 151 7 = h123 151 7))
            have c144 := ((my_up_role fh141 is_151 is_169 rfl).trans w129)
            exact w_vret gz_190_90 gm_190 (k1 h141 (gh141) (by omega) (by omega) (by omega) (by first | omega | (refine ⟨fun q => ?_, fun q => ?_⟩ <;> first | (rw [a168, k168] at q; omega) | (rw [a170]; exact k170))) (by first | omega | (refine ⟨fun q => ?_, fun q => ?_⟩ <;> first | (rw [a168, k168] at q; omega) | (rw [a170]; exact k170))) Tok_h141 Mr_h141)
        ·
          refine w_aload_n gz_190_69 rfl ?_
          refine w_iconst gz_190_70 (by decide) ?_
          have ce145 : h53 151 7 = v109 := ev109.symm
          refine w_inv (k := 0) (as := [(0, 3)]) (r := []) (x := 151) (ls0 := [(2, 151), (0, 3)]) gz_190_71 gm_178 rfl is_151 rd_10 rfl rfl rfl rfl rfl ?_
          refine w_aload_n gz_178_0 rfl ?_
          refine v_getI (j := 8) gz_178_1 rfl is_151 rd_10 rfl (fun v146 ev146 pv146 qv146 => ?_)
          have zv146 := ev146.trans ev72.symm
          refine w_ifne (t := 25) gz_178_4 rfl (fun u147 => by exfalso; omega) (fun u147 => ?_)
          refine w_aload_n gz_178_7 rfl ?_
          refine w_iload_n gz_178_8 rfl ?_
          refine w_bipush gz_178_9 (by decide) ?_
          refine w_aload_n gz_178_11 rfl ?_
          refine w_getX (v := 154) gz_178_12 is_151 rd_10 rfl (by decide) rfl ?_
          refine w_aload_n gz_178_15 rfl ?_
          refine v_getI (j := 7) gz_178_16 rfl is_151 rd_10 rfl (fun v149 ev149 pv149 qv149 => ?_)
          have zv149 := ev149.trans ev109.symm
          refine w_iald gz_178_19 is_154 rd_53 (by omega) (by omega) (fun v150 ev150 pv150 qv150 => ?_)
          refine w_imul gz_178_20 ⟨by omega, by omega⟩ ?_
          refine w_iadd gz_178_21 ⟨by omega, by omega⟩ ?_
          refine v_putI (j := 8) gz_178_22 rfl is_151 rd_10 rfl (by omega) (by omega) rfl (fun h151 fh151 => ?_)
          have gh151 : my_fr [(10, 7), (10, 8), (67, -1), (68, -1), (69, -1)] h h151 := my_fr.up gh53 is_151 fh151 rfl
          have Mr_h151 : Mr h151 wv := Mr_ag (my_ag.up fh151 is_151 rfl) Mr_h53
          have P6_h151 : h151 167 6 = h 167 6 := P6_ag (my_ag.up fh151 is_151 rfl) P6_h53
          have Tok_h151 : Tok h151 := Tok_ag (my_ag.up fh151 is_151 rfl) Tok_h53t58
          refine w_vret gz_178_25 gm_178 ?_
          show wp l rho (d + 3) 190 74 [(2, 151), (0, x1)] [] h151 Q
          refine w_aload_n gz_190_74 rfl ?_
          refine w_getX (v := 169) gz_190_75 is_151 rd_10 rfl (by decide) rfl ?_
          refine w_iload_n gz_190_78 rfl ?_
          refine w_aload_n gz_190_79 rfl ?_
          refine w_aload_n gz_190_80 rfl ?_
          refine v_getI (j := 27) gz_190_81 rfl is_151 rd_10 rfl (fun v153 ev153 pv153 qv153 => ?_)
          have zv153 := ev153.trans ((my_up_fld fh151 (by decide)).trans ((my_fr.at frh53 is_151 rfl).trans ((my_up_role fh46 is_151 is_170 rfl).trans ((my_fr.at frh11 is_151 rfl).trans ev4.symm))))
          refine w_iconst gz_190_84 (by decide) ?_
          refine w_isub gz_190_85 ⟨by omega, by omega⟩ ?_
          have ce154 : h151 151 7 = v149 := ((my_up_fld fh151 (by decide)).trans ev149.symm)
          refine w_inv (k := 0) (as := [(0, (v153 - 1))]) (r := [(0, x1), (2, 169)]) (x := 151) (ls0 := [(2, 151), (0, (v153 - 1))]) gz_190_86 gm_187 rfl is_151 rd_10 rfl rfl rfl rfl rfl (c_Model_takeNumber_f1 (d := (d + 1)) (x1 := (v153 - 1)) (by omega) (by omega) ((3 + (16 * v150))) ((my_up_self fh151)) (by omega) (by omega) Tok_h151 (fun w155 w156 xp157 Tok_h151t158 => ?_))
          show wp l rho (d + 3) 190 89 [(2, 151), (0, x1)] [(0, 0), (0, x1), (2, 169)] h151 Q
          have hi159 : 0 ≤ 0 := by omega
          have hi160 : 0 ≤ 7 := by omega
          refine w_iast gz_190_89 is_169 rd_68 (by omega) (by omega) (by omega) (by omega) (fun h161 fh161 => ?_)
          have gh161 : my_fr [(10, 7), (10, 8), (67, -1), (68, -1), (69, -1)] h h161 := my_fr.up gh151 is_169 fh161 rfl
          have Mr_h161 : Mr h161 wv := Mr_ag (my_ag.up fh161 is_169 rfl) Mr_h151
          have P6_h161 : h161 167 6 = h 167 6 := P6_ag (my_ag.up fh161 is_169 rfl) P6_h151
          have Tok_h161 : Tok h161 := Tok_ag (my_ag.up fh161 is_169 rfl) Tok_h151t158
          have ce162 : h161 151 7 = v149 := ((my_up_role fh161 is_151 is_169 rfl).trans ((my_up_fld fh151 (by decide)).trans ev149.symm))
          have a168 : ∀ j : Int, h161 168 j = h2 168 j := fun j => ((my_up_role fh161 is_168 is_169 rfl).trans ((my_up_role fh151 is_168 is_151 rfl).trans ((my_fr.at frh53 is_168 rfl).trans ((my_up_role fh46 is_168 is_170 rfl).trans ((my_fr.at frh11 is_168 rfl).trans (rfl : h2 168 j = h2 168 j))))))
          have a170 : ∀ j : Int, h161 170 j = h46 170 j := fun j => ((my_up_role fh161 is_170 is_169 rfl).trans ((my_up_role fh151 is_170 is_151 rfl).trans ((my_fr.at frh53 is_170 rfl).trans (rfl : h46 170 j = h46 170 j))))
          have c163 := ((my_up_role fh161 is_151 is_169 rfl).trans (my_up_self fh151))
          exact w_vret gz_190_90 gm_190 (k0 h161 (gh161) (by omega) (by omega) (by first | omega | (refine ⟨fun q => ?_, fun q => ?_⟩ <;> first | (rw [a168, k168] at q; omega) | (rw [a170]; exact k170))) Tok_h161 Mr_h161)
end MYNModel_readSum_f0
