/-! contracts, printed by wip/gen/gy.py -/
section MYNModel_readJoin9_f0
theorem c_Model_readJoin9_f0 {l : Launch} {rho : Nat → Int32} {d : Nat} {h : my_H} {Q : my_H → my_V → Prop} {x1 : Int} {wv : Int} (a1 : 36 ≤ x1) (b1 : x1 ≤ 41) (cf : h 151 8 = 0) (hwv : wv ≤ 5) (hwv0 : 0 ≤ wv) (n_Tok : Tok h) (n_Mq : Mq h wv) (n_Wd9 : Wd9 h) (hp : x1 = 36 + h 167 6) (k0 : ∀ (h' : my_H), my_fr [(10, 7), (10, 8), (67, -1), (68, -1), (69, -1)] h h' → 1 ≤ h' 151 8 → h' 151 8 ≤ 16005 → h 151 7 ≤ h' 151 7 → joinM (sm h) (h 157) (h 151 7) (h 151 27) (h' 151 8) (h' 151 7) → Tok h' → Mq h' wv → Wd9 h' → Q h' (9, 0)) (k1 : ∀ (h' : my_H), my_fr [(10, 7), (10, 8), (67, -1), (68, -1), (69, -1)] h h' → 1 ≤ h' 151 7 → h' 151 7 ≤ 1001 → h' 151 8 = 0 → PaneOk h' x1 → Pk3 h' x1 (h' 151 27) → h 151 7 ≤ h' 151 7 → joinM (sm h) (h 157) (h 151 7) (h 151 27) (h' 151 8) (h' 151 7) → h' 168 x1 = 4 ∧ h' 170 x1 = sV (sm h) (h 151 7) → Tok h' → Mq h' wv → Wd9 h' → Q h' (9, 0)) : wp l rho (d + 3) 189 0 [(2, 151), (0, x1), (9, 0)] [] h Q := by
  refine v_know (x := 151) (j := 7) (b := 7) rfl is_151 rd_10 rfl (fun k151_7 ek151_7 pk151_7 qk151_7 => ?_)
  refine v_know (x := 151) (j := 27) (b := 27) rfl is_151 rd_10 rfl (fun k151_27 ek151_27 pk151_27 qk151_27 => ?_)
  refine w_aload_n gz_189_0 rfl ?_
  refine w_getX (v := 168) gz_189_1 is_151 rd_10 rfl (by decide) rfl ?_
  refine w_iload_n gz_189_4 rfl ?_
  refine w_iconst gz_189_5 (by decide) ?_
  refine w_iast gz_189_6 is_168 rd_67 (by omega) (by omega) (by omega) (by omega) (fun h2 fh2 => ?_)
  have gh2 : my_fr [(10, 7), (10, 8), (67, -1), (68, -1), (69, -1)] h h2 := my_fr.up my_fr.rf is_168 fh2 rfl
  have Tok_h2 : Tok h2 := Tok_ag (my_ag.up fh2 is_168 rfl) n_Tok
  have Mq_h2 : Mq h2 wv := Mq_u (a := 168) hwv (by decide) (by omega) fh2 n_Mq
  have Wd9_h2 : Wd9 h2 := Wd9_ag (my_ag.up fh2 is_168 rfl) n_Wd9
  have P6_h2 : h2 167 6 = h 167 6 := P6_ag (my_ag.up fh2 is_168 rfl) (rfl)
  have k168 : h2 168 x1 = 4 := my_up_self fh2
  refine w_aload_n gz_189_7 rfl ?_
  refine v_getI (j := 8) gz_189_8 rfl is_151 rd_10 rfl (fun v3 ev3 pv3 qv3 => ?_)
  have zv3 := ev3.trans ((my_up_role fh2 is_151 is_168 rfl).trans cf)
  refine w_ifne (t := 89) gz_189_11 rfl (fun u4 => by exfalso; omega) (fun u4 => ?_)
  refine w_aload_n gz_189_14 rfl ?_
  refine w_getX (v := 153) gz_189_15 is_151 rd_10 rfl (by decide) rfl ?_
  refine w_aload_n gz_189_18 rfl ?_
  refine v_getI (j := 7) gz_189_19 rfl is_151 rd_10 rfl (fun v6 ev6 pv6 qv6 => ?_)
  have zv6 := ev6.trans ((my_up_role fh2 is_151 is_168 rfl).trans ek151_7.symm)
  refine w_iald gz_189_22 is_153 rd_52 (by omega) (by omega) (fun v7 ev7 pv7 qv7 => ?_)
  have nz8a : h2 151 7 = h 151 7 := ((my_up_role fh2 is_151 is_168 rfl).trans (rfl : h 151 7 = h 151 7))
  have nz8 : (v7 ≠ 3 → sK (sm h) (h 151 7) = v7) ∧ (v7 = 3 → sV (sm h) (h 151 7) = 59 → sK (sm h) (h 151 7) = 3) ∧ (v7 = 3 → sV (sm h) (h 151 7) ≠ 59 → sK (sm h) (h 151 7) = 4) := by
    have q := ev7.trans (my_fr.at (j := v6) gh2 is_153 rfl)
    rw [show (v6 : Int) = h 151 7 from by omega] at q
    exact sK_ld q
  refine w_iconst gz_189_23 (by decide) ?_
  refine w_icne (t := 89) gz_189_24 rfl (fun u9 => ?_) (fun u9 => ?_)
  ·
    refine w_aload_n gz_189_89 rfl ?_
    refine w_getX (v := 170) gz_189_90 is_151 rd_10 rfl (by decide) rfl ?_
    refine w_iload_n gz_189_93 rfl ?_
    refine w_aload_n gz_189_94 rfl ?_
    refine w_iconst gz_189_95 (by decide) ?_
    have ce11 : h2 151 7 = v6 := ev6.symm
    have ce12 : h2 151 27 = k151_27 := ((my_up_role fh2 is_151 is_168 rfl).trans ek151_27.symm)
    refine w_inv (k := 0) (as := [(0, 2)]) (r := [(0, x1), (2, 170)]) (x := 151) (ls0 := [(2, 151), (0, 2)]) gz_189_96 gm_187 rfl is_151 rd_10 rfl rfl rfl rfl rfl (c_Model_takeNumber9_f0 (d := (d + 1)) (x1 := 2) (by omega) (by omega) (ev3.symm.trans (by omega)) Tok_h2 (fun h13 frh13 w14 w15 xp16 xp17 Tok_h13t18 => ?_) (fun h19 v20 frh19 w21 w22 w23 w24 w25 xp26 xp27 xp28 xp29 xp30 xp31 xp32 xp33 Tok_h19t34 => ?_))
    ·
      have gh13 : my_fr [(10, 7), (10, 8), (67, -1), (68, -1), (69, -1)] h h13 := my_fr.tr gh2 (frh13.mo rfl)
      have Mq_h13 : Mq h13 wv := Mq_ag (my_ag.fr frh13 rfl) Mq_h2
      have Wd9_h13 : Wd9 h13 := Wd9_ag (my_ag.fr frh13 rfl) Wd9_h2
      have P6_h13 : h13 167 6 = h 167 6 := P6_ag (my_ag.fr frh13 rfl) P6_h2
      show wp l rho (d + 3) 189 99 [(2, 151), (0, x1), (9, 0)] [(0, 0), (0, x1), (2, 170)] h13 Q
      have ps35 : h2 151 7 = h 151 7 := ((my_up_role fh2 is_151 is_168 rfl).trans (rfl : h 151 7 = h 151 7))
      rw [ps35] at xp16
      have tE36 : sm h2 = sm h := sm_eq (fun j => my_fr.at gh2 is_153 rfl) (fun j => my_fr.at gh2 is_154 rfl) (fun j => my_fr.at gh2 is_155 rfl)
      rw [tE36] at xp17
      rw [ps35] at xp17
      have hi37 : 0 ≤ 0 := by omega
      have hi38 : 0 ≤ 2 := by omega
      refine w_iast gz_189_99 is_170 rd_69 (by omega) (by omega) (by omega) (by omega) (fun h39 fh39 => ?_)
      have gh39 : my_fr [(10, 7), (10, 8), (67, -1), (68, -1), (69, -1)] h h39 := my_fr.up gh13 is_170 fh39 rfl
      have Mq_h39 : Mq h39 wv := Mq_u (a := 170) hwv (by decide) (by omega) fh39 Mq_h13
      have Wd9_h39 : Wd9 h39 := Wd9_ag (my_ag.up fh39 is_170 rfl) Wd9_h13
      have P6_h39 : h39 167 6 = h 167 6 := P6_ag (my_ag.up fh39 is_170 rfl) P6_h13
      have Tok_h39 : Tok h39 := Tok_ag (my_ag.up fh39 is_170 rfl) Tok_h13t18
      have k170 := my_up_self fh39
      refine w_aload_n gz_189_100 rfl ?_
      refine w_bipush gz_189_101 (by decide) ?_
      have ce40 : h39 151 7 = h13 151 7 := ((my_up_role fh39 is_151 is_170 rfl).trans (rfl : h13 151 7 = h13 151 7))
      have ce41 : h39 151 27 = k151_27 := ((my_up_role fh39 is_151 is_170 rfl).trans ((my_fr.at frh13 is_151 rfl).trans ((my_up_role fh2 is_151 is_168 rfl).trans ek151_27.symm)))
      refine w_inv (k := 0) (as := [(0, 9)]) (r := []) (x := 151) (ls0 := [(2, 151), (0, 9)]) gz_189_103 gm_175 rfl is_151 rd_10 rfl rfl rfl rfl rfl (c_Model_takeWord9_f1 (d := d)  ((h13 151 8)) (((my_up_role fh39 is_151 is_170 rfl).trans (rfl : h13 151 8 = h13 151 8))) (by omega) (by omega) Tok_h39 Wd9_h39 (fun h42 frh42 w43 w44 xp45 xp46 Tok_h42t47 Wd9_h42t48 => ?_))
      have gh42 : my_fr [(10, 7), (10, 8), (67, -1), (68, -1), (69, -1)] h h42 := my_fr.tr gh39 (frh42.mo rfl)
      have Mq_h42 : Mq h42 wv := Mq_ag (my_ag.fr frh42 rfl) Mq_h39
      have Wd9_h42 : Wd9 h42 := Wd9_ag (my_ag.fr frh42 rfl) Wd9_h39
      have P6_h42 : h42 167 6 = h 167 6 := P6_ag (my_ag.fr frh42 rfl) P6_h39
      show wp l rho (d + 3) 189 106 [(2, 151), (0, x1), (9, 0)] [] h42 Q
      have ps49 : h39 151 7 = ((h 151 7)) := ((my_up_role fh39 is_151 is_170 rfl).trans xp16)
      rw [ps49] at xp45
      rw [ps49] at xp46
      refine w_aload_n gz_189_106 rfl ?_
      refine w_getX (v := 169) gz_189_107 is_151 rd_10 rfl (by decide) rfl ?_
      refine w_iload_n gz_189_110 rfl ?_
      refine w_aload_n gz_189_111 rfl ?_
      refine w_aload_n gz_189_112 rfl ?_
      refine v_getI (j := 27) gz_189_113 rfl is_151 rd_10 rfl (fun v51 ev51 pv51 qv51 => ?_)
      have zv51 := ev51.trans ((my_fr.at frh42 is_151 rfl).trans ((my_up_role fh39 is_151 is_170 rfl).trans ((my_fr.at frh13 is_151 rfl).trans ((my_up_role fh2 is_151 is_168 rfl).trans ek151_27.symm))))
      refine w_iconst gz_189_116 (by decide) ?_
      refine w_isub gz_189_117 ⟨by omega, by omega⟩ ?_
      have ce52 : h42 151 27 = v51 := ev51.symm
      refine w_inv (k := 0) (as := [(0, (v51 - 1))]) (r := [(0, x1), (2, 169)]) (x := 151) (ls0 := [(2, 151), (0, (v51 - 1))]) gz_189_118 gm_187 rfl is_151 rd_10 rfl rfl rfl rfl rfl (c_Model_takeNumber9_f1 (d := (d + 1)) (x1 := (v51 - 1)) (by omega) (by omega) ((h13 151 8)) (((my_fr.at frh42 is_151 rfl).trans ((my_up_role fh39 is_151 is_170 rfl).trans (rfl : h13 151 8 = h13 151 8)))) (by omega) (by omega) Tok_h42t47 (fun w53 w54 xp55 Tok_h42t56 => ?_))
      show wp l rho (d + 3) 189 121 [(2, 151), (0, x1), (9, 0)] [(0, 0), (0, x1), (2, 169)] h42 Q
      have ps57 : h42 151 7 = ((((h 151 7)))) := xp46
      rw [ps57] at xp55
      have hi58 : 0 ≤ 0 := by omega
      have hi59 : 0 ≤ 7 := by omega
      refine w_iast gz_189_121 is_169 rd_68 (by omega) (by omega) (by omega) (by omega) (fun h60 fh60 => ?_)
      have gh60 : my_fr [(10, 7), (10, 8), (67, -1), (68, -1), (69, -1)] h h60 := my_fr.up gh42 is_169 fh60 rfl
      have Mq_h60 : Mq h60 wv := Mq_u (a := 169) hwv (by decide) (by omega) fh60 Mq_h42
      have Wd9_h60 : Wd9 h60 := Wd9_ag (my_ag.up fh60 is_169 rfl) Wd9_h42t48
      have P6_h60 : h60 167 6 = h 167 6 := P6_ag (my_ag.up fh60 is_169 rfl) P6_h42
      have Tok_h60 : Tok h60 := Tok_ag (my_ag.up fh60 is_169 rfl) Tok_h42t56
      have k169 := my_up_self fh60
      have psR : h60 151 7 = ((((h 151 7)))) := ((my_up_role fh60 is_151 is_169 rfl).trans xp46)
      have npsR : sm h60 = sm h := sm_eq (fun j => my_fr.at gh60 is_153 rfl) (fun j => my_fr.at gh60 is_154 rfl) (fun j => my_fr.at gh60 is_155 rfl)
      have ce61 : h60 151 7 = h42 151 7 := ((my_up_role fh60 is_151 is_169 rfl).trans (rfl : h42 151 7 = h42 151 7))
      have ce62 : h60 151 27 = v51 := ((my_up_role fh60 is_151 is_169 rfl).trans ev51.symm)
      have a168 : ∀ j : Int, h60 168 j = h2 168 j := fun j => ((my_up_role fh60 is_168 is_169 rfl).trans ((my_fr.at frh42 is_168 rfl).trans ((my_up_role fh39 is_168 is_170 rfl).trans ((my_fr.at frh13 is_168 rfl).trans (rfl : h2 168 j = h2 168 j)))))
      have a170 : ∀ j : Int, h60 170 j = h39 170 j := fun j => ((my_up_role fh60 is_170 is_169 rfl).trans ((my_fr.at frh42 is_170 rfl).trans (rfl : h39 170 j = h39 170 j)))
      have a169 : ∀ j : Int, h60 169 j = h60 169 j := fun _ => rfl
      have a157 : ∀ j : Int, h60 157 j = h 157 j := fun j => ((my_up_role fh60 is_157 is_169 rfl).trans ((my_fr.at frh42 is_157 rfl).trans ((my_up_role fh39 is_157 is_170 rfl).trans ((my_fr.at frh13 is_157 rfl).trans ((my_up_role fh2 is_157 is_168 rfl).trans (rfl : h 157 j = h 157 j))))))
      have c63 := ((my_up_role fh60 is_151 is_169 rfl).trans ((my_fr.at frh42 is_151 rfl).trans ((my_up_role fh39 is_151 is_170 rfl).trans (rfl : h13 151 8 = h13 151 8))))
      exact w_vret gz_189_122 gm_189 (k0 h60 (gh60) (by omega) (by omega) (by first | exact ⟨by rw [a168]; exact k168, by rw [a170, k170]; omega⟩ | (unfold joinM; first | exact Or.inr (Or.inr ⟨by omega, by omega, Or.inr (Or.inr ⟨by omega, by omega, Or.inr ⟨by omega, Or.inr (Or.inr ⟨by omega, by omega, ⟨by omega, by omega⟩⟩)⟩⟩)⟩) | exact Or.inr (Or.inr ⟨by omega, by omega, Or.inr (Or.inr ⟨by omega, by omega, Or.inr ⟨by omega, Or.inr (Or.inl ⟨by omega, by omega, by omega⟩)⟩⟩)⟩) | exact Or.inr (Or.inr ⟨by omega, by omega, Or.inr (Or.inr ⟨by omega, by omega, Or.inr ⟨by omega, Or.inl ⟨by omega, by omega⟩⟩⟩)⟩) | exact Or.inr (Or.inr ⟨by omega, by omega, Or.inr (Or.inr ⟨by omega, by omega, Or.inl ⟨by omega, by omega⟩⟩)⟩) | exact Or.inr (Or.inr ⟨by omega, by omega, Or.inr (Or.inl ⟨by omega, by omega, by omega⟩)⟩) | exact Or.inr (Or.inr ⟨by omega, by omega, Or.inl ⟨by omega, by omega⟩⟩) | exact Or.inr (Or.inl ⟨by omega, by omega, by omega⟩) | exact Or.inl ⟨by omega, by omega⟩) | omega | (exfalso; subst_vars; omega) | (exfalso; (try clear k0); (try clear k1); grind) | omega | (refine ⟨fun q => ?_, fun q => ?_⟩ <;> first | (rw [a168, k168] at q; omega) | (have kz := k170.trans (show _ = vz by omega); rw [a170, kz, a157]; omega)) | (refine ⟨fun q => ?_, fun q => ?_, fun q => ?_⟩ <;> first | (exfalso; rw [a168, k168] at q; omega) | (rw [a169, k169]; omega)) | omega) (by first | exact ⟨by rw [a168]; exact k168, by rw [a170, k170]; omega⟩ | (unfold joinM; first | exact Or.inr (Or.inr ⟨by omega, by omega, Or.inr (Or.inr ⟨by omega, by omega, Or.inr ⟨by omega, Or.inr (Or.inr ⟨by omega, by omega, ⟨by omega, by omega⟩⟩)⟩⟩)⟩) | exact Or.inr (Or.inr ⟨by omega, by omega, Or.inr (Or.inr ⟨by omega, by omega, Or.inr ⟨by omega, Or.inr (Or.inl ⟨by omega, by omega, by omega⟩)⟩⟩)⟩) | exact Or.inr (Or.inr ⟨by omega, by omega, Or.inr (Or.inr ⟨by omega, by omega, Or.inr ⟨by omega, Or.inl ⟨by omega, by omega⟩⟩⟩)⟩) | exact Or.inr (Or.inr ⟨by omega, by omega, Or.inr (Or.inr ⟨by omega, by omega, Or.inl ⟨by omega, by omega⟩⟩)⟩) | exact Or.inr (Or.inr ⟨by omega, by omega, Or.inr (Or.inl ⟨by omega, by omega, by omega⟩)⟩) | exact Or.inr (Or.inr ⟨by omega, by omega, Or.inl ⟨by omega, by omega⟩⟩) | exact Or.inr (Or.inl ⟨by omega, by omega, by omega⟩) | exact Or.inl ⟨by omega, by omega⟩) | omega | (exfalso; subst_vars; omega) | (exfalso; (try clear k0); (try clear k1); grind) | omega | (refine ⟨fun q => ?_, fun q => ?_⟩ <;> first | (rw [a168, k168] at q; omega) | (have kz := k170.trans (show _ = vz by omega); rw [a170, kz, a157]; omega)) | (refine ⟨fun q => ?_, fun q => ?_, fun q => ?_⟩ <;> first | (exfalso; rw [a168, k168] at q; omega) | (rw [a169, k169]; omega)) | omega) Tok_h60 Mq_h60 Wd9_h60)
    ·
      have gh19 : my_fr [(10, 7), (10, 8), (67, -1), (68, -1), (69, -1)] h h19 := my_fr.tr gh2 (frh19.mo rfl)
      have Mq_h19 : Mq h19 wv := Mq_ag (my_ag.fr frh19 rfl) Mq_h2
      have Wd9_h19 : Wd9 h19 := Wd9_ag (my_ag.fr frh19 rfl) Wd9_h2
      have P6_h19 : h19 167 6 = h 167 6 := P6_ag (my_ag.fr frh19 rfl) P6_h2
      show wp l rho (d + 3) 189 99 [(2, 151), (0, x1), (9, 0)] [(0, v20), (0, x1), (2, 170)] h19 Q
      have ps64 : h2 151 7 = h 151 7 := ((my_up_role fh2 is_151 is_168 rfl).trans (rfl : h 151 7 = h 151 7))
      rw [ps64] at xp28
      rw [ps64] at xp29
      rw [ps64] at xp30
      have tE65 : sm h2 = sm h := sm_eq (fun j => my_fr.at gh2 is_153 rfl) (fun j => my_fr.at gh2 is_154 rfl) (fun j => my_fr.at gh2 is_155 rfl)
      rw [tE65] at xp31
      rw [ps64] at xp31
      rw [tE65] at xp32
      rw [ps64] at xp32
      rw [tE65] at xp33
      rw [ps64] at xp33
      have hi66 : 0 ≤ v20 := by omega
      have hi67 : v20 ≤ 2 := by omega
      refine w_iast gz_189_99 is_170 rd_69 (by omega) (by omega) (by omega) (by omega) (fun h68 fh68 => ?_)
      have gh68 : my_fr [(10, 7), (10, 8), (67, -1), (68, -1), (69, -1)] h h68 := my_fr.up gh19 is_170 fh68 rfl
      have Mq_h68 : Mq h68 wv := Mq_u (a := 170) hwv (by decide) (by omega) fh68 Mq_h19
      have Wd9_h68 : Wd9 h68 := Wd9_ag (my_ag.up fh68 is_170 rfl) Wd9_h19
      have P6_h68 : h68 167 6 = h 167 6 := P6_ag (my_ag.up fh68 is_170 rfl) P6_h19
      have Tok_h68 : Tok h68 := Tok_ag (my_ag.up fh68 is_170 rfl) Tok_h19t34
      have k170 := my_up_self fh68
      refine w_aload_n gz_189_100 rfl ?_
      refine w_bipush gz_189_101 (by decide) ?_
      have ce69 : h68 151 7 = (h19 151 7) := ((my_up_role fh68 is_151 is_170 rfl).trans (rfl : h19 151 7 = h19 151 7))
      have ce70 : h68 151 27 = k151_27 := ((my_up_role fh68 is_151 is_170 rfl).trans ((my_fr.at frh19 is_151 rfl).trans ((my_up_role fh2 is_151 is_168 rfl).trans ek151_27.symm)))
      refine w_inv (k := 0) (as := [(0, 9)]) (r := []) (x := 151) (ls0 := [(2, 151), (0, 9)]) gz_189_103 gm_175 rfl is_151 rd_10 rfl rfl rfl rfl rfl (c_Model_takeWord9_f0 (d := d) (x1 := 9) (by omega) (by omega) (((my_up_role fh68 is_151 is_170 rfl).trans w25).trans (by omega)) Tok_h68 Wd9_h68 (fun h71 frh71 w72 w73 xp74 xp75 xp76 Tok_h71t77 Wd9_h71t78 => ?_) (fun h79 frh79 w80 w81 w82 xp83 xp84 xp85 Tok_h79t86 Wd9_h79t87 => ?_))
      ·
        have gh71 : my_fr [(10, 7), (10, 8), (67, -1), (68, -1), (69, -1)] h h71 := my_fr.tr gh68 (frh71.mo rfl)
        have Mq_h71 : Mq h71 wv := Mq_ag (my_ag.fr frh71 rfl) Mq_h68
        have Wd9_h71 : Wd9 h71 := Wd9_ag (my_ag.fr frh71 rfl) Wd9_h68
        have P6_h71 : h71 167 6 = h 167 6 := P6_ag (my_ag.fr frh71 rfl) P6_h68
        show wp l rho (d + 3) 189 106 [(2, 151), (0, x1), (9, 0)] [] h71 Q
        have ps88 : h68 151 7 = (sN (sm h) ((h 151 7))) := ((my_up_role fh68 is_151 is_170 rfl).trans xp31)
        rw [ps88] at xp74
        rw [show wm 9 = 99 from by decide] at xp75
        have tE89 : sm h68 = sm h := sm_eq (fun j => my_fr.at gh68 is_153 rfl) (fun j => my_fr.at gh68 is_154 rfl) (fun j => my_fr.at gh68 is_155 rfl)
        rw [tE89] at xp75
        rw [ps88] at xp75
        rw [tE89] at xp76
        rw [ps88] at xp76
        refine w_aload_n gz_189_106 rfl ?_
        refine w_getX (v := 169) gz_189_107 is_151 rd_10 rfl (by decide) rfl ?_
        refine w_iload_n gz_189_110 rfl ?_
        refine w_aload_n gz_189_111 rfl ?_
        refine w_aload_n gz_189_112 rfl ?_
        refine v_getI (j := 27) gz_189_113 rfl is_151 rd_10 rfl (fun v91 ev91 pv91 qv91 => ?_)
        have zv91 := ev91.trans ((my_fr.at frh71 is_151 rfl).trans ((my_up_role fh68 is_151 is_170 rfl).trans ((my_fr.at frh19 is_151 rfl).trans ((my_up_role fh2 is_151 is_168 rfl).trans ek151_27.symm))))
        refine w_iconst gz_189_116 (by decide) ?_
        refine w_isub gz_189_117 ⟨by omega, by omega⟩ ?_
        have ce92 : h71 151 27 = v91 := ev91.symm
        refine w_inv (k := 0) (as := [(0, (v91 - 1))]) (r := [(0, x1), (2, 169)]) (x := 151) (ls0 := [(2, 151), (0, (v91 - 1))]) gz_189_118 gm_187 rfl is_151 rd_10 rfl rfl rfl rfl rfl (c_Model_takeNumber9_f1 (d := (d + 1)) (x1 := (v91 - 1)) (by omega) (by omega) ((h71 151 8)) ((rfl : h71 151 8 = h71 151 8)) (by omega) (by omega) Tok_h71t77 (fun w93 w94 xp95 Tok_h71t96 => ?_))
        show wp l rho (d + 3) 189 121 [(2, 151), (0, x1), (9, 0)] [(0, 0), (0, x1), (2, 169)] h71 Q
        have hi97 : 0 ≤ 0 := by omega
        have hi98 : 0 ≤ 7 := by omega
        refine w_iast gz_189_121 is_169 rd_68 (by omega) (by omega) (by omega) (by omega) (fun h99 fh99 => ?_)
        have gh99 : my_fr [(10, 7), (10, 8), (67, -1), (68, -1), (69, -1)] h h99 := my_fr.up gh71 is_169 fh99 rfl
        have Mq_h99 : Mq h99 wv := Mq_u (a := 169) hwv (by decide) (by omega) fh99 Mq_h71
        have Wd9_h99 : Wd9 h99 := Wd9_ag (my_ag.up fh99 is_169 rfl) Wd9_h71t78
        have P6_h99 : h99 167 6 = h 167 6 := P6_ag (my_ag.up fh99 is_169 rfl) P6_h71
        have Tok_h99 : Tok h99 := Tok_ag (my_ag.up fh99 is_169 rfl) Tok_h71t96
        have k169 := my_up_self fh99
        have psR : h99 151 7 = h71 151 7 := ((my_up_role fh99 is_151 is_169 rfl).trans (rfl : h71 151 7 = h71 151 7))
        have npsR : sm h99 = sm h := sm_eq (fun j => my_fr.at gh99 is_153 rfl) (fun j => my_fr.at gh99 is_154 rfl) (fun j => my_fr.at gh99 is_155 rfl)
        have ce100 : h99 151 7 = h71 151 7 := ((my_up_role fh99 is_151 is_169 rfl).trans (rfl : h71 151 7 = h71 151 7))
        have ce101 : h99 151 27 = v91 := ((my_up_role fh99 is_151 is_169 rfl).trans ev91.symm)
        have a168 : ∀ j : Int, h99 168 j = h2 168 j := fun j => ((my_up_role fh99 is_168 is_169 rfl).trans ((my_fr.at frh71 is_168 rfl).trans ((my_up_role fh68 is_168 is_170 rfl).trans ((my_fr.at frh19 is_168 rfl).trans (rfl : h2 168 j = h2 168 j)))))
        have a170 : ∀ j : Int, h99 170 j = h68 170 j := fun j => ((my_up_role fh99 is_170 is_169 rfl).trans ((my_fr.at frh71 is_170 rfl).trans (rfl : h68 170 j = h68 170 j)))
        have a169 : ∀ j : Int, h99 169 j = h99 169 j := fun _ => rfl
        have a157 : ∀ j : Int, h99 157 j = h 157 j := fun j => ((my_up_role fh99 is_157 is_169 rfl).trans ((my_fr.at frh71 is_157 rfl).trans ((my_up_role fh68 is_157 is_170 rfl).trans ((my_fr.at frh19 is_157 rfl).trans ((my_up_role fh2 is_157 is_168 rfl).trans (rfl : h 157 j = h 157 j))))))
        have c102 := ((my_up_role fh99 is_151 is_169 rfl).trans (rfl : h71 151 8 = h71 151 8))
        exact w_vret gz_189_122 gm_189 (k0 h99 (gh99) (by omega) (by omega) (by first | exact ⟨by rw [a168]; exact k168, by rw [a170, k170]; omega⟩ | (unfold joinM; first | exact Or.inr (Or.inr ⟨by omega, by omega, Or.inr (Or.inr ⟨by omega, by omega, Or.inr ⟨by omega, Or.inr (Or.inr ⟨by omega, by omega, ⟨by omega, by omega⟩⟩)⟩⟩)⟩) | exact Or.inr (Or.inr ⟨by omega, by omega, Or.inr (Or.inr ⟨by omega, by omega, Or.inr ⟨by omega, Or.inr (Or.inl ⟨by omega, by omega, by omega⟩)⟩⟩)⟩) | exact Or.inr (Or.inr ⟨by omega, by omega, Or.inr (Or.inr ⟨by omega, by omega, Or.inr ⟨by omega, Or.inl ⟨by omega, by omega⟩⟩⟩)⟩) | exact Or.inr (Or.inr ⟨by omega, by omega, Or.inr (Or.inr ⟨by omega, by omega, Or.inl ⟨by omega, by omega⟩⟩)⟩) | exact Or.inr (Or.inr ⟨by omega, by omega, Or.inr (Or.inl ⟨by omega, by omega, by omega⟩)⟩) | exact Or.inr (Or.inr ⟨by omega, by omega, Or.inl ⟨by omega, by omega⟩⟩) | exact Or.inr (Or.inl ⟨by omega, by omega, by omega⟩) | exact Or.inl ⟨by omega, by omega⟩) | omega | (exfalso; subst_vars; omega) | (exfalso; (try clear k0); (try clear k1); grind) | omega | (refine ⟨fun q => ?_, fun q => ?_⟩ <;> first | (rw [a168, k168] at q; omega) | (have kz := k170.trans (show _ = vz by omega); rw [a170, kz, a157]; omega)) | (refine ⟨fun q => ?_, fun q => ?_, fun q => ?_⟩ <;> first | (exfalso; rw [a168, k168] at q; omega) | (rw [a169, k169]; omega)) | omega) (by first | exact ⟨by rw [a168]; exact k168, by rw [a170, k170]; omega⟩ | (unfold joinM; first | exact Or.inr (Or.inr ⟨by omega, by omega, Or.inr (Or.inr ⟨by omega, by omega, Or.inr ⟨by omega, Or.inr (Or.inr ⟨by omega, by omega, ⟨by omega, by omega⟩⟩)⟩⟩)⟩) | exact Or.inr (Or.inr ⟨by omega, by omega, Or.inr (Or.inr ⟨by omega, by omega, Or.inr ⟨by omega, Or.inr (Or.inl ⟨by omega, by omega, by omega⟩)⟩⟩)⟩) | exact Or.inr (Or.inr ⟨by omega, by omega, Or.inr (Or.inr ⟨by omega, by omega, Or.inr ⟨by omega, Or.inl ⟨by omega, by omega⟩⟩⟩)⟩) | exact Or.inr (Or.inr ⟨by omega, by omega, Or.inr (Or.inr ⟨by omega, by omega, Or.inl ⟨by omega, by omega⟩⟩)⟩) | exact Or.inr (Or.inr ⟨by omega, by omega, Or.inr (Or.inl ⟨by omega, by omega, by omega⟩)⟩) | exact Or.inr (Or.inr ⟨by omega, by omega, Or.inl ⟨by omega, by omega⟩⟩) | exact Or.inr (Or.inl ⟨by omega, by omega, by omega⟩) | exact Or.inl ⟨by omega, by omega⟩) | omega | (exfalso; subst_vars; omega) | (exfalso; (try clear k0); (try clear k1); grind) | omega | (refine ⟨fun q => ?_, fun q => ?_⟩ <;> first | (rw [a168, k168] at q; omega) | (have kz := k170.trans (show _ = vz by omega); rw [a170, kz, a157]; omega)) | (refine ⟨fun q => ?_, fun q => ?_, fun q => ?_⟩ <;> first | (exfalso; rw [a168, k168] at q; omega) | (rw [a169, k169]; omega)) | omega) Tok_h99 Mq_h99 Wd9_h99)
      ·
        have gh79 : my_fr [(10, 7), (10, 8), (67, -1), (68, -1), (69, -1)] h h79 := my_fr.tr gh68 (frh79.mo rfl)
        have Mq_h79 : Mq h79 wv := Mq_ag (my_ag.fr frh79 rfl) Mq_h68
        have Wd9_h79 : Wd9 h79 := Wd9_ag (my_ag.fr frh79 rfl) Wd9_h68
        have P6_h79 : h79 167 6 = h 167 6 := P6_ag (my_ag.fr frh79 rfl) P6_h68
        show wp l rho (d + 3) 189 106 [(2, 151), (0, x1), (9, 0)] [] h79 Q
        have ps103 : h68 151 7 = (sN (sm h) ((h 151 7))) := ((my_up_role fh68 is_151 is_170 rfl).trans xp31)
        rw [ps103] at xp83
        have tE104 : sm h68 = sm h := sm_eq (fun j => my_fr.at gh68 is_153 rfl) (fun j => my_fr.at gh68 is_154 rfl) (fun j => my_fr.at gh68 is_155 rfl)
        rw [tE104] at xp84
        rw [ps103] at xp84
        rw [show wm 9 = 99 from by decide] at xp85
        rw [tE104] at xp85
        rw [ps103] at xp85
        refine w_aload_n gz_189_106 rfl ?_
        refine w_getX (v := 169) gz_189_107 is_151 rd_10 rfl (by decide) rfl ?_
        refine w_iload_n gz_189_110 rfl ?_
        refine w_aload_n gz_189_111 rfl ?_
        refine w_aload_n gz_189_112 rfl ?_
        refine v_getI (j := 27) gz_189_113 rfl is_151 rd_10 rfl (fun v106 ev106 pv106 qv106 => ?_)
        have zv106 := ev106.trans ((my_fr.at frh79 is_151 rfl).trans ((my_up_role fh68 is_151 is_170 rfl).trans ((my_fr.at frh19 is_151 rfl).trans ((my_up_role fh2 is_151 is_168 rfl).trans ek151_27.symm))))
        refine w_iconst gz_189_116 (by decide) ?_
        refine w_isub gz_189_117 ⟨by omega, by omega⟩ ?_
        have ce107 : h79 151 7 = (h79 151 7) := (rfl : h79 151 7 = h79 151 7)
        have ce108 : h79 151 27 = v106 := ev106.symm
        refine w_inv (k := 0) (as := [(0, (v106 - 1))]) (r := [(0, x1), (2, 169)]) (x := 151) (ls0 := [(2, 151), (0, (v106 - 1))]) gz_189_118 gm_187 rfl is_151 rd_10 rfl rfl rfl rfl rfl (c_Model_takeNumber9_f0 (d := (d + 1)) (x1 := (v106 - 1)) (by omega) (by omega) (w82.trans (by omega)) Tok_h79t86 (fun h109 frh109 w110 w111 xp112 xp113 Tok_h109t114 => ?_) (fun h115 v116 frh115 w117 w118 w119 w120 w121 xp122 xp123 xp124 xp125 xp126 xp127 xp128 xp129 Tok_h115t130 => ?_))
        ·
          have gh109 : my_fr [(10, 7), (10, 8), (67, -1), (68, -1), (69, -1)] h h109 := my_fr.tr gh79 (frh109.mo rfl)
          have Mq_h109 : Mq h109 wv := Mq_ag (my_ag.fr frh109 rfl) Mq_h79
          have Wd9_h109 : Wd9 h109 := Wd9_ag (my_ag.fr frh109 rfl) Wd9_h79t87
          have P6_h109 : h109 167 6 = h 167 6 := P6_ag (my_ag.fr frh109 rfl) P6_h79
          show wp l rho (d + 3) 189 121 [(2, 151), (0, x1), (9, 0)] [(0, 0), (0, x1), (2, 169)] h109 Q
          have ps131 : h79 151 7 = (sN (sm h) (((sN (sm h) ((h 151 7)))))) := xp84
          rw [ps131] at xp112
          have tE132 : sm h79 = sm h := sm_eq (fun j => my_fr.at gh79 is_153 rfl) (fun j => my_fr.at gh79 is_154 rfl) (fun j => my_fr.at gh79 is_155 rfl)
          rw [tE132] at xp113
          rw [ps131] at xp113
          have hi133 : 0 ≤ 0 := by omega
          have hi134 : 0 ≤ 7 := by omega
          refine w_iast gz_189_121 is_169 rd_68 (by omega) (by omega) (by omega) (by omega) (fun h135 fh135 => ?_)
          have gh135 : my_fr [(10, 7), (10, 8), (67, -1), (68, -1), (69, -1)] h h135 := my_fr.up gh109 is_169 fh135 rfl
          have Mq_h135 : Mq h135 wv := Mq_u (a := 169) hwv (by decide) (by omega) fh135 Mq_h109
          have Wd9_h135 : Wd9 h135 := Wd9_ag (my_ag.up fh135 is_169 rfl) Wd9_h109
          have P6_h135 : h135 167 6 = h 167 6 := P6_ag (my_ag.up fh135 is_169 rfl) P6_h109
          have Tok_h135 : Tok h135 := Tok_ag (my_ag.up fh135 is_169 rfl) Tok_h109t114
          have k169 := my_up_self fh135
          have psR : h135 151 7 = (((sN (sm h) (((sN (sm h) ((h 151 7)))))))) := ((my_up_role fh135 is_151 is_169 rfl).trans xp112)
          have npsR : sm h135 = sm h := sm_eq (fun j => my_fr.at gh135 is_153 rfl) (fun j => my_fr.at gh135 is_154 rfl) (fun j => my_fr.at gh135 is_155 rfl)
          have ce136 : h135 151 7 = h109 151 7 := ((my_up_role fh135 is_151 is_169 rfl).trans (rfl : h109 151 7 = h109 151 7))
          have ce137 : h135 151 27 = v106 := ((my_up_role fh135 is_151 is_169 rfl).trans ((my_fr.at frh109 is_151 rfl).trans ev106.symm))
          have a168 : ∀ j : Int, h135 168 j = h2 168 j := fun j => ((my_up_role fh135 is_168 is_169 rfl).trans ((my_fr.at frh109 is_168 rfl).trans ((my_fr.at frh79 is_168 rfl).trans ((my_up_role fh68 is_168 is_170 rfl).trans ((my_fr.at frh19 is_168 rfl).trans (rfl : h2 168 j = h2 168 j))))))
          have a170 : ∀ j : Int, h135 170 j = h68 170 j := fun j => ((my_up_role fh135 is_170 is_169 rfl).trans ((my_fr.at frh109 is_170 rfl).trans ((my_fr.at frh79 is_170 rfl).trans (rfl : h68 170 j = h68 170 j))))
          have a169 : ∀ j : Int, h135 169 j = h135 169 j := fun _ => rfl
          have a157 : ∀ j : Int, h135 157 j = h 157 j := fun j => ((my_up_role fh135 is_157 is_169 rfl).trans ((my_fr.at frh109 is_157 rfl).trans ((my_fr.at frh79 is_157 rfl).trans ((my_up_role fh68 is_157 is_170 rfl).trans ((my_fr.at frh19 is_157 rfl).trans ((my_up_role fh2 is_157 is_168 rfl).trans (rfl : h 157 j = h 157 j)))))))
          have c138 := ((my_up_role fh135 is_151 is_169 rfl).trans (rfl : h109 151 8 = h109 151 8))
          exact w_vret gz_189_122 gm_189 (k0 h135 (gh135) (by omega) (by omega) (by first | exact ⟨by rw [a168]; exact k168, by rw [a170, k170]; omega⟩ | (unfold joinM; first | exact Or.inr (Or.inr ⟨by omega, by omega, Or.inr (Or.inr ⟨by omega, by omega, Or.inr ⟨by omega, Or.inr (Or.inr ⟨by omega, by omega, ⟨by omega, by omega⟩⟩)⟩⟩)⟩) | exact Or.inr (Or.inr ⟨by omega, by omega, Or.inr (Or.inr ⟨by omega, by omega, Or.inr ⟨by omega, Or.inr (Or.inl ⟨by omega, by omega, by omega⟩)⟩⟩)⟩) | exact Or.inr (Or.inr ⟨by omega, by omega, Or.inr (Or.inr ⟨by omega, by omega, Or.inr ⟨by omega, Or.inl ⟨by omega, by omega⟩⟩⟩)⟩) | exact Or.inr (Or.inr ⟨by omega, by omega, Or.inr (Or.inr ⟨by omega, by omega, Or.inl ⟨by omega, by omega⟩⟩)⟩) | exact Or.inr (Or.inr ⟨by omega, by omega, Or.inr (Or.inl ⟨by omega, by omega, by omega⟩)⟩) | exact Or.inr (Or.inr ⟨by omega, by omega, Or.inl ⟨by omega, by omega⟩⟩) | exact Or.inr (Or.inl ⟨by omega, by omega, by omega⟩) | exact Or.inl ⟨by omega, by omega⟩) | omega | (exfalso; subst_vars; omega) | (exfalso; (try clear k0); (try clear k1); grind) | omega | (refine ⟨fun q => ?_, fun q => ?_⟩ <;> first | (rw [a168, k168] at q; omega) | (have kz := k170.trans (show _ = vz by omega); rw [a170, kz, a157]; omega)) | (refine ⟨fun q => ?_, fun q => ?_, fun q => ?_⟩ <;> first | (exfalso; rw [a168, k168] at q; omega) | (rw [a169, k169]; omega)) | omega) (by first | exact ⟨by rw [a168]; exact k168, by rw [a170, k170]; omega⟩ | (unfold joinM; first | exact Or.inr (Or.inr ⟨by omega, by omega, Or.inr (Or.inr ⟨by omega, by omega, Or.inr ⟨by omega, Or.inr (Or.inr ⟨by omega, by omega, ⟨by omega, by omega⟩⟩)⟩⟩)⟩) | exact Or.inr (Or.inr ⟨by omega, by omega, Or.inr (Or.inr ⟨by omega, by omega, Or.inr ⟨by omega, Or.inr (Or.inl ⟨by omega, by omega, by omega⟩)⟩⟩)⟩) | exact Or.inr (Or.inr ⟨by omega, by omega, Or.inr (Or.inr ⟨by omega, by omega, Or.inr ⟨by omega, Or.inl ⟨by omega, by omega⟩⟩⟩)⟩) | exact Or.inr (Or.inr ⟨by omega, by omega, Or.inr (Or.inr ⟨by omega, by omega, Or.inl ⟨by omega, by omega⟩⟩)⟩) | exact Or.inr (Or.inr ⟨by omega, by omega, Or.inr (Or.inl ⟨by omega, by omega, by omega⟩)⟩) | exact Or.inr (Or.inr ⟨by omega, by omega, Or.inl ⟨by omega, by omega⟩⟩) | exact Or.inr (Or.inl ⟨by omega, by omega, by omega⟩) | exact Or.inl ⟨by omega, by omega⟩) | omega | (exfalso; subst_vars; omega) | (exfalso; (try clear k0); (try clear k1); grind) | omega | (refine ⟨fun q => ?_, fun q => ?_⟩ <;> first | (rw [a168, k168] at q; omega) | (have kz := k170.trans (show _ = vz by omega); rw [a170, kz, a157]; omega)) | (refine ⟨fun q => ?_, fun q => ?_, fun q => ?_⟩ <;> first | (exfalso; rw [a168, k168] at q; omega) | (rw [a169, k169]; omega)) | omega) Tok_h135 Mq_h135 Wd9_h135)
        ·
          have gh115 : my_fr [(10, 7), (10, 8), (67, -1), (68, -1), (69, -1)] h h115 := my_fr.tr gh79 (frh115.mo rfl)
          have Mq_h115 : Mq h115 wv := Mq_ag (my_ag.fr frh115 rfl) Mq_h79
          have Wd9_h115 : Wd9 h115 := Wd9_ag (my_ag.fr frh115 rfl) Wd9_h79t87
          have P6_h115 : h115 167 6 = h 167 6 := P6_ag (my_ag.fr frh115 rfl) P6_h79
          show wp l rho (d + 3) 189 121 [(2, 151), (0, x1), (9, 0)] [(0, v116), (0, x1), (2, 169)] h115 Q
          have ps139 : h79 151 7 = (sN (sm h) (((sN (sm h) ((h 151 7)))))) := xp84
          rw [ps139] at xp124
          rw [ps139] at xp125
          rw [ps139] at xp126
          have tE140 : sm h79 = sm h := sm_eq (fun j => my_fr.at gh79 is_153 rfl) (fun j => my_fr.at gh79 is_154 rfl) (fun j => my_fr.at gh79 is_155 rfl)
          rw [tE140] at xp127
          rw [ps139] at xp127
          rw [tE140] at xp128
          rw [ps139] at xp128
          rw [tE140] at xp129
          rw [ps139] at xp129
          have hi141 : 0 ≤ v116 := by omega
          have hi142 : v116 ≤ 7 := by omega
          refine w_iast gz_189_121 is_169 rd_68 (by omega) (by omega) (by omega) (by omega) (fun h143 fh143 => ?_)
          have gh143 : my_fr [(10, 7), (10, 8), (67, -1), (68, -1), (69, -1)] h h143 := my_fr.up gh115 is_169 fh143 rfl
          have Mq_h143 : Mq h143 wv := Mq_u (a := 169) hwv (by decide) (by omega) fh143 Mq_h115
          have Wd9_h143 : Wd9 h143 := Wd9_ag (my_ag.up fh143 is_169 rfl) Wd9_h115
          have P6_h143 : h143 167 6 = h 167 6 := P6_ag (my_ag.up fh143 is_169 rfl) P6_h115
          have Tok_h143 : Tok h143 := Tok_ag (my_ag.up fh143 is_169 rfl) Tok_h115t130
          have k169 := my_up_self fh143
          have psR : h143 151 7 = (sN (sm h) (((sN (sm h) (((sN (sm h) ((h 151 7))))))))) := ((my_up_role fh143 is_151 is_169 rfl).trans xp127)
          have npsR : sm h143 = sm h := sm_eq (fun j => my_fr.at gh143 is_153 rfl) (fun j => my_fr.at gh143 is_154 rfl) (fun j => my_fr.at gh143 is_155 rfl)
          have ce144 : h143 151 7 = (h115 151 7) := ((my_up_role fh143 is_151 is_169 rfl).trans (rfl : h115 151 7 = h115 151 7))
          have ce145 : h143 151 27 = v106 := ((my_up_role fh143 is_151 is_169 rfl).trans ((my_fr.at frh115 is_151 rfl).trans ev106.symm))
          have a168 : ∀ j : Int, h143 168 j = h2 168 j := fun j => ((my_up_role fh143 is_168 is_169 rfl).trans ((my_fr.at frh115 is_168 rfl).trans ((my_fr.at frh79 is_168 rfl).trans ((my_up_role fh68 is_168 is_170 rfl).trans ((my_fr.at frh19 is_168 rfl).trans (rfl : h2 168 j = h2 168 j))))))
          have a170 : ∀ j : Int, h143 170 j = h68 170 j := fun j => ((my_up_role fh143 is_170 is_169 rfl).trans ((my_fr.at frh115 is_170 rfl).trans ((my_fr.at frh79 is_170 rfl).trans (rfl : h68 170 j = h68 170 j))))
          have a169 : ∀ j : Int, h143 169 j = h143 169 j := fun _ => rfl
          have a157 : ∀ j : Int, h143 157 j = h 157 j := fun j => ((my_up_role fh143 is_157 is_169 rfl).trans ((my_fr.at frh115 is_157 rfl).trans ((my_fr.at frh79 is_157 rfl).trans ((my_up_role fh68 is_157 is_170 rfl).trans ((my_fr.at frh19 is_157 rfl).trans ((my_up_role fh2 is_157 is_168 rfl).trans (rfl : h 157 j = h 157 j)))))))
          have c146 := ((my_up_role fh143 is_151 is_169 rfl).trans (rfl : h115 151 7 = h115 151 7))
          have c147 := ((my_up_role fh143 is_151 is_169 rfl).trans w121)
          exact w_vret gz_189_122 gm_189 (k1 h143 (gh143) (by omega) (by omega) (by omega) (by first | exact ⟨by rw [a168]; exact k168, by rw [a170, k170]; omega⟩ | (unfold joinM; first | exact Or.inr (Or.inr ⟨by omega, by omega, Or.inr (Or.inr ⟨by omega, by omega, Or.inr ⟨by omega, Or.inr (Or.inr ⟨by omega, by omega, ⟨by omega, by omega⟩⟩)⟩⟩)⟩) | exact Or.inr (Or.inr ⟨by omega, by omega, Or.inr (Or.inr ⟨by omega, by omega, Or.inr ⟨by omega, Or.inr (Or.inl ⟨by omega, by omega, by omega⟩)⟩⟩)⟩) | exact Or.inr (Or.inr ⟨by omega, by omega, Or.inr (Or.inr ⟨by omega, by omega, Or.inr ⟨by omega, Or.inl ⟨by omega, by omega⟩⟩⟩)⟩) | exact Or.inr (Or.inr ⟨by omega, by omega, Or.inr (Or.inr ⟨by omega, by omega, Or.inl ⟨by omega, by omega⟩⟩)⟩) | exact Or.inr (Or.inr ⟨by omega, by omega, Or.inr (Or.inl ⟨by omega, by omega, by omega⟩)⟩) | exact Or.inr (Or.inr ⟨by omega, by omega, Or.inl ⟨by omega, by omega⟩⟩) | exact Or.inr (Or.inl ⟨by omega, by omega, by omega⟩) | exact Or.inl ⟨by omega, by omega⟩) | omega | (exfalso; subst_vars; omega) | (exfalso; (try clear k0); (try clear k1); grind) | omega | (refine ⟨fun q => ?_, fun q => ?_⟩ <;> first | (rw [a168, k168] at q; omega) | (have kz := k170.trans (show _ = vz by omega); rw [a170, kz, a157]; omega)) | (refine ⟨fun q => ?_, fun q => ?_, fun q => ?_⟩ <;> first | (exfalso; rw [a168, k168] at q; omega) | (rw [a169, k169]; omega)) | omega) (by first | exact ⟨by rw [a168]; exact k168, by rw [a170, k170]; omega⟩ | (unfold joinM; first | exact Or.inr (Or.inr ⟨by omega, by omega, Or.inr (Or.inr ⟨by omega, by omega, Or.inr ⟨by omega, Or.inr (Or.inr ⟨by omega, by omega, ⟨by omega, by omega⟩⟩)⟩⟩)⟩) | exact Or.inr (Or.inr ⟨by omega, by omega, Or.inr (Or.inr ⟨by omega, by omega, Or.inr ⟨by omega, Or.inr (Or.inl ⟨by omega, by omega, by omega⟩)⟩⟩)⟩) | exact Or.inr (Or.inr ⟨by omega, by omega, Or.inr (Or.inr ⟨by omega, by omega, Or.inr ⟨by omega, Or.inl ⟨by omega, by omega⟩⟩⟩)⟩) | exact Or.inr (Or.inr ⟨by omega, by omega, Or.inr (Or.inr ⟨by omega, by omega, Or.inl ⟨by omega, by omega⟩⟩)⟩) | exact Or.inr (Or.inr ⟨by omega, by omega, Or.inr (Or.inl ⟨by omega, by omega, by omega⟩)⟩) | exact Or.inr (Or.inr ⟨by omega, by omega, Or.inl ⟨by omega, by omega⟩⟩) | exact Or.inr (Or.inl ⟨by omega, by omega, by omega⟩) | exact Or.inl ⟨by omega, by omega⟩) | omega | (exfalso; subst_vars; omega) | (exfalso; (try clear k0); (try clear k1); grind) | omega | (refine ⟨fun q => ?_, fun q => ?_⟩ <;> first | (rw [a168, k168] at q; omega) | (have kz := k170.trans (show _ = vz by omega); rw [a170, kz, a157]; omega)) | (refine ⟨fun q => ?_, fun q => ?_, fun q => ?_⟩ <;> first | (exfalso; rw [a168, k168] at q; omega) | (rw [a169, k169]; omega)) | omega) (by first | exact ⟨by rw [a168]; exact k168, by rw [a170, k170]; omega⟩ | (unfold joinM; first | exact Or.inr (Or.inr ⟨by omega, by omega, Or.inr (Or.inr ⟨by omega, by omega, Or.inr ⟨by omega, Or.inr (Or.inr ⟨by omega, by omega, ⟨by omega, by omega⟩⟩)⟩⟩)⟩) | exact Or.inr (Or.inr ⟨by omega, by omega, Or.inr (Or.inr ⟨by omega, by omega, Or.inr ⟨by omega, Or.inr (Or.inl ⟨by omega, by omega, by omega⟩)⟩⟩)⟩) | exact Or.inr (Or.inr ⟨by omega, by omega, Or.inr (Or.inr ⟨by omega, by omega, Or.inr ⟨by omega, Or.inl ⟨by omega, by omega⟩⟩⟩)⟩) | exact Or.inr (Or.inr ⟨by omega, by omega, Or.inr (Or.inr ⟨by omega, by omega, Or.inl ⟨by omega, by omega⟩⟩)⟩) | exact Or.inr (Or.inr ⟨by omega, by omega, Or.inr (Or.inl ⟨by omega, by omega, by omega⟩)⟩) | exact Or.inr (Or.inr ⟨by omega, by omega, Or.inl ⟨by omega, by omega⟩⟩) | exact Or.inr (Or.inl ⟨by omega, by omega, by omega⟩) | exact Or.inl ⟨by omega, by omega⟩) | omega | (exfalso; subst_vars; omega) | (exfalso; (try clear k0); (try clear k1); grind) | omega | (refine ⟨fun q => ?_, fun q => ?_⟩ <;> first | (rw [a168, k168] at q; omega) | (have kz := k170.trans (show _ = vz by omega); rw [a170, kz, a157]; omega)) | (refine ⟨fun q => ?_, fun q => ?_, fun q => ?_⟩ <;> first | (exfalso; rw [a168, k168] at q; omega) | (rw [a169, k169]; omega)) | omega) (by first | exact ⟨by rw [a168]; exact k168, by rw [a170, k170]; omega⟩ | (unfold joinM; first | exact Or.inr (Or.inr ⟨by omega, by omega, Or.inr (Or.inr ⟨by omega, by omega, Or.inr ⟨by omega, Or.inr (Or.inr ⟨by omega, by omega, ⟨by omega, by omega⟩⟩)⟩⟩)⟩) | exact Or.inr (Or.inr ⟨by omega, by omega, Or.inr (Or.inr ⟨by omega, by omega, Or.inr ⟨by omega, Or.inr (Or.inl ⟨by omega, by omega, by omega⟩)⟩⟩)⟩) | exact Or.inr (Or.inr ⟨by omega, by omega, Or.inr (Or.inr ⟨by omega, by omega, Or.inr ⟨by omega, Or.inl ⟨by omega, by omega⟩⟩⟩)⟩) | exact Or.inr (Or.inr ⟨by omega, by omega, Or.inr (Or.inr ⟨by omega, by omega, Or.inl ⟨by omega, by omega⟩⟩)⟩) | exact Or.inr (Or.inr ⟨by omega, by omega, Or.inr (Or.inl ⟨by omega, by omega, by omega⟩)⟩) | exact Or.inr (Or.inr ⟨by omega, by omega, Or.inl ⟨by omega, by omega⟩⟩) | exact Or.inr (Or.inl ⟨by omega, by omega, by omega⟩) | exact Or.inl ⟨by omega, by omega⟩) | omega | (exfalso; subst_vars; omega) | (exfalso; (try clear k0); (try clear k1); grind) | omega | (refine ⟨fun q => ?_, fun q => ?_⟩ <;> first | (rw [a168, k168] at q; omega) | (have kz := k170.trans (show _ = vz by omega); rw [a170, kz, a157]; omega)) | (refine ⟨fun q => ?_, fun q => ?_, fun q => ?_⟩ <;> first | (exfalso; rw [a168, k168] at q; omega) | (rw [a169, k169]; omega)) | omega) (by first | exact ⟨by rw [a168]; exact k168, by rw [a170, k170]; omega⟩ | (unfold joinM; first | exact Or.inr (Or.inr ⟨by omega, by omega, Or.inr (Or.inr ⟨by omega, by omega, Or.inr ⟨by omega, Or.inr (Or.inr ⟨by omega, by omega, ⟨by omega, by omega⟩⟩)⟩⟩)⟩) | exact Or.inr (Or.inr ⟨by omega, by omega, Or.inr (Or.inr ⟨by omega, by omega, Or.inr ⟨by omega, Or.inr (Or.inl ⟨by omega, by omega, by omega⟩)⟩⟩)⟩) | exact Or.inr (Or.inr ⟨by omega, by omega, Or.inr (Or.inr ⟨by omega, by omega, Or.inr ⟨by omega, Or.inl ⟨by omega, by omega⟩⟩⟩)⟩) | exact Or.inr (Or.inr ⟨by omega, by omega, Or.inr (Or.inr ⟨by omega, by omega, Or.inl ⟨by omega, by omega⟩⟩)⟩) | exact Or.inr (Or.inr ⟨by omega, by omega, Or.inr (Or.inl ⟨by omega, by omega, by omega⟩)⟩) | exact Or.inr (Or.inr ⟨by omega, by omega, Or.inl ⟨by omega, by omega⟩⟩) | exact Or.inr (Or.inl ⟨by omega, by omega, by omega⟩) | exact Or.inl ⟨by omega, by omega⟩) | omega | (exfalso; subst_vars; omega) | (exfalso; (try clear k0); (try clear k1); grind) | omega | (refine ⟨fun q => ?_, fun q => ?_⟩ <;> first | (rw [a168, k168] at q; omega) | (have kz := k170.trans (show _ = vz by omega); rw [a170, kz, a157]; omega)) | (refine ⟨fun q => ?_, fun q => ?_, fun q => ?_⟩ <;> first | (exfalso; rw [a168, k168] at q; omega) | (rw [a169, k169]; omega)) | omega) Tok_h143 Mq_h143 Wd9_h143)
  ·
    refine w_aload_n gz_189_27 rfl ?_
    refine w_getX (v := 155) gz_189_28 is_151 rd_10 rfl (by decide) rfl ?_
    refine w_aload_n gz_189_31 rfl ?_
    refine v_getI (j := 7) gz_189_32 rfl is_151 rd_10 rfl (fun v149 ev149 pv149 qv149 => ?_)
    have zv149 := ev149.trans ev6.symm
    refine w_lald gz_189_35 is_155 rd_54 (by omega) (by omega) (fun v150 ev150 pv150 => ?_)
    have nz151a : h2 151 7 = h 151 7 := ((my_up_role fh2 is_151 is_168 rfl).trans (rfl : h 151 7 = h 151 7))
    have nz151 : v150 = sV (sm h) (h 151 7) := by
      have q := ev150.trans (my_fr.at (j := v149) gh2 is_155 rfl)
      rw [show (v149 : Int) = h 151 7 from by omega] at q
      exact q
    refine w_ldc2 gz_189_36 rfl ?_
    refine w_lcmpE gz_189_39 (fun v152 pv152 qv152 xv152 => ?_)
    refine w_ifgt (t := 89) gz_189_40 rfl (fun u153 => ?_) (fun u153 => ?_)
    ·
      refine w_aload_n gz_189_89 rfl ?_
      refine w_getX (v := 170) gz_189_90 is_151 rd_10 rfl (by decide) rfl ?_
      refine w_iload_n gz_189_93 rfl ?_
      refine w_aload_n gz_189_94 rfl ?_
      refine w_iconst gz_189_95 (by decide) ?_
      have ce155 : h2 151 7 = v149 := ev149.symm
      have ce156 : h2 151 27 = k151_27 := ((my_up_role fh2 is_151 is_168 rfl).trans ek151_27.symm)
      refine w_inv (k := 0) (as := [(0, 2)]) (r := [(0, x1), (2, 170)]) (x := 151) (ls0 := [(2, 151), (0, 2)]) gz_189_96 gm_187 rfl is_151 rd_10 rfl rfl rfl rfl rfl (c_Model_takeNumber9_f0 (d := (d + 1)) (x1 := 2) (by omega) (by omega) (ev3.symm.trans (by omega)) Tok_h2 (fun h157 frh157 w158 w159 xp160 xp161 Tok_h157t162 => ?_) (fun h163 v164 frh163 w165 w166 w167 w168 w169 xp170 xp171 xp172 xp173 xp174 xp175 xp176 xp177 Tok_h163t178 => ?_))
      ·
        have gh157 : my_fr [(10, 7), (10, 8), (67, -1), (68, -1), (69, -1)] h h157 := my_fr.tr gh2 (frh157.mo rfl)
        have Mq_h157 : Mq h157 wv := Mq_ag (my_ag.fr frh157 rfl) Mq_h2
        have Wd9_h157 : Wd9 h157 := Wd9_ag (my_ag.fr frh157 rfl) Wd9_h2
        have P6_h157 : h157 167 6 = h 167 6 := P6_ag (my_ag.fr frh157 rfl) P6_h2
        show wp l rho (d + 3) 189 99 [(2, 151), (0, x1), (9, 0)] [(0, 0), (0, x1), (2, 170)] h157 Q
        have ps179 : h2 151 7 = h 151 7 := ((my_up_role fh2 is_151 is_168 rfl).trans (rfl : h 151 7 = h 151 7))
        rw [ps179] at xp160
        have tE180 : sm h2 = sm h := sm_eq (fun j => my_fr.at gh2 is_153 rfl) (fun j => my_fr.at gh2 is_154 rfl) (fun j => my_fr.at gh2 is_155 rfl)
        rw [tE180] at xp161
        rw [ps179] at xp161
        have hi181 : 0 ≤ 0 := by omega
        have hi182 : 0 ≤ 2 := by omega
        refine w_iast gz_189_99 is_170 rd_69 (by omega) (by omega) (by omega) (by omega) (fun h183 fh183 => ?_)
        have gh183 : my_fr [(10, 7), (10, 8), (67, -1), (68, -1), (69, -1)] h h183 := my_fr.up gh157 is_170 fh183 rfl
        have Mq_h183 : Mq h183 wv := Mq_u (a := 170) hwv (by decide) (by omega) fh183 Mq_h157
        have Wd9_h183 : Wd9 h183 := Wd9_ag (my_ag.up fh183 is_170 rfl) Wd9_h157
        have P6_h183 : h183 167 6 = h 167 6 := P6_ag (my_ag.up fh183 is_170 rfl) P6_h157
        have Tok_h183 : Tok h183 := Tok_ag (my_ag.up fh183 is_170 rfl) Tok_h157t162
        have k170 := my_up_self fh183
        refine w_aload_n gz_189_100 rfl ?_
        refine w_bipush gz_189_101 (by decide) ?_
        have ce184 : h183 151 7 = h157 151 7 := ((my_up_role fh183 is_151 is_170 rfl).trans (rfl : h157 151 7 = h157 151 7))
        have ce185 : h183 151 27 = k151_27 := ((my_up_role fh183 is_151 is_170 rfl).trans ((my_fr.at frh157 is_151 rfl).trans ((my_up_role fh2 is_151 is_168 rfl).trans ek151_27.symm)))
        refine w_inv (k := 0) (as := [(0, 9)]) (r := []) (x := 151) (ls0 := [(2, 151), (0, 9)]) gz_189_103 gm_175 rfl is_151 rd_10 rfl rfl rfl rfl rfl (c_Model_takeWord9_f1 (d := d)  ((h157 151 8)) (((my_up_role fh183 is_151 is_170 rfl).trans (rfl : h157 151 8 = h157 151 8))) (by omega) (by omega) Tok_h183 Wd9_h183 (fun h186 frh186 w187 w188 xp189 xp190 Tok_h186t191 Wd9_h186t192 => ?_))
        have gh186 : my_fr [(10, 7), (10, 8), (67, -1), (68, -1), (69, -1)] h h186 := my_fr.tr gh183 (frh186.mo rfl)
        have Mq_h186 : Mq h186 wv := Mq_ag (my_ag.fr frh186 rfl) Mq_h183
        have Wd9_h186 : Wd9 h186 := Wd9_ag (my_ag.fr frh186 rfl) Wd9_h183
        have P6_h186 : h186 167 6 = h 167 6 := P6_ag (my_ag.fr frh186 rfl) P6_h183
        show wp l rho (d + 3) 189 106 [(2, 151), (0, x1), (9, 0)] [] h186 Q
        have ps193 : h183 151 7 = ((h 151 7)) := ((my_up_role fh183 is_151 is_170 rfl).trans xp160)
        rw [ps193] at xp189
        rw [ps193] at xp190
        refine w_aload_n gz_189_106 rfl ?_
        refine w_getX (v := 169) gz_189_107 is_151 rd_10 rfl (by decide) rfl ?_
        refine w_iload_n gz_189_110 rfl ?_
        refine w_aload_n gz_189_111 rfl ?_
        refine w_aload_n gz_189_112 rfl ?_
        refine v_getI (j := 27) gz_189_113 rfl is_151 rd_10 rfl (fun v195 ev195 pv195 qv195 => ?_)
        have zv195 := ev195.trans ((my_fr.at frh186 is_151 rfl).trans ((my_up_role fh183 is_151 is_170 rfl).trans ((my_fr.at frh157 is_151 rfl).trans ((my_up_role fh2 is_151 is_168 rfl).trans ek151_27.symm))))
        refine w_iconst gz_189_116 (by decide) ?_
        refine w_isub gz_189_117 ⟨by omega, by omega⟩ ?_
        have ce196 : h186 151 27 = v195 := ev195.symm
        refine w_inv (k := 0) (as := [(0, (v195 - 1))]) (r := [(0, x1), (2, 169)]) (x := 151) (ls0 := [(2, 151), (0, (v195 - 1))]) gz_189_118 gm_187 rfl is_151 rd_10 rfl rfl rfl rfl rfl (c_Model_takeNumber9_f1 (d := (d + 1)) (x1 := (v195 - 1)) (by omega) (by omega) ((h157 151 8)) (((my_fr.at frh186 is_151 rfl).trans ((my_up_role fh183 is_151 is_170 rfl).trans (rfl : h157 151 8 = h157 151 8)))) (by omega) (by omega) Tok_h186t191 (fun w197 w198 xp199 Tok_h186t200 => ?_))
        show wp l rho (d + 3) 189 121 [(2, 151), (0, x1), (9, 0)] [(0, 0), (0, x1), (2, 169)] h186 Q
        have ps201 : h186 151 7 = ((((h 151 7)))) := xp190
        rw [ps201] at xp199
        have hi202 : 0 ≤ 0 := by omega
        have hi203 : 0 ≤ 7 := by omega
        refine w_iast gz_189_121 is_169 rd_68 (by omega) (by omega) (by omega) (by omega) (fun h204 fh204 => ?_)
        have gh204 : my_fr [(10, 7), (10, 8), (67, -1), (68, -1), (69, -1)] h h204 := my_fr.up gh186 is_169 fh204 rfl
        have Mq_h204 : Mq h204 wv := Mq_u (a := 169) hwv (by decide) (by omega) fh204 Mq_h186
        have Wd9_h204 : Wd9 h204 := Wd9_ag (my_ag.up fh204 is_169 rfl) Wd9_h186t192
        have P6_h204 : h204 167 6 = h 167 6 := P6_ag (my_ag.up fh204 is_169 rfl) P6_h186
        have Tok_h204 : Tok h204 := Tok_ag (my_ag.up fh204 is_169 rfl) Tok_h186t200
        have k169 := my_up_self fh204
        have psR : h204 151 7 = ((((h 151 7)))) := ((my_up_role fh204 is_151 is_169 rfl).trans xp190)
        have npsR : sm h204 = sm h := sm_eq (fun j => my_fr.at gh204 is_153 rfl) (fun j => my_fr.at gh204 is_154 rfl) (fun j => my_fr.at gh204 is_155 rfl)
        have ce205 : h204 151 7 = h186 151 7 := ((my_up_role fh204 is_151 is_169 rfl).trans (rfl : h186 151 7 = h186 151 7))
        have ce206 : h204 151 27 = v195 := ((my_up_role fh204 is_151 is_169 rfl).trans ev195.symm)
        have a168 : ∀ j : Int, h204 168 j = h2 168 j := fun j => ((my_up_role fh204 is_168 is_169 rfl).trans ((my_fr.at frh186 is_168 rfl).trans ((my_up_role fh183 is_168 is_170 rfl).trans ((my_fr.at frh157 is_168 rfl).trans (rfl : h2 168 j = h2 168 j)))))
        have a170 : ∀ j : Int, h204 170 j = h183 170 j := fun j => ((my_up_role fh204 is_170 is_169 rfl).trans ((my_fr.at frh186 is_170 rfl).trans (rfl : h183 170 j = h183 170 j)))
        have a169 : ∀ j : Int, h204 169 j = h204 169 j := fun _ => rfl
        have a157 : ∀ j : Int, h204 157 j = h 157 j := fun j => ((my_up_role fh204 is_157 is_169 rfl).trans ((my_fr.at frh186 is_157 rfl).trans ((my_up_role fh183 is_157 is_170 rfl).trans ((my_fr.at frh157 is_157 rfl).trans ((my_up_role fh2 is_157 is_168 rfl).trans (rfl : h 157 j = h 157 j))))))
        have c207 := ((my_up_role fh204 is_151 is_169 rfl).trans ((my_fr.at frh186 is_151 rfl).trans ((my_up_role fh183 is_151 is_170 rfl).trans (rfl : h157 151 8 = h157 151 8))))
        exact w_vret gz_189_122 gm_189 (k0 h204 (gh204) (by omega) (by omega) (by first | exact ⟨by rw [a168]; exact k168, by rw [a170, k170]; omega⟩ | (unfold joinM; first | exact Or.inr (Or.inr ⟨by omega, by omega, Or.inr (Or.inr ⟨by omega, by omega, Or.inr ⟨by omega, Or.inr (Or.inr ⟨by omega, by omega, ⟨by omega, by omega⟩⟩)⟩⟩)⟩) | exact Or.inr (Or.inr ⟨by omega, by omega, Or.inr (Or.inr ⟨by omega, by omega, Or.inr ⟨by omega, Or.inr (Or.inl ⟨by omega, by omega, by omega⟩)⟩⟩)⟩) | exact Or.inr (Or.inr ⟨by omega, by omega, Or.inr (Or.inr ⟨by omega, by omega, Or.inr ⟨by omega, Or.inl ⟨by omega, by omega⟩⟩⟩)⟩) | exact Or.inr (Or.inr ⟨by omega, by omega, Or.inr (Or.inr ⟨by omega, by omega, Or.inl ⟨by omega, by omega⟩⟩)⟩) | exact Or.inr (Or.inr ⟨by omega, by omega, Or.inr (Or.inl ⟨by omega, by omega, by omega⟩)⟩) | exact Or.inr (Or.inr ⟨by omega, by omega, Or.inl ⟨by omega, by omega⟩⟩) | exact Or.inr (Or.inl ⟨by omega, by omega, by omega⟩) | exact Or.inl ⟨by omega, by omega⟩) | omega | (exfalso; subst_vars; omega) | (exfalso; (try clear k0); (try clear k1); grind) | omega | (refine ⟨fun q => ?_, fun q => ?_⟩ <;> first | (rw [a168, k168] at q; omega) | (have kz := k170.trans (show _ = vz by omega); rw [a170, kz, a157]; omega)) | (refine ⟨fun q => ?_, fun q => ?_, fun q => ?_⟩ <;> first | (exfalso; rw [a168, k168] at q; omega) | (rw [a169, k169]; omega)) | omega) (by first | exact ⟨by rw [a168]; exact k168, by rw [a170, k170]; omega⟩ | (unfold joinM; first | exact Or.inr (Or.inr ⟨by omega, by omega, Or.inr (Or.inr ⟨by omega, by omega, Or.inr ⟨by omega, Or.inr (Or.inr ⟨by omega, by omega, ⟨by omega, by omega⟩⟩)⟩⟩)⟩) | exact Or.inr (Or.inr ⟨by omega, by omega, Or.inr (Or.inr ⟨by omega, by omega, Or.inr ⟨by omega, Or.inr (Or.inl ⟨by omega, by omega, by omega⟩)⟩⟩)⟩) | exact Or.inr (Or.inr ⟨by omega, by omega, Or.inr (Or.inr ⟨by omega, by omega, Or.inr ⟨by omega, Or.inl ⟨by omega, by omega⟩⟩⟩)⟩) | exact Or.inr (Or.inr ⟨by omega, by omega, Or.inr (Or.inr ⟨by omega, by omega, Or.inl ⟨by omega, by omega⟩⟩)⟩) | exact Or.inr (Or.inr ⟨by omega, by omega, Or.inr (Or.inl ⟨by omega, by omega, by omega⟩)⟩) | exact Or.inr (Or.inr ⟨by omega, by omega, Or.inl ⟨by omega, by omega⟩⟩) | exact Or.inr (Or.inl ⟨by omega, by omega, by omega⟩) | exact Or.inl ⟨by omega, by omega⟩) | omega | (exfalso; subst_vars; omega) | (exfalso; (try clear k0); (try clear k1); grind) | omega | (refine ⟨fun q => ?_, fun q => ?_⟩ <;> first | (rw [a168, k168] at q; omega) | (have kz := k170.trans (show _ = vz by omega); rw [a170, kz, a157]; omega)) | (refine ⟨fun q => ?_, fun q => ?_, fun q => ?_⟩ <;> first | (exfalso; rw [a168, k168] at q; omega) | (rw [a169, k169]; omega)) | omega) Tok_h204 Mq_h204 Wd9_h204)
      ·
        have gh163 : my_fr [(10, 7), (10, 8), (67, -1), (68, -1), (69, -1)] h h163 := my_fr.tr gh2 (frh163.mo rfl)
        have Mq_h163 : Mq h163 wv := Mq_ag (my_ag.fr frh163 rfl) Mq_h2
        have Wd9_h163 : Wd9 h163 := Wd9_ag (my_ag.fr frh163 rfl) Wd9_h2
        have P6_h163 : h163 167 6 = h 167 6 := P6_ag (my_ag.fr frh163 rfl) P6_h2
        show wp l rho (d + 3) 189 99 [(2, 151), (0, x1), (9, 0)] [(0, v164), (0, x1), (2, 170)] h163 Q
        have ps208 : h2 151 7 = h 151 7 := ((my_up_role fh2 is_151 is_168 rfl).trans (rfl : h 151 7 = h 151 7))
        rw [ps208] at xp172
        rw [ps208] at xp173
        rw [ps208] at xp174
        have tE209 : sm h2 = sm h := sm_eq (fun j => my_fr.at gh2 is_153 rfl) (fun j => my_fr.at gh2 is_154 rfl) (fun j => my_fr.at gh2 is_155 rfl)
        rw [tE209] at xp175
        rw [ps208] at xp175
        rw [tE209] at xp176
        rw [ps208] at xp176
        rw [tE209] at xp177
        rw [ps208] at xp177
        have hi210 : 0 ≤ v164 := by omega
        have hi211 : v164 ≤ 2 := by omega
        refine w_iast gz_189_99 is_170 rd_69 (by omega) (by omega) (by omega) (by omega) (fun h212 fh212 => ?_)
        have gh212 : my_fr [(10, 7), (10, 8), (67, -1), (68, -1), (69, -1)] h h212 := my_fr.up gh163 is_170 fh212 rfl
        have Mq_h212 : Mq h212 wv := Mq_u (a := 170) hwv (by decide) (by omega) fh212 Mq_h163
        have Wd9_h212 : Wd9 h212 := Wd9_ag (my_ag.up fh212 is_170 rfl) Wd9_h163
        have P6_h212 : h212 167 6 = h 167 6 := P6_ag (my_ag.up fh212 is_170 rfl) P6_h163
        have Tok_h212 : Tok h212 := Tok_ag (my_ag.up fh212 is_170 rfl) Tok_h163t178
        have k170 := my_up_self fh212
        refine w_aload_n gz_189_100 rfl ?_
        refine w_bipush gz_189_101 (by decide) ?_
        have ce213 : h212 151 7 = (h163 151 7) := ((my_up_role fh212 is_151 is_170 rfl).trans (rfl : h163 151 7 = h163 151 7))
        have ce214 : h212 151 27 = k151_27 := ((my_up_role fh212 is_151 is_170 rfl).trans ((my_fr.at frh163 is_151 rfl).trans ((my_up_role fh2 is_151 is_168 rfl).trans ek151_27.symm)))
        refine w_inv (k := 0) (as := [(0, 9)]) (r := []) (x := 151) (ls0 := [(2, 151), (0, 9)]) gz_189_103 gm_175 rfl is_151 rd_10 rfl rfl rfl rfl rfl (c_Model_takeWord9_f0 (d := d) (x1 := 9) (by omega) (by omega) (((my_up_role fh212 is_151 is_170 rfl).trans w169).trans (by omega)) Tok_h212 Wd9_h212 (fun h215 frh215 w216 w217 xp218 xp219 xp220 Tok_h215t221 Wd9_h215t222 => ?_) (fun h223 frh223 w224 w225 w226 xp227 xp228 xp229 Tok_h223t230 Wd9_h223t231 => ?_))
        ·
          have gh215 : my_fr [(10, 7), (10, 8), (67, -1), (68, -1), (69, -1)] h h215 := my_fr.tr gh212 (frh215.mo rfl)
          have Mq_h215 : Mq h215 wv := Mq_ag (my_ag.fr frh215 rfl) Mq_h212
          have Wd9_h215 : Wd9 h215 := Wd9_ag (my_ag.fr frh215 rfl) Wd9_h212
          have P6_h215 : h215 167 6 = h 167 6 := P6_ag (my_ag.fr frh215 rfl) P6_h212
          show wp l rho (d + 3) 189 106 [(2, 151), (0, x1), (9, 0)] [] h215 Q
          have ps232 : h212 151 7 = (sN (sm h) ((h 151 7))) := ((my_up_role fh212 is_151 is_170 rfl).trans xp175)
          rw [ps232] at xp218
          rw [show wm 9 = 99 from by decide] at xp219
          have tE233 : sm h212 = sm h := sm_eq (fun j => my_fr.at gh212 is_153 rfl) (fun j => my_fr.at gh212 is_154 rfl) (fun j => my_fr.at gh212 is_155 rfl)
          rw [tE233] at xp219
          rw [ps232] at xp219
          rw [tE233] at xp220
          rw [ps232] at xp220
          refine w_aload_n gz_189_106 rfl ?_
          refine w_getX (v := 169) gz_189_107 is_151 rd_10 rfl (by decide) rfl ?_
          refine w_iload_n gz_189_110 rfl ?_
          refine w_aload_n gz_189_111 rfl ?_
          refine w_aload_n gz_189_112 rfl ?_
          refine v_getI (j := 27) gz_189_113 rfl is_151 rd_10 rfl (fun v235 ev235 pv235 qv235 => ?_)
          have zv235 := ev235.trans ((my_fr.at frh215 is_151 rfl).trans ((my_up_role fh212 is_151 is_170 rfl).trans ((my_fr.at frh163 is_151 rfl).trans ((my_up_role fh2 is_151 is_168 rfl).trans ek151_27.symm))))
          refine w_iconst gz_189_116 (by decide) ?_
          refine w_isub gz_189_117 ⟨by omega, by omega⟩ ?_
          have ce236 : h215 151 27 = v235 := ev235.symm
          refine w_inv (k := 0) (as := [(0, (v235 - 1))]) (r := [(0, x1), (2, 169)]) (x := 151) (ls0 := [(2, 151), (0, (v235 - 1))]) gz_189_118 gm_187 rfl is_151 rd_10 rfl rfl rfl rfl rfl (c_Model_takeNumber9_f1 (d := (d + 1)) (x1 := (v235 - 1)) (by omega) (by omega) ((h215 151 8)) ((rfl : h215 151 8 = h215 151 8)) (by omega) (by omega) Tok_h215t221 (fun w237 w238 xp239 Tok_h215t240 => ?_))
          show wp l rho (d + 3) 189 121 [(2, 151), (0, x1), (9, 0)] [(0, 0), (0, x1), (2, 169)] h215 Q
          have hi241 : 0 ≤ 0 := by omega
          have hi242 : 0 ≤ 7 := by omega
          refine w_iast gz_189_121 is_169 rd_68 (by omega) (by omega) (by omega) (by omega) (fun h243 fh243 => ?_)
          have gh243 : my_fr [(10, 7), (10, 8), (67, -1), (68, -1), (69, -1)] h h243 := my_fr.up gh215 is_169 fh243 rfl
          have Mq_h243 : Mq h243 wv := Mq_u (a := 169) hwv (by decide) (by omega) fh243 Mq_h215
          have Wd9_h243 : Wd9 h243 := Wd9_ag (my_ag.up fh243 is_169 rfl) Wd9_h215t222
          have P6_h243 : h243 167 6 = h 167 6 := P6_ag (my_ag.up fh243 is_169 rfl) P6_h215
          have Tok_h243 : Tok h243 := Tok_ag (my_ag.up fh243 is_169 rfl) Tok_h215t240
          have k169 := my_up_self fh243
          have psR : h243 151 7 = h215 151 7 := ((my_up_role fh243 is_151 is_169 rfl).trans (rfl : h215 151 7 = h215 151 7))
          have npsR : sm h243 = sm h := sm_eq (fun j => my_fr.at gh243 is_153 rfl) (fun j => my_fr.at gh243 is_154 rfl) (fun j => my_fr.at gh243 is_155 rfl)
          have ce244 : h243 151 7 = h215 151 7 := ((my_up_role fh243 is_151 is_169 rfl).trans (rfl : h215 151 7 = h215 151 7))
          have ce245 : h243 151 27 = v235 := ((my_up_role fh243 is_151 is_169 rfl).trans ev235.symm)
          have a168 : ∀ j : Int, h243 168 j = h2 168 j := fun j => ((my_up_role fh243 is_168 is_169 rfl).trans ((my_fr.at frh215 is_168 rfl).trans ((my_up_role fh212 is_168 is_170 rfl).trans ((my_fr.at frh163 is_168 rfl).trans (rfl : h2 168 j = h2 168 j)))))
          have a170 : ∀ j : Int, h243 170 j = h212 170 j := fun j => ((my_up_role fh243 is_170 is_169 rfl).trans ((my_fr.at frh215 is_170 rfl).trans (rfl : h212 170 j = h212 170 j)))
          have a169 : ∀ j : Int, h243 169 j = h243 169 j := fun _ => rfl
          have a157 : ∀ j : Int, h243 157 j = h 157 j := fun j => ((my_up_role fh243 is_157 is_169 rfl).trans ((my_fr.at frh215 is_157 rfl).trans ((my_up_role fh212 is_157 is_170 rfl).trans ((my_fr.at frh163 is_157 rfl).trans ((my_up_role fh2 is_157 is_168 rfl).trans (rfl : h 157 j = h 157 j))))))
          have c246 := ((my_up_role fh243 is_151 is_169 rfl).trans (rfl : h215 151 8 = h215 151 8))
          exact w_vret gz_189_122 gm_189 (k0 h243 (gh243) (by omega) (by omega) (by first | exact ⟨by rw [a168]; exact k168, by rw [a170, k170]; omega⟩ | (unfold joinM; first | exact Or.inr (Or.inr ⟨by omega, by omega, Or.inr (Or.inr ⟨by omega, by omega, Or.inr ⟨by omega, Or.inr (Or.inr ⟨by omega, by omega, ⟨by omega, by omega⟩⟩)⟩⟩)⟩) | exact Or.inr (Or.inr ⟨by omega, by omega, Or.inr (Or.inr ⟨by omega, by omega, Or.inr ⟨by omega, Or.inr (Or.inl ⟨by omega, by omega, by omega⟩)⟩⟩)⟩) | exact Or.inr (Or.inr ⟨by omega, by omega, Or.inr (Or.inr ⟨by omega, by omega, Or.inr ⟨by omega, Or.inl ⟨by omega, by omega⟩⟩⟩)⟩) | exact Or.inr (Or.inr ⟨by omega, by omega, Or.inr (Or.inr ⟨by omega, by omega, Or.inl ⟨by omega, by omega⟩⟩)⟩) | exact Or.inr (Or.inr ⟨by omega, by omega, Or.inr (Or.inl ⟨by omega, by omega, by omega⟩)⟩) | exact Or.inr (Or.inr ⟨by omega, by omega, Or.inl ⟨by omega, by omega⟩⟩) | exact Or.inr (Or.inl ⟨by omega, by omega, by omega⟩) | exact Or.inl ⟨by omega, by omega⟩) | omega | (exfalso; subst_vars; omega) | (exfalso; (try clear k0); (try clear k1); grind) | omega | (refine ⟨fun q => ?_, fun q => ?_⟩ <;> first | (rw [a168, k168] at q; omega) | (have kz := k170.trans (show _ = vz by omega); rw [a170, kz, a157]; omega)) | (refine ⟨fun q => ?_, fun q => ?_, fun q => ?_⟩ <;> first | (exfalso; rw [a168, k168] at q; omega) | (rw [a169, k169]; omega)) | omega) (by first | exact ⟨by rw [a168]; exact k168, by rw [a170, k170]; omega⟩ | (unfold joinM; first | exact Or.inr (Or.inr ⟨by omega, by omega, Or.inr (Or.inr ⟨by omega, by omega, Or.inr ⟨by omega, Or.inr (Or.inr ⟨by omega, by omega, ⟨by omega, by omega⟩⟩)⟩⟩)⟩) | exact Or.inr (Or.inr ⟨by omega, by omega, Or.inr (Or.inr ⟨by omega, by omega, Or.inr ⟨by omega, Or.inr (Or.inl ⟨by omega, by omega, by omega⟩)⟩⟩)⟩) | exact Or.inr (Or.inr ⟨by omega, by omega, Or.inr (Or.inr ⟨by omega, by omega, Or.inr ⟨by omega, Or.inl ⟨by omega, by omega⟩⟩⟩)⟩) | exact Or.inr (Or.inr ⟨by omega, by omega, Or.inr (Or.inr ⟨by omega, by omega, Or.inl ⟨by omega, by omega⟩⟩)⟩) | exact Or.inr (Or.inr ⟨by omega, by omega, Or.inr (Or.inl ⟨by omega, by omega, by omega⟩)⟩) | exact Or.inr (Or.inr ⟨by omega, by omega, Or.inl ⟨by omega, by omega⟩⟩) | exact Or.inr (Or.inl ⟨by omega, by omega, by omega⟩) | exact Or.inl ⟨by omega, by omega⟩) | omega | (exfalso; subst_vars; omega) | (exfalso; (try clear k0); (try clear k1); grind) | omega | (refine ⟨fun q => ?_, fun q => ?_⟩ <;> first | (rw [a168, k168] at q; omega) | (have kz := k170.trans (show _ = vz by omega); rw [a170, kz, a157]; omega)) | (refine ⟨fun q => ?_, fun q => ?_, fun q => ?_⟩ <;> first | (exfalso; rw [a168, k168] at q; omega) | (rw [a169, k169]; omega)) | omega) Tok_h243 Mq_h243 Wd9_h243)
        ·
          have gh223 : my_fr [(10, 7), (10, 8), (67, -1), (68, -1), (69, -1)] h h223 := my_fr.tr gh212 (frh223.mo rfl)
          have Mq_h223 : Mq h223 wv := Mq_ag (my_ag.fr frh223 rfl) Mq_h212
          have Wd9_h223 : Wd9 h223 := Wd9_ag (my_ag.fr frh223 rfl) Wd9_h212
          have P6_h223 : h223 167 6 = h 167 6 := P6_ag (my_ag.fr frh223 rfl) P6_h212
          show wp l rho (d + 3) 189 106 [(2, 151), (0, x1), (9, 0)] [] h223 Q
          have ps247 : h212 151 7 = (sN (sm h) ((h 151 7))) := ((my_up_role fh212 is_151 is_170 rfl).trans xp175)
          rw [ps247] at xp227
          have tE248 : sm h212 = sm h := sm_eq (fun j => my_fr.at gh212 is_153 rfl) (fun j => my_fr.at gh212 is_154 rfl) (fun j => my_fr.at gh212 is_155 rfl)
          rw [tE248] at xp228
          rw [ps247] at xp228
          rw [show wm 9 = 99 from by decide] at xp229
          rw [tE248] at xp229
          rw [ps247] at xp229
          refine w_aload_n gz_189_106 rfl ?_
          refine w_getX (v := 169) gz_189_107 is_151 rd_10 rfl (by decide) rfl ?_
          refine w_iload_n gz_189_110 rfl ?_
          refine w_aload_n gz_189_111 rfl ?_
          refine w_aload_n gz_189_112 rfl ?_
          refine v_getI (j := 27) gz_189_113 rfl is_151 rd_10 rfl (fun v250 ev250 pv250 qv250 => ?_)
          have zv250 := ev250.trans ((my_fr.at frh223 is_151 rfl).trans ((my_up_role fh212 is_151 is_170 rfl).trans ((my_fr.at frh163 is_151 rfl).trans ((my_up_role fh2 is_151 is_168 rfl).trans ek151_27.symm))))
          refine w_iconst gz_189_116 (by decide) ?_
          refine w_isub gz_189_117 ⟨by omega, by omega⟩ ?_
          have ce251 : h223 151 7 = (h223 151 7) := (rfl : h223 151 7 = h223 151 7)
          have ce252 : h223 151 27 = v250 := ev250.symm
          refine w_inv (k := 0) (as := [(0, (v250 - 1))]) (r := [(0, x1), (2, 169)]) (x := 151) (ls0 := [(2, 151), (0, (v250 - 1))]) gz_189_118 gm_187 rfl is_151 rd_10 rfl rfl rfl rfl rfl (c_Model_takeNumber9_f0 (d := (d + 1)) (x1 := (v250 - 1)) (by omega) (by omega) (w226.trans (by omega)) Tok_h223t230 (fun h253 frh253 w254 w255 xp256 xp257 Tok_h253t258 => ?_) (fun h259 v260 frh259 w261 w262 w263 w264 w265 xp266 xp267 xp268 xp269 xp270 xp271 xp272 xp273 Tok_h259t274 => ?_))
          ·
            have gh253 : my_fr [(10, 7), (10, 8), (67, -1), (68, -1), (69, -1)] h h253 := my_fr.tr gh223 (frh253.mo rfl)
            have Mq_h253 : Mq h253 wv := Mq_ag (my_ag.fr frh253 rfl) Mq_h223
            have Wd9_h253 : Wd9 h253 := Wd9_ag (my_ag.fr frh253 rfl) Wd9_h223t231
            have P6_h253 : h253 167 6 = h 167 6 := P6_ag (my_ag.fr frh253 rfl) P6_h223
            show wp l rho (d + 3) 189 121 [(2, 151), (0, x1), (9, 0)] [(0, 0), (0, x1), (2, 169)] h253 Q
            have ps275 : h223 151 7 = (sN (sm h) (((sN (sm h) ((h 151 7)))))) := xp228
            rw [ps275] at xp256
            have tE276 : sm h223 = sm h := sm_eq (fun j => my_fr.at gh223 is_153 rfl) (fun j => my_fr.at gh223 is_154 rfl) (fun j => my_fr.at gh223 is_155 rfl)
            rw [tE276] at xp257
            rw [ps275] at xp257
            have hi277 : 0 ≤ 0 := by omega
            have hi278 : 0 ≤ 7 := by omega
            refine w_iast gz_189_121 is_169 rd_68 (by omega) (by omega) (by omega) (by omega) (fun h279 fh279 => ?_)
            have gh279 : my_fr [(10, 7), (10, 8), (67, -1), (68, -1), (69, -1)] h h279 := my_fr.up gh253 is_169 fh279 rfl
            have Mq_h279 : Mq h279 wv := Mq_u (a := 169) hwv (by decide) (by omega) fh279 Mq_h253
            have Wd9_h279 : Wd9 h279 := Wd9_ag (my_ag.up fh279 is_169 rfl) Wd9_h253
            have P6_h279 : h279 167 6 = h 167 6 := P6_ag (my_ag.up fh279 is_169 rfl) P6_h253
            have Tok_h279 : Tok h279 := Tok_ag (my_ag.up fh279 is_169 rfl) Tok_h253t258
            have k169 := my_up_self fh279
            have psR : h279 151 7 = (((sN (sm h) (((sN (sm h) ((h 151 7)))))))) := ((my_up_role fh279 is_151 is_169 rfl).trans xp256)
            have npsR : sm h279 = sm h := sm_eq (fun j => my_fr.at gh279 is_153 rfl) (fun j => my_fr.at gh279 is_154 rfl) (fun j => my_fr.at gh279 is_155 rfl)
            have ce280 : h279 151 7 = h253 151 7 := ((my_up_role fh279 is_151 is_169 rfl).trans (rfl : h253 151 7 = h253 151 7))
            have ce281 : h279 151 27 = v250 := ((my_up_role fh279 is_151 is_169 rfl).trans ((my_fr.at frh253 is_151 rfl).trans ev250.symm))
            have a168 : ∀ j : Int, h279 168 j = h2 168 j := fun j => ((my_up_role fh279 is_168 is_169 rfl).trans ((my_fr.at frh253 is_168 rfl).trans ((my_fr.at frh223 is_168 rfl).trans ((my_up_role fh212 is_168 is_170 rfl).trans ((my_fr.at frh163 is_168 rfl).trans (rfl : h2 168 j = h2 168 j))))))
            have a170 : ∀ j : Int, h279 170 j = h212 170 j := fun j => ((my_up_role fh279 is_170 is_169 rfl).trans ((my_fr.at frh253 is_170 rfl).trans ((my_fr.at frh223 is_170 rfl).trans (rfl : h212 170 j = h212 170 j))))
            have a169 : ∀ j : Int, h279 169 j = h279 169 j := fun _ => rfl
            have a157 : ∀ j : Int, h279 157 j = h 157 j := fun j => ((my_up_role fh279 is_157 is_169 rfl).trans ((my_fr.at frh253 is_157 rfl).trans ((my_fr.at frh223 is_157 rfl).trans ((my_up_role fh212 is_157 is_170 rfl).trans ((my_fr.at frh163 is_157 rfl).trans ((my_up_role fh2 is_157 is_168 rfl).trans (rfl : h 157 j = h 157 j)))))))
            have c282 := ((my_up_role fh279 is_151 is_169 rfl).trans (rfl : h253 151 8 = h253 151 8))
            exact w_vret gz_189_122 gm_189 (k0 h279 (gh279) (by omega) (by omega) (by first | exact ⟨by rw [a168]; exact k168, by rw [a170, k170]; omega⟩ | (unfold joinM; first | exact Or.inr (Or.inr ⟨by omega, by omega, Or.inr (Or.inr ⟨by omega, by omega, Or.inr ⟨by omega, Or.inr (Or.inr ⟨by omega, by omega, ⟨by omega, by omega⟩⟩)⟩⟩)⟩) | exact Or.inr (Or.inr ⟨by omega, by omega, Or.inr (Or.inr ⟨by omega, by omega, Or.inr ⟨by omega, Or.inr (Or.inl ⟨by omega, by omega, by omega⟩)⟩⟩)⟩) | exact Or.inr (Or.inr ⟨by omega, by omega, Or.inr (Or.inr ⟨by omega, by omega, Or.inr ⟨by omega, Or.inl ⟨by omega, by omega⟩⟩⟩)⟩) | exact Or.inr (Or.inr ⟨by omega, by omega, Or.inr (Or.inr ⟨by omega, by omega, Or.inl ⟨by omega, by omega⟩⟩)⟩) | exact Or.inr (Or.inr ⟨by omega, by omega, Or.inr (Or.inl ⟨by omega, by omega, by omega⟩)⟩) | exact Or.inr (Or.inr ⟨by omega, by omega, Or.inl ⟨by omega, by omega⟩⟩) | exact Or.inr (Or.inl ⟨by omega, by omega, by omega⟩) | exact Or.inl ⟨by omega, by omega⟩) | omega | (exfalso; subst_vars; omega) | (exfalso; (try clear k0); (try clear k1); grind) | omega | (refine ⟨fun q => ?_, fun q => ?_⟩ <;> first | (rw [a168, k168] at q; omega) | (have kz := k170.trans (show _ = vz by omega); rw [a170, kz, a157]; omega)) | (refine ⟨fun q => ?_, fun q => ?_, fun q => ?_⟩ <;> first | (exfalso; rw [a168, k168] at q; omega) | (rw [a169, k169]; omega)) | omega) (by first | exact ⟨by rw [a168]; exact k168, by rw [a170, k170]; omega⟩ | (unfold joinM; first | exact Or.inr (Or.inr ⟨by omega, by omega, Or.inr (Or.inr ⟨by omega, by omega, Or.inr ⟨by omega, Or.inr (Or.inr ⟨by omega, by omega, ⟨by omega, by omega⟩⟩)⟩⟩)⟩) | exact Or.inr (Or.inr ⟨by omega, by omega, Or.inr (Or.inr ⟨by omega, by omega, Or.inr ⟨by omega, Or.inr (Or.inl ⟨by omega, by omega, by omega⟩)⟩⟩)⟩) | exact Or.inr (Or.inr ⟨by omega, by omega, Or.inr (Or.inr ⟨by omega, by omega, Or.inr ⟨by omega, Or.inl ⟨by omega, by omega⟩⟩⟩)⟩) | exact Or.inr (Or.inr ⟨by omega, by omega, Or.inr (Or.inr ⟨by omega, by omega, Or.inl ⟨by omega, by omega⟩⟩)⟩) | exact Or.inr (Or.inr ⟨by omega, by omega, Or.inr (Or.inl ⟨by omega, by omega, by omega⟩)⟩) | exact Or.inr (Or.inr ⟨by omega, by omega, Or.inl ⟨by omega, by omega⟩⟩) | exact Or.inr (Or.inl ⟨by omega, by omega, by omega⟩) | exact Or.inl ⟨by omega, by omega⟩) | omega | (exfalso; subst_vars; omega) | (exfalso; (try clear k0); (try clear k1); grind) | omega | (refine ⟨fun q => ?_, fun q => ?_⟩ <;> first | (rw [a168, k168] at q; omega) | (have kz := k170.trans (show _ = vz by omega); rw [a170, kz, a157]; omega)) | (refine ⟨fun q => ?_, fun q => ?_, fun q => ?_⟩ <;> first | (exfalso; rw [a168, k168] at q; omega) | (rw [a169, k169]; omega)) | omega) Tok_h279 Mq_h279 Wd9_h279)
          ·
            have gh259 : my_fr [(10, 7), (10, 8), (67, -1), (68, -1), (69, -1)] h h259 := my_fr.tr gh223 (frh259.mo rfl)
            have Mq_h259 : Mq h259 wv := Mq_ag (my_ag.fr frh259 rfl) Mq_h223
            have Wd9_h259 : Wd9 h259 := Wd9_ag (my_ag.fr frh259 rfl) Wd9_h223t231
            have P6_h259 : h259 167 6 = h 167 6 := P6_ag (my_ag.fr frh259 rfl) P6_h223
            show wp l rho (d + 3) 189 121 [(2, 151), (0, x1), (9, 0)] [(0, v260), (0, x1), (2, 169)] h259 Q
            have ps283 : h223 151 7 = (sN (sm h) (((sN (sm h) ((h 151 7)))))) := xp228
            rw [ps283] at xp268
            rw [ps283] at xp269
            rw [ps283] at xp270
            have tE284 : sm h223 = sm h := sm_eq (fun j => my_fr.at gh223 is_153 rfl) (fun j => my_fr.at gh223 is_154 rfl) (fun j => my_fr.at gh223 is_155 rfl)
            rw [tE284] at xp271
            rw [ps283] at xp271
            rw [tE284] at xp272
            rw [ps283] at xp272
            rw [tE284] at xp273
            rw [ps283] at xp273
            have hi285 : 0 ≤ v260 := by omega
            have hi286 : v260 ≤ 7 := by omega
            refine w_iast gz_189_121 is_169 rd_68 (by omega) (by omega) (by omega) (by omega) (fun h287 fh287 => ?_)
            have gh287 : my_fr [(10, 7), (10, 8), (67, -1), (68, -1), (69, -1)] h h287 := my_fr.up gh259 is_169 fh287 rfl
            have Mq_h287 : Mq h287 wv := Mq_u (a := 169) hwv (by decide) (by omega) fh287 Mq_h259
            have Wd9_h287 : Wd9 h287 := Wd9_ag (my_ag.up fh287 is_169 rfl) Wd9_h259
            have P6_h287 : h287 167 6 = h 167 6 := P6_ag (my_ag.up fh287 is_169 rfl) P6_h259
            have Tok_h287 : Tok h287 := Tok_ag (my_ag.up fh287 is_169 rfl) Tok_h259t274
            have k169 := my_up_self fh287
            have psR : h287 151 7 = (sN (sm h) (((sN (sm h) (((sN (sm h) ((h 151 7))))))))) := ((my_up_role fh287 is_151 is_169 rfl).trans xp271)
            have npsR : sm h287 = sm h := sm_eq (fun j => my_fr.at gh287 is_153 rfl) (fun j => my_fr.at gh287 is_154 rfl) (fun j => my_fr.at gh287 is_155 rfl)
            have ce288 : h287 151 7 = (h259 151 7) := ((my_up_role fh287 is_151 is_169 rfl).trans (rfl : h259 151 7 = h259 151 7))
            have ce289 : h287 151 27 = v250 := ((my_up_role fh287 is_151 is_169 rfl).trans ((my_fr.at frh259 is_151 rfl).trans ev250.symm))
            have a168 : ∀ j : Int, h287 168 j = h2 168 j := fun j => ((my_up_role fh287 is_168 is_169 rfl).trans ((my_fr.at frh259 is_168 rfl).trans ((my_fr.at frh223 is_168 rfl).trans ((my_up_role fh212 is_168 is_170 rfl).trans ((my_fr.at frh163 is_168 rfl).trans (rfl : h2 168 j = h2 168 j))))))
            have a170 : ∀ j : Int, h287 170 j = h212 170 j := fun j => ((my_up_role fh287 is_170 is_169 rfl).trans ((my_fr.at frh259 is_170 rfl).trans ((my_fr.at frh223 is_170 rfl).trans (rfl : h212 170 j = h212 170 j))))
            have a169 : ∀ j : Int, h287 169 j = h287 169 j := fun _ => rfl
            have a157 : ∀ j : Int, h287 157 j = h 157 j := fun j => ((my_up_role fh287 is_157 is_169 rfl).trans ((my_fr.at frh259 is_157 rfl).trans ((my_fr.at frh223 is_157 rfl).trans ((my_up_role fh212 is_157 is_170 rfl).trans ((my_fr.at frh163 is_157 rfl).trans ((my_up_role fh2 is_157 is_168 rfl).trans (rfl : h 157 j = h 157 j)))))))
            have c290 := ((my_up_role fh287 is_151 is_169 rfl).trans (rfl : h259 151 7 = h259 151 7))
            have c291 := ((my_up_role fh287 is_151 is_169 rfl).trans w265)
            exact w_vret gz_189_122 gm_189 (k1 h287 (gh287) (by omega) (by omega) (by omega) (by first | exact ⟨by rw [a168]; exact k168, by rw [a170, k170]; omega⟩ | (unfold joinM; first | exact Or.inr (Or.inr ⟨by omega, by omega, Or.inr (Or.inr ⟨by omega, by omega, Or.inr ⟨by omega, Or.inr (Or.inr ⟨by omega, by omega, ⟨by omega, by omega⟩⟩)⟩⟩)⟩) | exact Or.inr (Or.inr ⟨by omega, by omega, Or.inr (Or.inr ⟨by omega, by omega, Or.inr ⟨by omega, Or.inr (Or.inl ⟨by omega, by omega, by omega⟩)⟩⟩)⟩) | exact Or.inr (Or.inr ⟨by omega, by omega, Or.inr (Or.inr ⟨by omega, by omega, Or.inr ⟨by omega, Or.inl ⟨by omega, by omega⟩⟩⟩)⟩) | exact Or.inr (Or.inr ⟨by omega, by omega, Or.inr (Or.inr ⟨by omega, by omega, Or.inl ⟨by omega, by omega⟩⟩)⟩) | exact Or.inr (Or.inr ⟨by omega, by omega, Or.inr (Or.inl ⟨by omega, by omega, by omega⟩)⟩) | exact Or.inr (Or.inr ⟨by omega, by omega, Or.inl ⟨by omega, by omega⟩⟩) | exact Or.inr (Or.inl ⟨by omega, by omega, by omega⟩) | exact Or.inl ⟨by omega, by omega⟩) | omega | (exfalso; subst_vars; omega) | (exfalso; (try clear k0); (try clear k1); grind) | omega | (refine ⟨fun q => ?_, fun q => ?_⟩ <;> first | (rw [a168, k168] at q; omega) | (have kz := k170.trans (show _ = vz by omega); rw [a170, kz, a157]; omega)) | (refine ⟨fun q => ?_, fun q => ?_, fun q => ?_⟩ <;> first | (exfalso; rw [a168, k168] at q; omega) | (rw [a169, k169]; omega)) | omega) (by first | exact ⟨by rw [a168]; exact k168, by rw [a170, k170]; omega⟩ | (unfold joinM; first | exact Or.inr (Or.inr ⟨by omega, by omega, Or.inr (Or.inr ⟨by omega, by omega, Or.inr ⟨by omega, Or.inr (Or.inr ⟨by omega, by omega, ⟨by omega, by omega⟩⟩)⟩⟩)⟩) | exact Or.inr (Or.inr ⟨by omega, by omega, Or.inr (Or.inr ⟨by omega, by omega, Or.inr ⟨by omega, Or.inr (Or.inl ⟨by omega, by omega, by omega⟩)⟩⟩)⟩) | exact Or.inr (Or.inr ⟨by omega, by omega, Or.inr (Or.inr ⟨by omega, by omega, Or.inr ⟨by omega, Or.inl ⟨by omega, by omega⟩⟩⟩)⟩) | exact Or.inr (Or.inr ⟨by omega, by omega, Or.inr (Or.inr ⟨by omega, by omega, Or.inl ⟨by omega, by omega⟩⟩)⟩) | exact Or.inr (Or.inr ⟨by omega, by omega, Or.inr (Or.inl ⟨by omega, by omega, by omega⟩)⟩) | exact Or.inr (Or.inr ⟨by omega, by omega, Or.inl ⟨by omega, by omega⟩⟩) | exact Or.inr (Or.inl ⟨by omega, by omega, by omega⟩) | exact Or.inl ⟨by omega, by omega⟩) | omega | (exfalso; subst_vars; omega) | (exfalso; (try clear k0); (try clear k1); grind) | omega | (refine ⟨fun q => ?_, fun q => ?_⟩ <;> first | (rw [a168, k168] at q; omega) | (have kz := k170.trans (show _ = vz by omega); rw [a170, kz, a157]; omega)) | (refine ⟨fun q => ?_, fun q => ?_, fun q => ?_⟩ <;> first | (exfalso; rw [a168, k168] at q; omega) | (rw [a169, k169]; omega)) | omega) (by first | exact ⟨by rw [a168]; exact k168, by rw [a170, k170]; omega⟩ | (unfold joinM; first | exact Or.inr (Or.inr ⟨by omega, by omega, Or.inr (Or.inr ⟨by omega, by omega, Or.inr ⟨by omega, Or.inr (Or.inr ⟨by omega, by omega, ⟨by omega, by omega⟩⟩)⟩⟩)⟩) | exact Or.inr (Or.inr ⟨by omega, by omega, Or.inr (Or.inr ⟨by omega, by omega, Or.inr ⟨by omega, Or.inr (Or.inl ⟨by omega, by omega, by omega⟩)⟩⟩)⟩) | exact Or.inr (Or.inr ⟨by omega, by omega, Or.inr (Or.inr ⟨by omega, by omega, Or.inr ⟨by omega, Or.inl ⟨by omega, by omega⟩⟩⟩)⟩) | exact Or.inr (Or.inr ⟨by omega, by omega, Or.inr (Or.inr ⟨by omega, by omega, Or.inl ⟨by omega, by omega⟩⟩)⟩) | exact Or.inr (Or.inr ⟨by omega, by omega, Or.inr (Or.inl ⟨by omega, by omega, by omega⟩)⟩) | exact Or.inr (Or.inr ⟨by omega, by omega, Or.inl ⟨by omega, by omega⟩⟩) | exact Or.inr (Or.inl ⟨by omega, by omega, by omega⟩) | exact Or.inl ⟨by omega, by omega⟩) | omega | (exfalso; subst_vars; omega) | (exfalso; (try clear k0); (try clear k1); grind) | omega | (refine ⟨fun q => ?_, fun q => ?_⟩ <;> first | (rw [a168, k168] at q; omega) | (have kz := k170.trans (show _ = vz by omega); rw [a170, kz, a157]; omega)) | (refine ⟨fun q => ?_, fun q => ?_, fun q => ?_⟩ <;> first | (exfalso; rw [a168, k168] at q; omega) | (rw [a169, k169]; omega)) | omega) (by first | exact ⟨by rw [a168]; exact k168, by rw [a170, k170]; omega⟩ | (unfold joinM; first | exact Or.inr (Or.inr ⟨by omega, by omega, Or.inr (Or.inr ⟨by omega, by omega, Or.inr ⟨by omega, Or.inr (Or.inr ⟨by omega, by omega, ⟨by omega, by omega⟩⟩)⟩⟩)⟩) | exact Or.inr (Or.inr ⟨by omega, by omega, Or.inr (Or.inr ⟨by omega, by omega, Or.inr ⟨by omega, Or.inr (Or.inl ⟨by omega, by omega, by omega⟩)⟩⟩)⟩) | exact Or.inr (Or.inr ⟨by omega, by omega, Or.inr (Or.inr ⟨by omega, by omega, Or.inr ⟨by omega, Or.inl ⟨by omega, by omega⟩⟩⟩)⟩) | exact Or.inr (Or.inr ⟨by omega, by omega, Or.inr (Or.inr ⟨by omega, by omega, Or.inl ⟨by omega, by omega⟩⟩)⟩) | exact Or.inr (Or.inr ⟨by omega, by omega, Or.inr (Or.inl ⟨by omega, by omega, by omega⟩)⟩) | exact Or.inr (Or.inr ⟨by omega, by omega, Or.inl ⟨by omega, by omega⟩⟩) | exact Or.inr (Or.inl ⟨by omega, by omega, by omega⟩) | exact Or.inl ⟨by omega, by omega⟩) | omega | (exfalso; subst_vars; omega) | (exfalso; (try clear k0); (try clear k1); grind) | omega | (refine ⟨fun q => ?_, fun q => ?_⟩ <;> first | (rw [a168, k168] at q; omega) | (have kz := k170.trans (show _ = vz by omega); rw [a170, kz, a157]; omega)) | (refine ⟨fun q => ?_, fun q => ?_, fun q => ?_⟩ <;> first | (exfalso; rw [a168, k168] at q; omega) | (rw [a169, k169]; omega)) | omega) (by first | exact ⟨by rw [a168]; exact k168, by rw [a170, k170]; omega⟩ | (unfold joinM; first | exact Or.inr (Or.inr ⟨by omega, by omega, Or.inr (Or.inr ⟨by omega, by omega, Or.inr ⟨by omega, Or.inr (Or.inr ⟨by omega, by omega, ⟨by omega, by omega⟩⟩)⟩⟩)⟩) | exact Or.inr (Or.inr ⟨by omega, by omega, Or.inr (Or.inr ⟨by omega, by omega, Or.inr ⟨by omega, Or.inr (Or.inl ⟨by omega, by omega, by omega⟩)⟩⟩)⟩) | exact Or.inr (Or.inr ⟨by omega, by omega, Or.inr (Or.inr ⟨by omega, by omega, Or.inr ⟨by omega, Or.inl ⟨by omega, by omega⟩⟩⟩)⟩) | exact Or.inr (Or.inr ⟨by omega, by omega, Or.inr (Or.inr ⟨by omega, by omega, Or.inl ⟨by omega, by omega⟩⟩)⟩) | exact Or.inr (Or.inr ⟨by omega, by omega, Or.inr (Or.inl ⟨by omega, by omega, by omega⟩)⟩) | exact Or.inr (Or.inr ⟨by omega, by omega, Or.inl ⟨by omega, by omega⟩⟩) | exact Or.inr (Or.inl ⟨by omega, by omega, by omega⟩) | exact Or.inl ⟨by omega, by omega⟩) | omega | (exfalso; subst_vars; omega) | (exfalso; (try clear k0); (try clear k1); grind) | omega | (refine ⟨fun q => ?_, fun q => ?_⟩ <;> first | (rw [a168, k168] at q; omega) | (have kz := k170.trans (show _ = vz by omega); rw [a170, kz, a157]; omega)) | (refine ⟨fun q => ?_, fun q => ?_, fun q => ?_⟩ <;> first | (exfalso; rw [a168, k168] at q; omega) | (rw [a169, k169]; omega)) | omega) Tok_h287 Mq_h287 Wd9_h287)
    ·
      refine w_aload_n gz_189_43 rfl ?_
      refine w_getX (v := 157) gz_189_44 is_151 rd_10 rfl (by decide) rfl ?_
      refine w_aload_n gz_189_47 rfl ?_
      refine w_getX (v := 155) gz_189_48 is_151 rd_10 rfl (by decide) rfl ?_
      refine w_aload_n gz_189_51 rfl ?_
      refine v_getI (j := 7) gz_189_52 rfl is_151 rd_10 rfl (fun v294 ev294 pv294 qv294 => ?_)
      have zv294 := ev294.trans ev149.symm
      refine w_lald gz_189_55 is_155 rd_54 (by omega) (by omega) (fun v295 ev295 pv295 => ?_)
      have nz296a : h2 151 7 = h 151 7 := ((my_up_role fh2 is_151 is_168 rfl).trans (rfl : h 151 7 = h 151 7))
      have nz296 : v295 = sV (sm h) (h 151 7) := by
        have q := ev295.trans (my_fr.at (j := v294) gh2 is_155 rfl)
        rw [show (v294 : Int) = h 151 7 from by omega] at q
        exact q
      have tb : 0 ≤ v295 ∧ v295 ≤ 999 := by
        have q := Tok_at Tok_h2
        subst_vars
        omega
      refine w_l2iE gz_189_56 (fun v297 pv297 qv297 xv297 => ?_)
      have z155 : v297 = h2 155 (h2 151 7) := by subst_vars; omega
      have hi298 : 0 ≤ v297 := by subst_vars; omega
      have hi299 : v297 ≤ 2 := by subst_vars; omega
      refine w_iald gz_189_57 is_157 rd_56 (by omega) (by omega) (fun v300 ev300 pv300 qv300 => ?_)
      have b157 : ∀ j : Int, h2 157 j = h 157 j := fun j => ((my_up_role fh2 is_157 is_168 rfl).trans (rfl : h 157 j = h 157 j))
      obtain ⟨vz, ez⟩ : ∃ vz : Int, vz = h2 155 (h2 151 7) := ⟨_, rfl⟩
      have c157 : v300 = h 157 vz := by rw [ez, ← z155, ← b157]; omega
      have w58 : v300 = h 157 (sV (sm h) (h 151 7)) := by
        have q : vz = sV (sm h) (h 151 7) := by
          rw [ez, my_fr.at (j := h2 151 7) gh2 is_155 rfl, show h2 151 7 = h 151 7 by omega]
          rfl
        rw [← q]
        exact c157
      refine w_istore_n (ls' := [(2, 151), (0, x1), (0, v300)]) gz_189_58 gm_189 rfl rfl rfl ?_
      refine w_iload_n gz_189_59 rfl ?_
      refine w_ifeq (t := 76) gz_189_60 rfl (fun u301 => ?_) (fun u301 => ?_)
      ·
        refine w_aload_n gz_189_76 rfl ?_
        refine w_iload_n gz_189_77 rfl ?_
        refine w_ifne (t := 85) gz_189_78 rfl (fun u302 => by exfalso; omega) (fun u302 => ?_)
        refine w_iconst gz_189_81 (by decide) ?_
        refine w_goto (t := 86) gz_189_82 rfl ?_
        have ce303 : h2 151 7 = v294 := ev294.symm
        have ce304 : h2 151 27 = k151_27 := ((my_up_role fh2 is_151 is_168 rfl).trans ek151_27.symm)
        refine w_inv (k := 0) (as := [(0, 2)]) (r := []) (x := 151) (ls0 := [(2, 151), (0, 2)]) gz_189_86 gm_178 rfl is_151 rd_10 rfl rfl rfl rfl rfl ?_
        refine w_aload_n gz_178_0 rfl ?_
        refine v_getI (j := 8) gz_178_1 rfl is_151 rd_10 rfl (fun v305 ev305 pv305 qv305 => ?_)
        have zv305 := ev305.trans ev3.symm
        refine w_ifne (t := 25) gz_178_4 rfl (fun u306 => by exfalso; omega) (fun u306 => ?_)
        refine w_aload_n gz_178_7 rfl ?_
        refine w_iload_n gz_178_8 rfl ?_
        refine w_bipush gz_178_9 (by decide) ?_
        refine w_aload_n gz_178_11 rfl ?_
        refine w_getX (v := 154) gz_178_12 is_151 rd_10 rfl (by decide) rfl ?_
        refine w_aload_n gz_178_15 rfl ?_
        refine v_getI (j := 7) gz_178_16 rfl is_151 rd_10 rfl (fun v308 ev308 pv308 qv308 => ?_)
        have zv308 := ev308.trans ev294.symm
        refine w_iald gz_178_19 is_154 rd_53 (by omega) (by omega) (fun v309 ev309 pv309 qv309 => ?_)
        have nz310a : h2 151 7 = h 151 7 := ((my_up_role fh2 is_151 is_168 rfl).trans (rfl : h 151 7 = h 151 7))
        have nz310 : v309 = sP (sm h) (h 151 7) := by
          have q := ev309.trans (my_fr.at (j := v308) gh2 is_154 rfl)
          rw [show (v308 : Int) = h 151 7 from by omega] at q
          exact q
        refine w_imul gz_178_20 ⟨by omega, by omega⟩ ?_
        refine w_iadd gz_178_21 ⟨by omega, by omega⟩ ?_
        refine v_putI (j := 8) gz_178_22 rfl is_151 rd_10 rfl (by omega) (by omega) rfl (fun h311 fh311 => ?_)
        have gh311 : my_fr [(10, 7), (10, 8), (67, -1), (68, -1), (69, -1)] h h311 := my_fr.up gh2 is_151 fh311 rfl
        have Tok_h311 : Tok h311 := Tok_ag (my_ag.up fh311 is_151 rfl) Tok_h2
        have Mq_h311 : Mq h311 wv := Mq_ag (my_ag.up fh311 is_151 rfl) Mq_h2
        have Wd9_h311 : Wd9 h311 := Wd9_ag (my_ag.up fh311 is_151 rfl) Wd9_h2
        have P6_h311 : h311 167 6 = h 167 6 := P6_ag (my_ag.up fh311 is_151 rfl) P6_h2
        refine w_vret gz_178_25 gm_178 ?_
        show wp l rho (d + 3) 189 89 [(2, 151), (0, x1), (0, v300)] [] h311 Q
        refine w_aload_n gz_189_89 rfl ?_
        refine w_getX (v := 170) gz_189_90 is_151 rd_10 rfl (by decide) rfl ?_
        refine w_iload_n gz_189_93 rfl ?_
        refine w_aload_n gz_189_94 rfl ?_
        refine w_iconst gz_189_95 (by decide) ?_
        have ce313 : h311 151 7 = v308 := ((my_up_fld fh311 (by decide)).trans ev308.symm)
        have ce314 : h311 151 27 = k151_27 := ((my_up_fld fh311 (by decide)).trans ((my_up_role fh2 is_151 is_168 rfl).trans ek151_27.symm))
        refine w_inv (k := 0) (as := [(0, 2)]) (r := [(0, x1), (2, 170)]) (x := 151) (ls0 := [(2, 151), (0, 2)]) gz_189_96 gm_187 rfl is_151 rd_10 rfl rfl rfl rfl rfl (c_Model_takeNumber9_f1 (d := (d + 1)) (x1 := 2) (by omega) (by omega) ((2 + (16 * v309))) ((my_up_self fh311)) (by omega) (by omega) Tok_h311 (fun w315 w316 xp317 Tok_h311t318 => ?_))
        show wp l rho (d + 3) 189 99 [(2, 151), (0, x1), (0, v300)] [(0, 0), (0, x1), (2, 170)] h311 Q
        have ps319 : h311 151 7 = h 151 7 := ((my_up_fld fh311 (by decide)).trans ((my_up_role fh2 is_151 is_168 rfl).trans (rfl : h 151 7 = h 151 7)))
        rw [ps319] at xp317
        have hi320 : 0 ≤ 0 := by omega
        have hi321 : 0 ≤ 2 := by omega
        refine w_iast gz_189_99 is_170 rd_69 (by omega) (by omega) (by omega) (by omega) (fun h322 fh322 => ?_)
        have gh322 : my_fr [(10, 7), (10, 8), (67, -1), (68, -1), (69, -1)] h h322 := my_fr.up gh311 is_170 fh322 rfl
        have Tok_h322 : Tok h322 := Tok_ag (my_ag.up fh322 is_170 rfl) Tok_h311t318
        have Mq_h322 : Mq h322 wv := Mq_u (a := 170) hwv (by decide) (by omega) fh322 Mq_h311
        have Wd9_h322 : Wd9 h322 := Wd9_ag (my_ag.up fh322 is_170 rfl) Wd9_h311
        have P6_h322 : h322 167 6 = h 167 6 := P6_ag (my_ag.up fh322 is_170 rfl) P6_h311
        have k170 := my_up_self fh322
        refine w_aload_n gz_189_100 rfl ?_
        refine w_bipush gz_189_101 (by decide) ?_
        have ce323 : h322 151 7 = v308 := ((my_up_role fh322 is_151 is_170 rfl).trans ((my_up_fld fh311 (by decide)).trans ev308.symm))
        have ce324 : h322 151 27 = k151_27 := ((my_up_role fh322 is_151 is_170 rfl).trans ((my_up_fld fh311 (by decide)).trans ((my_up_role fh2 is_151 is_168 rfl).trans ek151_27.symm)))
        refine w_inv (k := 0) (as := [(0, 9)]) (r := []) (x := 151) (ls0 := [(2, 151), (0, 9)]) gz_189_103 gm_175 rfl is_151 rd_10 rfl rfl rfl rfl rfl (c_Model_takeWord9_f1 (d := d)  ((2 + (16 * v309))) (((my_up_role fh322 is_151 is_170 rfl).trans (my_up_self fh311))) (by omega) (by omega) Tok_h322 Wd9_h322 (fun h325 frh325 w326 w327 xp328 xp329 Tok_h325t330 Wd9_h325t331 => ?_))
        have gh325 : my_fr [(10, 7), (10, 8), (67, -1), (68, -1), (69, -1)] h h325 := my_fr.tr gh322 (frh325.mo rfl)
        have Mq_h325 : Mq h325 wv := Mq_ag (my_ag.fr frh325 rfl) Mq_h322
        have Wd9_h325 : Wd9 h325 := Wd9_ag (my_ag.fr frh325 rfl) Wd9_h322
        have P6_h325 : h325 167 6 = h 167 6 := P6_ag (my_ag.fr frh325 rfl) P6_h322
        show wp l rho (d + 3) 189 106 [(2, 151), (0, x1), (0, v300)] [] h325 Q
        have ps332 : h322 151 7 = h 151 7 := ((my_up_role fh322 is_151 is_170 rfl).trans ((my_up_fld fh311 (by decide)).trans ((my_up_role fh2 is_151 is_168 rfl).trans (rfl : h 151 7 = h 151 7))))
        rw [ps332] at xp328
        rw [ps332] at xp329
        refine w_aload_n gz_189_106 rfl ?_
        refine w_getX (v := 169) gz_189_107 is_151 rd_10 rfl (by decide) rfl ?_
        refine w_iload_n gz_189_110 rfl ?_
        refine w_aload_n gz_189_111 rfl ?_
        refine w_aload_n gz_189_112 rfl ?_
        refine v_getI (j := 27) gz_189_113 rfl is_151 rd_10 rfl (fun v334 ev334 pv334 qv334 => ?_)
        have zv334 := ev334.trans ((my_fr.at frh325 is_151 rfl).trans ((my_up_role fh322 is_151 is_170 rfl).trans ((my_up_fld fh311 (by decide)).trans ((my_up_role fh2 is_151 is_168 rfl).trans ek151_27.symm))))
        refine w_iconst gz_189_116 (by decide) ?_
        refine w_isub gz_189_117 ⟨by omega, by omega⟩ ?_
        have ce335 : h325 151 27 = v334 := ev334.symm
        refine w_inv (k := 0) (as := [(0, (v334 - 1))]) (r := [(0, x1), (2, 169)]) (x := 151) (ls0 := [(2, 151), (0, (v334 - 1))]) gz_189_118 gm_187 rfl is_151 rd_10 rfl rfl rfl rfl rfl (c_Model_takeNumber9_f1 (d := (d + 1)) (x1 := (v334 - 1)) (by omega) (by omega) ((2 + (16 * v309))) (((my_fr.at frh325 is_151 rfl).trans ((my_up_role fh322 is_151 is_170 rfl).trans (my_up_self fh311)))) (by omega) (by omega) Tok_h325t330 (fun w336 w337 xp338 Tok_h325t339 => ?_))
        show wp l rho (d + 3) 189 121 [(2, 151), (0, x1), (0, v300)] [(0, 0), (0, x1), (2, 169)] h325 Q
        have ps340 : h325 151 7 = ((h 151 7)) := xp329
        rw [ps340] at xp338
        have hi341 : 0 ≤ 0 := by omega
        have hi342 : 0 ≤ 7 := by omega
        refine w_iast gz_189_121 is_169 rd_68 (by omega) (by omega) (by omega) (by omega) (fun h343 fh343 => ?_)
        have gh343 : my_fr [(10, 7), (10, 8), (67, -1), (68, -1), (69, -1)] h h343 := my_fr.up gh325 is_169 fh343 rfl
        have Mq_h343 : Mq h343 wv := Mq_u (a := 169) hwv (by decide) (by omega) fh343 Mq_h325
        have Wd9_h343 : Wd9 h343 := Wd9_ag (my_ag.up fh343 is_169 rfl) Wd9_h325t331
        have P6_h343 : h343 167 6 = h 167 6 := P6_ag (my_ag.up fh343 is_169 rfl) P6_h325
        have Tok_h343 : Tok h343 := Tok_ag (my_ag.up fh343 is_169 rfl) Tok_h325t339
        have k169 := my_up_self fh343
        have psR : h343 151 7 = ((h 151 7)) := ((my_up_role fh343 is_151 is_169 rfl).trans xp329)
        have npsR : sm h343 = sm h := sm_eq (fun j => my_fr.at gh343 is_153 rfl) (fun j => my_fr.at gh343 is_154 rfl) (fun j => my_fr.at gh343 is_155 rfl)
        have ce344 : h343 151 7 = h325 151 7 := ((my_up_role fh343 is_151 is_169 rfl).trans (rfl : h325 151 7 = h325 151 7))
        have ce345 : h343 151 27 = v334 := ((my_up_role fh343 is_151 is_169 rfl).trans ev334.symm)
        have a168 : ∀ j : Int, h343 168 j = h2 168 j := fun j => ((my_up_role fh343 is_168 is_169 rfl).trans ((my_fr.at frh325 is_168 rfl).trans ((my_up_role fh322 is_168 is_170 rfl).trans ((my_up_role fh311 is_168 is_151 rfl).trans (rfl : h2 168 j = h2 168 j)))))
        have a170 : ∀ j : Int, h343 170 j = h322 170 j := fun j => ((my_up_role fh343 is_170 is_169 rfl).trans ((my_fr.at frh325 is_170 rfl).trans (rfl : h322 170 j = h322 170 j)))
        have a169 : ∀ j : Int, h343 169 j = h343 169 j := fun _ => rfl
        have a157 : ∀ j : Int, h343 157 j = h 157 j := fun j => ((my_up_role fh343 is_157 is_169 rfl).trans ((my_fr.at frh325 is_157 rfl).trans ((my_up_role fh322 is_157 is_170 rfl).trans ((my_up_role fh311 is_157 is_151 rfl).trans ((my_up_role fh2 is_157 is_168 rfl).trans (rfl : h 157 j = h 157 j))))))
        have c346 := ((my_up_role fh343 is_151 is_169 rfl).trans ((my_fr.at frh325 is_151 rfl).trans ((my_up_role fh322 is_151 is_170 rfl).trans (my_up_self fh311))))
        exact w_vret gz_189_122 gm_189 (k0 h343 (gh343) (by omega) (by omega) (by first | exact ⟨by rw [a168]; exact k168, by rw [a170, k170]; omega⟩ | (unfold joinM; first | exact Or.inr (Or.inr ⟨by omega, by omega, Or.inr (Or.inr ⟨by omega, by omega, Or.inr ⟨by omega, Or.inr (Or.inr ⟨by omega, by omega, ⟨by omega, by omega⟩⟩)⟩⟩)⟩) | exact Or.inr (Or.inr ⟨by omega, by omega, Or.inr (Or.inr ⟨by omega, by omega, Or.inr ⟨by omega, Or.inr (Or.inl ⟨by omega, by omega, by omega⟩)⟩⟩)⟩) | exact Or.inr (Or.inr ⟨by omega, by omega, Or.inr (Or.inr ⟨by omega, by omega, Or.inr ⟨by omega, Or.inl ⟨by omega, by omega⟩⟩⟩)⟩) | exact Or.inr (Or.inr ⟨by omega, by omega, Or.inr (Or.inr ⟨by omega, by omega, Or.inl ⟨by omega, by omega⟩⟩)⟩) | exact Or.inr (Or.inr ⟨by omega, by omega, Or.inr (Or.inl ⟨by omega, by omega, by omega⟩)⟩) | exact Or.inr (Or.inr ⟨by omega, by omega, Or.inl ⟨by omega, by omega⟩⟩) | exact Or.inr (Or.inl ⟨by omega, by omega, by omega⟩) | exact Or.inl ⟨by omega, by omega⟩) | omega | (exfalso; subst_vars; omega) | (exfalso; (try clear k0); (try clear k1); grind) | omega | (refine ⟨fun q => ?_, fun q => ?_⟩ <;> first | (rw [a168, k168] at q; omega) | (have kz := k170.trans (show _ = vz by omega); rw [a170, kz, a157]; omega)) | (refine ⟨fun q => ?_, fun q => ?_, fun q => ?_⟩ <;> first | (exfalso; rw [a168, k168] at q; omega) | (rw [a169, k169]; omega)) | omega) (by first | exact ⟨by rw [a168]; exact k168, by rw [a170, k170]; omega⟩ | (unfold joinM; first | exact Or.inr (Or.inr ⟨by omega, by omega, Or.inr (Or.inr ⟨by omega, by omega, Or.inr ⟨by omega, Or.inr (Or.inr ⟨by omega, by omega, ⟨by omega, by omega⟩⟩)⟩⟩)⟩) | exact Or.inr (Or.inr ⟨by omega, by omega, Or.inr (Or.inr ⟨by omega, by omega, Or.inr ⟨by omega, Or.inr (Or.inl ⟨by omega, by omega, by omega⟩)⟩⟩)⟩) | exact Or.inr (Or.inr ⟨by omega, by omega, Or.inr (Or.inr ⟨by omega, by omega, Or.inr ⟨by omega, Or.inl ⟨by omega, by omega⟩⟩⟩)⟩) | exact Or.inr (Or.inr ⟨by omega, by omega, Or.inr (Or.inr ⟨by omega, by omega, Or.inl ⟨by omega, by omega⟩⟩)⟩) | exact Or.inr (Or.inr ⟨by omega, by omega, Or.inr (Or.inl ⟨by omega, by omega, by omega⟩)⟩) | exact Or.inr (Or.inr ⟨by omega, by omega, Or.inl ⟨by omega, by omega⟩⟩) | exact Or.inr (Or.inl ⟨by omega, by omega, by omega⟩) | exact Or.inl ⟨by omega, by omega⟩) | omega | (exfalso; subst_vars; omega) | (exfalso; (try clear k0); (try clear k1); grind) | omega | (refine ⟨fun q => ?_, fun q => ?_⟩ <;> first | (rw [a168, k168] at q; omega) | (have kz := k170.trans (show _ = vz by omega); rw [a170, kz, a157]; omega)) | (refine ⟨fun q => ?_, fun q => ?_, fun q => ?_⟩ <;> first | (exfalso; rw [a168, k168] at q; omega) | (rw [a169, k169]; omega)) | omega) Tok_h343 Mq_h343 Wd9_h343)
      ·
        refine w_aload_n gz_189_63 rfl ?_
        refine v_getI (j := 27) gz_189_64 rfl is_151 rd_10 rfl (fun v347 ev347 pv347 qv347 => ?_)
        have zv347 := ev347.trans ((my_up_role fh2 is_151 is_168 rfl).trans ek151_27.symm)
        refine w_iload_n gz_189_67 rfl ?_
        refine w_iadd gz_189_68 ⟨by omega, by omega⟩ ?_
        refine w_iconst gz_189_69 (by decide) ?_
        refine w_isub gz_189_70 ⟨by omega, by omega⟩ ?_
        refine w_bipush gz_189_71 (by decide) ?_
        refine w_icle (t := 89) gz_189_73 rfl (fun u348 => ?_) (fun u348 => ?_)
        ·
          refine w_aload_n gz_189_89 rfl ?_
          refine w_getX (v := 170) gz_189_90 is_151 rd_10 rfl (by decide) rfl ?_
          refine w_iload_n gz_189_93 rfl ?_
          refine w_aload_n gz_189_94 rfl ?_
          refine w_iconst gz_189_95 (by decide) ?_
          have ce350 : h2 151 7 = v294 := ev294.symm
          have ce351 : h2 151 27 = v347 := ev347.symm
          refine w_inv (k := 0) (as := [(0, 2)]) (r := [(0, x1), (2, 170)]) (x := 151) (ls0 := [(2, 151), (0, 2)]) gz_189_96 gm_187 rfl is_151 rd_10 rfl rfl rfl rfl rfl (c_Model_takeNumber9_f0 (d := (d + 1)) (x1 := 2) (by omega) (by omega) (ev3.symm.trans (by omega)) Tok_h2 (fun h352 frh352 w353 w354 xp355 xp356 Tok_h352t357 => ?_) (fun h358 v359 frh358 w360 w361 w362 w363 w364 xp365 xp366 xp367 xp368 xp369 xp370 xp371 xp372 Tok_h358t373 => ?_))
          ·
            have gh352 : my_fr [(10, 7), (10, 8), (67, -1), (68, -1), (69, -1)] h h352 := my_fr.tr gh2 (frh352.mo rfl)
            have Mq_h352 : Mq h352 wv := Mq_ag (my_ag.fr frh352 rfl) Mq_h2
            have Wd9_h352 : Wd9 h352 := Wd9_ag (my_ag.fr frh352 rfl) Wd9_h2
            have P6_h352 : h352 167 6 = h 167 6 := P6_ag (my_ag.fr frh352 rfl) P6_h2
            show wp l rho (d + 3) 189 99 [(2, 151), (0, x1), (0, v300)] [(0, 0), (0, x1), (2, 170)] h352 Q
            have ps374 : h2 151 7 = h 151 7 := ((my_up_role fh2 is_151 is_168 rfl).trans (rfl : h 151 7 = h 151 7))
            rw [ps374] at xp355
            have tE375 : sm h2 = sm h := sm_eq (fun j => my_fr.at gh2 is_153 rfl) (fun j => my_fr.at gh2 is_154 rfl) (fun j => my_fr.at gh2 is_155 rfl)
            rw [tE375] at xp356
            rw [ps374] at xp356
            have hi376 : 0 ≤ 0 := by omega
            have hi377 : 0 ≤ 2 := by omega
            refine w_iast gz_189_99 is_170 rd_69 (by omega) (by omega) (by omega) (by omega) (fun h378 fh378 => ?_)
            have gh378 : my_fr [(10, 7), (10, 8), (67, -1), (68, -1), (69, -1)] h h378 := my_fr.up gh352 is_170 fh378 rfl
            have Mq_h378 : Mq h378 wv := Mq_u (a := 170) hwv (by decide) (by omega) fh378 Mq_h352
            have Wd9_h378 : Wd9 h378 := Wd9_ag (my_ag.up fh378 is_170 rfl) Wd9_h352
            have P6_h378 : h378 167 6 = h 167 6 := P6_ag (my_ag.up fh378 is_170 rfl) P6_h352
            have Tok_h378 : Tok h378 := Tok_ag (my_ag.up fh378 is_170 rfl) Tok_h352t357
            have k170 := my_up_self fh378
            refine w_aload_n gz_189_100 rfl ?_
            refine w_bipush gz_189_101 (by decide) ?_
            have ce379 : h378 151 7 = h352 151 7 := ((my_up_role fh378 is_151 is_170 rfl).trans (rfl : h352 151 7 = h352 151 7))
            have ce380 : h378 151 27 = v347 := ((my_up_role fh378 is_151 is_170 rfl).trans ((my_fr.at frh352 is_151 rfl).trans ev347.symm))
            refine w_inv (k := 0) (as := [(0, 9)]) (r := []) (x := 151) (ls0 := [(2, 151), (0, 9)]) gz_189_103 gm_175 rfl is_151 rd_10 rfl rfl rfl rfl rfl (c_Model_takeWord9_f1 (d := d)  ((h352 151 8)) (((my_up_role fh378 is_151 is_170 rfl).trans (rfl : h352 151 8 = h352 151 8))) (by omega) (by omega) Tok_h378 Wd9_h378 (fun h381 frh381 w382 w383 xp384 xp385 Tok_h381t386 Wd9_h381t387 => ?_))
            have gh381 : my_fr [(10, 7), (10, 8), (67, -1), (68, -1), (69, -1)] h h381 := my_fr.tr gh378 (frh381.mo rfl)
            have Mq_h381 : Mq h381 wv := Mq_ag (my_ag.fr frh381 rfl) Mq_h378
            have Wd9_h381 : Wd9 h381 := Wd9_ag (my_ag.fr frh381 rfl) Wd9_h378
            have P6_h381 : h381 167 6 = h 167 6 := P6_ag (my_ag.fr frh381 rfl) P6_h378
            show wp l rho (d + 3) 189 106 [(2, 151), (0, x1), (0, v300)] [] h381 Q
            have ps388 : h378 151 7 = ((h 151 7)) := ((my_up_role fh378 is_151 is_170 rfl).trans xp355)
            rw [ps388] at xp384
            rw [ps388] at xp385
            refine w_aload_n gz_189_106 rfl ?_
            refine w_getX (v := 169) gz_189_107 is_151 rd_10 rfl (by decide) rfl ?_
            refine w_iload_n gz_189_110 rfl ?_
            refine w_aload_n gz_189_111 rfl ?_
            refine w_aload_n gz_189_112 rfl ?_
            refine v_getI (j := 27) gz_189_113 rfl is_151 rd_10 rfl (fun v390 ev390 pv390 qv390 => ?_)
            have zv390 := ev390.trans ((my_fr.at frh381 is_151 rfl).trans ((my_up_role fh378 is_151 is_170 rfl).trans ((my_fr.at frh352 is_151 rfl).trans ev347.symm)))
            refine w_iconst gz_189_116 (by decide) ?_
            refine w_isub gz_189_117 ⟨by omega, by omega⟩ ?_
            have ce391 : h381 151 27 = v390 := ev390.symm
            refine w_inv (k := 0) (as := [(0, (v390 - 1))]) (r := [(0, x1), (2, 169)]) (x := 151) (ls0 := [(2, 151), (0, (v390 - 1))]) gz_189_118 gm_187 rfl is_151 rd_10 rfl rfl rfl rfl rfl (c_Model_takeNumber9_f1 (d := (d + 1)) (x1 := (v390 - 1)) (by omega) (by omega) ((h352 151 8)) (((my_fr.at frh381 is_151 rfl).trans ((my_up_role fh378 is_151 is_170 rfl).trans (rfl : h352 151 8 = h352 151 8)))) (by omega) (by omega) Tok_h381t386 (fun w392 w393 xp394 Tok_h381t395 => ?_))
            show wp l rho (d + 3) 189 121 [(2, 151), (0, x1), (0, v300)] [(0, 0), (0, x1), (2, 169)] h381 Q
            have ps396 : h381 151 7 = ((((h 151 7)))) := xp385
            rw [ps396] at xp394
            have hi397 : 0 ≤ 0 := by omega
            have hi398 : 0 ≤ 7 := by omega
            refine w_iast gz_189_121 is_169 rd_68 (by omega) (by omega) (by omega) (by omega) (fun h399 fh399 => ?_)
            have gh399 : my_fr [(10, 7), (10, 8), (67, -1), (68, -1), (69, -1)] h h399 := my_fr.up gh381 is_169 fh399 rfl
            have Mq_h399 : Mq h399 wv := Mq_u (a := 169) hwv (by decide) (by omega) fh399 Mq_h381
            have Wd9_h399 : Wd9 h399 := Wd9_ag (my_ag.up fh399 is_169 rfl) Wd9_h381t387
            have P6_h399 : h399 167 6 = h 167 6 := P6_ag (my_ag.up fh399 is_169 rfl) P6_h381
            have Tok_h399 : Tok h399 := Tok_ag (my_ag.up fh399 is_169 rfl) Tok_h381t395
            have k169 := my_up_self fh399
            have psR : h399 151 7 = ((((h 151 7)))) := ((my_up_role fh399 is_151 is_169 rfl).trans xp385)
            have npsR : sm h399 = sm h := sm_eq (fun j => my_fr.at gh399 is_153 rfl) (fun j => my_fr.at gh399 is_154 rfl) (fun j => my_fr.at gh399 is_155 rfl)
            have ce400 : h399 151 7 = h381 151 7 := ((my_up_role fh399 is_151 is_169 rfl).trans (rfl : h381 151 7 = h381 151 7))
            have ce401 : h399 151 27 = v390 := ((my_up_role fh399 is_151 is_169 rfl).trans ev390.symm)
            have a168 : ∀ j : Int, h399 168 j = h2 168 j := fun j => ((my_up_role fh399 is_168 is_169 rfl).trans ((my_fr.at frh381 is_168 rfl).trans ((my_up_role fh378 is_168 is_170 rfl).trans ((my_fr.at frh352 is_168 rfl).trans (rfl : h2 168 j = h2 168 j)))))
            have a170 : ∀ j : Int, h399 170 j = h378 170 j := fun j => ((my_up_role fh399 is_170 is_169 rfl).trans ((my_fr.at frh381 is_170 rfl).trans (rfl : h378 170 j = h378 170 j)))
            have a169 : ∀ j : Int, h399 169 j = h399 169 j := fun _ => rfl
            have a157 : ∀ j : Int, h399 157 j = h 157 j := fun j => ((my_up_role fh399 is_157 is_169 rfl).trans ((my_fr.at frh381 is_157 rfl).trans ((my_up_role fh378 is_157 is_170 rfl).trans ((my_fr.at frh352 is_157 rfl).trans ((my_up_role fh2 is_157 is_168 rfl).trans (rfl : h 157 j = h 157 j))))))
            have c402 := ((my_up_role fh399 is_151 is_169 rfl).trans ((my_fr.at frh381 is_151 rfl).trans ((my_up_role fh378 is_151 is_170 rfl).trans (rfl : h352 151 8 = h352 151 8))))
            exact w_vret gz_189_122 gm_189 (k0 h399 (gh399) (by omega) (by omega) (by first | exact ⟨by rw [a168]; exact k168, by rw [a170, k170]; omega⟩ | (unfold joinM; first | exact Or.inr (Or.inr ⟨by omega, by omega, Or.inr (Or.inr ⟨by omega, by omega, Or.inr ⟨by omega, Or.inr (Or.inr ⟨by omega, by omega, ⟨by omega, by omega⟩⟩)⟩⟩)⟩) | exact Or.inr (Or.inr ⟨by omega, by omega, Or.inr (Or.inr ⟨by omega, by omega, Or.inr ⟨by omega, Or.inr (Or.inl ⟨by omega, by omega, by omega⟩)⟩⟩)⟩) | exact Or.inr (Or.inr ⟨by omega, by omega, Or.inr (Or.inr ⟨by omega, by omega, Or.inr ⟨by omega, Or.inl ⟨by omega, by omega⟩⟩⟩)⟩) | exact Or.inr (Or.inr ⟨by omega, by omega, Or.inr (Or.inr ⟨by omega, by omega, Or.inl ⟨by omega, by omega⟩⟩)⟩) | exact Or.inr (Or.inr ⟨by omega, by omega, Or.inr (Or.inl ⟨by omega, by omega, by omega⟩)⟩) | exact Or.inr (Or.inr ⟨by omega, by omega, Or.inl ⟨by omega, by omega⟩⟩) | exact Or.inr (Or.inl ⟨by omega, by omega, by omega⟩) | exact Or.inl ⟨by omega, by omega⟩) | omega | (exfalso; subst_vars; omega) | (exfalso; (try clear k0); (try clear k1); grind) | omega | (refine ⟨fun q => ?_, fun q => ?_⟩ <;> first | (rw [a168, k168] at q; omega) | (have kz := k170.trans (show _ = vz by omega); rw [a170, kz, a157]; omega)) | (refine ⟨fun q => ?_, fun q => ?_, fun q => ?_⟩ <;> first | (exfalso; rw [a168, k168] at q; omega) | (rw [a169, k169]; omega)) | omega) (by first | exact ⟨by rw [a168]; exact k168, by rw [a170, k170]; omega⟩ | (unfold joinM; first | exact Or.inr (Or.inr ⟨by omega, by omega, Or.inr (Or.inr ⟨by omega, by omega, Or.inr ⟨by omega, Or.inr (Or.inr ⟨by omega, by omega, ⟨by omega, by omega⟩⟩)⟩⟩)⟩) | exact Or.inr (Or.inr ⟨by omega, by omega, Or.inr (Or.inr ⟨by omega, by omega, Or.inr ⟨by omega, Or.inr (Or.inl ⟨by omega, by omega, by omega⟩)⟩⟩)⟩) | exact Or.inr (Or.inr ⟨by omega, by omega, Or.inr (Or.inr ⟨by omega, by omega, Or.inr ⟨by omega, Or.inl ⟨by omega, by omega⟩⟩⟩)⟩) | exact Or.inr (Or.inr ⟨by omega, by omega, Or.inr (Or.inr ⟨by omega, by omega, Or.inl ⟨by omega, by omega⟩⟩)⟩) | exact Or.inr (Or.inr ⟨by omega, by omega, Or.inr (Or.inl ⟨by omega, by omega, by omega⟩)⟩) | exact Or.inr (Or.inr ⟨by omega, by omega, Or.inl ⟨by omega, by omega⟩⟩) | exact Or.inr (Or.inl ⟨by omega, by omega, by omega⟩) | exact Or.inl ⟨by omega, by omega⟩) | omega | (exfalso; subst_vars; omega) | (exfalso; (try clear k0); (try clear k1); grind) | omega | (refine ⟨fun q => ?_, fun q => ?_⟩ <;> first | (rw [a168, k168] at q; omega) | (have kz := k170.trans (show _ = vz by omega); rw [a170, kz, a157]; omega)) | (refine ⟨fun q => ?_, fun q => ?_, fun q => ?_⟩ <;> first | (exfalso; rw [a168, k168] at q; omega) | (rw [a169, k169]; omega)) | omega) Tok_h399 Mq_h399 Wd9_h399)
          ·
            have gh358 : my_fr [(10, 7), (10, 8), (67, -1), (68, -1), (69, -1)] h h358 := my_fr.tr gh2 (frh358.mo rfl)
            have Mq_h358 : Mq h358 wv := Mq_ag (my_ag.fr frh358 rfl) Mq_h2
            have Wd9_h358 : Wd9 h358 := Wd9_ag (my_ag.fr frh358 rfl) Wd9_h2
            have P6_h358 : h358 167 6 = h 167 6 := P6_ag (my_ag.fr frh358 rfl) P6_h2
            show wp l rho (d + 3) 189 99 [(2, 151), (0, x1), (0, v300)] [(0, v359), (0, x1), (2, 170)] h358 Q
            have ps403 : h2 151 7 = h 151 7 := ((my_up_role fh2 is_151 is_168 rfl).trans (rfl : h 151 7 = h 151 7))
            rw [ps403] at xp367
            rw [ps403] at xp368
            rw [ps403] at xp369
            have tE404 : sm h2 = sm h := sm_eq (fun j => my_fr.at gh2 is_153 rfl) (fun j => my_fr.at gh2 is_154 rfl) (fun j => my_fr.at gh2 is_155 rfl)
            rw [tE404] at xp370
            rw [ps403] at xp370
            rw [tE404] at xp371
            rw [ps403] at xp371
            rw [tE404] at xp372
            rw [ps403] at xp372
            have hi405 : 0 ≤ v359 := by omega
            have hi406 : v359 ≤ 2 := by omega
            refine w_iast gz_189_99 is_170 rd_69 (by omega) (by omega) (by omega) (by omega) (fun h407 fh407 => ?_)
            have gh407 : my_fr [(10, 7), (10, 8), (67, -1), (68, -1), (69, -1)] h h407 := my_fr.up gh358 is_170 fh407 rfl
            have Mq_h407 : Mq h407 wv := Mq_u (a := 170) hwv (by decide) (by omega) fh407 Mq_h358
            have Wd9_h407 : Wd9 h407 := Wd9_ag (my_ag.up fh407 is_170 rfl) Wd9_h358
            have P6_h407 : h407 167 6 = h 167 6 := P6_ag (my_ag.up fh407 is_170 rfl) P6_h358
            have Tok_h407 : Tok h407 := Tok_ag (my_ag.up fh407 is_170 rfl) Tok_h358t373
            have k170 := my_up_self fh407
            refine w_aload_n gz_189_100 rfl ?_
            refine w_bipush gz_189_101 (by decide) ?_
            have ce408 : h407 151 7 = (h358 151 7) := ((my_up_role fh407 is_151 is_170 rfl).trans (rfl : h358 151 7 = h358 151 7))
            have ce409 : h407 151 27 = v347 := ((my_up_role fh407 is_151 is_170 rfl).trans ((my_fr.at frh358 is_151 rfl).trans ev347.symm))
            refine w_inv (k := 0) (as := [(0, 9)]) (r := []) (x := 151) (ls0 := [(2, 151), (0, 9)]) gz_189_103 gm_175 rfl is_151 rd_10 rfl rfl rfl rfl rfl (c_Model_takeWord9_f0 (d := d) (x1 := 9) (by omega) (by omega) (((my_up_role fh407 is_151 is_170 rfl).trans w364).trans (by omega)) Tok_h407 Wd9_h407 (fun h410 frh410 w411 w412 xp413 xp414 xp415 Tok_h410t416 Wd9_h410t417 => ?_) (fun h418 frh418 w419 w420 w421 xp422 xp423 xp424 Tok_h418t425 Wd9_h418t426 => ?_))
            ·
              have gh410 : my_fr [(10, 7), (10, 8), (67, -1), (68, -1), (69, -1)] h h410 := my_fr.tr gh407 (frh410.mo rfl)
              have Mq_h410 : Mq h410 wv := Mq_ag (my_ag.fr frh410 rfl) Mq_h407
              have Wd9_h410 : Wd9 h410 := Wd9_ag (my_ag.fr frh410 rfl) Wd9_h407
              have P6_h410 : h410 167 6 = h 167 6 := P6_ag (my_ag.fr frh410 rfl) P6_h407
              show wp l rho (d + 3) 189 106 [(2, 151), (0, x1), (0, v300)] [] h410 Q
              have ps427 : h407 151 7 = (sN (sm h) ((h 151 7))) := ((my_up_role fh407 is_151 is_170 rfl).trans xp370)
              rw [ps427] at xp413
              rw [show wm 9 = 99 from by decide] at xp414
              have tE428 : sm h407 = sm h := sm_eq (fun j => my_fr.at gh407 is_153 rfl) (fun j => my_fr.at gh407 is_154 rfl) (fun j => my_fr.at gh407 is_155 rfl)
              rw [tE428] at xp414
              rw [ps427] at xp414
              rw [tE428] at xp415
              rw [ps427] at xp415
              refine w_aload_n gz_189_106 rfl ?_
              refine w_getX (v := 169) gz_189_107 is_151 rd_10 rfl (by decide) rfl ?_
              refine w_iload_n gz_189_110 rfl ?_
              refine w_aload_n gz_189_111 rfl ?_
              refine w_aload_n gz_189_112 rfl ?_
              refine v_getI (j := 27) gz_189_113 rfl is_151 rd_10 rfl (fun v430 ev430 pv430 qv430 => ?_)
              have zv430 := ev430.trans ((my_fr.at frh410 is_151 rfl).trans ((my_up_role fh407 is_151 is_170 rfl).trans ((my_fr.at frh358 is_151 rfl).trans ev347.symm)))
              refine w_iconst gz_189_116 (by decide) ?_
              refine w_isub gz_189_117 ⟨by omega, by omega⟩ ?_
              have ce431 : h410 151 27 = v430 := ev430.symm
              refine w_inv (k := 0) (as := [(0, (v430 - 1))]) (r := [(0, x1), (2, 169)]) (x := 151) (ls0 := [(2, 151), (0, (v430 - 1))]) gz_189_118 gm_187 rfl is_151 rd_10 rfl rfl rfl rfl rfl (c_Model_takeNumber9_f1 (d := (d + 1)) (x1 := (v430 - 1)) (by omega) (by omega) ((h410 151 8)) ((rfl : h410 151 8 = h410 151 8)) (by omega) (by omega) Tok_h410t416 (fun w432 w433 xp434 Tok_h410t435 => ?_))
              show wp l rho (d + 3) 189 121 [(2, 151), (0, x1), (0, v300)] [(0, 0), (0, x1), (2, 169)] h410 Q
              have hi436 : 0 ≤ 0 := by omega
              have hi437 : 0 ≤ 7 := by omega
              refine w_iast gz_189_121 is_169 rd_68 (by omega) (by omega) (by omega) (by omega) (fun h438 fh438 => ?_)
              have gh438 : my_fr [(10, 7), (10, 8), (67, -1), (68, -1), (69, -1)] h h438 := my_fr.up gh410 is_169 fh438 rfl
              have Mq_h438 : Mq h438 wv := Mq_u (a := 169) hwv (by decide) (by omega) fh438 Mq_h410
              have Wd9_h438 : Wd9 h438 := Wd9_ag (my_ag.up fh438 is_169 rfl) Wd9_h410t417
              have P6_h438 : h438 167 6 = h 167 6 := P6_ag (my_ag.up fh438 is_169 rfl) P6_h410
              have Tok_h438 : Tok h438 := Tok_ag (my_ag.up fh438 is_169 rfl) Tok_h410t435
              have k169 := my_up_self fh438
              have psR : h438 151 7 = h410 151 7 := ((my_up_role fh438 is_151 is_169 rfl).trans (rfl : h410 151 7 = h410 151 7))
              have npsR : sm h438 = sm h := sm_eq (fun j => my_fr.at gh438 is_153 rfl) (fun j => my_fr.at gh438 is_154 rfl) (fun j => my_fr.at gh438 is_155 rfl)
              have ce439 : h438 151 7 = h410 151 7 := ((my_up_role fh438 is_151 is_169 rfl).trans (rfl : h410 151 7 = h410 151 7))
              have ce440 : h438 151 27 = v430 := ((my_up_role fh438 is_151 is_169 rfl).trans ev430.symm)
              have a168 : ∀ j : Int, h438 168 j = h2 168 j := fun j => ((my_up_role fh438 is_168 is_169 rfl).trans ((my_fr.at frh410 is_168 rfl).trans ((my_up_role fh407 is_168 is_170 rfl).trans ((my_fr.at frh358 is_168 rfl).trans (rfl : h2 168 j = h2 168 j)))))
              have a170 : ∀ j : Int, h438 170 j = h407 170 j := fun j => ((my_up_role fh438 is_170 is_169 rfl).trans ((my_fr.at frh410 is_170 rfl).trans (rfl : h407 170 j = h407 170 j)))
              have a169 : ∀ j : Int, h438 169 j = h438 169 j := fun _ => rfl
              have a157 : ∀ j : Int, h438 157 j = h 157 j := fun j => ((my_up_role fh438 is_157 is_169 rfl).trans ((my_fr.at frh410 is_157 rfl).trans ((my_up_role fh407 is_157 is_170 rfl).trans ((my_fr.at frh358 is_157 rfl).trans ((my_up_role fh2 is_157 is_168 rfl).trans (rfl : h 157 j = h 157 j))))))
              have c441 := ((my_up_role fh438 is_151 is_169 rfl).trans (rfl : h410 151 8 = h410 151 8))
              exact w_vret gz_189_122 gm_189 (k0 h438 (gh438) (by omega) (by omega) (by first | exact ⟨by rw [a168]; exact k168, by rw [a170, k170]; omega⟩ | (unfold joinM; first | exact Or.inr (Or.inr ⟨by omega, by omega, Or.inr (Or.inr ⟨by omega, by omega, Or.inr ⟨by omega, Or.inr (Or.inr ⟨by omega, by omega, ⟨by omega, by omega⟩⟩)⟩⟩)⟩) | exact Or.inr (Or.inr ⟨by omega, by omega, Or.inr (Or.inr ⟨by omega, by omega, Or.inr ⟨by omega, Or.inr (Or.inl ⟨by omega, by omega, by omega⟩)⟩⟩)⟩) | exact Or.inr (Or.inr ⟨by omega, by omega, Or.inr (Or.inr ⟨by omega, by omega, Or.inr ⟨by omega, Or.inl ⟨by omega, by omega⟩⟩⟩)⟩) | exact Or.inr (Or.inr ⟨by omega, by omega, Or.inr (Or.inr ⟨by omega, by omega, Or.inl ⟨by omega, by omega⟩⟩)⟩) | exact Or.inr (Or.inr ⟨by omega, by omega, Or.inr (Or.inl ⟨by omega, by omega, by omega⟩)⟩) | exact Or.inr (Or.inr ⟨by omega, by omega, Or.inl ⟨by omega, by omega⟩⟩) | exact Or.inr (Or.inl ⟨by omega, by omega, by omega⟩) | exact Or.inl ⟨by omega, by omega⟩) | omega | (exfalso; subst_vars; omega) | (exfalso; (try clear k0); (try clear k1); grind) | omega | (refine ⟨fun q => ?_, fun q => ?_⟩ <;> first | (rw [a168, k168] at q; omega) | (have kz := k170.trans (show _ = vz by omega); rw [a170, kz, a157]; omega)) | (refine ⟨fun q => ?_, fun q => ?_, fun q => ?_⟩ <;> first | (exfalso; rw [a168, k168] at q; omega) | (rw [a169, k169]; omega)) | omega) (by first | exact ⟨by rw [a168]; exact k168, by rw [a170, k170]; omega⟩ | (unfold joinM; first | exact Or.inr (Or.inr ⟨by omega, by omega, Or.inr (Or.inr ⟨by omega, by omega, Or.inr ⟨by omega, Or.inr (Or.inr ⟨by omega, by omega, ⟨by omega, by omega⟩⟩)⟩⟩)⟩) | exact Or.inr (Or.inr ⟨by omega, by omega, Or.inr (Or.inr ⟨by omega, by omega, Or.inr ⟨by omega, Or.inr (Or.inl ⟨by omega, by omega, by omega⟩)⟩⟩)⟩) | exact Or.inr (Or.inr ⟨by omega, by omega, Or.inr (Or.inr ⟨by omega, by omega, Or.inr ⟨by omega, Or.inl ⟨by omega, by omega⟩⟩⟩)⟩) | exact Or.inr (Or.inr ⟨by omega, by omega, Or.inr (Or.inr ⟨by omega, by omega, Or.inl ⟨by omega, by omega⟩⟩)⟩) | exact Or.inr (Or.inr ⟨by omega, by omega, Or.inr (Or.inl ⟨by omega, by omega, by omega⟩)⟩) | exact Or.inr (Or.inr ⟨by omega, by omega, Or.inl ⟨by omega, by omega⟩⟩) | exact Or.inr (Or.inl ⟨by omega, by omega, by omega⟩) | exact Or.inl ⟨by omega, by omega⟩) | omega | (exfalso; subst_vars; omega) | (exfalso; (try clear k0); (try clear k1); grind) | omega | (refine ⟨fun q => ?_, fun q => ?_⟩ <;> first | (rw [a168, k168] at q; omega) | (have kz := k170.trans (show _ = vz by omega); rw [a170, kz, a157]; omega)) | (refine ⟨fun q => ?_, fun q => ?_, fun q => ?_⟩ <;> first | (exfalso; rw [a168, k168] at q; omega) | (rw [a169, k169]; omega)) | omega) Tok_h438 Mq_h438 Wd9_h438)
            ·
              have gh418 : my_fr [(10, 7), (10, 8), (67, -1), (68, -1), (69, -1)] h h418 := my_fr.tr gh407 (frh418.mo rfl)
              have Mq_h418 : Mq h418 wv := Mq_ag (my_ag.fr frh418 rfl) Mq_h407
              have Wd9_h418 : Wd9 h418 := Wd9_ag (my_ag.fr frh418 rfl) Wd9_h407
              have P6_h418 : h418 167 6 = h 167 6 := P6_ag (my_ag.fr frh418 rfl) P6_h407
              show wp l rho (d + 3) 189 106 [(2, 151), (0, x1), (0, v300)] [] h418 Q
              have ps442 : h407 151 7 = (sN (sm h) ((h 151 7))) := ((my_up_role fh407 is_151 is_170 rfl).trans xp370)
              rw [ps442] at xp422
              have tE443 : sm h407 = sm h := sm_eq (fun j => my_fr.at gh407 is_153 rfl) (fun j => my_fr.at gh407 is_154 rfl) (fun j => my_fr.at gh407 is_155 rfl)
              rw [tE443] at xp423
              rw [ps442] at xp423
              rw [show wm 9 = 99 from by decide] at xp424
              rw [tE443] at xp424
              rw [ps442] at xp424
              refine w_aload_n gz_189_106 rfl ?_
              refine w_getX (v := 169) gz_189_107 is_151 rd_10 rfl (by decide) rfl ?_
              refine w_iload_n gz_189_110 rfl ?_
              refine w_aload_n gz_189_111 rfl ?_
              refine w_aload_n gz_189_112 rfl ?_
              refine v_getI (j := 27) gz_189_113 rfl is_151 rd_10 rfl (fun v445 ev445 pv445 qv445 => ?_)
              have zv445 := ev445.trans ((my_fr.at frh418 is_151 rfl).trans ((my_up_role fh407 is_151 is_170 rfl).trans ((my_fr.at frh358 is_151 rfl).trans ev347.symm)))
              refine w_iconst gz_189_116 (by decide) ?_
              refine w_isub gz_189_117 ⟨by omega, by omega⟩ ?_
              have ce446 : h418 151 7 = (h418 151 7) := (rfl : h418 151 7 = h418 151 7)
              have ce447 : h418 151 27 = v445 := ev445.symm
              refine w_inv (k := 0) (as := [(0, (v445 - 1))]) (r := [(0, x1), (2, 169)]) (x := 151) (ls0 := [(2, 151), (0, (v445 - 1))]) gz_189_118 gm_187 rfl is_151 rd_10 rfl rfl rfl rfl rfl (c_Model_takeNumber9_f0 (d := (d + 1)) (x1 := (v445 - 1)) (by omega) (by omega) (w421.trans (by omega)) Tok_h418t425 (fun h448 frh448 w449 w450 xp451 xp452 Tok_h448t453 => ?_) (fun h454 v455 frh454 w456 w457 w458 w459 w460 xp461 xp462 xp463 xp464 xp465 xp466 xp467 xp468 Tok_h454t469 => ?_))
              ·
                have gh448 : my_fr [(10, 7), (10, 8), (67, -1), (68, -1), (69, -1)] h h448 := my_fr.tr gh418 (frh448.mo rfl)
                have Mq_h448 : Mq h448 wv := Mq_ag (my_ag.fr frh448 rfl) Mq_h418
                have Wd9_h448 : Wd9 h448 := Wd9_ag (my_ag.fr frh448 rfl) Wd9_h418t426
                have P6_h448 : h448 167 6 = h 167 6 := P6_ag (my_ag.fr frh448 rfl) P6_h418
                show wp l rho (d + 3) 189 121 [(2, 151), (0, x1), (0, v300)] [(0, 0), (0, x1), (2, 169)] h448 Q
                have ps470 : h418 151 7 = (sN (sm h) (((sN (sm h) ((h 151 7)))))) := xp423
                rw [ps470] at xp451
                have tE471 : sm h418 = sm h := sm_eq (fun j => my_fr.at gh418 is_153 rfl) (fun j => my_fr.at gh418 is_154 rfl) (fun j => my_fr.at gh418 is_155 rfl)
                rw [tE471] at xp452
                rw [ps470] at xp452
                have hi472 : 0 ≤ 0 := by omega
                have hi473 : 0 ≤ 7 := by omega
                refine w_iast gz_189_121 is_169 rd_68 (by omega) (by omega) (by omega) (by omega) (fun h474 fh474 => ?_)
                have gh474 : my_fr [(10, 7), (10, 8), (67, -1), (68, -1), (69, -1)] h h474 := my_fr.up gh448 is_169 fh474 rfl
                have Mq_h474 : Mq h474 wv := Mq_u (a := 169) hwv (by decide) (by omega) fh474 Mq_h448
                have Wd9_h474 : Wd9 h474 := Wd9_ag (my_ag.up fh474 is_169 rfl) Wd9_h448
                have P6_h474 : h474 167 6 = h 167 6 := P6_ag (my_ag.up fh474 is_169 rfl) P6_h448
                have Tok_h474 : Tok h474 := Tok_ag (my_ag.up fh474 is_169 rfl) Tok_h448t453
                have k169 := my_up_self fh474
                have psR : h474 151 7 = (((sN (sm h) (((sN (sm h) ((h 151 7)))))))) := ((my_up_role fh474 is_151 is_169 rfl).trans xp451)
                have npsR : sm h474 = sm h := sm_eq (fun j => my_fr.at gh474 is_153 rfl) (fun j => my_fr.at gh474 is_154 rfl) (fun j => my_fr.at gh474 is_155 rfl)
                have ce475 : h474 151 7 = h448 151 7 := ((my_up_role fh474 is_151 is_169 rfl).trans (rfl : h448 151 7 = h448 151 7))
                have ce476 : h474 151 27 = v445 := ((my_up_role fh474 is_151 is_169 rfl).trans ((my_fr.at frh448 is_151 rfl).trans ev445.symm))
                have a168 : ∀ j : Int, h474 168 j = h2 168 j := fun j => ((my_up_role fh474 is_168 is_169 rfl).trans ((my_fr.at frh448 is_168 rfl).trans ((my_fr.at frh418 is_168 rfl).trans ((my_up_role fh407 is_168 is_170 rfl).trans ((my_fr.at frh358 is_168 rfl).trans (rfl : h2 168 j = h2 168 j))))))
                have a170 : ∀ j : Int, h474 170 j = h407 170 j := fun j => ((my_up_role fh474 is_170 is_169 rfl).trans ((my_fr.at frh448 is_170 rfl).trans ((my_fr.at frh418 is_170 rfl).trans (rfl : h407 170 j = h407 170 j))))
                have a169 : ∀ j : Int, h474 169 j = h474 169 j := fun _ => rfl
                have a157 : ∀ j : Int, h474 157 j = h 157 j := fun j => ((my_up_role fh474 is_157 is_169 rfl).trans ((my_fr.at frh448 is_157 rfl).trans ((my_fr.at frh418 is_157 rfl).trans ((my_up_role fh407 is_157 is_170 rfl).trans ((my_fr.at frh358 is_157 rfl).trans ((my_up_role fh2 is_157 is_168 rfl).trans (rfl : h 157 j = h 157 j)))))))
                have c477 := ((my_up_role fh474 is_151 is_169 rfl).trans (rfl : h448 151 8 = h448 151 8))
                exact w_vret gz_189_122 gm_189 (k0 h474 (gh474) (by omega) (by omega) (by first | exact ⟨by rw [a168]; exact k168, by rw [a170, k170]; omega⟩ | (unfold joinM; first | exact Or.inr (Or.inr ⟨by omega, by omega, Or.inr (Or.inr ⟨by omega, by omega, Or.inr ⟨by omega, Or.inr (Or.inr ⟨by omega, by omega, ⟨by omega, by omega⟩⟩)⟩⟩)⟩) | exact Or.inr (Or.inr ⟨by omega, by omega, Or.inr (Or.inr ⟨by omega, by omega, Or.inr ⟨by omega, Or.inr (Or.inl ⟨by omega, by omega, by omega⟩)⟩⟩)⟩) | exact Or.inr (Or.inr ⟨by omega, by omega, Or.inr (Or.inr ⟨by omega, by omega, Or.inr ⟨by omega, Or.inl ⟨by omega, by omega⟩⟩⟩)⟩) | exact Or.inr (Or.inr ⟨by omega, by omega, Or.inr (Or.inr ⟨by omega, by omega, Or.inl ⟨by omega, by omega⟩⟩)⟩) | exact Or.inr (Or.inr ⟨by omega, by omega, Or.inr (Or.inl ⟨by omega, by omega, by omega⟩)⟩) | exact Or.inr (Or.inr ⟨by omega, by omega, Or.inl ⟨by omega, by omega⟩⟩) | exact Or.inr (Or.inl ⟨by omega, by omega, by omega⟩) | exact Or.inl ⟨by omega, by omega⟩) | omega | (exfalso; subst_vars; omega) | (exfalso; (try clear k0); (try clear k1); grind) | omega | (refine ⟨fun q => ?_, fun q => ?_⟩ <;> first | (rw [a168, k168] at q; omega) | (have kz := k170.trans (show _ = vz by omega); rw [a170, kz, a157]; omega)) | (refine ⟨fun q => ?_, fun q => ?_, fun q => ?_⟩ <;> first | (exfalso; rw [a168, k168] at q; omega) | (rw [a169, k169]; omega)) | omega) (by first | exact ⟨by rw [a168]; exact k168, by rw [a170, k170]; omega⟩ | (unfold joinM; first | exact Or.inr (Or.inr ⟨by omega, by omega, Or.inr (Or.inr ⟨by omega, by omega, Or.inr ⟨by omega, Or.inr (Or.inr ⟨by omega, by omega, ⟨by omega, by omega⟩⟩)⟩⟩)⟩) | exact Or.inr (Or.inr ⟨by omega, by omega, Or.inr (Or.inr ⟨by omega, by omega, Or.inr ⟨by omega, Or.inr (Or.inl ⟨by omega, by omega, by omega⟩)⟩⟩)⟩) | exact Or.inr (Or.inr ⟨by omega, by omega, Or.inr (Or.inr ⟨by omega, by omega, Or.inr ⟨by omega, Or.inl ⟨by omega, by omega⟩⟩⟩)⟩) | exact Or.inr (Or.inr ⟨by omega, by omega, Or.inr (Or.inr ⟨by omega, by omega, Or.inl ⟨by omega, by omega⟩⟩)⟩) | exact Or.inr (Or.inr ⟨by omega, by omega, Or.inr (Or.inl ⟨by omega, by omega, by omega⟩)⟩) | exact Or.inr (Or.inr ⟨by omega, by omega, Or.inl ⟨by omega, by omega⟩⟩) | exact Or.inr (Or.inl ⟨by omega, by omega, by omega⟩) | exact Or.inl ⟨by omega, by omega⟩) | omega | (exfalso; subst_vars; omega) | (exfalso; (try clear k0); (try clear k1); grind) | omega | (refine ⟨fun q => ?_, fun q => ?_⟩ <;> first | (rw [a168, k168] at q; omega) | (have kz := k170.trans (show _ = vz by omega); rw [a170, kz, a157]; omega)) | (refine ⟨fun q => ?_, fun q => ?_, fun q => ?_⟩ <;> first | (exfalso; rw [a168, k168] at q; omega) | (rw [a169, k169]; omega)) | omega) Tok_h474 Mq_h474 Wd9_h474)
              ·
                have gh454 : my_fr [(10, 7), (10, 8), (67, -1), (68, -1), (69, -1)] h h454 := my_fr.tr gh418 (frh454.mo rfl)
                have Mq_h454 : Mq h454 wv := Mq_ag (my_ag.fr frh454 rfl) Mq_h418
                have Wd9_h454 : Wd9 h454 := Wd9_ag (my_ag.fr frh454 rfl) Wd9_h418t426
                have P6_h454 : h454 167 6 = h 167 6 := P6_ag (my_ag.fr frh454 rfl) P6_h418
                show wp l rho (d + 3) 189 121 [(2, 151), (0, x1), (0, v300)] [(0, v455), (0, x1), (2, 169)] h454 Q
                have ps478 : h418 151 7 = (sN (sm h) (((sN (sm h) ((h 151 7)))))) := xp423
                rw [ps478] at xp463
                rw [ps478] at xp464
                rw [ps478] at xp465
                have tE479 : sm h418 = sm h := sm_eq (fun j => my_fr.at gh418 is_153 rfl) (fun j => my_fr.at gh418 is_154 rfl) (fun j => my_fr.at gh418 is_155 rfl)
                rw [tE479] at xp466
                rw [ps478] at xp466
                rw [tE479] at xp467
                rw [ps478] at xp467
                rw [tE479] at xp468
                rw [ps478] at xp468
                have hi480 : 0 ≤ v455 := by omega
                have hi481 : v455 ≤ 7 := by omega
                refine w_iast gz_189_121 is_169 rd_68 (by omega) (by omega) (by omega) (by omega) (fun h482 fh482 => ?_)
                have gh482 : my_fr [(10, 7), (10, 8), (67, -1), (68, -1), (69, -1)] h h482 := my_fr.up gh454 is_169 fh482 rfl
                have Mq_h482 : Mq h482 wv := Mq_u (a := 169) hwv (by decide) (by omega) fh482 Mq_h454
                have Wd9_h482 : Wd9 h482 := Wd9_ag (my_ag.up fh482 is_169 rfl) Wd9_h454
                have P6_h482 : h482 167 6 = h 167 6 := P6_ag (my_ag.up fh482 is_169 rfl) P6_h454
                have Tok_h482 : Tok h482 := Tok_ag (my_ag.up fh482 is_169 rfl) Tok_h454t469
                have k169 := my_up_self fh482
                have psR : h482 151 7 = (sN (sm h) (((sN (sm h) (((sN (sm h) ((h 151 7))))))))) := ((my_up_role fh482 is_151 is_169 rfl).trans xp466)
                have npsR : sm h482 = sm h := sm_eq (fun j => my_fr.at gh482 is_153 rfl) (fun j => my_fr.at gh482 is_154 rfl) (fun j => my_fr.at gh482 is_155 rfl)
                have ce483 : h482 151 7 = (h454 151 7) := ((my_up_role fh482 is_151 is_169 rfl).trans (rfl : h454 151 7 = h454 151 7))
                have ce484 : h482 151 27 = v445 := ((my_up_role fh482 is_151 is_169 rfl).trans ((my_fr.at frh454 is_151 rfl).trans ev445.symm))
                have a168 : ∀ j : Int, h482 168 j = h2 168 j := fun j => ((my_up_role fh482 is_168 is_169 rfl).trans ((my_fr.at frh454 is_168 rfl).trans ((my_fr.at frh418 is_168 rfl).trans ((my_up_role fh407 is_168 is_170 rfl).trans ((my_fr.at frh358 is_168 rfl).trans (rfl : h2 168 j = h2 168 j))))))
                have a170 : ∀ j : Int, h482 170 j = h407 170 j := fun j => ((my_up_role fh482 is_170 is_169 rfl).trans ((my_fr.at frh454 is_170 rfl).trans ((my_fr.at frh418 is_170 rfl).trans (rfl : h407 170 j = h407 170 j))))
                have a169 : ∀ j : Int, h482 169 j = h482 169 j := fun _ => rfl
                have a157 : ∀ j : Int, h482 157 j = h 157 j := fun j => ((my_up_role fh482 is_157 is_169 rfl).trans ((my_fr.at frh454 is_157 rfl).trans ((my_fr.at frh418 is_157 rfl).trans ((my_up_role fh407 is_157 is_170 rfl).trans ((my_fr.at frh358 is_157 rfl).trans ((my_up_role fh2 is_157 is_168 rfl).trans (rfl : h 157 j = h 157 j)))))))
                have c485 := ((my_up_role fh482 is_151 is_169 rfl).trans (rfl : h454 151 7 = h454 151 7))
                have c486 := ((my_up_role fh482 is_151 is_169 rfl).trans w460)
                exact w_vret gz_189_122 gm_189 (k1 h482 (gh482) (by omega) (by omega) (by omega) (by first | exact ⟨by rw [a168]; exact k168, by rw [a170, k170]; omega⟩ | (unfold joinM; first | exact Or.inr (Or.inr ⟨by omega, by omega, Or.inr (Or.inr ⟨by omega, by omega, Or.inr ⟨by omega, Or.inr (Or.inr ⟨by omega, by omega, ⟨by omega, by omega⟩⟩)⟩⟩)⟩) | exact Or.inr (Or.inr ⟨by omega, by omega, Or.inr (Or.inr ⟨by omega, by omega, Or.inr ⟨by omega, Or.inr (Or.inl ⟨by omega, by omega, by omega⟩)⟩⟩)⟩) | exact Or.inr (Or.inr ⟨by omega, by omega, Or.inr (Or.inr ⟨by omega, by omega, Or.inr ⟨by omega, Or.inl ⟨by omega, by omega⟩⟩⟩)⟩) | exact Or.inr (Or.inr ⟨by omega, by omega, Or.inr (Or.inr ⟨by omega, by omega, Or.inl ⟨by omega, by omega⟩⟩)⟩) | exact Or.inr (Or.inr ⟨by omega, by omega, Or.inr (Or.inl ⟨by omega, by omega, by omega⟩)⟩) | exact Or.inr (Or.inr ⟨by omega, by omega, Or.inl ⟨by omega, by omega⟩⟩) | exact Or.inr (Or.inl ⟨by omega, by omega, by omega⟩) | exact Or.inl ⟨by omega, by omega⟩) | omega | (exfalso; subst_vars; omega) | (exfalso; (try clear k0); (try clear k1); grind) | omega | (refine ⟨fun q => ?_, fun q => ?_⟩ <;> first | (rw [a168, k168] at q; omega) | (have kz := k170.trans (show _ = vz by omega); rw [a170, kz, a157]; omega)) | (refine ⟨fun q => ?_, fun q => ?_, fun q => ?_⟩ <;> first | (exfalso; rw [a168, k168] at q; omega) | (rw [a169, k169]; omega)) | omega) (by first | exact ⟨by rw [a168]; exact k168, by rw [a170, k170]; omega⟩ | (unfold joinM; first | exact Or.inr (Or.inr ⟨by omega, by omega, Or.inr (Or.inr ⟨by omega, by omega, Or.inr ⟨by omega, Or.inr (Or.inr ⟨by omega, by omega, ⟨by omega, by omega⟩⟩)⟩⟩)⟩) | exact Or.inr (Or.inr ⟨by omega, by omega, Or.inr (Or.inr ⟨by omega, by omega, Or.inr ⟨by omega, Or.inr (Or.inl ⟨by omega, by omega, by omega⟩)⟩⟩)⟩) | exact Or.inr (Or.inr ⟨by omega, by omega, Or.inr (Or.inr ⟨by omega, by omega, Or.inr ⟨by omega, Or.inl ⟨by omega, by omega⟩⟩⟩)⟩) | exact Or.inr (Or.inr ⟨by omega, by omega, Or.inr (Or.inr ⟨by omega, by omega, Or.inl ⟨by omega, by omega⟩⟩)⟩) | exact Or.inr (Or.inr ⟨by omega, by omega, Or.inr (Or.inl ⟨by omega, by omega, by omega⟩)⟩) | exact Or.inr (Or.inr ⟨by omega, by omega, Or.inl ⟨by omega, by omega⟩⟩) | exact Or.inr (Or.inl ⟨by omega, by omega, by omega⟩) | exact Or.inl ⟨by omega, by omega⟩) | omega | (exfalso; subst_vars; omega) | (exfalso; (try clear k0); (try clear k1); grind) | omega | (refine ⟨fun q => ?_, fun q => ?_⟩ <;> first | (rw [a168, k168] at q; omega) | (have kz := k170.trans (show _ = vz by omega); rw [a170, kz, a157]; omega)) | (refine ⟨fun q => ?_, fun q => ?_, fun q => ?_⟩ <;> first | (exfalso; rw [a168, k168] at q; omega) | (rw [a169, k169]; omega)) | omega) (by first | exact ⟨by rw [a168]; exact k168, by rw [a170, k170]; omega⟩ | (unfold joinM; first | exact Or.inr (Or.inr ⟨by omega, by omega, Or.inr (Or.inr ⟨by omega, by omega, Or.inr ⟨by omega, Or.inr (Or.inr ⟨by omega, by omega, ⟨by omega, by omega⟩⟩)⟩⟩)⟩) | exact Or.inr (Or.inr ⟨by omega, by omega, Or.inr (Or.inr ⟨by omega, by omega, Or.inr ⟨by omega, Or.inr (Or.inl ⟨by omega, by omega, by omega⟩)⟩⟩)⟩) | exact Or.inr (Or.inr ⟨by omega, by omega, Or.inr (Or.inr ⟨by omega, by omega, Or.inr ⟨by omega, Or.inl ⟨by omega, by omega⟩⟩⟩)⟩) | exact Or.inr (Or.inr ⟨by omega, by omega, Or.inr (Or.inr ⟨by omega, by omega, Or.inl ⟨by omega, by omega⟩⟩)⟩) | exact Or.inr (Or.inr ⟨by omega, by omega, Or.inr (Or.inl ⟨by omega, by omega, by omega⟩)⟩) | exact Or.inr (Or.inr ⟨by omega, by omega, Or.inl ⟨by omega, by omega⟩⟩) | exact Or.inr (Or.inl ⟨by omega, by omega, by omega⟩) | exact Or.inl ⟨by omega, by omega⟩) | omega | (exfalso; subst_vars; omega) | (exfalso; (try clear k0); (try clear k1); grind) | omega | (refine ⟨fun q => ?_, fun q => ?_⟩ <;> first | (rw [a168, k168] at q; omega) | (have kz := k170.trans (show _ = vz by omega); rw [a170, kz, a157]; omega)) | (refine ⟨fun q => ?_, fun q => ?_, fun q => ?_⟩ <;> first | (exfalso; rw [a168, k168] at q; omega) | (rw [a169, k169]; omega)) | omega) (by first | exact ⟨by rw [a168]; exact k168, by rw [a170, k170]; omega⟩ | (unfold joinM; first | exact Or.inr (Or.inr ⟨by omega, by omega, Or.inr (Or.inr ⟨by omega, by omega, Or.inr ⟨by omega, Or.inr (Or.inr ⟨by omega, by omega, ⟨by omega, by omega⟩⟩)⟩⟩)⟩) | exact Or.inr (Or.inr ⟨by omega, by omega, Or.inr (Or.inr ⟨by omega, by omega, Or.inr ⟨by omega, Or.inr (Or.inl ⟨by omega, by omega, by omega⟩)⟩⟩)⟩) | exact Or.inr (Or.inr ⟨by omega, by omega, Or.inr (Or.inr ⟨by omega, by omega, Or.inr ⟨by omega, Or.inl ⟨by omega, by omega⟩⟩⟩)⟩) | exact Or.inr (Or.inr ⟨by omega, by omega, Or.inr (Or.inr ⟨by omega, by omega, Or.inl ⟨by omega, by omega⟩⟩)⟩) | exact Or.inr (Or.inr ⟨by omega, by omega, Or.inr (Or.inl ⟨by omega, by omega, by omega⟩)⟩) | exact Or.inr (Or.inr ⟨by omega, by omega, Or.inl ⟨by omega, by omega⟩⟩) | exact Or.inr (Or.inl ⟨by omega, by omega, by omega⟩) | exact Or.inl ⟨by omega, by omega⟩) | omega | (exfalso; subst_vars; omega) | (exfalso; (try clear k0); (try clear k1); grind) | omega | (refine ⟨fun q => ?_, fun q => ?_⟩ <;> first | (rw [a168, k168] at q; omega) | (have kz := k170.trans (show _ = vz by omega); rw [a170, kz, a157]; omega)) | (refine ⟨fun q => ?_, fun q => ?_, fun q => ?_⟩ <;> first | (exfalso; rw [a168, k168] at q; omega) | (rw [a169, k169]; omega)) | omega) (by first | exact ⟨by rw [a168]; exact k168, by rw [a170, k170]; omega⟩ | (unfold joinM; first | exact Or.inr (Or.inr ⟨by omega, by omega, Or.inr (Or.inr ⟨by omega, by omega, Or.inr ⟨by omega, Or.inr (Or.inr ⟨by omega, by omega, ⟨by omega, by omega⟩⟩)⟩⟩)⟩) | exact Or.inr (Or.inr ⟨by omega, by omega, Or.inr (Or.inr ⟨by omega, by omega, Or.inr ⟨by omega, Or.inr (Or.inl ⟨by omega, by omega, by omega⟩)⟩⟩)⟩) | exact Or.inr (Or.inr ⟨by omega, by omega, Or.inr (Or.inr ⟨by omega, by omega, Or.inr ⟨by omega, Or.inl ⟨by omega, by omega⟩⟩⟩)⟩) | exact Or.inr (Or.inr ⟨by omega, by omega, Or.inr (Or.inr ⟨by omega, by omega, Or.inl ⟨by omega, by omega⟩⟩)⟩) | exact Or.inr (Or.inr ⟨by omega, by omega, Or.inr (Or.inl ⟨by omega, by omega, by omega⟩)⟩) | exact Or.inr (Or.inr ⟨by omega, by omega, Or.inl ⟨by omega, by omega⟩⟩) | exact Or.inr (Or.inl ⟨by omega, by omega, by omega⟩) | exact Or.inl ⟨by omega, by omega⟩) | omega | (exfalso; subst_vars; omega) | (exfalso; (try clear k0); (try clear k1); grind) | omega | (refine ⟨fun q => ?_, fun q => ?_⟩ <;> first | (rw [a168, k168] at q; omega) | (have kz := k170.trans (show _ = vz by omega); rw [a170, kz, a157]; omega)) | (refine ⟨fun q => ?_, fun q => ?_, fun q => ?_⟩ <;> first | (exfalso; rw [a168, k168] at q; omega) | (rw [a169, k169]; omega)) | omega) Tok_h482 Mq_h482 Wd9_h482)
        ·
          refine w_aload_n gz_189_76 rfl ?_
          refine w_iload_n gz_189_77 rfl ?_
          refine w_ifne (t := 85) gz_189_78 rfl (fun u487 => ?_) (fun u487 => by exfalso; omega)
          refine w_iconst gz_189_85 (by decide) ?_
          have ce488 : h2 151 7 = v294 := ev294.symm
          have ce489 : h2 151 27 = v347 := ev347.symm
          refine w_inv (k := 0) (as := [(0, 5)]) (r := []) (x := 151) (ls0 := [(2, 151), (0, 5)]) gz_189_86 gm_178 rfl is_151 rd_10 rfl rfl rfl rfl rfl ?_
          refine w_aload_n gz_178_0 rfl ?_
          refine v_getI (j := 8) gz_178_1 rfl is_151 rd_10 rfl (fun v490 ev490 pv490 qv490 => ?_)
          have zv490 := ev490.trans ev3.symm
          refine w_ifne (t := 25) gz_178_4 rfl (fun u491 => by exfalso; omega) (fun u491 => ?_)
          refine w_aload_n gz_178_7 rfl ?_
          refine w_iload_n gz_178_8 rfl ?_
          refine w_bipush gz_178_9 (by decide) ?_
          refine w_aload_n gz_178_11 rfl ?_
          refine w_getX (v := 154) gz_178_12 is_151 rd_10 rfl (by decide) rfl ?_
          refine w_aload_n gz_178_15 rfl ?_
          refine v_getI (j := 7) gz_178_16 rfl is_151 rd_10 rfl (fun v493 ev493 pv493 qv493 => ?_)
          have zv493 := ev493.trans ev294.symm
          refine w_iald gz_178_19 is_154 rd_53 (by omega) (by omega) (fun v494 ev494 pv494 qv494 => ?_)
          have nz495a : h2 151 7 = h 151 7 := ((my_up_role fh2 is_151 is_168 rfl).trans (rfl : h 151 7 = h 151 7))
          have nz495 : v494 = sP (sm h) (h 151 7) := by
            have q := ev494.trans (my_fr.at (j := v493) gh2 is_154 rfl)
            rw [show (v493 : Int) = h 151 7 from by omega] at q
            exact q
          refine w_imul gz_178_20 ⟨by omega, by omega⟩ ?_
          refine w_iadd gz_178_21 ⟨by omega, by omega⟩ ?_
          refine v_putI (j := 8) gz_178_22 rfl is_151 rd_10 rfl (by omega) (by omega) rfl (fun h496 fh496 => ?_)
          have gh496 : my_fr [(10, 7), (10, 8), (67, -1), (68, -1), (69, -1)] h h496 := my_fr.up gh2 is_151 fh496 rfl
          have Tok_h496 : Tok h496 := Tok_ag (my_ag.up fh496 is_151 rfl) Tok_h2
          have Mq_h496 : Mq h496 wv := Mq_ag (my_ag.up fh496 is_151 rfl) Mq_h2
          have Wd9_h496 : Wd9 h496 := Wd9_ag (my_ag.up fh496 is_151 rfl) Wd9_h2
          have P6_h496 : h496 167 6 = h 167 6 := P6_ag (my_ag.up fh496 is_151 rfl) P6_h2
          refine w_vret gz_178_25 gm_178 ?_
          show wp l rho (d + 3) 189 89 [(2, 151), (0, x1), (0, v300)] [] h496 Q
          refine w_aload_n gz_189_89 rfl ?_
          refine w_getX (v := 170) gz_189_90 is_151 rd_10 rfl (by decide) rfl ?_
          refine w_iload_n gz_189_93 rfl ?_
          refine w_aload_n gz_189_94 rfl ?_
          refine w_iconst gz_189_95 (by decide) ?_
          have ce498 : h496 151 7 = v493 := ((my_up_fld fh496 (by decide)).trans ev493.symm)
          have ce499 : h496 151 27 = v347 := ((my_up_fld fh496 (by decide)).trans ev347.symm)
          refine w_inv (k := 0) (as := [(0, 2)]) (r := [(0, x1), (2, 170)]) (x := 151) (ls0 := [(2, 151), (0, 2)]) gz_189_96 gm_187 rfl is_151 rd_10 rfl rfl rfl rfl rfl (c_Model_takeNumber9_f1 (d := (d + 1)) (x1 := 2) (by omega) (by omega) ((5 + (16 * v494))) ((my_up_self fh496)) (by omega) (by omega) Tok_h496 (fun w500 w501 xp502 Tok_h496t503 => ?_))
          show wp l rho (d + 3) 189 99 [(2, 151), (0, x1), (0, v300)] [(0, 0), (0, x1), (2, 170)] h496 Q
          have ps504 : h496 151 7 = h 151 7 := ((my_up_fld fh496 (by decide)).trans ((my_up_role fh2 is_151 is_168 rfl).trans (rfl : h 151 7 = h 151 7)))
          rw [ps504] at xp502
          have hi505 : 0 ≤ 0 := by omega
          have hi506 : 0 ≤ 2 := by omega
          refine w_iast gz_189_99 is_170 rd_69 (by omega) (by omega) (by omega) (by omega) (fun h507 fh507 => ?_)
          have gh507 : my_fr [(10, 7), (10, 8), (67, -1), (68, -1), (69, -1)] h h507 := my_fr.up gh496 is_170 fh507 rfl
          have Tok_h507 : Tok h507 := Tok_ag (my_ag.up fh507 is_170 rfl) Tok_h496t503
          have Mq_h507 : Mq h507 wv := Mq_u (a := 170) hwv (by decide) (by omega) fh507 Mq_h496
          have Wd9_h507 : Wd9 h507 := Wd9_ag (my_ag.up fh507 is_170 rfl) Wd9_h496
          have P6_h507 : h507 167 6 = h 167 6 := P6_ag (my_ag.up fh507 is_170 rfl) P6_h496
          have k170 := my_up_self fh507
          refine w_aload_n gz_189_100 rfl ?_
          refine w_bipush gz_189_101 (by decide) ?_
          have ce508 : h507 151 7 = v493 := ((my_up_role fh507 is_151 is_170 rfl).trans ((my_up_fld fh496 (by decide)).trans ev493.symm))
          have ce509 : h507 151 27 = v347 := ((my_up_role fh507 is_151 is_170 rfl).trans ((my_up_fld fh496 (by decide)).trans ev347.symm))
          refine w_inv (k := 0) (as := [(0, 9)]) (r := []) (x := 151) (ls0 := [(2, 151), (0, 9)]) gz_189_103 gm_175 rfl is_151 rd_10 rfl rfl rfl rfl rfl (c_Model_takeWord9_f1 (d := d)  ((5 + (16 * v494))) (((my_up_role fh507 is_151 is_170 rfl).trans (my_up_self fh496))) (by omega) (by omega) Tok_h507 Wd9_h507 (fun h510 frh510 w511 w512 xp513 xp514 Tok_h510t515 Wd9_h510t516 => ?_))
          have gh510 : my_fr [(10, 7), (10, 8), (67, -1), (68, -1), (69, -1)] h h510 := my_fr.tr gh507 (frh510.mo rfl)
          have Mq_h510 : Mq h510 wv := Mq_ag (my_ag.fr frh510 rfl) Mq_h507
          have Wd9_h510 : Wd9 h510 := Wd9_ag (my_ag.fr frh510 rfl) Wd9_h507
          have P6_h510 : h510 167 6 = h 167 6 := P6_ag (my_ag.fr frh510 rfl) P6_h507
          show wp l rho (d + 3) 189 106 [(2, 151), (0, x1), (0, v300)] [] h510 Q
          have ps517 : h507 151 7 = h 151 7 := ((my_up_role fh507 is_151 is_170 rfl).trans ((my_up_fld fh496 (by decide)).trans ((my_up_role fh2 is_151 is_168 rfl).trans (rfl : h 151 7 = h 151 7))))
          rw [ps517] at xp513
          rw [ps517] at xp514
          refine w_aload_n gz_189_106 rfl ?_
          refine w_getX (v := 169) gz_189_107 is_151 rd_10 rfl (by decide) rfl ?_
          refine w_iload_n gz_189_110 rfl ?_
          refine w_aload_n gz_189_111 rfl ?_
          refine w_aload_n gz_189_112 rfl ?_
          refine v_getI (j := 27) gz_189_113 rfl is_151 rd_10 rfl (fun v519 ev519 pv519 qv519 => ?_)
          have zv519 := ev519.trans ((my_fr.at frh510 is_151 rfl).trans ((my_up_role fh507 is_151 is_170 rfl).trans ((my_up_fld fh496 (by decide)).trans ev347.symm)))
          refine w_iconst gz_189_116 (by decide) ?_
          refine w_isub gz_189_117 ⟨by omega, by omega⟩ ?_
          have ce520 : h510 151 27 = v519 := ev519.symm
          refine w_inv (k := 0) (as := [(0, (v519 - 1))]) (r := [(0, x1), (2, 169)]) (x := 151) (ls0 := [(2, 151), (0, (v519 - 1))]) gz_189_118 gm_187 rfl is_151 rd_10 rfl rfl rfl rfl rfl (c_Model_takeNumber9_f1 (d := (d + 1)) (x1 := (v519 - 1)) (by omega) (by omega) ((5 + (16 * v494))) (((my_fr.at frh510 is_151 rfl).trans ((my_up_role fh507 is_151 is_170 rfl).trans (my_up_self fh496)))) (by omega) (by omega) Tok_h510t515 (fun w521 w522 xp523 Tok_h510t524 => ?_))
          show wp l rho (d + 3) 189 121 [(2, 151), (0, x1), (0, v300)] [(0, 0), (0, x1), (2, 169)] h510 Q
          have ps525 : h510 151 7 = ((h 151 7)) := xp514
          rw [ps525] at xp523
          have hi526 : 0 ≤ 0 := by omega
          have hi527 : 0 ≤ 7 := by omega
          refine w_iast gz_189_121 is_169 rd_68 (by omega) (by omega) (by omega) (by omega) (fun h528 fh528 => ?_)
          have gh528 : my_fr [(10, 7), (10, 8), (67, -1), (68, -1), (69, -1)] h h528 := my_fr.up gh510 is_169 fh528 rfl
          have Mq_h528 : Mq h528 wv := Mq_u (a := 169) hwv (by decide) (by omega) fh528 Mq_h510
          have Wd9_h528 : Wd9 h528 := Wd9_ag (my_ag.up fh528 is_169 rfl) Wd9_h510t516
          have P6_h528 : h528 167 6 = h 167 6 := P6_ag (my_ag.up fh528 is_169 rfl) P6_h510
          have Tok_h528 : Tok h528 := Tok_ag (my_ag.up fh528 is_169 rfl) Tok_h510t524
          have k169 := my_up_self fh528
          have psR : h528 151 7 = ((h 151 7)) := ((my_up_role fh528 is_151 is_169 rfl).trans xp514)
          have npsR : sm h528 = sm h := sm_eq (fun j => my_fr.at gh528 is_153 rfl) (fun j => my_fr.at gh528 is_154 rfl) (fun j => my_fr.at gh528 is_155 rfl)
          have ce529 : h528 151 7 = h510 151 7 := ((my_up_role fh528 is_151 is_169 rfl).trans (rfl : h510 151 7 = h510 151 7))
          have ce530 : h528 151 27 = v519 := ((my_up_role fh528 is_151 is_169 rfl).trans ev519.symm)
          have a168 : ∀ j : Int, h528 168 j = h2 168 j := fun j => ((my_up_role fh528 is_168 is_169 rfl).trans ((my_fr.at frh510 is_168 rfl).trans ((my_up_role fh507 is_168 is_170 rfl).trans ((my_up_role fh496 is_168 is_151 rfl).trans (rfl : h2 168 j = h2 168 j)))))
          have a170 : ∀ j : Int, h528 170 j = h507 170 j := fun j => ((my_up_role fh528 is_170 is_169 rfl).trans ((my_fr.at frh510 is_170 rfl).trans (rfl : h507 170 j = h507 170 j)))
          have a169 : ∀ j : Int, h528 169 j = h528 169 j := fun _ => rfl
          have a157 : ∀ j : Int, h528 157 j = h 157 j := fun j => ((my_up_role fh528 is_157 is_169 rfl).trans ((my_fr.at frh510 is_157 rfl).trans ((my_up_role fh507 is_157 is_170 rfl).trans ((my_up_role fh496 is_157 is_151 rfl).trans ((my_up_role fh2 is_157 is_168 rfl).trans (rfl : h 157 j = h 157 j))))))
          have c531 := ((my_up_role fh528 is_151 is_169 rfl).trans ((my_fr.at frh510 is_151 rfl).trans ((my_up_role fh507 is_151 is_170 rfl).trans (my_up_self fh496))))
          exact w_vret gz_189_122 gm_189 (k0 h528 (gh528) (by omega) (by omega) (by first | exact ⟨by rw [a168]; exact k168, by rw [a170, k170]; omega⟩ | (unfold joinM; first | exact Or.inr (Or.inr ⟨by omega, by omega, Or.inr (Or.inr ⟨by omega, by omega, Or.inr ⟨by omega, Or.inr (Or.inr ⟨by omega, by omega, ⟨by omega, by omega⟩⟩)⟩⟩)⟩) | exact Or.inr (Or.inr ⟨by omega, by omega, Or.inr (Or.inr ⟨by omega, by omega, Or.inr ⟨by omega, Or.inr (Or.inl ⟨by omega, by omega, by omega⟩)⟩⟩)⟩) | exact Or.inr (Or.inr ⟨by omega, by omega, Or.inr (Or.inr ⟨by omega, by omega, Or.inr ⟨by omega, Or.inl ⟨by omega, by omega⟩⟩⟩)⟩) | exact Or.inr (Or.inr ⟨by omega, by omega, Or.inr (Or.inr ⟨by omega, by omega, Or.inl ⟨by omega, by omega⟩⟩)⟩) | exact Or.inr (Or.inr ⟨by omega, by omega, Or.inr (Or.inl ⟨by omega, by omega, by omega⟩)⟩) | exact Or.inr (Or.inr ⟨by omega, by omega, Or.inl ⟨by omega, by omega⟩⟩) | exact Or.inr (Or.inl ⟨by omega, by omega, by omega⟩) | exact Or.inl ⟨by omega, by omega⟩) | omega | (exfalso; subst_vars; omega) | (exfalso; (try clear k0); (try clear k1); grind) | omega | (refine ⟨fun q => ?_, fun q => ?_⟩ <;> first | (rw [a168, k168] at q; omega) | (have kz := k170.trans (show _ = vz by omega); rw [a170, kz, a157]; omega)) | (refine ⟨fun q => ?_, fun q => ?_, fun q => ?_⟩ <;> first | (exfalso; rw [a168, k168] at q; omega) | (rw [a169, k169]; omega)) | omega) (by first | exact ⟨by rw [a168]; exact k168, by rw [a170, k170]; omega⟩ | (unfold joinM; first | exact Or.inr (Or.inr ⟨by omega, by omega, Or.inr (Or.inr ⟨by omega, by omega, Or.inr ⟨by omega, Or.inr (Or.inr ⟨by omega, by omega, ⟨by omega, by omega⟩⟩)⟩⟩)⟩) | exact Or.inr (Or.inr ⟨by omega, by omega, Or.inr (Or.inr ⟨by omega, by omega, Or.inr ⟨by omega, Or.inr (Or.inl ⟨by omega, by omega, by omega⟩)⟩⟩)⟩) | exact Or.inr (Or.inr ⟨by omega, by omega, Or.inr (Or.inr ⟨by omega, by omega, Or.inr ⟨by omega, Or.inl ⟨by omega, by omega⟩⟩⟩)⟩) | exact Or.inr (Or.inr ⟨by omega, by omega, Or.inr (Or.inr ⟨by omega, by omega, Or.inl ⟨by omega, by omega⟩⟩)⟩) | exact Or.inr (Or.inr ⟨by omega, by omega, Or.inr (Or.inl ⟨by omega, by omega, by omega⟩)⟩) | exact Or.inr (Or.inr ⟨by omega, by omega, Or.inl ⟨by omega, by omega⟩⟩) | exact Or.inr (Or.inl ⟨by omega, by omega, by omega⟩) | exact Or.inl ⟨by omega, by omega⟩) | omega | (exfalso; subst_vars; omega) | (exfalso; (try clear k0); (try clear k1); grind) | omega | (refine ⟨fun q => ?_, fun q => ?_⟩ <;> first | (rw [a168, k168] at q; omega) | (have kz := k170.trans (show _ = vz by omega); rw [a170, kz, a157]; omega)) | (refine ⟨fun q => ?_, fun q => ?_, fun q => ?_⟩ <;> first | (exfalso; rw [a168, k168] at q; omega) | (rw [a169, k169]; omega)) | omega) Tok_h528 Mq_h528 Wd9_h528)
theorem c_Model_readSum9_f0 {l : Launch} {rho : Nat → Int32} {d : Nat} {h : my_H} {Q : my_H → my_V → Prop} {x1 : Int} {wv : Int} (a1 : 36 ≤ x1) (b1 : x1 ≤ 41) (cf : h 151 8 = 0) (hwv : wv ≤ 5) (hwv0 : 0 ≤ wv) (n_Tok : Tok h) (n_Mq : Mq h wv) (n_Wd9 : Wd9 h) (hp : x1 = 36 + h 167 6) (k0 : ∀ (h' : my_H), my_fr [(10, 7), (10, 8), (67, -1), (68, -1), (69, -1)] h h' → 1 ≤ h' 151 8 → h' 151 8 ≤ 16004 → h 151 7 ≤ h' 151 7 → sumM (sm h) (h 151 7) (h 151 27) (h' 151 8) (h' 151 7) → Tok h' → Mq h' wv → Wd9 h' → Q h' (9, 0)) (k1 : ∀ (h' : my_H), my_fr [(10, 7), (10, 8), (67, -1), (68, -1), (69, -1)] h h' → 1 ≤ h' 151 7 → h' 151 7 ≤ 1001 → h' 151 8 = 0 → PaneOk h' x1 → Pk3 h' x1 (h' 151 27) → h 151 7 ≤ h' 151 7 → sumM (sm h) (h 151 7) (h 151 27) (h' 151 8) (h' 151 7) → h' 168 x1 = 5 → Tok h' → Mq h' wv → Wd9 h' → Q h' (9, 0)) : wp l rho (d + 3) 190 0 [(2, 151), (0, x1)] [] h Q := by
  refine v_know (x := 151) (j := 7) (b := 7) rfl is_151 rd_10 rfl (fun k151_7 ek151_7 pk151_7 qk151_7 => ?_)
  refine v_know (x := 151) (j := 27) (b := 27) rfl is_151 rd_10 rfl (fun k151_27 ek151_27 pk151_27 qk151_27 => ?_)
  refine w_aload_n gz_190_0 rfl ?_
  refine w_getX (v := 168) gz_190_1 is_151 rd_10 rfl (by decide) rfl ?_
  refine w_iload_n gz_190_4 rfl ?_
  refine w_iconst gz_190_5 (by decide) ?_
  refine w_iast gz_190_6 is_168 rd_67 (by omega) (by omega) (by omega) (by omega) (fun h2 fh2 => ?_)
  have gh2 : my_fr [(10, 7), (10, 8), (67, -1), (68, -1), (69, -1)] h h2 := my_fr.up my_fr.rf is_168 fh2 rfl
  have Tok_h2 : Tok h2 := Tok_ag (my_ag.up fh2 is_168 rfl) n_Tok
  have Mq_h2 : Mq h2 wv := Mq_u (a := 168) hwv (by decide) (by omega) fh2 n_Mq
  have Wd9_h2 : Wd9 h2 := Wd9_ag (my_ag.up fh2 is_168 rfl) n_Wd9
  have P6_h2 : h2 167 6 = h 167 6 := P6_ag (my_ag.up fh2 is_168 rfl) (rfl)
  have k168 : h2 168 x1 = 5 := my_up_self fh2
  refine w_aload_n gz_190_7 rfl ?_
  refine w_getX (v := 170) gz_190_8 is_151 rd_10 rfl (by decide) rfl ?_
  refine w_iload_n gz_190_11 rfl ?_
  refine w_aload_n gz_190_12 rfl ?_
  refine w_aload_n gz_190_13 rfl ?_
  refine v_getI (j := 27) gz_190_14 rfl is_151 rd_10 rfl (fun v4 ev4 pv4 qv4 => ?_)
  have zv4 := ev4.trans ((my_up_role fh2 is_151 is_168 rfl).trans ek151_27.symm)
  refine w_iconst gz_190_17 (by decide) ?_
  refine w_isub gz_190_18 ⟨by omega, by omega⟩ ?_
  have ce5 : h2 151 7 = k151_7 := ((my_up_role fh2 is_151 is_168 rfl).trans ek151_7.symm)
  have ce6 : h2 151 27 = v4 := ev4.symm
  refine w_inv (k := 0) (as := [(0, (v4 - 1))]) (r := [(0, x1), (2, 170)]) (x := 151) (ls0 := [(2, 151), (0, (v4 - 1))]) gz_190_19 gm_187 rfl is_151 rd_10 rfl rfl rfl rfl rfl (c_Model_takeNumber9_f0 (d := (d + 1)) (x1 := (v4 - 1)) (by omega) (by omega) (((my_up_role fh2 is_151 is_168 rfl).trans cf).trans (by omega)) Tok_h2 (fun h7 frh7 w8 w9 xp10 xp11 Tok_h7t12 => ?_) (fun h13 v14 frh13 w15 w16 w17 w18 w19 xp20 xp21 xp22 xp23 xp24 xp25 xp26 xp27 Tok_h13t28 => ?_))
  ·
    have gh7 : my_fr [(10, 7), (10, 8), (67, -1), (68, -1), (69, -1)] h h7 := my_fr.tr gh2 (frh7.mo rfl)
    have Mq_h7 : Mq h7 wv := Mq_ag (my_ag.fr frh7 rfl) Mq_h2
    have Wd9_h7 : Wd9 h7 := Wd9_ag (my_ag.fr frh7 rfl) Wd9_h2
    have P6_h7 : h7 167 6 = h 167 6 := P6_ag (my_ag.fr frh7 rfl) P6_h2
    show wp l rho (d + 3) 190 22 [(2, 151), (0, x1)] [(0, 0), (0, x1), (2, 170)] h7 Q
    have ps29 : h2 151 7 = h 151 7 := ((my_up_role fh2 is_151 is_168 rfl).trans (rfl : h 151 7 = h 151 7))
    rw [ps29] at xp10
    have tE30 : sm h2 = sm h := sm_eq (fun j => my_fr.at gh2 is_153 rfl) (fun j => my_fr.at gh2 is_154 rfl) (fun j => my_fr.at gh2 is_155 rfl)
    rw [tE30] at xp11
    rw [ps29] at xp11
    have hi31 : 0 ≤ 0 := by omega
    have hi32 : 0 ≤ 7 := by omega
    refine w_iast gz_190_22 is_170 rd_69 (by omega) (by omega) (by omega) (by omega) (fun h33 fh33 => ?_)
    have gh33 : my_fr [(10, 7), (10, 8), (67, -1), (68, -1), (69, -1)] h h33 := my_fr.up gh7 is_170 fh33 rfl
    have Mq_h33 : Mq h33 wv := Mq_u (a := 170) hwv (by decide) (by omega) fh33 Mq_h7
    have Wd9_h33 : Wd9 h33 := Wd9_ag (my_ag.up fh33 is_170 rfl) Wd9_h7
    have P6_h33 : h33 167 6 = h 167 6 := P6_ag (my_ag.up fh33 is_170 rfl) P6_h7
    have Tok_h33 : Tok h33 := Tok_ag (my_ag.up fh33 is_170 rfl) Tok_h7t12
    have k170 := my_up_self fh33
    refine w_aload_n gz_190_23 rfl ?_
    refine w_bipush gz_190_24 (by decide) ?_
    have ce34 : h33 151 7 = h7 151 7 := ((my_up_role fh33 is_151 is_170 rfl).trans (rfl : h7 151 7 = h7 151 7))
    have ce35 : h33 151 27 = v4 := ((my_up_role fh33 is_151 is_170 rfl).trans ((my_fr.at frh7 is_151 rfl).trans ev4.symm))
    refine w_inv (k := 0) (as := [(0, 9)]) (r := []) (x := 151) (ls0 := [(2, 151), (0, 9)]) gz_190_26 gm_175 rfl is_151 rd_10 rfl rfl rfl rfl rfl (c_Model_takeWord9_f1 (d := d)  ((h7 151 8)) (((my_up_role fh33 is_151 is_170 rfl).trans (rfl : h7 151 8 = h7 151 8))) (by omega) (by omega) Tok_h33 Wd9_h33 (fun h36 frh36 w37 w38 xp39 xp40 Tok_h36t41 Wd9_h36t42 => ?_))
    have gh36 : my_fr [(10, 7), (10, 8), (67, -1), (68, -1), (69, -1)] h h36 := my_fr.tr gh33 (frh36.mo rfl)
    have Mq_h36 : Mq h36 wv := Mq_ag (my_ag.fr frh36 rfl) Mq_h33
    have Wd9_h36 : Wd9 h36 := Wd9_ag (my_ag.fr frh36 rfl) Wd9_h33
    have P6_h36 : h36 167 6 = h 167 6 := P6_ag (my_ag.fr frh36 rfl) P6_h33
    show wp l rho (d + 3) 190 29 [(2, 151), (0, x1)] [] h36 Q
    have ps43 : h33 151 7 = ((h 151 7)) := ((my_up_role fh33 is_151 is_170 rfl).trans xp10)
    rw [ps43] at xp39
    rw [ps43] at xp40
    refine w_aload_n gz_190_29 rfl ?_
    refine v_getI (j := 8) gz_190_30 rfl is_151 rd_10 rfl (fun v44 ev44 pv44 qv44 => ?_)
    have zv44 := ev44.trans ((my_fr.at frh36 is_151 rfl).trans ((my_up_role fh33 is_151 is_170 rfl).trans (rfl : h7 151 8 = h7 151 8)))
    refine w_ifne (t := 74) gz_190_33 rfl (fun u45 => ?_) (fun u45 => by exfalso; omega)
    refine w_aload_n gz_190_74 rfl ?_
    refine w_getX (v := 169) gz_190_75 is_151 rd_10 rfl (by decide) rfl ?_
    refine w_iload_n gz_190_78 rfl ?_
    refine w_aload_n gz_190_79 rfl ?_
    refine w_aload_n gz_190_80 rfl ?_
    refine v_getI (j := 27) gz_190_81 rfl is_151 rd_10 rfl (fun v47 ev47 pv47 qv47 => ?_)
    have zv47 := ev47.trans ((my_fr.at frh36 is_151 rfl).trans ((my_up_role fh33 is_151 is_170 rfl).trans ((my_fr.at frh7 is_151 rfl).trans ev4.symm)))
    refine w_iconst gz_190_84 (by decide) ?_
    refine w_isub gz_190_85 ⟨by omega, by omega⟩ ?_
    have ce48 : h36 151 27 = v47 := ev47.symm
    refine w_inv (k := 0) (as := [(0, (v47 - 1))]) (r := [(0, x1), (2, 169)]) (x := 151) (ls0 := [(2, 151), (0, (v47 - 1))]) gz_190_86 gm_187 rfl is_151 rd_10 rfl rfl rfl rfl rfl (c_Model_takeNumber9_f1 (d := (d + 1)) (x1 := (v47 - 1)) (by omega) (by omega) (v44) (ev44.symm) (by omega) (by omega) Tok_h36t41 (fun w49 w50 xp51 Tok_h36t52 => ?_))
    show wp l rho (d + 3) 190 89 [(2, 151), (0, x1)] [(0, 0), (0, x1), (2, 169)] h36 Q
    have ps53 : h36 151 7 = ((((h 151 7)))) := xp40
    rw [ps53] at xp51
    have hi54 : 0 ≤ 0 := by omega
    have hi55 : 0 ≤ 7 := by omega
    refine w_iast gz_190_89 is_169 rd_68 (by omega) (by omega) (by omega) (by omega) (fun h56 fh56 => ?_)
    have gh56 : my_fr [(10, 7), (10, 8), (67, -1), (68, -1), (69, -1)] h h56 := my_fr.up gh36 is_169 fh56 rfl
    have Mq_h56 : Mq h56 wv := Mq_u (a := 169) hwv (by decide) (by omega) fh56 Mq_h36
    have Wd9_h56 : Wd9 h56 := Wd9_ag (my_ag.up fh56 is_169 rfl) Wd9_h36t42
    have P6_h56 : h56 167 6 = h 167 6 := P6_ag (my_ag.up fh56 is_169 rfl) P6_h36
    have Tok_h56 : Tok h56 := Tok_ag (my_ag.up fh56 is_169 rfl) Tok_h36t52
    have k169 := my_up_self fh56
    have psR : h56 151 7 = ((((h 151 7)))) := ((my_up_role fh56 is_151 is_169 rfl).trans xp40)
    have npsR : sm h56 = sm h := sm_eq (fun j => my_fr.at gh56 is_153 rfl) (fun j => my_fr.at gh56 is_154 rfl) (fun j => my_fr.at gh56 is_155 rfl)
    have ce57 : h56 151 7 = h36 151 7 := ((my_up_role fh56 is_151 is_169 rfl).trans (rfl : h36 151 7 = h36 151 7))
    have ce58 : h56 151 27 = v47 := ((my_up_role fh56 is_151 is_169 rfl).trans ev47.symm)
    have a168 : ∀ j : Int, h56 168 j = h2 168 j := fun j => ((my_up_role fh56 is_168 is_169 rfl).trans ((my_fr.at frh36 is_168 rfl).trans ((my_up_role fh33 is_168 is_170 rfl).trans ((my_fr.at frh7 is_168 rfl).trans (rfl : h2 168 j = h2 168 j)))))
    have a170 : ∀ j : Int, h56 170 j = h33 170 j := fun j => ((my_up_role fh56 is_170 is_169 rfl).trans ((my_fr.at frh36 is_170 rfl).trans (rfl : h33 170 j = h33 170 j)))
    have a169 : ∀ j : Int, h56 169 j = h56 169 j := fun _ => rfl
    have c59 := ((my_up_role fh56 is_151 is_169 rfl).trans ev44.symm)
    exact w_vret gz_190_90 gm_190 (k0 h56 (gh56) (by omega) (by omega) (by first | (rw [a168]; exact k168) | (unfold sumM; first | exact Or.inr (Or.inr ⟨by omega, by omega, Or.inr ⟨by omega, Or.inr ⟨by omega, Or.inr (Or.inr ⟨by omega, by omega, ⟨by omega, by omega⟩⟩)⟩⟩⟩) | exact Or.inr (Or.inr ⟨by omega, by omega, Or.inr ⟨by omega, Or.inr ⟨by omega, Or.inr (Or.inl ⟨by omega, by omega, by omega⟩)⟩⟩⟩) | exact Or.inr (Or.inr ⟨by omega, by omega, Or.inr ⟨by omega, Or.inr ⟨by omega, Or.inl ⟨by omega, by omega⟩⟩⟩⟩) | exact Or.inr (Or.inr ⟨by omega, by omega, Or.inr ⟨by omega, Or.inl ⟨by omega, by omega, by omega⟩⟩⟩) | exact Or.inr (Or.inr ⟨by omega, by omega, Or.inl ⟨by omega, by omega⟩⟩) | exact Or.inr (Or.inl ⟨by omega, by omega, by omega⟩) | exact Or.inl ⟨by omega, by omega⟩) | omega | (refine ⟨fun q => ?_, fun q => ?_⟩ <;> first | (rw [a168, k168] at q; omega) | (rw [a170, k170]; omega)) | (refine ⟨fun q => ?_, fun q => ?_, fun q => ?_⟩ <;> first | (exfalso; rw [a168, k168] at q; omega) | (rw [a169, k169]; omega) | (rw [a170, k170]; omega)) | omega) (by first | (rw [a168]; exact k168) | (unfold sumM; first | exact Or.inr (Or.inr ⟨by omega, by omega, Or.inr ⟨by omega, Or.inr ⟨by omega, Or.inr (Or.inr ⟨by omega, by omega, ⟨by omega, by omega⟩⟩)⟩⟩⟩) | exact Or.inr (Or.inr ⟨by omega, by omega, Or.inr ⟨by omega, Or.inr ⟨by omega, Or.inr (Or.inl ⟨by omega, by omega, by omega⟩)⟩⟩⟩) | exact Or.inr (Or.inr ⟨by omega, by omega, Or.inr ⟨by omega, Or.inr ⟨by omega, Or.inl ⟨by omega, by omega⟩⟩⟩⟩) | exact Or.inr (Or.inr ⟨by omega, by omega, Or.inr ⟨by omega, Or.inl ⟨by omega, by omega, by omega⟩⟩⟩) | exact Or.inr (Or.inr ⟨by omega, by omega, Or.inl ⟨by omega, by omega⟩⟩) | exact Or.inr (Or.inl ⟨by omega, by omega, by omega⟩) | exact Or.inl ⟨by omega, by omega⟩) | omega | (refine ⟨fun q => ?_, fun q => ?_⟩ <;> first | (rw [a168, k168] at q; omega) | (rw [a170, k170]; omega)) | (refine ⟨fun q => ?_, fun q => ?_, fun q => ?_⟩ <;> first | (exfalso; rw [a168, k168] at q; omega) | (rw [a169, k169]; omega) | (rw [a170, k170]; omega)) | omega) Tok_h56 Mq_h56 Wd9_h56)
  ·
    have gh13 : my_fr [(10, 7), (10, 8), (67, -1), (68, -1), (69, -1)] h h13 := my_fr.tr gh2 (frh13.mo rfl)
    have Mq_h13 : Mq h13 wv := Mq_ag (my_ag.fr frh13 rfl) Mq_h2
    have Wd9_h13 : Wd9 h13 := Wd9_ag (my_ag.fr frh13 rfl) Wd9_h2
    have P6_h13 : h13 167 6 = h 167 6 := P6_ag (my_ag.fr frh13 rfl) P6_h2
    show wp l rho (d + 3) 190 22 [(2, 151), (0, x1)] [(0, v14), (0, x1), (2, 170)] h13 Q
    have ps60 : h2 151 7 = h 151 7 := ((my_up_role fh2 is_151 is_168 rfl).trans (rfl : h 151 7 = h 151 7))
    rw [ps60] at xp22
    rw [ps60] at xp23
    rw [ps60] at xp24
    have tE61 : sm h2 = sm h := sm_eq (fun j => my_fr.at gh2 is_153 rfl) (fun j => my_fr.at gh2 is_154 rfl) (fun j => my_fr.at gh2 is_155 rfl)
    rw [tE61] at xp25
    rw [ps60] at xp25
    rw [tE61] at xp26
    rw [ps60] at xp26
    rw [tE61] at xp27
    rw [ps60] at xp27
    have hi62 : 0 ≤ v14 := by omega
    have hi63 : v14 ≤ 7 := by omega
    refine w_iast gz_190_22 is_170 rd_69 (by omega) (by omega) (by omega) (by omega) (fun h64 fh64 => ?_)
    have gh64 : my_fr [(10, 7), (10, 8), (67, -1), (68, -1), (69, -1)] h h64 := my_fr.up gh13 is_170 fh64 rfl
    have Mq_h64 : Mq h64 wv := Mq_u (a := 170) hwv (by decide) (by omega) fh64 Mq_h13
    have Wd9_h64 : Wd9 h64 := Wd9_ag (my_ag.up fh64 is_170 rfl) Wd9_h13
    have P6_h64 : h64 167 6 = h 167 6 := P6_ag (my_ag.up fh64 is_170 rfl) P6_h13
    have Tok_h64 : Tok h64 := Tok_ag (my_ag.up fh64 is_170 rfl) Tok_h13t28
    have k170 := my_up_self fh64
    refine w_aload_n gz_190_23 rfl ?_
    refine w_bipush gz_190_24 (by decide) ?_
    have ce65 : h64 151 7 = (h13 151 7) := ((my_up_role fh64 is_151 is_170 rfl).trans (rfl : h13 151 7 = h13 151 7))
    have ce66 : h64 151 27 = v4 := ((my_up_role fh64 is_151 is_170 rfl).trans ((my_fr.at frh13 is_151 rfl).trans ev4.symm))
    refine w_inv (k := 0) (as := [(0, 9)]) (r := []) (x := 151) (ls0 := [(2, 151), (0, 9)]) gz_190_26 gm_175 rfl is_151 rd_10 rfl rfl rfl rfl rfl (c_Model_takeWord9_f0 (d := d) (x1 := 9) (by omega) (by omega) (((my_up_role fh64 is_151 is_170 rfl).trans w19).trans (by omega)) Tok_h64 Wd9_h64 (fun h67 frh67 w68 w69 xp70 xp71 xp72 Tok_h67t73 Wd9_h67t74 => ?_) (fun h75 frh75 w76 w77 w78 xp79 xp80 xp81 Tok_h75t82 Wd9_h75t83 => ?_))
    ·
      have gh67 : my_fr [(10, 7), (10, 8), (67, -1), (68, -1), (69, -1)] h h67 := my_fr.tr gh64 (frh67.mo rfl)
      have Mq_h67 : Mq h67 wv := Mq_ag (my_ag.fr frh67 rfl) Mq_h64
      have Wd9_h67 : Wd9 h67 := Wd9_ag (my_ag.fr frh67 rfl) Wd9_h64
      have P6_h67 : h67 167 6 = h 167 6 := P6_ag (my_ag.fr frh67 rfl) P6_h64
      show wp l rho (d + 3) 190 29 [(2, 151), (0, x1)] [] h67 Q
      have ps84 : h64 151 7 = (sN (sm h) ((h 151 7))) := ((my_up_role fh64 is_151 is_170 rfl).trans xp25)
      rw [ps84] at xp70
      rw [show wm 9 = 99 from by decide] at xp71
      have tE85 : sm h64 = sm h := sm_eq (fun j => my_fr.at gh64 is_153 rfl) (fun j => my_fr.at gh64 is_154 rfl) (fun j => my_fr.at gh64 is_155 rfl)
      rw [tE85] at xp71
      rw [ps84] at xp71
      rw [tE85] at xp72
      rw [ps84] at xp72
      refine w_aload_n gz_190_29 rfl ?_
      refine v_getI (j := 8) gz_190_30 rfl is_151 rd_10 rfl (fun v86 ev86 pv86 qv86 => ?_)
      have zv86 := ev86.trans (rfl : h67 151 8 = h67 151 8)
      refine w_ifne (t := 74) gz_190_33 rfl (fun u87 => ?_) (fun u87 => by exfalso; omega)
      refine w_aload_n gz_190_74 rfl ?_
      refine w_getX (v := 169) gz_190_75 is_151 rd_10 rfl (by decide) rfl ?_
      refine w_iload_n gz_190_78 rfl ?_
      refine w_aload_n gz_190_79 rfl ?_
      refine w_aload_n gz_190_80 rfl ?_
      refine v_getI (j := 27) gz_190_81 rfl is_151 rd_10 rfl (fun v89 ev89 pv89 qv89 => ?_)
      have zv89 := ev89.trans ((my_fr.at frh67 is_151 rfl).trans ((my_up_role fh64 is_151 is_170 rfl).trans ((my_fr.at frh13 is_151 rfl).trans ev4.symm)))
      refine w_iconst gz_190_84 (by decide) ?_
      refine w_isub gz_190_85 ⟨by omega, by omega⟩ ?_
      have ce90 : h67 151 27 = v89 := ev89.symm
      refine w_inv (k := 0) (as := [(0, (v89 - 1))]) (r := [(0, x1), (2, 169)]) (x := 151) (ls0 := [(2, 151), (0, (v89 - 1))]) gz_190_86 gm_187 rfl is_151 rd_10 rfl rfl rfl rfl rfl (c_Model_takeNumber9_f1 (d := (d + 1)) (x1 := (v89 - 1)) (by omega) (by omega) (v86) (ev86.symm) (by omega) (by omega) Tok_h67t73 (fun w91 w92 xp93 Tok_h67t94 => ?_))
      show wp l rho (d + 3) 190 89 [(2, 151), (0, x1)] [(0, 0), (0, x1), (2, 169)] h67 Q
      have hi95 : 0 ≤ 0 := by omega
      have hi96 : 0 ≤ 7 := by omega
      refine w_iast gz_190_89 is_169 rd_68 (by omega) (by omega) (by omega) (by omega) (fun h97 fh97 => ?_)
      have gh97 : my_fr [(10, 7), (10, 8), (67, -1), (68, -1), (69, -1)] h h97 := my_fr.up gh67 is_169 fh97 rfl
      have Mq_h97 : Mq h97 wv := Mq_u (a := 169) hwv (by decide) (by omega) fh97 Mq_h67
      have Wd9_h97 : Wd9 h97 := Wd9_ag (my_ag.up fh97 is_169 rfl) Wd9_h67t74
      have P6_h97 : h97 167 6 = h 167 6 := P6_ag (my_ag.up fh97 is_169 rfl) P6_h67
      have Tok_h97 : Tok h97 := Tok_ag (my_ag.up fh97 is_169 rfl) Tok_h67t94
      have k169 := my_up_self fh97
      have psR : h97 151 7 = h67 151 7 := ((my_up_role fh97 is_151 is_169 rfl).trans (rfl : h67 151 7 = h67 151 7))
      have npsR : sm h97 = sm h := sm_eq (fun j => my_fr.at gh97 is_153 rfl) (fun j => my_fr.at gh97 is_154 rfl) (fun j => my_fr.at gh97 is_155 rfl)
      have ce98 : h97 151 7 = h67 151 7 := ((my_up_role fh97 is_151 is_169 rfl).trans (rfl : h67 151 7 = h67 151 7))
      have ce99 : h97 151 27 = v89 := ((my_up_role fh97 is_151 is_169 rfl).trans ev89.symm)
      have a168 : ∀ j : Int, h97 168 j = h2 168 j := fun j => ((my_up_role fh97 is_168 is_169 rfl).trans ((my_fr.at frh67 is_168 rfl).trans ((my_up_role fh64 is_168 is_170 rfl).trans ((my_fr.at frh13 is_168 rfl).trans (rfl : h2 168 j = h2 168 j)))))
      have a170 : ∀ j : Int, h97 170 j = h64 170 j := fun j => ((my_up_role fh97 is_170 is_169 rfl).trans ((my_fr.at frh67 is_170 rfl).trans (rfl : h64 170 j = h64 170 j)))
      have a169 : ∀ j : Int, h97 169 j = h97 169 j := fun _ => rfl
      have c100 := ((my_up_role fh97 is_151 is_169 rfl).trans ev86.symm)
      exact w_vret gz_190_90 gm_190 (k0 h97 (gh97) (by omega) (by omega) (by first | (rw [a168]; exact k168) | (unfold sumM; first | exact Or.inr (Or.inr ⟨by omega, by omega, Or.inr ⟨by omega, Or.inr ⟨by omega, Or.inr (Or.inr ⟨by omega, by omega, ⟨by omega, by omega⟩⟩)⟩⟩⟩) | exact Or.inr (Or.inr ⟨by omega, by omega, Or.inr ⟨by omega, Or.inr ⟨by omega, Or.inr (Or.inl ⟨by omega, by omega, by omega⟩)⟩⟩⟩) | exact Or.inr (Or.inr ⟨by omega, by omega, Or.inr ⟨by omega, Or.inr ⟨by omega, Or.inl ⟨by omega, by omega⟩⟩⟩⟩) | exact Or.inr (Or.inr ⟨by omega, by omega, Or.inr ⟨by omega, Or.inl ⟨by omega, by omega, by omega⟩⟩⟩) | exact Or.inr (Or.inr ⟨by omega, by omega, Or.inl ⟨by omega, by omega⟩⟩) | exact Or.inr (Or.inl ⟨by omega, by omega, by omega⟩) | exact Or.inl ⟨by omega, by omega⟩) | omega | (refine ⟨fun q => ?_, fun q => ?_⟩ <;> first | (rw [a168, k168] at q; omega) | (rw [a170, k170]; omega)) | (refine ⟨fun q => ?_, fun q => ?_, fun q => ?_⟩ <;> first | (exfalso; rw [a168, k168] at q; omega) | (rw [a169, k169]; omega) | (rw [a170, k170]; omega)) | omega) (by first | (rw [a168]; exact k168) | (unfold sumM; first | exact Or.inr (Or.inr ⟨by omega, by omega, Or.inr ⟨by omega, Or.inr ⟨by omega, Or.inr (Or.inr ⟨by omega, by omega, ⟨by omega, by omega⟩⟩)⟩⟩⟩) | exact Or.inr (Or.inr ⟨by omega, by omega, Or.inr ⟨by omega, Or.inr ⟨by omega, Or.inr (Or.inl ⟨by omega, by omega, by omega⟩)⟩⟩⟩) | exact Or.inr (Or.inr ⟨by omega, by omega, Or.inr ⟨by omega, Or.inr ⟨by omega, Or.inl ⟨by omega, by omega⟩⟩⟩⟩) | exact Or.inr (Or.inr ⟨by omega, by omega, Or.inr ⟨by omega, Or.inl ⟨by omega, by omega, by omega⟩⟩⟩) | exact Or.inr (Or.inr ⟨by omega, by omega, Or.inl ⟨by omega, by omega⟩⟩) | exact Or.inr (Or.inl ⟨by omega, by omega, by omega⟩) | exact Or.inl ⟨by omega, by omega⟩) | omega | (refine ⟨fun q => ?_, fun q => ?_⟩ <;> first | (rw [a168, k168] at q; omega) | (rw [a170, k170]; omega)) | (refine ⟨fun q => ?_, fun q => ?_, fun q => ?_⟩ <;> first | (exfalso; rw [a168, k168] at q; omega) | (rw [a169, k169]; omega) | (rw [a170, k170]; omega)) | omega) Tok_h97 Mq_h97 Wd9_h97)
    ·
      have gh75 : my_fr [(10, 7), (10, 8), (67, -1), (68, -1), (69, -1)] h h75 := my_fr.tr gh64 (frh75.mo rfl)
      have Mq_h75 : Mq h75 wv := Mq_ag (my_ag.fr frh75 rfl) Mq_h64
      have Wd9_h75 : Wd9 h75 := Wd9_ag (my_ag.fr frh75 rfl) Wd9_h64
      have P6_h75 : h75 167 6 = h 167 6 := P6_ag (my_ag.fr frh75 rfl) P6_h64
      show wp l rho (d + 3) 190 29 [(2, 151), (0, x1)] [] h75 Q
      have ps101 : h64 151 7 = (sN (sm h) ((h 151 7))) := ((my_up_role fh64 is_151 is_170 rfl).trans xp25)
      rw [ps101] at xp79
      have tE102 : sm h64 = sm h := sm_eq (fun j => my_fr.at gh64 is_153 rfl) (fun j => my_fr.at gh64 is_154 rfl) (fun j => my_fr.at gh64 is_155 rfl)
      rw [tE102] at xp80
      rw [ps101] at xp80
      rw [show wm 9 = 99 from by decide] at xp81
      rw [tE102] at xp81
      rw [ps101] at xp81
      refine w_aload_n gz_190_29 rfl ?_
      refine v_getI (j := 8) gz_190_30 rfl is_151 rd_10 rfl (fun v103 ev103 pv103 qv103 => ?_)
      have zv103 := ev103.trans w78
      refine w_ifne (t := 74) gz_190_33 rfl (fun u104 => by exfalso; omega) (fun u104 => ?_)
      refine w_aload_n gz_190_36 rfl ?_
      refine w_getX (v := 153) gz_190_37 is_151 rd_10 rfl (by decide) rfl ?_
      refine w_aload_n gz_190_40 rfl ?_
      refine v_getI (j := 7) gz_190_41 rfl is_151 rd_10 rfl (fun v106 ev106 pv106 qv106 => ?_)
      have zv106 := ev106.trans (rfl : h75 151 7 = h75 151 7)
      refine w_iald gz_190_44 is_153 rd_52 (by omega) (by omega) (fun v107 ev107 pv107 qv107 => ?_)
      have nz108a : h75 151 7 = (sN (sm h) (((sN (sm h) ((h 151 7)))))) := xp80
      have nz108 : (v107 ≠ 3 → sK (sm h) (sN (sm h) (((sN (sm h) ((h 151 7)))))) = v107) ∧ (v107 = 3 → sV (sm h) (sN (sm h) (((sN (sm h) ((h 151 7)))))) = 59 → sK (sm h) (sN (sm h) (((sN (sm h) ((h 151 7)))))) = 3) ∧ (v107 = 3 → sV (sm h) (sN (sm h) (((sN (sm h) ((h 151 7)))))) ≠ 59 → sK (sm h) (sN (sm h) (((sN (sm h) ((h 151 7)))))) = 4) := by
        have q := ev107.trans (my_fr.at (j := v106) gh75 is_153 rfl)
        rw [show (v106 : Int) = (sN (sm h) (((sN (sm h) ((h 151 7)))))) from by omega] at q
        exact sK_ld q
      refine w_iconst gz_190_45 (by decide) ?_
      refine w_icne (t := 74) gz_190_46 rfl (fun u109 => ?_) (fun u109 => ?_)
      ·
        refine w_aload_n gz_190_74 rfl ?_
        refine w_getX (v := 169) gz_190_75 is_151 rd_10 rfl (by decide) rfl ?_
        refine w_iload_n gz_190_78 rfl ?_
        refine w_aload_n gz_190_79 rfl ?_
        refine w_aload_n gz_190_80 rfl ?_
        refine v_getI (j := 27) gz_190_81 rfl is_151 rd_10 rfl (fun v111 ev111 pv111 qv111 => ?_)
        have zv111 := ev111.trans ((my_fr.at frh75 is_151 rfl).trans ((my_up_role fh64 is_151 is_170 rfl).trans ((my_fr.at frh13 is_151 rfl).trans ev4.symm)))
        refine w_iconst gz_190_84 (by decide) ?_
        refine w_isub gz_190_85 ⟨by omega, by omega⟩ ?_
        have ce112 : h75 151 7 = v106 := ev106.symm
        have ce113 : h75 151 27 = v111 := ev111.symm
        refine w_inv (k := 0) (as := [(0, (v111 - 1))]) (r := [(0, x1), (2, 169)]) (x := 151) (ls0 := [(2, 151), (0, (v111 - 1))]) gz_190_86 gm_187 rfl is_151 rd_10 rfl rfl rfl rfl rfl (c_Model_takeNumber9_f0 (d := (d + 1)) (x1 := (v111 - 1)) (by omega) (by omega) (ev103.symm.trans (by omega)) Tok_h75t82 (fun h114 frh114 w115 w116 xp117 xp118 Tok_h114t119 => ?_) (fun h120 v121 frh120 w122 w123 w124 w125 w126 xp127 xp128 xp129 xp130 xp131 xp132 xp133 xp134 Tok_h120t135 => ?_))
        ·
          have gh114 : my_fr [(10, 7), (10, 8), (67, -1), (68, -1), (69, -1)] h h114 := my_fr.tr gh75 (frh114.mo rfl)
          have Mq_h114 : Mq h114 wv := Mq_ag (my_ag.fr frh114 rfl) Mq_h75
          have Wd9_h114 : Wd9 h114 := Wd9_ag (my_ag.fr frh114 rfl) Wd9_h75t83
          have P6_h114 : h114 167 6 = h 167 6 := P6_ag (my_ag.fr frh114 rfl) P6_h75
          show wp l rho (d + 3) 190 89 [(2, 151), (0, x1)] [(0, 0), (0, x1), (2, 169)] h114 Q
          have ps136 : h75 151 7 = (sN (sm h) (((sN (sm h) ((h 151 7)))))) := xp80
          rw [ps136] at xp117
          have tE137 : sm h75 = sm h := sm_eq (fun j => my_fr.at gh75 is_153 rfl) (fun j => my_fr.at gh75 is_154 rfl) (fun j => my_fr.at gh75 is_155 rfl)
          rw [tE137] at xp118
          rw [ps136] at xp118
          have hi138 : 0 ≤ 0 := by omega
          have hi139 : 0 ≤ 7 := by omega
          refine w_iast gz_190_89 is_169 rd_68 (by omega) (by omega) (by omega) (by omega) (fun h140 fh140 => ?_)
          have gh140 : my_fr [(10, 7), (10, 8), (67, -1), (68, -1), (69, -1)] h h140 := my_fr.up gh114 is_169 fh140 rfl
          have Mq_h140 : Mq h140 wv := Mq_u (a := 169) hwv (by decide) (by omega) fh140 Mq_h114
          have Wd9_h140 : Wd9 h140 := Wd9_ag (my_ag.up fh140 is_169 rfl) Wd9_h114
          have P6_h140 : h140 167 6 = h 167 6 := P6_ag (my_ag.up fh140 is_169 rfl) P6_h114
          have Tok_h140 : Tok h140 := Tok_ag (my_ag.up fh140 is_169 rfl) Tok_h114t119
          have k169 := my_up_self fh140
          have psR : h140 151 7 = (((sN (sm h) (((sN (sm h) ((h 151 7)))))))) := ((my_up_role fh140 is_151 is_169 rfl).trans xp117)
          have npsR : sm h140 = sm h := sm_eq (fun j => my_fr.at gh140 is_153 rfl) (fun j => my_fr.at gh140 is_154 rfl) (fun j => my_fr.at gh140 is_155 rfl)
          have ce141 : h140 151 7 = h114 151 7 := ((my_up_role fh140 is_151 is_169 rfl).trans (rfl : h114 151 7 = h114 151 7))
          have ce142 : h140 151 27 = v111 := ((my_up_role fh140 is_151 is_169 rfl).trans ((my_fr.at frh114 is_151 rfl).trans ev111.symm))
          have a168 : ∀ j : Int, h140 168 j = h2 168 j := fun j => ((my_up_role fh140 is_168 is_169 rfl).trans ((my_fr.at frh114 is_168 rfl).trans ((my_fr.at frh75 is_168 rfl).trans ((my_up_role fh64 is_168 is_170 rfl).trans ((my_fr.at frh13 is_168 rfl).trans (rfl : h2 168 j = h2 168 j))))))
          have a170 : ∀ j : Int, h140 170 j = h64 170 j := fun j => ((my_up_role fh140 is_170 is_169 rfl).trans ((my_fr.at frh114 is_170 rfl).trans ((my_fr.at frh75 is_170 rfl).trans (rfl : h64 170 j = h64 170 j))))
          have a169 : ∀ j : Int, h140 169 j = h140 169 j := fun _ => rfl
          have c143 := ((my_up_role fh140 is_151 is_169 rfl).trans (rfl : h114 151 8 = h114 151 8))
          exact w_vret gz_190_90 gm_190 (k0 h140 (gh140) (by omega) (by omega) (by first | (rw [a168]; exact k168) | (unfold sumM; first | exact Or.inr (Or.inr ⟨by omega, by omega, Or.inr ⟨by omega, Or.inr ⟨by omega, Or.inr (Or.inr ⟨by omega, by omega, ⟨by omega, by omega⟩⟩)⟩⟩⟩) | exact Or.inr (Or.inr ⟨by omega, by omega, Or.inr ⟨by omega, Or.inr ⟨by omega, Or.inr (Or.inl ⟨by omega, by omega, by omega⟩)⟩⟩⟩) | exact Or.inr (Or.inr ⟨by omega, by omega, Or.inr ⟨by omega, Or.inr ⟨by omega, Or.inl ⟨by omega, by omega⟩⟩⟩⟩) | exact Or.inr (Or.inr ⟨by omega, by omega, Or.inr ⟨by omega, Or.inl ⟨by omega, by omega, by omega⟩⟩⟩) | exact Or.inr (Or.inr ⟨by omega, by omega, Or.inl ⟨by omega, by omega⟩⟩) | exact Or.inr (Or.inl ⟨by omega, by omega, by omega⟩) | exact Or.inl ⟨by omega, by omega⟩) | omega | (refine ⟨fun q => ?_, fun q => ?_⟩ <;> first | (rw [a168, k168] at q; omega) | (rw [a170, k170]; omega)) | (refine ⟨fun q => ?_, fun q => ?_, fun q => ?_⟩ <;> first | (exfalso; rw [a168, k168] at q; omega) | (rw [a169, k169]; omega) | (rw [a170, k170]; omega)) | omega) (by first | (rw [a168]; exact k168) | (unfold sumM; first | exact Or.inr (Or.inr ⟨by omega, by omega, Or.inr ⟨by omega, Or.inr ⟨by omega, Or.inr (Or.inr ⟨by omega, by omega, ⟨by omega, by omega⟩⟩)⟩⟩⟩) | exact Or.inr (Or.inr ⟨by omega, by omega, Or.inr ⟨by omega, Or.inr ⟨by omega, Or.inr (Or.inl ⟨by omega, by omega, by omega⟩)⟩⟩⟩) | exact Or.inr (Or.inr ⟨by omega, by omega, Or.inr ⟨by omega, Or.inr ⟨by omega, Or.inl ⟨by omega, by omega⟩⟩⟩⟩) | exact Or.inr (Or.inr ⟨by omega, by omega, Or.inr ⟨by omega, Or.inl ⟨by omega, by omega, by omega⟩⟩⟩) | exact Or.inr (Or.inr ⟨by omega, by omega, Or.inl ⟨by omega, by omega⟩⟩) | exact Or.inr (Or.inl ⟨by omega, by omega, by omega⟩) | exact Or.inl ⟨by omega, by omega⟩) | omega | (refine ⟨fun q => ?_, fun q => ?_⟩ <;> first | (rw [a168, k168] at q; omega) | (rw [a170, k170]; omega)) | (refine ⟨fun q => ?_, fun q => ?_, fun q => ?_⟩ <;> first | (exfalso; rw [a168, k168] at q; omega) | (rw [a169, k169]; omega) | (rw [a170, k170]; omega)) | omega) Tok_h140 Mq_h140 Wd9_h140)
        ·
          have gh120 : my_fr [(10, 7), (10, 8), (67, -1), (68, -1), (69, -1)] h h120 := my_fr.tr gh75 (frh120.mo rfl)
          have Mq_h120 : Mq h120 wv := Mq_ag (my_ag.fr frh120 rfl) Mq_h75
          have Wd9_h120 : Wd9 h120 := Wd9_ag (my_ag.fr frh120 rfl) Wd9_h75t83
          have P6_h120 : h120 167 6 = h 167 6 := P6_ag (my_ag.fr frh120 rfl) P6_h75
          show wp l rho (d + 3) 190 89 [(2, 151), (0, x1)] [(0, v121), (0, x1), (2, 169)] h120 Q
          have ps144 : h75 151 7 = (sN (sm h) (((sN (sm h) ((h 151 7)))))) := xp80
          rw [ps144] at xp129
          rw [ps144] at xp130
          rw [ps144] at xp131
          have tE145 : sm h75 = sm h := sm_eq (fun j => my_fr.at gh75 is_153 rfl) (fun j => my_fr.at gh75 is_154 rfl) (fun j => my_fr.at gh75 is_155 rfl)
          rw [tE145] at xp132
          rw [ps144] at xp132
          rw [tE145] at xp133
          rw [ps144] at xp133
          rw [tE145] at xp134
          rw [ps144] at xp134
          have hi146 : 0 ≤ v121 := by omega
          have hi147 : v121 ≤ 7 := by omega
          refine w_iast gz_190_89 is_169 rd_68 (by omega) (by omega) (by omega) (by omega) (fun h148 fh148 => ?_)
          have gh148 : my_fr [(10, 7), (10, 8), (67, -1), (68, -1), (69, -1)] h h148 := my_fr.up gh120 is_169 fh148 rfl
          have Mq_h148 : Mq h148 wv := Mq_u (a := 169) hwv (by decide) (by omega) fh148 Mq_h120
          have Wd9_h148 : Wd9 h148 := Wd9_ag (my_ag.up fh148 is_169 rfl) Wd9_h120
          have P6_h148 : h148 167 6 = h 167 6 := P6_ag (my_ag.up fh148 is_169 rfl) P6_h120
          have Tok_h148 : Tok h148 := Tok_ag (my_ag.up fh148 is_169 rfl) Tok_h120t135
          have k169 := my_up_self fh148
          have psR : h148 151 7 = (sN (sm h) (((sN (sm h) (((sN (sm h) ((h 151 7))))))))) := ((my_up_role fh148 is_151 is_169 rfl).trans xp132)
          have npsR : sm h148 = sm h := sm_eq (fun j => my_fr.at gh148 is_153 rfl) (fun j => my_fr.at gh148 is_154 rfl) (fun j => my_fr.at gh148 is_155 rfl)
          have ce149 : h148 151 7 = (h120 151 7) := ((my_up_role fh148 is_151 is_169 rfl).trans (rfl : h120 151 7 = h120 151 7))
          have ce150 : h148 151 27 = v111 := ((my_up_role fh148 is_151 is_169 rfl).trans ((my_fr.at frh120 is_151 rfl).trans ev111.symm))
          have a168 : ∀ j : Int, h148 168 j = h2 168 j := fun j => ((my_up_role fh148 is_168 is_169 rfl).trans ((my_fr.at frh120 is_168 rfl).trans ((my_fr.at frh75 is_168 rfl).trans ((my_up_role fh64 is_168 is_170 rfl).trans ((my_fr.at frh13 is_168 rfl).trans (rfl : h2 168 j = h2 168 j))))))
          have a170 : ∀ j : Int, h148 170 j = h64 170 j := fun j => ((my_up_role fh148 is_170 is_169 rfl).trans ((my_fr.at frh120 is_170 rfl).trans ((my_fr.at frh75 is_170 rfl).trans (rfl : h64 170 j = h64 170 j))))
          have a169 : ∀ j : Int, h148 169 j = h148 169 j := fun _ => rfl
          have c151 := ((my_up_role fh148 is_151 is_169 rfl).trans (rfl : h120 151 7 = h120 151 7))
          have c152 := ((my_up_role fh148 is_151 is_169 rfl).trans w126)
          exact w_vret gz_190_90 gm_190 (k1 h148 (gh148) (by omega) (by omega) (by omega) (by first | (rw [a168]; exact k168) | (unfold sumM; first | exact Or.inr (Or.inr ⟨by omega, by omega, Or.inr ⟨by omega, Or.inr ⟨by omega, Or.inr (Or.inr ⟨by omega, by omega, ⟨by omega, by omega⟩⟩)⟩⟩⟩) | exact Or.inr (Or.inr ⟨by omega, by omega, Or.inr ⟨by omega, Or.inr ⟨by omega, Or.inr (Or.inl ⟨by omega, by omega, by omega⟩)⟩⟩⟩) | exact Or.inr (Or.inr ⟨by omega, by omega, Or.inr ⟨by omega, Or.inr ⟨by omega, Or.inl ⟨by omega, by omega⟩⟩⟩⟩) | exact Or.inr (Or.inr ⟨by omega, by omega, Or.inr ⟨by omega, Or.inl ⟨by omega, by omega, by omega⟩⟩⟩) | exact Or.inr (Or.inr ⟨by omega, by omega, Or.inl ⟨by omega, by omega⟩⟩) | exact Or.inr (Or.inl ⟨by omega, by omega, by omega⟩) | exact Or.inl ⟨by omega, by omega⟩) | omega | (refine ⟨fun q => ?_, fun q => ?_⟩ <;> first | (rw [a168, k168] at q; omega) | (rw [a170, k170]; omega)) | (refine ⟨fun q => ?_, fun q => ?_, fun q => ?_⟩ <;> first | (exfalso; rw [a168, k168] at q; omega) | (rw [a169, k169]; omega) | (rw [a170, k170]; omega)) | omega) (by first | (rw [a168]; exact k168) | (unfold sumM; first | exact Or.inr (Or.inr ⟨by omega, by omega, Or.inr ⟨by omega, Or.inr ⟨by omega, Or.inr (Or.inr ⟨by omega, by omega, ⟨by omega, by omega⟩⟩)⟩⟩⟩) | exact Or.inr (Or.inr ⟨by omega, by omega, Or.inr ⟨by omega, Or.inr ⟨by omega, Or.inr (Or.inl ⟨by omega, by omega, by omega⟩)⟩⟩⟩) | exact Or.inr (Or.inr ⟨by omega, by omega, Or.inr ⟨by omega, Or.inr ⟨by omega, Or.inl ⟨by omega, by omega⟩⟩⟩⟩) | exact Or.inr (Or.inr ⟨by omega, by omega, Or.inr ⟨by omega, Or.inl ⟨by omega, by omega, by omega⟩⟩⟩) | exact Or.inr (Or.inr ⟨by omega, by omega, Or.inl ⟨by omega, by omega⟩⟩) | exact Or.inr (Or.inl ⟨by omega, by omega, by omega⟩) | exact Or.inl ⟨by omega, by omega⟩) | omega | (refine ⟨fun q => ?_, fun q => ?_⟩ <;> first | (rw [a168, k168] at q; omega) | (rw [a170, k170]; omega)) | (refine ⟨fun q => ?_, fun q => ?_, fun q => ?_⟩ <;> first | (exfalso; rw [a168, k168] at q; omega) | (rw [a169, k169]; omega) | (rw [a170, k170]; omega)) | omega) (by first | (rw [a168]; exact k168) | (unfold sumM; first | exact Or.inr (Or.inr ⟨by omega, by omega, Or.inr ⟨by omega, Or.inr ⟨by omega, Or.inr (Or.inr ⟨by omega, by omega, ⟨by omega, by omega⟩⟩)⟩⟩⟩) | exact Or.inr (Or.inr ⟨by omega, by omega, Or.inr ⟨by omega, Or.inr ⟨by omega, Or.inr (Or.inl ⟨by omega, by omega, by omega⟩)⟩⟩⟩) | exact Or.inr (Or.inr ⟨by omega, by omega, Or.inr ⟨by omega, Or.inr ⟨by omega, Or.inl ⟨by omega, by omega⟩⟩⟩⟩) | exact Or.inr (Or.inr ⟨by omega, by omega, Or.inr ⟨by omega, Or.inl ⟨by omega, by omega, by omega⟩⟩⟩) | exact Or.inr (Or.inr ⟨by omega, by omega, Or.inl ⟨by omega, by omega⟩⟩) | exact Or.inr (Or.inl ⟨by omega, by omega, by omega⟩) | exact Or.inl ⟨by omega, by omega⟩) | omega | (refine ⟨fun q => ?_, fun q => ?_⟩ <;> first | (rw [a168, k168] at q; omega) | (rw [a170, k170]; omega)) | (refine ⟨fun q => ?_, fun q => ?_, fun q => ?_⟩ <;> first | (exfalso; rw [a168, k168] at q; omega) | (rw [a169, k169]; omega) | (rw [a170, k170]; omega)) | omega) (by first | (rw [a168]; exact k168) | (unfold sumM; first | exact Or.inr (Or.inr ⟨by omega, by omega, Or.inr ⟨by omega, Or.inr ⟨by omega, Or.inr (Or.inr ⟨by omega, by omega, ⟨by omega, by omega⟩⟩)⟩⟩⟩) | exact Or.inr (Or.inr ⟨by omega, by omega, Or.inr ⟨by omega, Or.inr ⟨by omega, Or.inr (Or.inl ⟨by omega, by omega, by omega⟩)⟩⟩⟩) | exact Or.inr (Or.inr ⟨by omega, by omega, Or.inr ⟨by omega, Or.inr ⟨by omega, Or.inl ⟨by omega, by omega⟩⟩⟩⟩) | exact Or.inr (Or.inr ⟨by omega, by omega, Or.inr ⟨by omega, Or.inl ⟨by omega, by omega, by omega⟩⟩⟩) | exact Or.inr (Or.inr ⟨by omega, by omega, Or.inl ⟨by omega, by omega⟩⟩) | exact Or.inr (Or.inl ⟨by omega, by omega, by omega⟩) | exact Or.inl ⟨by omega, by omega⟩) | omega | (refine ⟨fun q => ?_, fun q => ?_⟩ <;> first | (rw [a168, k168] at q; omega) | (rw [a170, k170]; omega)) | (refine ⟨fun q => ?_, fun q => ?_, fun q => ?_⟩ <;> first | (exfalso; rw [a168, k168] at q; omega) | (rw [a169, k169]; omega) | (rw [a170, k170]; omega)) | omega) (by first | (rw [a168]; exact k168) | (unfold sumM; first | exact Or.inr (Or.inr ⟨by omega, by omega, Or.inr ⟨by omega, Or.inr ⟨by omega, Or.inr (Or.inr ⟨by omega, by omega, ⟨by omega, by omega⟩⟩)⟩⟩⟩) | exact Or.inr (Or.inr ⟨by omega, by omega, Or.inr ⟨by omega, Or.inr ⟨by omega, Or.inr (Or.inl ⟨by omega, by omega, by omega⟩)⟩⟩⟩) | exact Or.inr (Or.inr ⟨by omega, by omega, Or.inr ⟨by omega, Or.inr ⟨by omega, Or.inl ⟨by omega, by omega⟩⟩⟩⟩) | exact Or.inr (Or.inr ⟨by omega, by omega, Or.inr ⟨by omega, Or.inl ⟨by omega, by omega, by omega⟩⟩⟩) | exact Or.inr (Or.inr ⟨by omega, by omega, Or.inl ⟨by omega, by omega⟩⟩) | exact Or.inr (Or.inl ⟨by omega, by omega, by omega⟩) | exact Or.inl ⟨by omega, by omega⟩) | omega | (refine ⟨fun q => ?_, fun q => ?_⟩ <;> first | (rw [a168, k168] at q; omega) | (rw [a170, k170]; omega)) | (refine ⟨fun q => ?_, fun q => ?_, fun q => ?_⟩ <;> first | (exfalso; rw [a168, k168] at q; omega) | (rw [a169, k169]; omega) | (rw [a170, k170]; omega)) | omega) Tok_h148 Mq_h148 Wd9_h148)
      ·
        refine w_aload_n gz_190_49 rfl ?_
        refine w_getX (v := 155) gz_190_50 is_151 rd_10 rfl (by decide) rfl ?_
        refine w_aload_n gz_190_53 rfl ?_
        refine v_getI (j := 7) gz_190_54 rfl is_151 rd_10 rfl (fun v154 ev154 pv154 qv154 => ?_)
        have zv154 := ev154.trans ev106.symm
        refine w_lald gz_190_57 is_155 rd_54 (by omega) (by omega) (fun v155 ev155 pv155 => ?_)
        have nz156a : h75 151 7 = (sN (sm h) (((sN (sm h) ((h 151 7)))))) := xp80
        have nz156 : v155 = sV (sm h) (sN (sm h) (((sN (sm h) ((h 151 7)))))) := by
          have q := ev155.trans (my_fr.at (j := v154) gh75 is_155 rfl)
          rw [show (v154 : Int) = (sN (sm h) (((sN (sm h) ((h 151 7)))))) from by omega] at q
          exact q
        refine w_aload_n gz_190_58 rfl ?_
        refine w_getX (v := 170) gz_190_59 is_151 rd_10 rfl (by decide) rfl ?_
        refine w_iload_n gz_190_62 rfl ?_
        refine w_iald gz_190_63 is_170 rd_69 (by omega) (by omega) (fun v158 ev158 pv158 qv158 => ?_)
        have zv158 := ev158.trans ((my_fr.at frh75 is_170 rfl).trans (my_up_self fh64))
        refine w_i2l gz_190_64 ?_
        refine w_lcmpE gz_190_65 (fun v159 pv159 qv159 xv159 => ?_)
        refine w_ifne (t := 74) gz_190_66 rfl (fun u160 => ?_) (fun u160 => ?_)
        ·
          refine w_aload_n gz_190_74 rfl ?_
          refine w_getX (v := 169) gz_190_75 is_151 rd_10 rfl (by decide) rfl ?_
          refine w_iload_n gz_190_78 rfl ?_
          refine w_aload_n gz_190_79 rfl ?_
          refine w_aload_n gz_190_80 rfl ?_
          refine v_getI (j := 27) gz_190_81 rfl is_151 rd_10 rfl (fun v162 ev162 pv162 qv162 => ?_)
          have zv162 := ev162.trans ((my_fr.at frh75 is_151 rfl).trans ((my_up_role fh64 is_151 is_170 rfl).trans ((my_fr.at frh13 is_151 rfl).trans ev4.symm)))
          refine w_iconst gz_190_84 (by decide) ?_
          refine w_isub gz_190_85 ⟨by omega, by omega⟩ ?_
          have ce163 : h75 151 7 = v154 := ev154.symm
          have ce164 : h75 151 27 = v162 := ev162.symm
          refine w_inv (k := 0) (as := [(0, (v162 - 1))]) (r := [(0, x1), (2, 169)]) (x := 151) (ls0 := [(2, 151), (0, (v162 - 1))]) gz_190_86 gm_187 rfl is_151 rd_10 rfl rfl rfl rfl rfl (c_Model_takeNumber9_f0 (d := (d + 1)) (x1 := (v162 - 1)) (by omega) (by omega) (ev103.symm.trans (by omega)) Tok_h75t82 (fun h165 frh165 w166 w167 xp168 xp169 Tok_h165t170 => ?_) (fun h171 v172 frh171 w173 w174 w175 w176 w177 xp178 xp179 xp180 xp181 xp182 xp183 xp184 xp185 Tok_h171t186 => ?_))
          ·
            have gh165 : my_fr [(10, 7), (10, 8), (67, -1), (68, -1), (69, -1)] h h165 := my_fr.tr gh75 (frh165.mo rfl)
            have Mq_h165 : Mq h165 wv := Mq_ag (my_ag.fr frh165 rfl) Mq_h75
            have Wd9_h165 : Wd9 h165 := Wd9_ag (my_ag.fr frh165 rfl) Wd9_h75t83
            have P6_h165 : h165 167 6 = h 167 6 := P6_ag (my_ag.fr frh165 rfl) P6_h75
            show wp l rho (d + 3) 190 89 [(2, 151), (0, x1)] [(0, 0), (0, x1), (2, 169)] h165 Q
            have ps187 : h75 151 7 = (sN (sm h) (((sN (sm h) ((h 151 7)))))) := xp80
            rw [ps187] at xp168
            have tE188 : sm h75 = sm h := sm_eq (fun j => my_fr.at gh75 is_153 rfl) (fun j => my_fr.at gh75 is_154 rfl) (fun j => my_fr.at gh75 is_155 rfl)
            rw [tE188] at xp169
            rw [ps187] at xp169
            have hi189 : 0 ≤ 0 := by omega
            have hi190 : 0 ≤ 7 := by omega
            refine w_iast gz_190_89 is_169 rd_68 (by omega) (by omega) (by omega) (by omega) (fun h191 fh191 => ?_)
            have gh191 : my_fr [(10, 7), (10, 8), (67, -1), (68, -1), (69, -1)] h h191 := my_fr.up gh165 is_169 fh191 rfl
            have Mq_h191 : Mq h191 wv := Mq_u (a := 169) hwv (by decide) (by omega) fh191 Mq_h165
            have Wd9_h191 : Wd9 h191 := Wd9_ag (my_ag.up fh191 is_169 rfl) Wd9_h165
            have P6_h191 : h191 167 6 = h 167 6 := P6_ag (my_ag.up fh191 is_169 rfl) P6_h165
            have Tok_h191 : Tok h191 := Tok_ag (my_ag.up fh191 is_169 rfl) Tok_h165t170
            have k169 := my_up_self fh191
            have psR : h191 151 7 = (((sN (sm h) (((sN (sm h) ((h 151 7)))))))) := ((my_up_role fh191 is_151 is_169 rfl).trans xp168)
            have npsR : sm h191 = sm h := sm_eq (fun j => my_fr.at gh191 is_153 rfl) (fun j => my_fr.at gh191 is_154 rfl) (fun j => my_fr.at gh191 is_155 rfl)
            have ce192 : h191 151 7 = h165 151 7 := ((my_up_role fh191 is_151 is_169 rfl).trans (rfl : h165 151 7 = h165 151 7))
            have ce193 : h191 151 27 = v162 := ((my_up_role fh191 is_151 is_169 rfl).trans ((my_fr.at frh165 is_151 rfl).trans ev162.symm))
            have a168 : ∀ j : Int, h191 168 j = h2 168 j := fun j => ((my_up_role fh191 is_168 is_169 rfl).trans ((my_fr.at frh165 is_168 rfl).trans ((my_fr.at frh75 is_168 rfl).trans ((my_up_role fh64 is_168 is_170 rfl).trans ((my_fr.at frh13 is_168 rfl).trans (rfl : h2 168 j = h2 168 j))))))
            have a170 : ∀ j : Int, h191 170 j = h64 170 j := fun j => ((my_up_role fh191 is_170 is_169 rfl).trans ((my_fr.at frh165 is_170 rfl).trans ((my_fr.at frh75 is_170 rfl).trans (rfl : h64 170 j = h64 170 j))))
            have a169 : ∀ j : Int, h191 169 j = h191 169 j := fun _ => rfl
            have c194 := ((my_up_role fh191 is_151 is_169 rfl).trans (rfl : h165 151 8 = h165 151 8))
            exact w_vret gz_190_90 gm_190 (k0 h191 (gh191) (by omega) (by omega) (by first | (rw [a168]; exact k168) | (unfold sumM; first | exact Or.inr (Or.inr ⟨by omega, by omega, Or.inr ⟨by omega, Or.inr ⟨by omega, Or.inr (Or.inr ⟨by omega, by omega, ⟨by omega, by omega⟩⟩)⟩⟩⟩) | exact Or.inr (Or.inr ⟨by omega, by omega, Or.inr ⟨by omega, Or.inr ⟨by omega, Or.inr (Or.inl ⟨by omega, by omega, by omega⟩)⟩⟩⟩) | exact Or.inr (Or.inr ⟨by omega, by omega, Or.inr ⟨by omega, Or.inr ⟨by omega, Or.inl ⟨by omega, by omega⟩⟩⟩⟩) | exact Or.inr (Or.inr ⟨by omega, by omega, Or.inr ⟨by omega, Or.inl ⟨by omega, by omega, by omega⟩⟩⟩) | exact Or.inr (Or.inr ⟨by omega, by omega, Or.inl ⟨by omega, by omega⟩⟩) | exact Or.inr (Or.inl ⟨by omega, by omega, by omega⟩) | exact Or.inl ⟨by omega, by omega⟩) | omega | (refine ⟨fun q => ?_, fun q => ?_⟩ <;> first | (rw [a168, k168] at q; omega) | (rw [a170, k170]; omega)) | (refine ⟨fun q => ?_, fun q => ?_, fun q => ?_⟩ <;> first | (exfalso; rw [a168, k168] at q; omega) | (rw [a169, k169]; omega) | (rw [a170, k170]; omega)) | omega) (by first | (rw [a168]; exact k168) | (unfold sumM; first | exact Or.inr (Or.inr ⟨by omega, by omega, Or.inr ⟨by omega, Or.inr ⟨by omega, Or.inr (Or.inr ⟨by omega, by omega, ⟨by omega, by omega⟩⟩)⟩⟩⟩) | exact Or.inr (Or.inr ⟨by omega, by omega, Or.inr ⟨by omega, Or.inr ⟨by omega, Or.inr (Or.inl ⟨by omega, by omega, by omega⟩)⟩⟩⟩) | exact Or.inr (Or.inr ⟨by omega, by omega, Or.inr ⟨by omega, Or.inr ⟨by omega, Or.inl ⟨by omega, by omega⟩⟩⟩⟩) | exact Or.inr (Or.inr ⟨by omega, by omega, Or.inr ⟨by omega, Or.inl ⟨by omega, by omega, by omega⟩⟩⟩) | exact Or.inr (Or.inr ⟨by omega, by omega, Or.inl ⟨by omega, by omega⟩⟩) | exact Or.inr (Or.inl ⟨by omega, by omega, by omega⟩) | exact Or.inl ⟨by omega, by omega⟩) | omega | (refine ⟨fun q => ?_, fun q => ?_⟩ <;> first | (rw [a168, k168] at q; omega) | (rw [a170, k170]; omega)) | (refine ⟨fun q => ?_, fun q => ?_, fun q => ?_⟩ <;> first | (exfalso; rw [a168, k168] at q; omega) | (rw [a169, k169]; omega) | (rw [a170, k170]; omega)) | omega) Tok_h191 Mq_h191 Wd9_h191)
          ·
            have gh171 : my_fr [(10, 7), (10, 8), (67, -1), (68, -1), (69, -1)] h h171 := my_fr.tr gh75 (frh171.mo rfl)
            have Mq_h171 : Mq h171 wv := Mq_ag (my_ag.fr frh171 rfl) Mq_h75
            have Wd9_h171 : Wd9 h171 := Wd9_ag (my_ag.fr frh171 rfl) Wd9_h75t83
            have P6_h171 : h171 167 6 = h 167 6 := P6_ag (my_ag.fr frh171 rfl) P6_h75
            show wp l rho (d + 3) 190 89 [(2, 151), (0, x1)] [(0, v172), (0, x1), (2, 169)] h171 Q
            have ps195 : h75 151 7 = (sN (sm h) (((sN (sm h) ((h 151 7)))))) := xp80
            rw [ps195] at xp180
            rw [ps195] at xp181
            rw [ps195] at xp182
            have tE196 : sm h75 = sm h := sm_eq (fun j => my_fr.at gh75 is_153 rfl) (fun j => my_fr.at gh75 is_154 rfl) (fun j => my_fr.at gh75 is_155 rfl)
            rw [tE196] at xp183
            rw [ps195] at xp183
            rw [tE196] at xp184
            rw [ps195] at xp184
            rw [tE196] at xp185
            rw [ps195] at xp185
            have hi197 : 0 ≤ v172 := by omega
            have hi198 : v172 ≤ 7 := by omega
            refine w_iast gz_190_89 is_169 rd_68 (by omega) (by omega) (by omega) (by omega) (fun h199 fh199 => ?_)
            have gh199 : my_fr [(10, 7), (10, 8), (67, -1), (68, -1), (69, -1)] h h199 := my_fr.up gh171 is_169 fh199 rfl
            have Mq_h199 : Mq h199 wv := Mq_u (a := 169) hwv (by decide) (by omega) fh199 Mq_h171
            have Wd9_h199 : Wd9 h199 := Wd9_ag (my_ag.up fh199 is_169 rfl) Wd9_h171
            have P6_h199 : h199 167 6 = h 167 6 := P6_ag (my_ag.up fh199 is_169 rfl) P6_h171
            have Tok_h199 : Tok h199 := Tok_ag (my_ag.up fh199 is_169 rfl) Tok_h171t186
            have k169 := my_up_self fh199
            have psR : h199 151 7 = (sN (sm h) (((sN (sm h) (((sN (sm h) ((h 151 7))))))))) := ((my_up_role fh199 is_151 is_169 rfl).trans xp183)
            have npsR : sm h199 = sm h := sm_eq (fun j => my_fr.at gh199 is_153 rfl) (fun j => my_fr.at gh199 is_154 rfl) (fun j => my_fr.at gh199 is_155 rfl)
            have ce200 : h199 151 7 = (h171 151 7) := ((my_up_role fh199 is_151 is_169 rfl).trans (rfl : h171 151 7 = h171 151 7))
            have ce201 : h199 151 27 = v162 := ((my_up_role fh199 is_151 is_169 rfl).trans ((my_fr.at frh171 is_151 rfl).trans ev162.symm))
            have a168 : ∀ j : Int, h199 168 j = h2 168 j := fun j => ((my_up_role fh199 is_168 is_169 rfl).trans ((my_fr.at frh171 is_168 rfl).trans ((my_fr.at frh75 is_168 rfl).trans ((my_up_role fh64 is_168 is_170 rfl).trans ((my_fr.at frh13 is_168 rfl).trans (rfl : h2 168 j = h2 168 j))))))
            have a170 : ∀ j : Int, h199 170 j = h64 170 j := fun j => ((my_up_role fh199 is_170 is_169 rfl).trans ((my_fr.at frh171 is_170 rfl).trans ((my_fr.at frh75 is_170 rfl).trans (rfl : h64 170 j = h64 170 j))))
            have a169 : ∀ j : Int, h199 169 j = h199 169 j := fun _ => rfl
            have c202 := ((my_up_role fh199 is_151 is_169 rfl).trans (rfl : h171 151 7 = h171 151 7))
            have c203 := ((my_up_role fh199 is_151 is_169 rfl).trans w177)
            exact w_vret gz_190_90 gm_190 (k1 h199 (gh199) (by omega) (by omega) (by omega) (by first | (rw [a168]; exact k168) | (unfold sumM; first | exact Or.inr (Or.inr ⟨by omega, by omega, Or.inr ⟨by omega, Or.inr ⟨by omega, Or.inr (Or.inr ⟨by omega, by omega, ⟨by omega, by omega⟩⟩)⟩⟩⟩) | exact Or.inr (Or.inr ⟨by omega, by omega, Or.inr ⟨by omega, Or.inr ⟨by omega, Or.inr (Or.inl ⟨by omega, by omega, by omega⟩)⟩⟩⟩) | exact Or.inr (Or.inr ⟨by omega, by omega, Or.inr ⟨by omega, Or.inr ⟨by omega, Or.inl ⟨by omega, by omega⟩⟩⟩⟩) | exact Or.inr (Or.inr ⟨by omega, by omega, Or.inr ⟨by omega, Or.inl ⟨by omega, by omega, by omega⟩⟩⟩) | exact Or.inr (Or.inr ⟨by omega, by omega, Or.inl ⟨by omega, by omega⟩⟩) | exact Or.inr (Or.inl ⟨by omega, by omega, by omega⟩) | exact Or.inl ⟨by omega, by omega⟩) | omega | (refine ⟨fun q => ?_, fun q => ?_⟩ <;> first | (rw [a168, k168] at q; omega) | (rw [a170, k170]; omega)) | (refine ⟨fun q => ?_, fun q => ?_, fun q => ?_⟩ <;> first | (exfalso; rw [a168, k168] at q; omega) | (rw [a169, k169]; omega) | (rw [a170, k170]; omega)) | omega) (by first | (rw [a168]; exact k168) | (unfold sumM; first | exact Or.inr (Or.inr ⟨by omega, by omega, Or.inr ⟨by omega, Or.inr ⟨by omega, Or.inr (Or.inr ⟨by omega, by omega, ⟨by omega, by omega⟩⟩)⟩⟩⟩) | exact Or.inr (Or.inr ⟨by omega, by omega, Or.inr ⟨by omega, Or.inr ⟨by omega, Or.inr (Or.inl ⟨by omega, by omega, by omega⟩)⟩⟩⟩) | exact Or.inr (Or.inr ⟨by omega, by omega, Or.inr ⟨by omega, Or.inr ⟨by omega, Or.inl ⟨by omega, by omega⟩⟩⟩⟩) | exact Or.inr (Or.inr ⟨by omega, by omega, Or.inr ⟨by omega, Or.inl ⟨by omega, by omega, by omega⟩⟩⟩) | exact Or.inr (Or.inr ⟨by omega, by omega, Or.inl ⟨by omega, by omega⟩⟩) | exact Or.inr (Or.inl ⟨by omega, by omega, by omega⟩) | exact Or.inl ⟨by omega, by omega⟩) | omega | (refine ⟨fun q => ?_, fun q => ?_⟩ <;> first | (rw [a168, k168] at q; omega) | (rw [a170, k170]; omega)) | (refine ⟨fun q => ?_, fun q => ?_, fun q => ?_⟩ <;> first | (exfalso; rw [a168, k168] at q; omega) | (rw [a169, k169]; omega) | (rw [a170, k170]; omega)) | omega) (by first | (rw [a168]; exact k168) | (unfold sumM; first | exact Or.inr (Or.inr ⟨by omega, by omega, Or.inr ⟨by omega, Or.inr ⟨by omega, Or.inr (Or.inr ⟨by omega, by omega, ⟨by omega, by omega⟩⟩)⟩⟩⟩) | exact Or.inr (Or.inr ⟨by omega, by omega, Or.inr ⟨by omega, Or.inr ⟨by omega, Or.inr (Or.inl ⟨by omega, by omega, by omega⟩)⟩⟩⟩) | exact Or.inr (Or.inr ⟨by omega, by omega, Or.inr ⟨by omega, Or.inr ⟨by omega, Or.inl ⟨by omega, by omega⟩⟩⟩⟩) | exact Or.inr (Or.inr ⟨by omega, by omega, Or.inr ⟨by omega, Or.inl ⟨by omega, by omega, by omega⟩⟩⟩) | exact Or.inr (Or.inr ⟨by omega, by omega, Or.inl ⟨by omega, by omega⟩⟩) | exact Or.inr (Or.inl ⟨by omega, by omega, by omega⟩) | exact Or.inl ⟨by omega, by omega⟩) | omega | (refine ⟨fun q => ?_, fun q => ?_⟩ <;> first | (rw [a168, k168] at q; omega) | (rw [a170, k170]; omega)) | (refine ⟨fun q => ?_, fun q => ?_, fun q => ?_⟩ <;> first | (exfalso; rw [a168, k168] at q; omega) | (rw [a169, k169]; omega) | (rw [a170, k170]; omega)) | omega) (by first | (rw [a168]; exact k168) | (unfold sumM; first | exact Or.inr (Or.inr ⟨by omega, by omega, Or.inr ⟨by omega, Or.inr ⟨by omega, Or.inr (Or.inr ⟨by omega, by omega, ⟨by omega, by omega⟩⟩)⟩⟩⟩) | exact Or.inr (Or.inr ⟨by omega, by omega, Or.inr ⟨by omega, Or.inr ⟨by omega, Or.inr (Or.inl ⟨by omega, by omega, by omega⟩)⟩⟩⟩) | exact Or.inr (Or.inr ⟨by omega, by omega, Or.inr ⟨by omega, Or.inr ⟨by omega, Or.inl ⟨by omega, by omega⟩⟩⟩⟩) | exact Or.inr (Or.inr ⟨by omega, by omega, Or.inr ⟨by omega, Or.inl ⟨by omega, by omega, by omega⟩⟩⟩) | exact Or.inr (Or.inr ⟨by omega, by omega, Or.inl ⟨by omega, by omega⟩⟩) | exact Or.inr (Or.inl ⟨by omega, by omega, by omega⟩) | exact Or.inl ⟨by omega, by omega⟩) | omega | (refine ⟨fun q => ?_, fun q => ?_⟩ <;> first | (rw [a168, k168] at q; omega) | (rw [a170, k170]; omega)) | (refine ⟨fun q => ?_, fun q => ?_, fun q => ?_⟩ <;> first | (exfalso; rw [a168, k168] at q; omega) | (rw [a169, k169]; omega) | (rw [a170, k170]; omega)) | omega) (by first | (rw [a168]; exact k168) | (unfold sumM; first | exact Or.inr (Or.inr ⟨by omega, by omega, Or.inr ⟨by omega, Or.inr ⟨by omega, Or.inr (Or.inr ⟨by omega, by omega, ⟨by omega, by omega⟩⟩)⟩⟩⟩) | exact Or.inr (Or.inr ⟨by omega, by omega, Or.inr ⟨by omega, Or.inr ⟨by omega, Or.inr (Or.inl ⟨by omega, by omega, by omega⟩)⟩⟩⟩) | exact Or.inr (Or.inr ⟨by omega, by omega, Or.inr ⟨by omega, Or.inr ⟨by omega, Or.inl ⟨by omega, by omega⟩⟩⟩⟩) | exact Or.inr (Or.inr ⟨by omega, by omega, Or.inr ⟨by omega, Or.inl ⟨by omega, by omega, by omega⟩⟩⟩) | exact Or.inr (Or.inr ⟨by omega, by omega, Or.inl ⟨by omega, by omega⟩⟩) | exact Or.inr (Or.inl ⟨by omega, by omega, by omega⟩) | exact Or.inl ⟨by omega, by omega⟩) | omega | (refine ⟨fun q => ?_, fun q => ?_⟩ <;> first | (rw [a168, k168] at q; omega) | (rw [a170, k170]; omega)) | (refine ⟨fun q => ?_, fun q => ?_, fun q => ?_⟩ <;> first | (exfalso; rw [a168, k168] at q; omega) | (rw [a169, k169]; omega) | (rw [a170, k170]; omega)) | omega) Tok_h199 Mq_h199 Wd9_h199)
        ·
          refine w_aload_n gz_190_69 rfl ?_
          refine w_iconst gz_190_70 (by decide) ?_
          have ce204 : h75 151 7 = v154 := ev154.symm
          have ce205 : h75 151 27 = v4 := ((my_fr.at frh75 is_151 rfl).trans ((my_up_role fh64 is_151 is_170 rfl).trans ((my_fr.at frh13 is_151 rfl).trans ev4.symm)))
          refine w_inv (k := 0) (as := [(0, 3)]) (r := []) (x := 151) (ls0 := [(2, 151), (0, 3)]) gz_190_71 gm_178 rfl is_151 rd_10 rfl rfl rfl rfl rfl ?_
          refine w_aload_n gz_178_0 rfl ?_
          refine v_getI (j := 8) gz_178_1 rfl is_151 rd_10 rfl (fun v206 ev206 pv206 qv206 => ?_)
          have zv206 := ev206.trans ev103.symm
          refine w_ifne (t := 25) gz_178_4 rfl (fun u207 => by exfalso; omega) (fun u207 => ?_)
          refine w_aload_n gz_178_7 rfl ?_
          refine w_iload_n gz_178_8 rfl ?_
          refine w_bipush gz_178_9 (by decide) ?_
          refine w_aload_n gz_178_11 rfl ?_
          refine w_getX (v := 154) gz_178_12 is_151 rd_10 rfl (by decide) rfl ?_
          refine w_aload_n gz_178_15 rfl ?_
          refine v_getI (j := 7) gz_178_16 rfl is_151 rd_10 rfl (fun v209 ev209 pv209 qv209 => ?_)
          have zv209 := ev209.trans ev154.symm
          refine w_iald gz_178_19 is_154 rd_53 (by omega) (by omega) (fun v210 ev210 pv210 qv210 => ?_)
          have nz211a : h75 151 7 = (sN (sm h) (((sN (sm h) ((h 151 7)))))) := xp80
          have nz211 : v210 = sP (sm h) (sN (sm h) (((sN (sm h) ((h 151 7)))))) := by
            have q := ev210.trans (my_fr.at (j := v209) gh75 is_154 rfl)
            rw [show (v209 : Int) = (sN (sm h) (((sN (sm h) ((h 151 7)))))) from by omega] at q
            exact q
          refine w_imul gz_178_20 ⟨by omega, by omega⟩ ?_
          refine w_iadd gz_178_21 ⟨by omega, by omega⟩ ?_
          refine v_putI (j := 8) gz_178_22 rfl is_151 rd_10 rfl (by omega) (by omega) rfl (fun h212 fh212 => ?_)
          have gh212 : my_fr [(10, 7), (10, 8), (67, -1), (68, -1), (69, -1)] h h212 := my_fr.up gh75 is_151 fh212 rfl
          have Mq_h212 : Mq h212 wv := Mq_ag (my_ag.up fh212 is_151 rfl) Mq_h75
          have Wd9_h212 : Wd9 h212 := Wd9_ag (my_ag.up fh212 is_151 rfl) Wd9_h75t83
          have P6_h212 : h212 167 6 = h 167 6 := P6_ag (my_ag.up fh212 is_151 rfl) P6_h75
          have Tok_h212 : Tok h212 := Tok_ag (my_ag.up fh212 is_151 rfl) Tok_h75t82
          refine w_vret gz_178_25 gm_178 ?_
          show wp l rho (d + 3) 190 74 [(2, 151), (0, x1)] [] h212 Q
          refine w_aload_n gz_190_74 rfl ?_
          refine w_getX (v := 169) gz_190_75 is_151 rd_10 rfl (by decide) rfl ?_
          refine w_iload_n gz_190_78 rfl ?_
          refine w_aload_n gz_190_79 rfl ?_
          refine w_aload_n gz_190_80 rfl ?_
          refine v_getI (j := 27) gz_190_81 rfl is_151 rd_10 rfl (fun v214 ev214 pv214 qv214 => ?_)
          have zv214 := ev214.trans ((my_up_fld fh212 (by decide)).trans ((my_fr.at frh75 is_151 rfl).trans ((my_up_role fh64 is_151 is_170 rfl).trans ((my_fr.at frh13 is_151 rfl).trans ev4.symm))))
          refine w_iconst gz_190_84 (by decide) ?_
          refine w_isub gz_190_85 ⟨by omega, by omega⟩ ?_
          have ce215 : h212 151 7 = v209 := ((my_up_fld fh212 (by decide)).trans ev209.symm)
          have ce216 : h212 151 27 = v214 := ev214.symm
          refine w_inv (k := 0) (as := [(0, (v214 - 1))]) (r := [(0, x1), (2, 169)]) (x := 151) (ls0 := [(2, 151), (0, (v214 - 1))]) gz_190_86 gm_187 rfl is_151 rd_10 rfl rfl rfl rfl rfl (c_Model_takeNumber9_f1 (d := (d + 1)) (x1 := (v214 - 1)) (by omega) (by omega) ((3 + (16 * v210))) ((my_up_self fh212)) (by omega) (by omega) Tok_h212 (fun w217 w218 xp219 Tok_h212t220 => ?_))
          show wp l rho (d + 3) 190 89 [(2, 151), (0, x1)] [(0, 0), (0, x1), (2, 169)] h212 Q
          have ps221 : h212 151 7 = (sN (sm h) (((sN (sm h) ((h 151 7)))))) := ((my_up_fld fh212 (by decide)).trans xp80)
          rw [ps221] at xp219
          have hi222 : 0 ≤ 0 := by omega
          have hi223 : 0 ≤ 7 := by omega
          refine w_iast gz_190_89 is_169 rd_68 (by omega) (by omega) (by omega) (by omega) (fun h224 fh224 => ?_)
          have gh224 : my_fr [(10, 7), (10, 8), (67, -1), (68, -1), (69, -1)] h h224 := my_fr.up gh212 is_169 fh224 rfl
          have Mq_h224 : Mq h224 wv := Mq_u (a := 169) hwv (by decide) (by omega) fh224 Mq_h212
          have Wd9_h224 : Wd9 h224 := Wd9_ag (my_ag.up fh224 is_169 rfl) Wd9_h212
          have P6_h224 : h224 167 6 = h 167 6 := P6_ag (my_ag.up fh224 is_169 rfl) P6_h212
          have Tok_h224 : Tok h224 := Tok_ag (my_ag.up fh224 is_169 rfl) Tok_h212t220
          have k169 := my_up_self fh224
          have psR : h224 151 7 = (sN (sm h) (((sN (sm h) ((h 151 7)))))) := ((my_up_role fh224 is_151 is_169 rfl).trans ((my_up_fld fh212 (by decide)).trans xp80))
          have npsR : sm h224 = sm h := sm_eq (fun j => my_fr.at gh224 is_153 rfl) (fun j => my_fr.at gh224 is_154 rfl) (fun j => my_fr.at gh224 is_155 rfl)
          have ce225 : h224 151 7 = v209 := ((my_up_role fh224 is_151 is_169 rfl).trans ((my_up_fld fh212 (by decide)).trans ev209.symm))
          have ce226 : h224 151 27 = v214 := ((my_up_role fh224 is_151 is_169 rfl).trans ev214.symm)
          have a168 : ∀ j : Int, h224 168 j = h2 168 j := fun j => ((my_up_role fh224 is_168 is_169 rfl).trans ((my_up_role fh212 is_168 is_151 rfl).trans ((my_fr.at frh75 is_168 rfl).trans ((my_up_role fh64 is_168 is_170 rfl).trans ((my_fr.at frh13 is_168 rfl).trans (rfl : h2 168 j = h2 168 j))))))
          have a170 : ∀ j : Int, h224 170 j = h64 170 j := fun j => ((my_up_role fh224 is_170 is_169 rfl).trans ((my_up_role fh212 is_170 is_151 rfl).trans ((my_fr.at frh75 is_170 rfl).trans (rfl : h64 170 j = h64 170 j))))
          have a169 : ∀ j : Int, h224 169 j = h224 169 j := fun _ => rfl
          have c227 := ((my_up_role fh224 is_151 is_169 rfl).trans (my_up_self fh212))
          exact w_vret gz_190_90 gm_190 (k0 h224 (gh224) (by omega) (by omega) (by first | (rw [a168]; exact k168) | (unfold sumM; first | exact Or.inr (Or.inr ⟨by omega, by omega, Or.inr ⟨by omega, Or.inr ⟨by omega, Or.inr (Or.inr ⟨by omega, by omega, ⟨by omega, by omega⟩⟩)⟩⟩⟩) | exact Or.inr (Or.inr ⟨by omega, by omega, Or.inr ⟨by omega, Or.inr ⟨by omega, Or.inr (Or.inl ⟨by omega, by omega, by omega⟩)⟩⟩⟩) | exact Or.inr (Or.inr ⟨by omega, by omega, Or.inr ⟨by omega, Or.inr ⟨by omega, Or.inl ⟨by omega, by omega⟩⟩⟩⟩) | exact Or.inr (Or.inr ⟨by omega, by omega, Or.inr ⟨by omega, Or.inl ⟨by omega, by omega, by omega⟩⟩⟩) | exact Or.inr (Or.inr ⟨by omega, by omega, Or.inl ⟨by omega, by omega⟩⟩) | exact Or.inr (Or.inl ⟨by omega, by omega, by omega⟩) | exact Or.inl ⟨by omega, by omega⟩) | omega | (refine ⟨fun q => ?_, fun q => ?_⟩ <;> first | (rw [a168, k168] at q; omega) | (rw [a170, k170]; omega)) | (refine ⟨fun q => ?_, fun q => ?_, fun q => ?_⟩ <;> first | (exfalso; rw [a168, k168] at q; omega) | (rw [a169, k169]; omega) | (rw [a170, k170]; omega)) | omega) (by first | (rw [a168]; exact k168) | (unfold sumM; first | exact Or.inr (Or.inr ⟨by omega, by omega, Or.inr ⟨by omega, Or.inr ⟨by omega, Or.inr (Or.inr ⟨by omega, by omega, ⟨by omega, by omega⟩⟩)⟩⟩⟩) | exact Or.inr (Or.inr ⟨by omega, by omega, Or.inr ⟨by omega, Or.inr ⟨by omega, Or.inr (Or.inl ⟨by omega, by omega, by omega⟩)⟩⟩⟩) | exact Or.inr (Or.inr ⟨by omega, by omega, Or.inr ⟨by omega, Or.inr ⟨by omega, Or.inl ⟨by omega, by omega⟩⟩⟩⟩) | exact Or.inr (Or.inr ⟨by omega, by omega, Or.inr ⟨by omega, Or.inl ⟨by omega, by omega, by omega⟩⟩⟩) | exact Or.inr (Or.inr ⟨by omega, by omega, Or.inl ⟨by omega, by omega⟩⟩) | exact Or.inr (Or.inl ⟨by omega, by omega, by omega⟩) | exact Or.inl ⟨by omega, by omega⟩) | omega | (refine ⟨fun q => ?_, fun q => ?_⟩ <;> first | (rw [a168, k168] at q; omega) | (rw [a170, k170]; omega)) | (refine ⟨fun q => ?_, fun q => ?_, fun q => ?_⟩ <;> first | (exfalso; rw [a168, k168] at q; omega) | (rw [a169, k169]; omega) | (rw [a170, k170]; omega)) | omega) Tok_h224 Mq_h224 Wd9_h224)
theorem c_Reader_takeWord9_f0 {l : Launch} {rho : Nat → Int32} {d : Nat} {h : my_H} {Q : my_H → my_V → Prop} {x1 : Int} (s1 : 1 ≤ x1 ∧ x1 ≤ 12) (cf : h 82 9 = 0) (n_Al : Al h) (n_Cu : Cu h) (k0 : ∀ (h' : my_H), my_fr [(5, 5), (5, 6), (5, 7), (5, 8), (5, 9)] h h' → 1 ≤ h' 82 9 → h' 82 9 ≤ 16001 → sW (cs h) (h 82 7) ≠ wc x1 → h' 82 9 = 1 + 16 * h 82 7 → Al h' → Cu h' → Q h' (0, 0)) (k1 : ∀ (h' : my_H), my_fr [(5, 5), (5, 6), (5, 7), (5, 8), (5, 9)] h h' → h' 82 9 = 0 → h' 82 7 = sN (cs h) (h 82 7) → sW (cs h) (h 82 7) = wc x1 → Al h' → Cu h' → Q h' (0, 1)) : wp l rho (d + 5) 40 0 [(2, 82), (3, x1)] [] h Q := by
  have ck1 := Cu_s n_Cu
  refine w_aload_n gz_40_0 rfl ?_
  refine w_aload3_n gz_40_1 rfl ?_
  refine w_inv (k := 1) (as := [(3, x1)]) (r := []) (x := 82) (ls0 := [(2, 82), (3, x1), (9, 0)]) gz_40_2 gm_41 rfl is_82 rd_5 rfl rfl rfl rfl rfl (c_Reader_isWord9_f0 (d := d) (x1 := x1) s1 (cf.trans (by omega)) n_Cu (fun w2 xp3 => ?_) (fun w4 w5 xp6 => ?_))
  ·
    show wp l rho (d + 5) 40 5 [(2, 82), (3, x1)] [(0, 0)] h Q
    refine w_ifne (t := 15) gz_40_5 rfl (fun u7 => by exfalso; omega) (fun u7 => ?_)
    refine w_aload_n gz_40_8 rfl ?_
    refine w_iconst gz_40_9 (by decide) ?_
    refine w_inv (k := 0) (as := [(0, 1)]) (r := []) (x := 82) (ls0 := [(2, 82), (0, 1)]) gz_40_10 gm_42 rfl is_82 rd_5 rfl rfl rfl rfl rfl ?_
    refine w_aload_n gz_42_0 rfl ?_
    refine v_getI (j := 9) gz_42_1 rfl is_82 rd_5 rfl (fun v8 ev8 pv8 qv8 => ?_)
    have zv8 := ev8.trans cf
    refine w_ifne (t := 20) gz_42_4 rfl (fun u9 => by exfalso; omega) (fun u9 => ?_)
    refine w_aload_n gz_42_7 rfl ?_
    refine w_iload_n gz_42_8 rfl ?_
    refine w_bipush gz_42_9 (by decide) ?_
    refine w_aload_n gz_42_11 rfl ?_
    refine v_getI (j := 7) gz_42_12 rfl is_82 rd_5 rfl (fun v10 ev10 pv10 qv10 => ?_)
    refine w_imul gz_42_15 ⟨by omega, by omega⟩ ?_
    refine w_iadd gz_42_16 ⟨by omega, by omega⟩ ?_
    refine v_putI (j := 9) gz_42_17 rfl is_82 rd_5 rfl (by omega) (by omega) rfl (fun h11 fh11 => ?_)
    have gh11 : my_fr [(5, 5), (5, 6), (5, 7), (5, 8), (5, 9)] h h11 := my_fr.up my_fr.rf is_82 fh11 rfl
    have Al_h11 : Al h11 := Al_ag (my_ag.up fh11 is_82 rfl) n_Al
    have Cu_h11 : Cu h11 := Cu_ag (my_ag.up fh11 is_82 rfl) n_Cu
    refine w_vret gz_42_20 gm_42 ?_
    show wp l rho (d + 5) 40 13 [(2, 82), (3, x1)] [] h11 Q
    refine w_iconst gz_40_13 (by decide) ?_
    have psR : h11 82 7 = h 82 7 := ((my_up_fld fh11 (by decide)).trans (rfl : h 82 7 = h 82 7))
    have npsR : cs h11 = cs h := cs_eq (fun j => my_fr.at gh11 is_92 rfl) (my_fr.at gh11 is_82 rfl)
    have c12 := (my_up_self fh11)
    exact w_bret gz_40_14 gm_40 (by omega) (by omega) (k0 h11 (gh11) (by omega) (by omega) (by first | assumption | omega | (subst_vars; omega) | omega) (by first | assumption | omega | (subst_vars; omega) | omega) Al_h11 Cu_h11)
  ·
    show wp l rho (d + 5) 40 5 [(2, 82), (3, x1)] [(0, 1)] h Q
    refine w_ifne (t := 15) gz_40_5 rfl (fun u13 => ?_) (fun u13 => by exfalso; omega)
    refine w_aload_n gz_40_15 rfl ?_
    refine w_inv (k := 2) (as := []) (r := []) (x := 82) (ls0 := [(2, 82), (9, 0), (9, 0)]) gz_40_16 gm_37 rfl is_82 rd_5 rfl rfl rfl rfl rfl (c_Reader_nextToken9_f0 (d := (d + 3))  (cf.trans (by omega)) n_Al (fun h14 frh14 w15 w16 w17 xp18 xp19 Al_h14t20 Cu_h14t21 => ?_))
    have gh14 : my_fr [(5, 5), (5, 6), (5, 7), (5, 8), (5, 9)] h h14 := my_fr.tr my_fr.rf (frh14.mo rfl)
    show wp l rho (d + 5) 40 19 [(2, 82), (3, x1)] [] h14 Q
    have xc22 := xp18 n_Cu
    have ck23 := Cu_s Cu_h14t21
    rw [show cs h14 = cs h from cs_eq (fun j => my_fr.at gh14 is_92 rfl) (my_fr.at gh14 is_82 rfl)] at ck23
    rw [show h14 82 7 = (sN (cs h) (h 82 7)) from xc22] at ck23
    refine w_iconst gz_40_19 (by decide) ?_
    have psR : h14 82 7 = (sN (cs h) (h 82 7)) := xc22
    have npsR : cs h14 = cs h := cs_eq (fun j => my_fr.at gh14 is_92 rfl) (my_fr.at gh14 is_82 rfl)
    have c24 := ((my_fr.at frh14 is_82 rfl).trans cf)
    exact w_bret gz_40_20 gm_40 (by omega) (by omega) (k1 h14 (gh14) (by omega) (by first | assumption | omega | (subst_vars; omega) | omega) (by first | assumption | omega | (subst_vars; omega) | omega) Al_h14t20 Cu_h14t21)
theorem c_Reader_endPart9_f0 {l : Launch} {rho : Nat → Int32} {d : Nat} {h : my_H} {Q : my_H → my_V → Prop} (cf : h 82 9 = 0) (n_Al : Al h) (n_Cu : Cu h) (k0 : ∀ (h' : my_H), my_fr [(5, 5), (5, 6), (5, 7), (5, 8), (5, 9)] h h' → 1 ≤ h' 82 9 → h' 82 9 ≤ 16001 → sK (cs h) (sN (cs h) (h 82 7)) ≠ 3 → h' 82 9 = 1 + 16 * sN (cs h) (h 82 7) → Al h' → Cu h' → Q h' (9, 0)) (k1 : ∀ (h' : my_H), my_fr [(5, 5), (5, 6), (5, 7), (5, 8), (5, 9)] h h' → h' 82 9 = 0 → h' 82 7 = sN (cs h) (sN (cs h) (h 82 7)) → sK (cs h) (sN (cs h) (h 82 7)) = 3 → Al h' → Cu h' → Q h' (9, 0)) : wp l rho (d + 3) 46 0 [(2, 82)] [] h Q := by
  have ck1 := Cu_s n_Cu
  refine w_aload_n gz_46_0 rfl ?_
  refine w_inv (k := 2) (as := []) (r := []) (x := 82) (ls0 := [(2, 82), (9, 0), (9, 0)]) gz_46_1 gm_37 rfl is_82 rd_5 rfl rfl rfl rfl rfl (c_Reader_nextToken9_f0 (d := (d + 1))  (cf.trans (by omega)) n_Al (fun h2 frh2 w3 w4 w5 xp6 xp7 Al_h2t8 Cu_h2t9 => ?_))
  have gh2 : my_fr [(5, 5), (5, 6), (5, 7), (5, 8), (5, 9)] h h2 := my_fr.tr my_fr.rf (frh2.mo rfl)
  show wp l rho (d + 3) 46 4 [(2, 82)] [] h2 Q
  have xc10 := xp6 n_Cu
  have ck11 := Cu_s Cu_h2t9
  rw [show cs h2 = cs h from cs_eq (fun j => my_fr.at gh2 is_92 rfl) (my_fr.at gh2 is_82 rfl)] at ck11
  rw [show h2 82 7 = (sN (cs h) (h 82 7)) from xc10] at ck11
  refine w_aload_n gz_46_4 rfl ?_
  refine w_inv (k := 0) (as := []) (r := []) (x := 82) (ls0 := [(2, 82)]) gz_46_5 gm_47 rfl is_82 rd_5 rfl rfl rfl rfl rfl (c_Reader_endsHere9_f0 (d := d)  (((my_fr.at frh2 is_82 rfl).trans cf).trans (by omega)) Al_h2t8 Cu_h2t9 (fun h12 frh12 w13 w14 xp15 xp16 Al_h12t17 Cu_h12t18 => ?_) (fun h19 frh19 w20 xp21 xp22 Al_h19t23 Cu_h19t24 => ?_))
  ·
    have gh12 : my_fr [(5, 5), (5, 6), (5, 7), (5, 8), (5, 9)] h h12 := my_fr.tr gh2 (frh12.mo rfl)
    show wp l rho (d + 3) 46 8 [(2, 82)] [(0, 0)] h12 Q
    have tE25 : cs h2 = cs h := cs_eq (fun j => my_fr.at gh2 is_92 rfl) (my_fr.at gh2 is_82 rfl)
    rw [tE25] at xp15
    have ps26 : h2 82 7 = (sN (cs h) (h 82 7)) := xc10
    rw [ps26] at xp15
    rw [ps26] at xp16
    refine w_pop gz_46_8 rfl ?_
    have psR : h12 82 7 = h12 82 7 := (rfl : h12 82 7 = h12 82 7)
    have npsR : cs h12 = cs h := cs_eq (fun j => my_fr.at gh12 is_92 rfl) (my_fr.at gh12 is_82 rfl)
    have c27 := (rfl : h12 82 9 = h12 82 9)
    exact w_vret gz_46_9 gm_46 (k0 h12 (gh12) (by omega) (by omega) (by first | assumption | omega | (subst_vars; omega) | omega) (by first | assumption | omega | (subst_vars; omega) | omega) Al_h12t17 Cu_h12t18)
  ·
    have gh19 : my_fr [(5, 5), (5, 6), (5, 7), (5, 8), (5, 9)] h h19 := my_fr.tr gh2 (frh19.mo rfl)
    show wp l rho (d + 3) 46 8 [(2, 82)] [(0, 1)] h19 Q
    have tE28 : cs h2 = cs h := cs_eq (fun j => my_fr.at gh2 is_92 rfl) (my_fr.at gh2 is_82 rfl)
    rw [tE28] at xp21
    have ps29 : h2 82 7 = (sN (cs h) (h 82 7)) := xc10
    rw [ps29] at xp21
    rw [tE28] at xp22
    rw [ps29] at xp22
    have ck30 := Cu_s Cu_h19t24
    rw [show cs h19 = cs h from cs_eq (fun j => my_fr.at gh19 is_92 rfl) (my_fr.at gh19 is_82 rfl)] at ck30
    rw [show h19 82 7 = (sN (cs h) (((sN (cs h) (h 82 7))))) from xp21] at ck30
    refine w_pop gz_46_8 rfl ?_
    have psR : h19 82 7 = (sN (cs h) (((sN (cs h) (h 82 7))))) := xp21
    have npsR : cs h19 = cs h := cs_eq (fun j => my_fr.at gh19 is_92 rfl) (my_fr.at gh19 is_82 rfl)
    have c31 := w20
    exact w_vret gz_46_9 gm_46 (k1 h19 (gh19) (by omega) (by first | assumption | omega | (subst_vars; omega) | omega) (by first | assumption | omega | (subst_vars; omega) | omega) Al_h19t23 Cu_h19t24)
theorem c_Reader_readFill9_f0 {l : Launch} {rho : Nat → Int32} {d : Nat} {h : my_H} {Q : my_H → my_V → Prop} (cf : h 82 9 = 0) (n_Al : Al h) (n_Cu : Cu h) (k0 : ∀ (h' : my_H), my_fr [(5, 5), (5, 6), (5, 7), (5, 8), (5, 9), (38, -1)] h h' → 1 ≤ h' 82 9 → h' 82 9 ≤ 16004 → fillR (cs h) (h 82 7) (h (h 82 2) 3) (h' 82 9) (h' 82 7) → Al h' → Cu h' → Q h' (9, 0)) (k1 : ∀ (h' : my_H), my_fr [(5, 5), (5, 6), (5, 7), (5, 8), (5, 9), (38, -1)] h h' → h' 82 9 = 0 → fillR (cs h) (h 82 7) (h (h 82 2) 3) (h' 82 9) (h' 82 7) → Al h' → Cu h' → Q h' (9, 0)) : wp l rho (d + 3) 50 0 [(2, 82), (9, 0), (9, 0)] [] h Q := by
  have ck1 := Cu_s n_Cu
  refine w_aload_n gz_50_0 rfl ?_
  refine w_aload_n gz_50_1 rfl ?_
  refine v_getR (j := 2) gz_50_2 rfl is_82 rd_5 rfl (fun v2 ev2 tv2 => ?_)
  have ce3 : h 82 2 = v2 := ev2.symm
  have sE5 : v2 = h 82 2 := by first | assumption | omega
  refine v_getI (j := 3) gz_50_5 rfl tv2 rd_4 rfl (fun v4 ev4 pv4 qv4 => ?_)
  have c8 : v4 = h (h 82 2) 3 := by rw [← sE5]; omega
  refine w_inv (k := 1) (as := [(0, v4)]) (r := []) (x := 82) (ls0 := [(2, 82), (0, v4), (9, 0)]) gz_50_8 gm_51 rfl is_82 rd_5 rfl rfl rfl rfl rfl (c_Reader_takeNumber9_f0 (d := d) (x1 := v4) (by omega) (by omega) (cf.trans (by omega)) n_Al n_Cu (fun h5 frh5 w6 w7 xp8 Al_h5t9 Cu_h5t10 => ?_) (fun h11 v12 frh11 w13 w14 w15 w16 w17 xp18 xp19 xp20 Al_h11t21 Cu_h11t22 => ?_))
  ·
    have gh5 : my_fr [(5, 5), (5, 6), (5, 7), (5, 8), (5, 9), (38, -1)] h h5 := my_fr.tr my_fr.rf (frh5.mo rfl)
    show wp l rho (d + 3) 50 11 [(2, 82), (9, 0), (9, 0)] [(0, (-1))] h5 Q
    refine w_istore_n (ls' := [(2, 82), (0, (-1)), (9, 0)]) gz_50_11 gm_50 rfl rfl rfl ?_
    refine w_aload_n gz_50_12 rfl ?_
    refine w_bipush gz_50_13 (by decide) ?_
    refine w_inv (k := 1) (as := [(0, 20)]) (r := []) (x := 82) (ls0 := [(2, 82), (0, 20), (9, 0)]) gz_50_15 gm_51 rfl is_82 rd_5 rfl rfl rfl rfl rfl (c_Reader_takeNumber9_f1 (d := d) (x1 := 20) (by omega) (by omega) ((h5 82 9)) ((rfl : h5 82 9 = h5 82 9)) (by omega) (by omega) Al_h5t9 Cu_h5t10 (fun w23 w24 Al_h5t25 Cu_h5t26 => ?_))
    show wp l rho (d + 3) 50 18 [(2, 82), (0, (-1)), (9, 0)] [(0, (-1))] h5 Q
    refine w_istore_n (ls' := [(2, 82), (0, (-1)), (0, (-1))]) gz_50_18 gm_50 rfl rfl rfl ?_
    refine w_aload_n gz_50_19 rfl ?_
    refine v_getI (j := 9) gz_50_20 rfl is_82 rd_5 rfl (fun v27 ev27 pv27 qv27 => ?_)
    have zv27 := ev27.trans (rfl : h5 82 9 = h5 82 9)
    refine w_ifne (t := 43) gz_50_23 rfl (fun u28 => ?_) (fun u28 => by exfalso; omega)
    have psR : h5 82 7 = h5 82 7 := (rfl : h5 82 7 = h5 82 7)
    have npsR : cs h5 = cs h := cs_eq (fun j => my_fr.at gh5 is_92 rfl) (my_fr.at gh5 is_82 rfl)
    have c29 := ev27.symm
    exact w_vret gz_50_43 gm_50 (k0 h5 (gh5) (by omega) (by omega) (by first | (unfold fillR; first | exact Or.inr (Or.inr ⟨by omega, by omega, Or.inr (Or.inr ⟨by omega, by omega, Or.inr ⟨by omega, by omega, by omega⟩⟩)⟩) | exact Or.inr (Or.inr ⟨by omega, by omega, Or.inr (Or.inr ⟨by omega, by omega, Or.inl ⟨by omega, by omega⟩⟩)⟩) | exact Or.inr (Or.inr ⟨by omega, by omega, Or.inr (Or.inl ⟨by omega, by omega, by omega⟩)⟩) | exact Or.inr (Or.inr ⟨by omega, by omega, Or.inl ⟨by omega, by omega⟩⟩) | exact Or.inr (Or.inl ⟨by omega, by omega, by omega⟩) | exact Or.inl ⟨by omega, by omega⟩) | omega) Al_h5t25 Cu_h5t26)
  ·
    have gh11 : my_fr [(5, 5), (5, 6), (5, 7), (5, 8), (5, 9), (38, -1)] h h11 := my_fr.tr my_fr.rf (frh11.mo rfl)
    show wp l rho (d + 3) 50 11 [(2, 82), (9, 0), (9, 0)] [(0, v12)] h11 Q
    have ck30 := Cu_s Cu_h11t22
    rw [show cs h11 = cs h from cs_eq (fun j => my_fr.at gh11 is_92 rfl) (my_fr.at gh11 is_82 rfl)] at ck30
    rw [show h11 82 7 = (sN (cs h) (h 82 7)) from xp18] at ck30
    refine w_istore_n (ls' := [(2, 82), (0, v12), (9, 0)]) gz_50_11 gm_50 rfl rfl rfl ?_
    refine w_aload_n gz_50_12 rfl ?_
    refine w_bipush gz_50_13 (by decide) ?_
    refine w_inv (k := 1) (as := [(0, 20)]) (r := []) (x := 82) (ls0 := [(2, 82), (0, 20), (9, 0)]) gz_50_15 gm_51 rfl is_82 rd_5 rfl rfl rfl rfl rfl (c_Reader_takeNumber9_f0 (d := d) (x1 := 20) (by omega) (by omega) (w17.trans (by omega)) Al_h11t21 Cu_h11t22 (fun h31 frh31 w32 w33 xp34 Al_h31t35 Cu_h31t36 => ?_) (fun h37 v38 frh37 w39 w40 w41 w42 w43 xp44 xp45 xp46 Al_h37t47 Cu_h37t48 => ?_))
    ·
      have gh31 : my_fr [(5, 5), (5, 6), (5, 7), (5, 8), (5, 9), (38, -1)] h h31 := my_fr.tr gh11 (frh31.mo rfl)
      show wp l rho (d + 3) 50 18 [(2, 82), (0, v12), (9, 0)] [(0, (-1))] h31 Q
      have tE49 : cs h11 = cs h := cs_eq (fun j => my_fr.at gh11 is_92 rfl) (my_fr.at gh11 is_82 rfl)
      rw [tE49] at xp34
      have ps50 : h11 82 7 = (sN (cs h) (h 82 7)) := xp18
      rw [ps50] at xp34
      refine w_istore_n (ls' := [(2, 82), (0, v12), (0, (-1))]) gz_50_18 gm_50 rfl rfl rfl ?_
      refine w_aload_n gz_50_19 rfl ?_
      refine v_getI (j := 9) gz_50_20 rfl is_82 rd_5 rfl (fun v51 ev51 pv51 qv51 => ?_)
      have zv51 := ev51.trans (rfl : h31 82 9 = h31 82 9)
      refine w_ifne (t := 43) gz_50_23 rfl (fun u52 => ?_) (fun u52 => by exfalso; omega)
      have psR : h31 82 7 = h31 82 7 := (rfl : h31 82 7 = h31 82 7)
      have npsR : cs h31 = cs h := cs_eq (fun j => my_fr.at gh31 is_92 rfl) (my_fr.at gh31 is_82 rfl)
      have c53 := ev51.symm
      exact w_vret gz_50_43 gm_50 (k0 h31 (gh31) (by omega) (by omega) (by first | (unfold fillR; first | exact Or.inr (Or.inr ⟨by omega, by omega, Or.inr (Or.inr ⟨by omega, by omega, Or.inr ⟨by omega, by omega, by omega⟩⟩)⟩) | exact Or.inr (Or.inr ⟨by omega, by omega, Or.inr (Or.inr ⟨by omega, by omega, Or.inl ⟨by omega, by omega⟩⟩)⟩) | exact Or.inr (Or.inr ⟨by omega, by omega, Or.inr (Or.inl ⟨by omega, by omega, by omega⟩)⟩) | exact Or.inr (Or.inr ⟨by omega, by omega, Or.inl ⟨by omega, by omega⟩⟩) | exact Or.inr (Or.inl ⟨by omega, by omega, by omega⟩) | exact Or.inl ⟨by omega, by omega⟩) | omega) Al_h31t35 Cu_h31t36)
    ·
      have gh37 : my_fr [(5, 5), (5, 6), (5, 7), (5, 8), (5, 9), (38, -1)] h h37 := my_fr.tr gh11 (frh37.mo rfl)
      show wp l rho (d + 3) 50 18 [(2, 82), (0, v12), (9, 0)] [(0, v38)] h37 Q
      have tE54 : cs h11 = cs h := cs_eq (fun j => my_fr.at gh11 is_92 rfl) (my_fr.at gh11 is_82 rfl)
      rw [tE54] at xp44
      have ps55 : h11 82 7 = (sN (cs h) (h 82 7)) := xp18
      rw [ps55] at xp44
      rw [tE54] at xp45
      rw [ps55] at xp45
      rw [tE54] at xp46
      rw [ps55] at xp46
      have ck56 := Cu_s Cu_h37t48
      rw [show cs h37 = cs h from cs_eq (fun j => my_fr.at gh37 is_92 rfl) (my_fr.at gh37 is_82 rfl)] at ck56
      rw [show h37 82 7 = (sN (cs h) (((sN (cs h) (h 82 7))))) from xp44] at ck56
      refine w_istore_n (ls' := [(2, 82), (0, v12), (0, v38)]) gz_50_18 gm_50 rfl rfl rfl ?_
      refine w_aload_n gz_50_19 rfl ?_
      refine v_getI (j := 9) gz_50_20 rfl is_82 rd_5 rfl (fun v57 ev57 pv57 qv57 => ?_)
      have zv57 := ev57.trans w43
      refine w_ifne (t := 43) gz_50_23 rfl (fun u58 => by exfalso; omega) (fun u58 => ?_)
      refine w_aload_n gz_50_26 rfl ?_
      refine w_inv (k := 0) (as := []) (r := []) (x := 82) (ls0 := [(2, 82)]) gz_50_27 gm_47 rfl is_82 rd_5 rfl rfl rfl rfl rfl (c_Reader_endsHere9_f0 (d := d)  (ev57.symm.trans (by omega)) Al_h37t47 Cu_h37t48 (fun h59 frh59 w60 w61 xp62 xp63 Al_h59t64 Cu_h59t65 => ?_) (fun h66 frh66 w67 xp68 xp69 Al_h66t70 Cu_h66t71 => ?_))
      ·
        have gh59 : my_fr [(5, 5), (5, 6), (5, 7), (5, 8), (5, 9), (38, -1)] h h59 := my_fr.tr gh37 (frh59.mo rfl)
        show wp l rho (d + 3) 50 30 [(2, 82), (0, v12), (0, v38)] [(0, 0)] h59 Q
        have tE72 : cs h37 = cs h := cs_eq (fun j => my_fr.at gh37 is_92 rfl) (my_fr.at gh37 is_82 rfl)
        rw [tE72] at xp62
        have ps73 : h37 82 7 = (sN (cs h) (((sN (cs h) (h 82 7))))) := xp44
        rw [ps73] at xp62
        rw [ps73] at xp63
        refine w_ifeq (t := 43) gz_50_30 rfl (fun u74 => ?_) (fun u74 => by exfalso; omega)
        have psR : h59 82 7 = h59 82 7 := (rfl : h59 82 7 = h59 82 7)
        have npsR : cs h59 = cs h := cs_eq (fun j => my_fr.at gh59 is_92 rfl) (my_fr.at gh59 is_82 rfl)
        have c75 := (rfl : h59 82 9 = h59 82 9)
        exact w_vret gz_50_43 gm_50 (k0 h59 (gh59) (by omega) (by omega) (by first | (unfold fillR; first | exact Or.inr (Or.inr ⟨by omega, by omega, Or.inr (Or.inr ⟨by omega, by omega, Or.inr ⟨by omega, by omega, by omega⟩⟩)⟩) | exact Or.inr (Or.inr ⟨by omega, by omega, Or.inr (Or.inr ⟨by omega, by omega, Or.inl ⟨by omega, by omega⟩⟩)⟩) | exact Or.inr (Or.inr ⟨by omega, by omega, Or.inr (Or.inl ⟨by omega, by omega, by omega⟩)⟩) | exact Or.inr (Or.inr ⟨by omega, by omega, Or.inl ⟨by omega, by omega⟩⟩) | exact Or.inr (Or.inl ⟨by omega, by omega, by omega⟩) | exact Or.inl ⟨by omega, by omega⟩) | omega) Al_h59t64 Cu_h59t65)
      ·
        have gh66 : my_fr [(5, 5), (5, 6), (5, 7), (5, 8), (5, 9), (38, -1)] h h66 := my_fr.tr gh37 (frh66.mo rfl)
        show wp l rho (d + 3) 50 30 [(2, 82), (0, v12), (0, v38)] [(0, 1)] h66 Q
        have tE76 : cs h37 = cs h := cs_eq (fun j => my_fr.at gh37 is_92 rfl) (my_fr.at gh37 is_82 rfl)
        rw [tE76] at xp68
        have ps77 : h37 82 7 = (sN (cs h) (((sN (cs h) (h 82 7))))) := xp44
        rw [ps77] at xp68
        rw [tE76] at xp69
        rw [ps77] at xp69
        have ck78 := Cu_s Cu_h66t71
        rw [show cs h66 = cs h from cs_eq (fun j => my_fr.at gh66 is_92 rfl) (my_fr.at gh66 is_82 rfl)] at ck78
        rw [show h66 82 7 = (sN (cs h) (((sN (cs h) (((sN (cs h) (h 82 7)))))))) from xp68] at ck78
        refine w_ifeq (t := 43) gz_50_30 rfl (fun u79 => by exfalso; omega) (fun u79 => ?_)
        refine w_aload_n gz_50_33 rfl ?_
        refine v_getR (j := 2) gz_50_34 rfl is_82 rd_5 rfl (fun v80 ev80 tv80 => ?_)
        have zv80 : v2 = v80 := (ev80.trans ((my_fr.at frh66 is_82 rfl).trans ((my_fr.at frh37 is_82 rfl).trans ((my_fr.at frh11 is_82 rfl).trans ev2.symm)))).symm
        subst zv80
        refine w_getX (v := (v2 + 7)) gz_50_37 tv2 rd_4 rfl (by decide) rfl ?_
        refine w_iload_n gz_50_40 rfl ?_
        refine w_iload_n gz_50_41 rfl ?_
        refine w_iast gz_50_42 (ix_4_7 tv2) rd_38 (by omega) (by omega) (by omega) (by omega) (fun h82 fh82 => ?_)
        have gh82 : my_fr [(5, 5), (5, 6), (5, 7), (5, 8), (5, 9), (38, -1)] h h82 := my_fr.up gh66 (ix_4_7 tv2) fh82 rfl
        have Al_h82 : Al h82 := Al_ag (my_ag.up fh82 (ix_4_7 tv2) rfl) Al_h66t70
        have Cu_h82 : Cu h82 := Cu_ag (my_ag.up fh82 (ix_4_7 tv2) rfl) Cu_h66t71
        have psR : h82 82 7 = (sN (cs h) (((sN (cs h) (((sN (cs h) (h 82 7)))))))) := ((my_up_role fh82 is_82 (ix_4_7 tv2) rfl).trans xp68)
        have npsR : cs h82 = cs h := cs_eq (fun j => my_fr.at gh82 is_92 rfl) (my_fr.at gh82 is_82 rfl)
        have c83 := ((my_up_role fh82 is_82 (ix_4_7 tv2) rfl).trans w67)
        exact w_vret gz_50_43 gm_50 (k1 h82 (gh82) (by omega) (by first | (unfold fillR; first | exact Or.inr (Or.inr ⟨by omega, by omega, Or.inr (Or.inr ⟨by omega, by omega, Or.inr ⟨by omega, by omega, by omega⟩⟩)⟩) | exact Or.inr (Or.inr ⟨by omega, by omega, Or.inr (Or.inr ⟨by omega, by omega, Or.inl ⟨by omega, by omega⟩⟩)⟩) | exact Or.inr (Or.inr ⟨by omega, by omega, Or.inr (Or.inl ⟨by omega, by omega, by omega⟩)⟩) | exact Or.inr (Or.inr ⟨by omega, by omega, Or.inl ⟨by omega, by omega⟩⟩) | exact Or.inr (Or.inl ⟨by omega, by omega, by omega⟩) | exact Or.inl ⟨by omega, by omega⟩) | omega) Al_h82 Cu_h82)
theorem c_Reader_readCut9_f0 {l : Launch} {rho : Nat → Int32} {d : Nat} {h : my_H} {Q : my_H → my_V → Prop} {wv : Int} (cf : h 82 9 = 0) (hwv : wv ≤ 5) (hwv0 : 0 ≤ wv) (n_Ln : Ln h) (n_Sp : Sp h wv) (n_St5 : St5 h) (n_Al : Al h) (n_Cu : Cu h) (k0 : ∀ (h' : my_H), my_fr [(4, 5), (4, 8), (4, 9), (5, 5), (5, 6), (5, 7), (5, 8), (5, 9), (32, -1), (33, -1), (34, -1), (35, -1)] h h' → 1 ≤ h' 82 9 → h' 82 9 ≤ 16004 → cutR (cs h) (h 82 7) (h (h 82 2) 4) (h' 82 9) (h' 82 7) → Ln h' → Sp h' wv → Al h' → Cu h' → Q h' (9, 0)) (k1 : ∀ (h' : my_H), my_fr [(4, 5), (4, 8), (4, 9), (5, 5), (5, 6), (5, 7), (5, 8), (5, 9), (32, -1), (33, -1), (34, -1), (35, -1)] h h' → h' 82 9 = 0 → cutR (cs h) (h 82 7) (h (h 82 2) 4) (h' 82 9) (h' 82 7) → Std h h' (h (h 82 2) 4) (h (h 82 2) 9 + 1) → Ln h' → Sp h' wv → Al h' → Cu h' → Q h' (9, 0)) : wp l rho (d + 5) 52 0 [(2, 82), (9, 0), (9, 0), (9, 0)] [] h Q := by
  have ck1 := Cu_s n_Cu
  refine w_aload_n gz_52_0 rfl ?_
  refine w_aload_n gz_52_1 rfl ?_
  refine v_getR (j := 2) gz_52_2 rfl is_82 rd_5 rfl (fun v2 ev2 tv2 => ?_)
  have ce3 : h 82 2 = v2 := ev2.symm
  have sE8 : v2 = h 82 2 := by first | assumption | omega
  refine v_getI (j := 4) gz_52_5 rfl tv2 rd_4 rfl (fun v4 ev4 pv4 qv4 => ?_)
  have c8 : v4 = h (h 82 2) 4 := by rw [← sE8]; omega
  refine w_inv (k := 1) (as := [(0, v4)]) (r := []) (x := 82) (ls0 := [(2, 82), (0, v4), (9, 0)]) gz_52_8 gm_51 rfl is_82 rd_5 rfl rfl rfl rfl rfl (c_Reader_takeNumber9_f0 (d := (d + 2)) (x1 := v4) (by omega) (by omega) (cf.trans (by omega)) n_Al n_Cu (fun h5 frh5 w6 w7 xp8 Al_h5t9 Cu_h5t10 => ?_) (fun h11 v12 frh11 w13 w14 w15 w16 w17 xp18 xp19 xp20 Al_h11t21 Cu_h11t22 => ?_))
  ·
    have gh5 : my_fr [(4, 5), (4, 8), (4, 9), (5, 5), (5, 6), (5, 7), (5, 8), (5, 9), (32, -1), (33, -1), (34, -1), (35, -1)] h h5 := my_fr.tr my_fr.rf (frh5.mo rfl)
    have Ln_h5 : Ln h5 := Ln_ag (my_ag.fr frh5 rfl) n_Ln
    have Sp_h5 : Sp h5 wv := Sp_ag (my_ag.fr frh5 rfl) hwv n_Ln n_Sp
    have St5_h5 : St5 h5 := St5_ag (my_ag.fr frh5 rfl) n_Ln n_St5
    show wp l rho (d + 5) 52 11 [(2, 82), (9, 0), (9, 0), (9, 0)] [(0, (-1))] h5 Q
    refine w_istore_n (ls' := [(2, 82), (0, (-1)), (9, 0), (9, 0)]) gz_52_11 gm_52 rfl rfl rfl ?_
    refine w_aload_n gz_52_12 rfl ?_
    refine w_ldcS gz_52_13 (by decide) ?_
    refine w_inv (k := 1) (as := [(3, ((9 : Nat) : Int))]) (r := []) (x := 82) (ls0 := [(2, 82), (3, ((9 : Nat) : Int)), (9, 0)]) gz_52_15 gm_41 rfl is_82 rd_5 rfl rfl rfl rfl rfl (c_Reader_isWord9_f1 (d := d) (x1 := ((9 : Nat) : Int)) (by decide) ((h5 82 9)) ((rfl : h5 82 9 = h5 82 9)) (by omega) (by omega) Cu_h5t10 (fun w23 w24 xp25 => ?_) (fun w26 w27 w28 xp29 => ?_))
    ·
      show wp l rho (d + 5) 52 18 [(2, 82), (0, (-1)), (9, 0), (9, 0)] [(0, 0)] h5 Q
      rw [show wc ((9 : Nat) : Int) = 615403 from by decide] at xp25
      have tE30 : cs h5 = cs h := cs_eq (fun j => my_fr.at gh5 is_92 rfl) (my_fr.at gh5 is_82 rfl)
      rw [tE30] at xp25
      refine w_ifeq (t := 25) gz_52_18 rfl (fun u31 => ?_) (fun u31 => by exfalso; omega)
      refine w_aload_n gz_52_25 rfl ?_
      refine w_ldcS gz_52_26 (by decide) ?_
      refine w_inv (k := 1) (as := [(3, ((10 : Nat) : Int))]) (r := []) (x := 82) (ls0 := [(2, 82), (3, ((10 : Nat) : Int)), (9, 0)]) gz_52_28 gm_41 rfl is_82 rd_5 rfl rfl rfl rfl rfl (c_Reader_isWord9_f1 (d := d) (x1 := ((10 : Nat) : Int)) (by decide) ((h5 82 9)) ((rfl : h5 82 9 = h5 82 9)) (by omega) (by omega) Cu_h5t10 (fun w32 w33 xp34 => ?_) (fun w35 w36 w37 xp38 => ?_))
      ·
        show wp l rho (d + 5) 52 31 [(2, 82), (0, (-1)), (9, 0), (9, 0)] [(0, 0)] h5 Q
        rw [show wc ((10 : Nat) : Int) = 352 from by decide] at xp34
        have tE39 : cs h5 = cs h := cs_eq (fun j => my_fr.at gh5 is_92 rfl) (my_fr.at gh5 is_82 rfl)
        rw [tE39] at xp34
        refine w_ifeq (t := 38) gz_52_31 rfl (fun u40 => ?_) (fun u40 => by exfalso; omega)
        refine w_aload_n gz_52_38 rfl ?_
        refine w_ldcS gz_52_39 (by decide) ?_
        refine w_inv (k := 1) (as := [(3, ((11 : Nat) : Int))]) (r := []) (x := 82) (ls0 := [(2, 82), (3, ((11 : Nat) : Int)), (9, 0)]) gz_52_41 gm_41 rfl is_82 rd_5 rfl rfl rfl rfl rfl (c_Reader_isWord9_f1 (d := d) (x1 := ((11 : Nat) : Int)) (by decide) ((h5 82 9)) ((rfl : h5 82 9 = h5 82 9)) (by omega) (by omega) Cu_h5t10 (fun w41 w42 xp43 => ?_) (fun w44 w45 w46 xp47 => ?_))
        ·
          show wp l rho (d + 5) 52 44 [(2, 82), (0, (-1)), (9, 0), (9, 0)] [(0, 0)] h5 Q
          rw [show wc ((11 : Nat) : Int) = 679695 from by decide] at xp43
          have tE48 : cs h5 = cs h := cs_eq (fun j => my_fr.at gh5 is_92 rfl) (my_fr.at gh5 is_82 rfl)
          rw [tE48] at xp43
          refine w_ifeq (t := 51) gz_52_44 rfl (fun u49 => ?_) (fun u49 => by exfalso; omega)
          refine w_iconst gz_52_51 (by decide) ?_
          refine w_istore_n (ls' := [(2, 82), (0, (-1)), (0, (-1)), (9, 0)]) gz_52_52 gm_52 rfl rfl rfl ?_
          refine w_iload_n gz_52_53 rfl ?_
          refine w_iconst gz_52_54 (by decide) ?_
          refine w_icne (t := 66) gz_52_55 rfl (fun u50 => by exfalso; omega) (fun u50 => ?_)
          refine w_aload_n gz_52_58 rfl ?_
          refine w_iconst gz_52_59 (by decide) ?_
          refine w_inv (k := 0) (as := [(0, 1)]) (r := []) (x := 82) (ls0 := [(2, 82), (0, 1)]) gz_52_60 gm_42 rfl is_82 rd_5 rfl rfl rfl rfl rfl ?_
          refine w_aload_n gz_42_0 rfl ?_
          refine v_getI (j := 9) gz_42_1 rfl is_82 rd_5 rfl (fun v51 ev51 pv51 qv51 => ?_)
          have zv51 := ev51.trans (rfl : h5 82 9 = h5 82 9)
          refine w_ifne (t := 20) gz_42_4 rfl (fun u52 => ?_) (fun u52 => by exfalso; omega)
          refine w_vret gz_42_20 gm_42 ?_
          show wp l rho (d + 5) 52 63 [(2, 82), (0, (-1)), (0, (-1)), (9, 0)] [] h5 Q
          refine w_goto (t := 70) gz_52_63 rfl ?_
          refine w_aload_n gz_52_70 rfl ?_
          refine w_sipush gz_52_71 (by decide) ?_
          refine w_inv (k := 1) (as := [(0, 200)]) (r := []) (x := 82) (ls0 := [(2, 82), (0, 200), (9, 0)]) gz_52_74 gm_51 rfl is_82 rd_5 rfl rfl rfl rfl rfl (c_Reader_takeNumber9_f1 (d := (d + 2)) (x1 := 200) (by omega) (by omega) (v51) (ev51.symm) (by omega) (by omega) Al_h5t9 Cu_h5t10 (fun w53 w54 Al_h5t55 Cu_h5t56 => ?_))
          show wp l rho (d + 5) 52 77 [(2, 82), (0, (-1)), (0, (-1)), (9, 0)] [(0, (-1))] h5 Q
          refine w_istore_n (ls' := [(2, 82), (0, (-1)), (0, (-1)), (0, (-1))]) gz_52_77 gm_52 rfl rfl rfl ?_
          refine w_aload_n gz_52_78 rfl ?_
          refine v_getI (j := 9) gz_52_79 rfl is_82 rd_5 rfl (fun v57 ev57 pv57 qv57 => ?_)
          have zv57 := ev57.trans ev51.symm
          refine w_ifne (t := 102) gz_52_82 rfl (fun u58 => ?_) (fun u58 => by exfalso; omega)
          have psR : h5 82 7 = h5 82 7 := (rfl : h5 82 7 = h5 82 7)
          have npsR : cs h5 = cs h := cs_eq (fun j => my_fr.at gh5 is_92 rfl) (my_fr.at gh5 is_82 rfl)
          have c59 := ev57.symm
          exact w_vret gz_52_102 gm_52 (k0 h5 (gh5) (by omega) (by omega) (by first | exact std | (unfold cutR; first | exact Or.inr (Or.inr ⟨by omega, by omega, Or.inr ⟨by omega, Or.inr (Or.inr ⟨by omega, by omega, Or.inr ⟨by omega, by omega, by omega⟩⟩)⟩⟩) | exact Or.inr (Or.inr ⟨by omega, by omega, Or.inr ⟨by omega, Or.inr (Or.inr ⟨by omega, by omega, Or.inl ⟨by omega, by omega⟩⟩)⟩⟩) | exact Or.inr (Or.inr ⟨by omega, by omega, Or.inr ⟨by omega, Or.inr (Or.inl ⟨by omega, by omega, by omega⟩)⟩⟩) | exact Or.inr (Or.inr ⟨by omega, by omega, Or.inr ⟨by omega, Or.inl ⟨by omega, by omega⟩⟩⟩) | exact Or.inr (Or.inr ⟨by omega, by omega, Or.inl ⟨by omega, by omega, by omega, by omega⟩⟩) | exact Or.inr (Or.inl ⟨by omega, by omega, by omega⟩) | exact Or.inl ⟨by omega, by omega⟩) | omega) Ln_h5 Sp_h5 Al_h5t55 Cu_h5t56)
        ·
          show wp l rho (d + 5) 52 44 [(2, 82), (0, (-1)), (9, 0), (9, 0)] [(0, 1)] h5 Q
          rw [show wc ((11 : Nat) : Int) = 679695 from by decide] at xp47
          have tE60 : cs h5 = cs h := cs_eq (fun j => my_fr.at gh5 is_92 rfl) (my_fr.at gh5 is_82 rfl)
          rw [tE60] at xp47
          refine w_ifeq (t := 51) gz_52_44 rfl (fun u61 => by exfalso; omega) (fun u61 => ?_)
          refine w_iconst gz_52_47 (by decide) ?_
          refine w_goto (t := 52) gz_52_48 rfl ?_
          refine w_istore_n (ls' := [(2, 82), (0, (-1)), (0, 2), (9, 0)]) gz_52_52 gm_52 rfl rfl rfl ?_
          refine w_iload_n gz_52_53 rfl ?_
          refine w_iconst gz_52_54 (by decide) ?_
          refine w_icne (t := 66) gz_52_55 rfl (fun u62 => ?_) (fun u62 => by exfalso; omega)
          refine w_aload_n gz_52_66 rfl ?_
          refine w_inv (k := 2) (as := []) (r := []) (x := 82) (ls0 := [(2, 82), (9, 0), (9, 0)]) gz_52_67 gm_37 rfl is_82 rd_5 rfl rfl rfl rfl rfl (c_Reader_nextToken9_f1 (d := (d + 3))  ((h5 82 9)) ((rfl : h5 82 9 = h5 82 9)) (by omega) (by omega) Al_h5t9 (fun h63 frh63 w64 w65 w66 w67 xp68 xp69 Al_h63t70 Cu_h63t71 => ?_))
          have gh63 : my_fr [(4, 5), (4, 8), (4, 9), (5, 5), (5, 6), (5, 7), (5, 8), (5, 9), (32, -1), (33, -1), (34, -1), (35, -1)] h h63 := my_fr.tr gh5 (frh63.mo rfl)
          have Ln_h63 : Ln h63 := Ln_ag (my_ag.fr frh63 rfl) Ln_h5
          have Sp_h63 : Sp h63 wv := Sp_ag (my_ag.fr frh63 rfl) hwv Ln_h5 Sp_h5
          have St5_h63 : St5 h63 := St5_ag (my_ag.fr frh63 rfl) Ln_h5 St5_h5
          show wp l rho (d + 5) 52 70 [(2, 82), (0, (-1)), (0, 2), (9, 0)] [] h63 Q
          have xc72 := xp68 Cu_h5t10
          have tE73 : cs h5 = cs h := cs_eq (fun j => my_fr.at gh5 is_92 rfl) (my_fr.at gh5 is_82 rfl)
          rw [tE73] at xc72
          have ck74 := Cu_s Cu_h63t71
          rw [show cs h63 = cs h from cs_eq (fun j => my_fr.at gh63 is_92 rfl) (my_fr.at gh63 is_82 rfl)] at ck74
          rw [show h63 82 7 = (sN (cs h) (h5 82 7)) from xc72] at ck74
          refine w_aload_n gz_52_70 rfl ?_
          refine w_sipush gz_52_71 (by decide) ?_
          refine w_inv (k := 1) (as := [(0, 200)]) (r := []) (x := 82) (ls0 := [(2, 82), (0, 200), (9, 0)]) gz_52_74 gm_51 rfl is_82 rd_5 rfl rfl rfl rfl rfl (c_Reader_takeNumber9_f1 (d := (d + 2)) (x1 := 200) (by omega) (by omega) ((h5 82 9)) (((my_fr.at frh63 is_82 rfl).trans (rfl : h5 82 9 = h5 82 9))) (by omega) (by omega) Al_h63t70 Cu_h63t71 (fun w75 w76 Al_h63t77 Cu_h63t78 => ?_))
          show wp l rho (d + 5) 52 77 [(2, 82), (0, (-1)), (0, 2), (9, 0)] [(0, (-1))] h63 Q
          refine w_istore_n (ls' := [(2, 82), (0, (-1)), (0, 2), (0, (-1))]) gz_52_77 gm_52 rfl rfl rfl ?_
          refine w_aload_n gz_52_78 rfl ?_
          refine v_getI (j := 9) gz_52_79 rfl is_82 rd_5 rfl (fun v79 ev79 pv79 qv79 => ?_)
          have zv79 := ev79.trans ((my_fr.at frh63 is_82 rfl).trans (rfl : h5 82 9 = h5 82 9))
          refine w_ifne (t := 102) gz_52_82 rfl (fun u80 => ?_) (fun u80 => by exfalso; omega)
          have psR : h63 82 7 = (sN (cs h) (h5 82 7)) := xc72
          have npsR : cs h63 = cs h := cs_eq (fun j => my_fr.at gh63 is_92 rfl) (my_fr.at gh63 is_82 rfl)
          have c81 := ev79.symm
          exact w_vret gz_52_102 gm_52 (k0 h63 (gh63) (by omega) (by omega) (by first | exact std | (unfold cutR; first | exact Or.inr (Or.inr ⟨by omega, by omega, Or.inr ⟨by omega, Or.inr (Or.inr ⟨by omega, by omega, Or.inr ⟨by omega, by omega, by omega⟩⟩)⟩⟩) | exact Or.inr (Or.inr ⟨by omega, by omega, Or.inr ⟨by omega, Or.inr (Or.inr ⟨by omega, by omega, Or.inl ⟨by omega, by omega⟩⟩)⟩⟩) | exact Or.inr (Or.inr ⟨by omega, by omega, Or.inr ⟨by omega, Or.inr (Or.inl ⟨by omega, by omega, by omega⟩)⟩⟩) | exact Or.inr (Or.inr ⟨by omega, by omega, Or.inr ⟨by omega, Or.inl ⟨by omega, by omega⟩⟩⟩) | exact Or.inr (Or.inr ⟨by omega, by omega, Or.inl ⟨by omega, by omega, by omega, by omega⟩⟩) | exact Or.inr (Or.inl ⟨by omega, by omega, by omega⟩) | exact Or.inl ⟨by omega, by omega⟩) | omega) Ln_h63 Sp_h63 Al_h63t77 Cu_h63t78)
      ·
        show wp l rho (d + 5) 52 31 [(2, 82), (0, (-1)), (9, 0), (9, 0)] [(0, 1)] h5 Q
        rw [show wc ((10 : Nat) : Int) = 352 from by decide] at xp38
        have tE82 : cs h5 = cs h := cs_eq (fun j => my_fr.at gh5 is_92 rfl) (my_fr.at gh5 is_82 rfl)
        rw [tE82] at xp38
        refine w_ifeq (t := 38) gz_52_31 rfl (fun u83 => by exfalso; omega) (fun u83 => ?_)
        refine w_iconst gz_52_34 (by decide) ?_
        refine w_goto (t := 52) gz_52_35 rfl ?_
        refine w_istore_n (ls' := [(2, 82), (0, (-1)), (0, 1), (9, 0)]) gz_52_52 gm_52 rfl rfl rfl ?_
        refine w_iload_n gz_52_53 rfl ?_
        refine w_iconst gz_52_54 (by decide) ?_
        refine w_icne (t := 66) gz_52_55 rfl (fun u84 => ?_) (fun u84 => by exfalso; omega)
        refine w_aload_n gz_52_66 rfl ?_
        refine w_inv (k := 2) (as := []) (r := []) (x := 82) (ls0 := [(2, 82), (9, 0), (9, 0)]) gz_52_67 gm_37 rfl is_82 rd_5 rfl rfl rfl rfl rfl (c_Reader_nextToken9_f1 (d := (d + 3))  ((h5 82 9)) ((rfl : h5 82 9 = h5 82 9)) (by omega) (by omega) Al_h5t9 (fun h85 frh85 w86 w87 w88 w89 xp90 xp91 Al_h85t92 Cu_h85t93 => ?_))
        have gh85 : my_fr [(4, 5), (4, 8), (4, 9), (5, 5), (5, 6), (5, 7), (5, 8), (5, 9), (32, -1), (33, -1), (34, -1), (35, -1)] h h85 := my_fr.tr gh5 (frh85.mo rfl)
        have Ln_h85 : Ln h85 := Ln_ag (my_ag.fr frh85 rfl) Ln_h5
        have Sp_h85 : Sp h85 wv := Sp_ag (my_ag.fr frh85 rfl) hwv Ln_h5 Sp_h5
        have St5_h85 : St5 h85 := St5_ag (my_ag.fr frh85 rfl) Ln_h5 St5_h5
        show wp l rho (d + 5) 52 70 [(2, 82), (0, (-1)), (0, 1), (9, 0)] [] h85 Q
        have xc94 := xp90 Cu_h5t10
        have tE95 : cs h5 = cs h := cs_eq (fun j => my_fr.at gh5 is_92 rfl) (my_fr.at gh5 is_82 rfl)
        rw [tE95] at xc94
        have ck96 := Cu_s Cu_h85t93
        rw [show cs h85 = cs h from cs_eq (fun j => my_fr.at gh85 is_92 rfl) (my_fr.at gh85 is_82 rfl)] at ck96
        rw [show h85 82 7 = (sN (cs h) (h5 82 7)) from xc94] at ck96
        refine w_aload_n gz_52_70 rfl ?_
        refine w_sipush gz_52_71 (by decide) ?_
        refine w_inv (k := 1) (as := [(0, 200)]) (r := []) (x := 82) (ls0 := [(2, 82), (0, 200), (9, 0)]) gz_52_74 gm_51 rfl is_82 rd_5 rfl rfl rfl rfl rfl (c_Reader_takeNumber9_f1 (d := (d + 2)) (x1 := 200) (by omega) (by omega) ((h5 82 9)) (((my_fr.at frh85 is_82 rfl).trans (rfl : h5 82 9 = h5 82 9))) (by omega) (by omega) Al_h85t92 Cu_h85t93 (fun w97 w98 Al_h85t99 Cu_h85t100 => ?_))
        show wp l rho (d + 5) 52 77 [(2, 82), (0, (-1)), (0, 1), (9, 0)] [(0, (-1))] h85 Q
        refine w_istore_n (ls' := [(2, 82), (0, (-1)), (0, 1), (0, (-1))]) gz_52_77 gm_52 rfl rfl rfl ?_
        refine w_aload_n gz_52_78 rfl ?_
        refine v_getI (j := 9) gz_52_79 rfl is_82 rd_5 rfl (fun v101 ev101 pv101 qv101 => ?_)
        have zv101 := ev101.trans ((my_fr.at frh85 is_82 rfl).trans (rfl : h5 82 9 = h5 82 9))
        refine w_ifne (t := 102) gz_52_82 rfl (fun u102 => ?_) (fun u102 => by exfalso; omega)
        have psR : h85 82 7 = (sN (cs h) (h5 82 7)) := xc94
        have npsR : cs h85 = cs h := cs_eq (fun j => my_fr.at gh85 is_92 rfl) (my_fr.at gh85 is_82 rfl)
        have c103 := ev101.symm
        exact w_vret gz_52_102 gm_52 (k0 h85 (gh85) (by omega) (by omega) (by first | exact std | (unfold cutR; first | exact Or.inr (Or.inr ⟨by omega, by omega, Or.inr ⟨by omega, Or.inr (Or.inr ⟨by omega, by omega, Or.inr ⟨by omega, by omega, by omega⟩⟩)⟩⟩) | exact Or.inr (Or.inr ⟨by omega, by omega, Or.inr ⟨by omega, Or.inr (Or.inr ⟨by omega, by omega, Or.inl ⟨by omega, by omega⟩⟩)⟩⟩) | exact Or.inr (Or.inr ⟨by omega, by omega, Or.inr ⟨by omega, Or.inr (Or.inl ⟨by omega, by omega, by omega⟩)⟩⟩) | exact Or.inr (Or.inr ⟨by omega, by omega, Or.inr ⟨by omega, Or.inl ⟨by omega, by omega⟩⟩⟩) | exact Or.inr (Or.inr ⟨by omega, by omega, Or.inl ⟨by omega, by omega, by omega, by omega⟩⟩) | exact Or.inr (Or.inl ⟨by omega, by omega, by omega⟩) | exact Or.inl ⟨by omega, by omega⟩) | omega) Ln_h85 Sp_h85 Al_h85t99 Cu_h85t100)
    ·
      show wp l rho (d + 5) 52 18 [(2, 82), (0, (-1)), (9, 0), (9, 0)] [(0, 1)] h5 Q
      rw [show wc ((9 : Nat) : Int) = 615403 from by decide] at xp29
      have tE104 : cs h5 = cs h := cs_eq (fun j => my_fr.at gh5 is_92 rfl) (my_fr.at gh5 is_82 rfl)
      rw [tE104] at xp29
      refine w_ifeq (t := 25) gz_52_18 rfl (fun u105 => by exfalso; omega) (fun u105 => ?_)
      refine w_iconst gz_52_21 (by decide) ?_
      refine w_goto (t := 52) gz_52_22 rfl ?_
      refine w_istore_n (ls' := [(2, 82), (0, (-1)), (0, 0), (9, 0)]) gz_52_52 gm_52 rfl rfl rfl ?_
      refine w_iload_n gz_52_53 rfl ?_
      refine w_iconst gz_52_54 (by decide) ?_
      refine w_icne (t := 66) gz_52_55 rfl (fun u106 => ?_) (fun u106 => by exfalso; omega)
      refine w_aload_n gz_52_66 rfl ?_
      refine w_inv (k := 2) (as := []) (r := []) (x := 82) (ls0 := [(2, 82), (9, 0), (9, 0)]) gz_52_67 gm_37 rfl is_82 rd_5 rfl rfl rfl rfl rfl (c_Reader_nextToken9_f1 (d := (d + 3))  ((h5 82 9)) ((rfl : h5 82 9 = h5 82 9)) (by omega) (by omega) Al_h5t9 (fun h107 frh107 w108 w109 w110 w111 xp112 xp113 Al_h107t114 Cu_h107t115 => ?_))
      have gh107 : my_fr [(4, 5), (4, 8), (4, 9), (5, 5), (5, 6), (5, 7), (5, 8), (5, 9), (32, -1), (33, -1), (34, -1), (35, -1)] h h107 := my_fr.tr gh5 (frh107.mo rfl)
      have Ln_h107 : Ln h107 := Ln_ag (my_ag.fr frh107 rfl) Ln_h5
      have Sp_h107 : Sp h107 wv := Sp_ag (my_ag.fr frh107 rfl) hwv Ln_h5 Sp_h5
      have St5_h107 : St5 h107 := St5_ag (my_ag.fr frh107 rfl) Ln_h5 St5_h5
      show wp l rho (d + 5) 52 70 [(2, 82), (0, (-1)), (0, 0), (9, 0)] [] h107 Q
      have xc116 := xp112 Cu_h5t10
      have tE117 : cs h5 = cs h := cs_eq (fun j => my_fr.at gh5 is_92 rfl) (my_fr.at gh5 is_82 rfl)
      rw [tE117] at xc116
      have ck118 := Cu_s Cu_h107t115
      rw [show cs h107 = cs h from cs_eq (fun j => my_fr.at gh107 is_92 rfl) (my_fr.at gh107 is_82 rfl)] at ck118
      rw [show h107 82 7 = (sN (cs h) (h5 82 7)) from xc116] at ck118
      refine w_aload_n gz_52_70 rfl ?_
      refine w_sipush gz_52_71 (by decide) ?_
      refine w_inv (k := 1) (as := [(0, 200)]) (r := []) (x := 82) (ls0 := [(2, 82), (0, 200), (9, 0)]) gz_52_74 gm_51 rfl is_82 rd_5 rfl rfl rfl rfl rfl (c_Reader_takeNumber9_f1 (d := (d + 2)) (x1 := 200) (by omega) (by omega) ((h5 82 9)) (((my_fr.at frh107 is_82 rfl).trans (rfl : h5 82 9 = h5 82 9))) (by omega) (by omega) Al_h107t114 Cu_h107t115 (fun w119 w120 Al_h107t121 Cu_h107t122 => ?_))
      show wp l rho (d + 5) 52 77 [(2, 82), (0, (-1)), (0, 0), (9, 0)] [(0, (-1))] h107 Q
      refine w_istore_n (ls' := [(2, 82), (0, (-1)), (0, 0), (0, (-1))]) gz_52_77 gm_52 rfl rfl rfl ?_
      refine w_aload_n gz_52_78 rfl ?_
      refine v_getI (j := 9) gz_52_79 rfl is_82 rd_5 rfl (fun v123 ev123 pv123 qv123 => ?_)
      have zv123 := ev123.trans ((my_fr.at frh107 is_82 rfl).trans (rfl : h5 82 9 = h5 82 9))
      refine w_ifne (t := 102) gz_52_82 rfl (fun u124 => ?_) (fun u124 => by exfalso; omega)
      have psR : h107 82 7 = (sN (cs h) (h5 82 7)) := xc116
      have npsR : cs h107 = cs h := cs_eq (fun j => my_fr.at gh107 is_92 rfl) (my_fr.at gh107 is_82 rfl)
      have c125 := ev123.symm
      exact w_vret gz_52_102 gm_52 (k0 h107 (gh107) (by omega) (by omega) (by first | exact std | (unfold cutR; first | exact Or.inr (Or.inr ⟨by omega, by omega, Or.inr ⟨by omega, Or.inr (Or.inr ⟨by omega, by omega, Or.inr ⟨by omega, by omega, by omega⟩⟩)⟩⟩) | exact Or.inr (Or.inr ⟨by omega, by omega, Or.inr ⟨by omega, Or.inr (Or.inr ⟨by omega, by omega, Or.inl ⟨by omega, by omega⟩⟩)⟩⟩) | exact Or.inr (Or.inr ⟨by omega, by omega, Or.inr ⟨by omega, Or.inr (Or.inl ⟨by omega, by omega, by omega⟩)⟩⟩) | exact Or.inr (Or.inr ⟨by omega, by omega, Or.inr ⟨by omega, Or.inl ⟨by omega, by omega⟩⟩⟩) | exact Or.inr (Or.inr ⟨by omega, by omega, Or.inl ⟨by omega, by omega, by omega, by omega⟩⟩) | exact Or.inr (Or.inl ⟨by omega, by omega, by omega⟩) | exact Or.inl ⟨by omega, by omega⟩) | omega) Ln_h107 Sp_h107 Al_h107t121 Cu_h107t122)
  ·
    have gh11 : my_fr [(4, 5), (4, 8), (4, 9), (5, 5), (5, 6), (5, 7), (5, 8), (5, 9), (32, -1), (33, -1), (34, -1), (35, -1)] h h11 := my_fr.tr my_fr.rf (frh11.mo rfl)
    have Ln_h11 : Ln h11 := Ln_ag (my_ag.fr frh11 rfl) n_Ln
    have Sp_h11 : Sp h11 wv := Sp_ag (my_ag.fr frh11 rfl) hwv n_Ln n_Sp
    have St5_h11 : St5 h11 := St5_ag (my_ag.fr frh11 rfl) n_Ln n_St5
    show wp l rho (d + 5) 52 11 [(2, 82), (9, 0), (9, 0), (9, 0)] [(0, v12)] h11 Q
    have ck126 := Cu_s Cu_h11t22
    rw [show cs h11 = cs h from cs_eq (fun j => my_fr.at gh11 is_92 rfl) (my_fr.at gh11 is_82 rfl)] at ck126
    rw [show h11 82 7 = (sN (cs h) (h 82 7)) from xp18] at ck126
    refine w_istore_n (ls' := [(2, 82), (0, v12), (9, 0), (9, 0)]) gz_52_11 gm_52 rfl rfl rfl ?_
    refine w_aload_n gz_52_12 rfl ?_
    refine w_ldcS gz_52_13 (by decide) ?_
    refine w_inv (k := 1) (as := [(3, ((9 : Nat) : Int))]) (r := []) (x := 82) (ls0 := [(2, 82), (3, ((9 : Nat) : Int)), (9, 0)]) gz_52_15 gm_41 rfl is_82 rd_5 rfl rfl rfl rfl rfl (c_Reader_isWord9_f0 (d := d) (x1 := ((9 : Nat) : Int)) (by decide) (w17.trans (by omega)) Cu_h11t22 (fun w127 xp128 => ?_) (fun w129 w130 xp131 => ?_))
    ·
      show wp l rho (d + 5) 52 18 [(2, 82), (0, v12), (9, 0), (9, 0)] [(0, 0)] h11 Q
      rw [show wc ((9 : Nat) : Int) = 615403 from by decide] at xp128
      have tE132 : cs h11 = cs h := cs_eq (fun j => my_fr.at gh11 is_92 rfl) (my_fr.at gh11 is_82 rfl)
      rw [tE132] at xp128
      have ps133 : h11 82 7 = (sN (cs h) (h 82 7)) := xp18
      rw [ps133] at xp128
      refine w_ifeq (t := 25) gz_52_18 rfl (fun u134 => ?_) (fun u134 => by exfalso; omega)
      refine w_aload_n gz_52_25 rfl ?_
      refine w_ldcS gz_52_26 (by decide) ?_
      refine w_inv (k := 1) (as := [(3, ((10 : Nat) : Int))]) (r := []) (x := 82) (ls0 := [(2, 82), (3, ((10 : Nat) : Int)), (9, 0)]) gz_52_28 gm_41 rfl is_82 rd_5 rfl rfl rfl rfl rfl (c_Reader_isWord9_f0 (d := d) (x1 := ((10 : Nat) : Int)) (by decide) (w17.trans (by omega)) Cu_h11t22 (fun w135 xp136 => ?_) (fun w137 w138 xp139 => ?_))
      ·
        show wp l rho (d + 5) 52 31 [(2, 82), (0, v12), (9, 0), (9, 0)] [(0, 0)] h11 Q
        rw [show wc ((10 : Nat) : Int) = 352 from by decide] at xp136
        have tE140 : cs h11 = cs h := cs_eq (fun j => my_fr.at gh11 is_92 rfl) (my_fr.at gh11 is_82 rfl)
        rw [tE140] at xp136
        have ps141 : h11 82 7 = (sN (cs h) (h 82 7)) := xp18
        rw [ps141] at xp136
        refine w_ifeq (t := 38) gz_52_31 rfl (fun u142 => ?_) (fun u142 => by exfalso; omega)
        refine w_aload_n gz_52_38 rfl ?_
        refine w_ldcS gz_52_39 (by decide) ?_
        refine w_inv (k := 1) (as := [(3, ((11 : Nat) : Int))]) (r := []) (x := 82) (ls0 := [(2, 82), (3, ((11 : Nat) : Int)), (9, 0)]) gz_52_41 gm_41 rfl is_82 rd_5 rfl rfl rfl rfl rfl (c_Reader_isWord9_f0 (d := d) (x1 := ((11 : Nat) : Int)) (by decide) (w17.trans (by omega)) Cu_h11t22 (fun w143 xp144 => ?_) (fun w145 w146 xp147 => ?_))
        ·
          show wp l rho (d + 5) 52 44 [(2, 82), (0, v12), (9, 0), (9, 0)] [(0, 0)] h11 Q
          rw [show wc ((11 : Nat) : Int) = 679695 from by decide] at xp144
          have tE148 : cs h11 = cs h := cs_eq (fun j => my_fr.at gh11 is_92 rfl) (my_fr.at gh11 is_82 rfl)
          rw [tE148] at xp144
          have ps149 : h11 82 7 = (sN (cs h) (h 82 7)) := xp18
          rw [ps149] at xp144
          refine w_ifeq (t := 51) gz_52_44 rfl (fun u150 => ?_) (fun u150 => by exfalso; omega)
          refine w_iconst gz_52_51 (by decide) ?_
          refine w_istore_n (ls' := [(2, 82), (0, v12), (0, (-1)), (9, 0)]) gz_52_52 gm_52 rfl rfl rfl ?_
          refine w_iload_n gz_52_53 rfl ?_
          refine w_iconst gz_52_54 (by decide) ?_
          refine w_icne (t := 66) gz_52_55 rfl (fun u151 => by exfalso; omega) (fun u151 => ?_)
          refine w_aload_n gz_52_58 rfl ?_
          refine w_iconst gz_52_59 (by decide) ?_
          refine w_inv (k := 0) (as := [(0, 1)]) (r := []) (x := 82) (ls0 := [(2, 82), (0, 1)]) gz_52_60 gm_42 rfl is_82 rd_5 rfl rfl rfl rfl rfl ?_
          refine w_aload_n gz_42_0 rfl ?_
          refine v_getI (j := 9) gz_42_1 rfl is_82 rd_5 rfl (fun v152 ev152 pv152 qv152 => ?_)
          have zv152 := ev152.trans w17
          refine w_ifne (t := 20) gz_42_4 rfl (fun u153 => by exfalso; omega) (fun u153 => ?_)
          refine w_aload_n gz_42_7 rfl ?_
          refine w_iload_n gz_42_8 rfl ?_
          refine w_bipush gz_42_9 (by decide) ?_
          refine w_aload_n gz_42_11 rfl ?_
          refine v_getI (j := 7) gz_42_12 rfl is_82 rd_5 rfl (fun v154 ev154 pv154 qv154 => ?_)
          refine w_imul gz_42_15 ⟨by omega, by omega⟩ ?_
          refine w_iadd gz_42_16 ⟨by omega, by omega⟩ ?_
          refine v_putI (j := 9) gz_42_17 rfl is_82 rd_5 rfl (by omega) (by omega) rfl (fun h155 fh155 => ?_)
          have gh155 : my_fr [(4, 5), (4, 8), (4, 9), (5, 5), (5, 6), (5, 7), (5, 8), (5, 9), (32, -1), (33, -1), (34, -1), (35, -1)] h h155 := my_fr.up gh11 is_82 fh155 rfl
          have Ln_h155 : Ln h155 := Ln_ag (my_ag.up fh155 is_82 rfl) Ln_h11
          have Sp_h155 : Sp h155 wv := Sp_ag (my_ag.up fh155 is_82 rfl) hwv Ln_h11 Sp_h11
          have St5_h155 : St5 h155 := St5_ag (my_ag.up fh155 is_82 rfl) Ln_h11 St5_h11
          have Al_h155 : Al h155 := Al_ag (my_ag.up fh155 is_82 rfl) Al_h11t21
          have Cu_h155 : Cu h155 := Cu_ag (my_ag.up fh155 is_82 rfl) Cu_h11t22
          refine w_vret gz_42_20 gm_42 ?_
          show wp l rho (d + 5) 52 63 [(2, 82), (0, v12), (0, (-1)), (9, 0)] [] h155 Q
          refine w_goto (t := 70) gz_52_63 rfl ?_
          refine w_aload_n gz_52_70 rfl ?_
          refine w_sipush gz_52_71 (by decide) ?_
          refine w_inv (k := 1) (as := [(0, 200)]) (r := []) (x := 82) (ls0 := [(2, 82), (0, 200), (9, 0)]) gz_52_74 gm_51 rfl is_82 rd_5 rfl rfl rfl rfl rfl (c_Reader_takeNumber9_f1 (d := (d + 2)) (x1 := 200) (by omega) (by omega) ((1 + (16 * v154))) ((my_up_self fh155)) (by omega) (by omega) Al_h155 Cu_h155 (fun w156 w157 Al_h155t158 Cu_h155t159 => ?_))
          show wp l rho (d + 5) 52 77 [(2, 82), (0, v12), (0, (-1)), (9, 0)] [(0, (-1))] h155 Q
          refine w_istore_n (ls' := [(2, 82), (0, v12), (0, (-1)), (0, (-1))]) gz_52_77 gm_52 rfl rfl rfl ?_
          refine w_aload_n gz_52_78 rfl ?_
          refine v_getI (j := 9) gz_52_79 rfl is_82 rd_5 rfl (fun v160 ev160 pv160 qv160 => ?_)
          have zv160 := ev160.trans (my_up_self fh155)
          refine w_ifne (t := 102) gz_52_82 rfl (fun u161 => ?_) (fun u161 => by exfalso; omega)
          have psR : h155 82 7 = (sN (cs h) (h 82 7)) := ((my_up_fld fh155 (by decide)).trans xp18)
          have npsR : cs h155 = cs h := cs_eq (fun j => my_fr.at gh155 is_92 rfl) (my_fr.at gh155 is_82 rfl)
          have c162 := ev160.symm
          exact w_vret gz_52_102 gm_52 (k0 h155 (gh155) (by omega) (by omega) (by first | exact std | (unfold cutR; first | exact Or.inr (Or.inr ⟨by omega, by omega, Or.inr ⟨by omega, Or.inr (Or.inr ⟨by omega, by omega, Or.inr ⟨by omega, by omega, by omega⟩⟩)⟩⟩) | exact Or.inr (Or.inr ⟨by omega, by omega, Or.inr ⟨by omega, Or.inr (Or.inr ⟨by omega, by omega, Or.inl ⟨by omega, by omega⟩⟩)⟩⟩) | exact Or.inr (Or.inr ⟨by omega, by omega, Or.inr ⟨by omega, Or.inr (Or.inl ⟨by omega, by omega, by omega⟩)⟩⟩) | exact Or.inr (Or.inr ⟨by omega, by omega, Or.inr ⟨by omega, Or.inl ⟨by omega, by omega⟩⟩⟩) | exact Or.inr (Or.inr ⟨by omega, by omega, Or.inl ⟨by omega, by omega, by omega, by omega⟩⟩) | exact Or.inr (Or.inl ⟨by omega, by omega, by omega⟩) | exact Or.inl ⟨by omega, by omega⟩) | omega) Ln_h155 Sp_h155 Al_h155t158 Cu_h155t159)
        ·
          show wp l rho (d + 5) 52 44 [(2, 82), (0, v12), (9, 0), (9, 0)] [(0, 1)] h11 Q
          rw [show wc ((11 : Nat) : Int) = 679695 from by decide] at xp147
          have tE163 : cs h11 = cs h := cs_eq (fun j => my_fr.at gh11 is_92 rfl) (my_fr.at gh11 is_82 rfl)
          rw [tE163] at xp147
          have ps164 : h11 82 7 = (sN (cs h) (h 82 7)) := xp18
          rw [ps164] at xp147
          refine w_ifeq (t := 51) gz_52_44 rfl (fun u165 => by exfalso; omega) (fun u165 => ?_)
          refine w_iconst gz_52_47 (by decide) ?_
          refine w_goto (t := 52) gz_52_48 rfl ?_
          refine w_istore_n (ls' := [(2, 82), (0, v12), (0, 2), (9, 0)]) gz_52_52 gm_52 rfl rfl rfl ?_
          refine w_iload_n gz_52_53 rfl ?_
          refine w_iconst gz_52_54 (by decide) ?_
          refine w_icne (t := 66) gz_52_55 rfl (fun u166 => ?_) (fun u166 => by exfalso; omega)
          refine w_aload_n gz_52_66 rfl ?_
          refine w_inv (k := 2) (as := []) (r := []) (x := 82) (ls0 := [(2, 82), (9, 0), (9, 0)]) gz_52_67 gm_37 rfl is_82 rd_5 rfl rfl rfl rfl rfl (c_Reader_nextToken9_f0 (d := (d + 3))  (w17.trans (by omega)) Al_h11t21 (fun h167 frh167 w168 w169 w170 xp171 xp172 Al_h167t173 Cu_h167t174 => ?_))
          have gh167 : my_fr [(4, 5), (4, 8), (4, 9), (5, 5), (5, 6), (5, 7), (5, 8), (5, 9), (32, -1), (33, -1), (34, -1), (35, -1)] h h167 := my_fr.tr gh11 (frh167.mo rfl)
          have Ln_h167 : Ln h167 := Ln_ag (my_ag.fr frh167 rfl) Ln_h11
          have Sp_h167 : Sp h167 wv := Sp_ag (my_ag.fr frh167 rfl) hwv Ln_h11 Sp_h11
          have St5_h167 : St5 h167 := St5_ag (my_ag.fr frh167 rfl) Ln_h11 St5_h11
          show wp l rho (d + 5) 52 70 [(2, 82), (0, v12), (0, 2), (9, 0)] [] h167 Q
          have xc175 := xp171 Cu_h11t22
          have tE176 : cs h11 = cs h := cs_eq (fun j => my_fr.at gh11 is_92 rfl) (my_fr.at gh11 is_82 rfl)
          rw [tE176] at xc175
          have ps177 : h11 82 7 = (sN (cs h) (h 82 7)) := xp18
          rw [ps177] at xc175
          have ck178 := Cu_s Cu_h167t174
          rw [show cs h167 = cs h from cs_eq (fun j => my_fr.at gh167 is_92 rfl) (my_fr.at gh167 is_82 rfl)] at ck178
          rw [show h167 82 7 = (sN (cs h) (((sN (cs h) (h 82 7))))) from xc175] at ck178
          refine w_aload_n gz_52_70 rfl ?_
          refine w_sipush gz_52_71 (by decide) ?_
          refine w_inv (k := 1) (as := [(0, 200)]) (r := []) (x := 82) (ls0 := [(2, 82), (0, 200), (9, 0)]) gz_52_74 gm_51 rfl is_82 rd_5 rfl rfl rfl rfl rfl (c_Reader_takeNumber9_f0 (d := (d + 2)) (x1 := 200) (by omega) (by omega) (((my_fr.at frh167 is_82 rfl).trans w17).trans (by omega)) Al_h167t173 Cu_h167t174 (fun h179 frh179 w180 w181 xp182 Al_h179t183 Cu_h179t184 => ?_) (fun h185 v186 frh185 w187 w188 w189 w190 w191 xp192 xp193 xp194 Al_h185t195 Cu_h185t196 => ?_))
          ·
            have gh179 : my_fr [(4, 5), (4, 8), (4, 9), (5, 5), (5, 6), (5, 7), (5, 8), (5, 9), (32, -1), (33, -1), (34, -1), (35, -1)] h h179 := my_fr.tr gh167 (frh179.mo rfl)
            have Ln_h179 : Ln h179 := Ln_ag (my_ag.fr frh179 rfl) Ln_h167
            have Sp_h179 : Sp h179 wv := Sp_ag (my_ag.fr frh179 rfl) hwv Ln_h167 Sp_h167
            have St5_h179 : St5 h179 := St5_ag (my_ag.fr frh179 rfl) Ln_h167 St5_h167
            show wp l rho (d + 5) 52 77 [(2, 82), (0, v12), (0, 2), (9, 0)] [(0, (-1))] h179 Q
            have tE197 : cs h167 = cs h := cs_eq (fun j => my_fr.at gh167 is_92 rfl) (my_fr.at gh167 is_82 rfl)
            rw [tE197] at xp182
            have ps198 : h167 82 7 = (sN (cs h) (((sN (cs h) (h 82 7))))) := xc175
            rw [ps198] at xp182
            refine w_istore_n (ls' := [(2, 82), (0, v12), (0, 2), (0, (-1))]) gz_52_77 gm_52 rfl rfl rfl ?_
            refine w_aload_n gz_52_78 rfl ?_
            refine v_getI (j := 9) gz_52_79 rfl is_82 rd_5 rfl (fun v199 ev199 pv199 qv199 => ?_)
            have zv199 := ev199.trans (rfl : h179 82 9 = h179 82 9)
            refine w_ifne (t := 102) gz_52_82 rfl (fun u200 => ?_) (fun u200 => by exfalso; omega)
            have psR : h179 82 7 = h179 82 7 := (rfl : h179 82 7 = h179 82 7)
            have npsR : cs h179 = cs h := cs_eq (fun j => my_fr.at gh179 is_92 rfl) (my_fr.at gh179 is_82 rfl)
            have c201 := ev199.symm
            exact w_vret gz_52_102 gm_52 (k0 h179 (gh179) (by omega) (by omega) (by first | exact std | (unfold cutR; first | exact Or.inr (Or.inr ⟨by omega, by omega, Or.inr ⟨by omega, Or.inr (Or.inr ⟨by omega, by omega, Or.inr ⟨by omega, by omega, by omega⟩⟩)⟩⟩) | exact Or.inr (Or.inr ⟨by omega, by omega, Or.inr ⟨by omega, Or.inr (Or.inr ⟨by omega, by omega, Or.inl ⟨by omega, by omega⟩⟩)⟩⟩) | exact Or.inr (Or.inr ⟨by omega, by omega, Or.inr ⟨by omega, Or.inr (Or.inl ⟨by omega, by omega, by omega⟩)⟩⟩) | exact Or.inr (Or.inr ⟨by omega, by omega, Or.inr ⟨by omega, Or.inl ⟨by omega, by omega⟩⟩⟩) | exact Or.inr (Or.inr ⟨by omega, by omega, Or.inl ⟨by omega, by omega, by omega, by omega⟩⟩) | exact Or.inr (Or.inl ⟨by omega, by omega, by omega⟩) | exact Or.inl ⟨by omega, by omega⟩) | omega) Ln_h179 Sp_h179 Al_h179t183 Cu_h179t184)
          ·
            have gh185 : my_fr [(4, 5), (4, 8), (4, 9), (5, 5), (5, 6), (5, 7), (5, 8), (5, 9), (32, -1), (33, -1), (34, -1), (35, -1)] h h185 := my_fr.tr gh167 (frh185.mo rfl)
            have Ln_h185 : Ln h185 := Ln_ag (my_ag.fr frh185 rfl) Ln_h167
            have Sp_h185 : Sp h185 wv := Sp_ag (my_ag.fr frh185 rfl) hwv Ln_h167 Sp_h167
            have St5_h185 : St5 h185 := St5_ag (my_ag.fr frh185 rfl) Ln_h167 St5_h167
            show wp l rho (d + 5) 52 77 [(2, 82), (0, v12), (0, 2), (9, 0)] [(0, v186)] h185 Q
            have tE202 : cs h167 = cs h := cs_eq (fun j => my_fr.at gh167 is_92 rfl) (my_fr.at gh167 is_82 rfl)
            rw [tE202] at xp192
            have ps203 : h167 82 7 = (sN (cs h) (((sN (cs h) (h 82 7))))) := xc175
            rw [ps203] at xp192
            rw [tE202] at xp193
            rw [ps203] at xp193
            rw [tE202] at xp194
            rw [ps203] at xp194
            have ck204 := Cu_s Cu_h185t196
            rw [show cs h185 = cs h from cs_eq (fun j => my_fr.at gh185 is_92 rfl) (my_fr.at gh185 is_82 rfl)] at ck204
            rw [show h185 82 7 = (sN (cs h) (((sN (cs h) (((sN (cs h) (h 82 7)))))))) from xp192] at ck204
            refine w_istore_n (ls' := [(2, 82), (0, v12), (0, 2), (0, v186)]) gz_52_77 gm_52 rfl rfl rfl ?_
            refine w_aload_n gz_52_78 rfl ?_
            refine v_getI (j := 9) gz_52_79 rfl is_82 rd_5 rfl (fun v205 ev205 pv205 qv205 => ?_)
            have zv205 := ev205.trans w191
            refine w_ifne (t := 102) gz_52_82 rfl (fun u206 => by exfalso; omega) (fun u206 => ?_)
            refine w_aload_n gz_52_85 rfl ?_
            refine w_inv (k := 0) (as := []) (r := []) (x := 82) (ls0 := [(2, 82)]) gz_52_86 gm_47 rfl is_82 rd_5 rfl rfl rfl rfl rfl (c_Reader_endsHere9_f0 (d := (d + 2))  (ev205.symm.trans (by omega)) Al_h185t195 Cu_h185t196 (fun h207 frh207 w208 w209 xp210 xp211 Al_h207t212 Cu_h207t213 => ?_) (fun h214 frh214 w215 xp216 xp217 Al_h214t218 Cu_h214t219 => ?_))
            ·
              have gh207 : my_fr [(4, 5), (4, 8), (4, 9), (5, 5), (5, 6), (5, 7), (5, 8), (5, 9), (32, -1), (33, -1), (34, -1), (35, -1)] h h207 := my_fr.tr gh185 (frh207.mo rfl)
              have Ln_h207 : Ln h207 := Ln_ag (my_ag.fr frh207 rfl) Ln_h185
              have Sp_h207 : Sp h207 wv := Sp_ag (my_ag.fr frh207 rfl) hwv Ln_h185 Sp_h185
              have St5_h207 : St5 h207 := St5_ag (my_ag.fr frh207 rfl) Ln_h185 St5_h185
              show wp l rho (d + 5) 52 89 [(2, 82), (0, v12), (0, 2), (0, v186)] [(0, 0)] h207 Q
              have tE220 : cs h185 = cs h := cs_eq (fun j => my_fr.at gh185 is_92 rfl) (my_fr.at gh185 is_82 rfl)
              rw [tE220] at xp210
              have ps221 : h185 82 7 = (sN (cs h) (((sN (cs h) (((sN (cs h) (h 82 7)))))))) := xp192
              rw [ps221] at xp210
              rw [ps221] at xp211
              refine w_ifeq (t := 102) gz_52_89 rfl (fun u222 => ?_) (fun u222 => by exfalso; omega)
              have psR : h207 82 7 = h207 82 7 := (rfl : h207 82 7 = h207 82 7)
              have npsR : cs h207 = cs h := cs_eq (fun j => my_fr.at gh207 is_92 rfl) (my_fr.at gh207 is_82 rfl)
              have c223 := (rfl : h207 82 9 = h207 82 9)
              exact w_vret gz_52_102 gm_52 (k0 h207 (gh207) (by omega) (by omega) (by first | exact std | (unfold cutR; first | exact Or.inr (Or.inr ⟨by omega, by omega, Or.inr ⟨by omega, Or.inr (Or.inr ⟨by omega, by omega, Or.inr ⟨by omega, by omega, by omega⟩⟩)⟩⟩) | exact Or.inr (Or.inr ⟨by omega, by omega, Or.inr ⟨by omega, Or.inr (Or.inr ⟨by omega, by omega, Or.inl ⟨by omega, by omega⟩⟩)⟩⟩) | exact Or.inr (Or.inr ⟨by omega, by omega, Or.inr ⟨by omega, Or.inr (Or.inl ⟨by omega, by omega, by omega⟩)⟩⟩) | exact Or.inr (Or.inr ⟨by omega, by omega, Or.inr ⟨by omega, Or.inl ⟨by omega, by omega⟩⟩⟩) | exact Or.inr (Or.inr ⟨by omega, by omega, Or.inl ⟨by omega, by omega, by omega, by omega⟩⟩) | exact Or.inr (Or.inl ⟨by omega, by omega, by omega⟩) | exact Or.inl ⟨by omega, by omega⟩) | omega) Ln_h207 Sp_h207 Al_h207t212 Cu_h207t213)
            ·
              have gh214 : my_fr [(4, 5), (4, 8), (4, 9), (5, 5), (5, 6), (5, 7), (5, 8), (5, 9), (32, -1), (33, -1), (34, -1), (35, -1)] h h214 := my_fr.tr gh185 (frh214.mo rfl)
              have Ln_h214 : Ln h214 := Ln_ag (my_ag.fr frh214 rfl) Ln_h185
              have Sp_h214 : Sp h214 wv := Sp_ag (my_ag.fr frh214 rfl) hwv Ln_h185 Sp_h185
              have St5_h214 : St5 h214 := St5_ag (my_ag.fr frh214 rfl) Ln_h185 St5_h185
              show wp l rho (d + 5) 52 89 [(2, 82), (0, v12), (0, 2), (0, v186)] [(0, 1)] h214 Q
              have tE224 : cs h185 = cs h := cs_eq (fun j => my_fr.at gh185 is_92 rfl) (my_fr.at gh185 is_82 rfl)
              rw [tE224] at xp216
              have ps225 : h185 82 7 = (sN (cs h) (((sN (cs h) (((sN (cs h) (h 82 7)))))))) := xp192
              rw [ps225] at xp216
              rw [tE224] at xp217
              rw [ps225] at xp217
              have ck226 := Cu_s Cu_h214t219
              rw [show cs h214 = cs h from cs_eq (fun j => my_fr.at gh214 is_92 rfl) (my_fr.at gh214 is_82 rfl)] at ck226
              rw [show h214 82 7 = (sN (cs h) (((sN (cs h) (((sN (cs h) (((sN (cs h) (h 82 7))))))))))) from xp216] at ck226
              refine w_ifeq (t := 102) gz_52_89 rfl (fun u227 => by exfalso; omega) (fun u227 => ?_)
              refine w_aload_n gz_52_92 rfl ?_
              refine v_getR (j := 2) gz_52_93 rfl is_82 rd_5 rfl (fun v228 ev228 tv228 => ?_)
              have zv228 : v2 = v228 := (ev228.trans ((my_fr.at frh214 is_82 rfl).trans ((my_fr.at frh185 is_82 rfl).trans ((my_fr.at frh167 is_82 rfl).trans ((my_fr.at frh11 is_82 rfl).trans ev2.symm))))).symm
              subst zv228
              refine w_iload_n gz_52_96 rfl ?_
              refine w_iload_n gz_52_97 rfl ?_
              refine w_iload_n gz_52_98 rfl ?_
              have ce229 : h214 82 2 = v2 := ((my_fr.at frh214 is_82 rfl).trans ((my_fr.at frh185 is_82 rfl).trans ((my_fr.at frh167 is_82 rfl).trans ((my_fr.at frh11 is_82 rfl).trans ev2.symm))))
              have s5a := St5_h214
              have s5e : v2 = h214 82 2 := by first | assumption | omega
              unfold St5 at s5a
              rw [← s5e] at s5a
              have ce230 : h214 v2 1 = h v2 1 := ((my_fr.at frh214 tv2 rfl).trans ((my_fr.at frh185 tv2 rfl).trans ((my_fr.at frh167 tv2 rfl).trans ((my_fr.at frh11 tv2 rfl).trans (rfl : h v2 1 = h v2 1)))))
              have ce231 : h214 v2 3 = h v2 3 := ((my_fr.at frh214 tv2 rfl).trans ((my_fr.at frh185 tv2 rfl).trans ((my_fr.at frh167 tv2 rfl).trans ((my_fr.at frh11 tv2 rfl).trans (rfl : h v2 3 = h v2 3)))))
              have ce232 : h214 v2 4 = h v2 4 := ((my_fr.at frh214 tv2 rfl).trans ((my_fr.at frh185 tv2 rfl).trans ((my_fr.at frh167 tv2 rfl).trans ((my_fr.at frh11 tv2 rfl).trans (rfl : h v2 4 = h v2 4)))))
              have ce233 : h214 v2 9 = h v2 9 := ((my_fr.at frh214 tv2 rfl).trans ((my_fr.at frh185 tv2 rfl).trans ((my_fr.at frh167 tv2 rfl).trans ((my_fr.at frh11 tv2 rfl).trans (rfl : h v2 9 = h v2 9)))))
              have sE : v2 = h 82 2 := by first | assumption | omega
              have eS1 : h214 v2 1 = h v2 1 := by omega
              have eS3 : h214 v2 3 = h v2 3 := by omega
              have eS4 : h214 v2 4 = h v2 4 := by omega
              have eS9 : h214 v2 9 = h v2 9 := by omega
              refine w_inv (k := 0) (as := [(0, v186), (0, v12), (0, 2)]) (r := []) (x := v2) (ls0 := [(2, v2), (0, 2), (0, v12), (0, v186)]) gz_52_99 gm_53 rfl tv2 rd_4 rfl rfl rfl rfl rfl (c_Lens_addCut (d := (d + 3)) (x0 := v2) (x1 := 2) (x2 := v12) (x3 := v186) tv2 (by omega) (by omega) (by omega) (by omega) (by omega) (by omega) (by first | assumption | exact no_such_saying | exact Fp_told (by omega) (by omega) | omega | (subst_vars; omega) | omega) (fun h234 frh234 fxh234 w235 w236 xp237 => ?_))
              have gh234 : my_fr [(4, 5), (4, 8), (4, 9), (5, 5), (5, 6), (5, 7), (5, 8), (5, 9), (32, -1), (33, -1), (34, -1), (35, -1)] h h234 := my_fr.tr gh214 (frh234.mo rfl)
              have Ln_h234 : Ln h234 := Ln_fx fxh234 (by first | assumption | omega) Ln_h214
              have Al_h234 : Al h234 := Al_ag (my_ag.fr frh234 rfl) Al_h214t218
              have Cu_h234 : Cu h234 := Cu_ag (my_ag.fr frh234 rfl) Cu_h214t219
              show wp l rho (d + 5) 52 102 [(2, 82), (0, v12), (0, 2), (0, v186)] [] h234 Q
              have Sp_h234t238 : Sp h234 wv := Sp_add fxh234 (by first | assumption | omega) hwv Ln_h214 Sp_h214 xp237 (by have := St5_h214.1; omega) (by omega) (by omega)
              have ce239 : h234 82 2 = v2 := ((my_fr.at frh234 is_82 rfl).trans ((my_fr.at frh214 is_82 rfl).trans ((my_fr.at frh185 is_82 rfl).trans ((my_fr.at frh167 is_82 rfl).trans ((my_fr.at frh11 is_82 rfl).trans ev2.symm)))))
              have std := Std_add xp237 sE (by omega) eS3 eS4 eS9 eS1
              have psR : h234 82 7 = (sN (cs h) (((sN (cs h) (((sN (cs h) (((sN (cs h) (h 82 7))))))))))) := ((my_fr.at frh234 is_82 rfl).trans xp216)
              have npsR : cs h234 = cs h := cs_eq (fun j => my_fr.at gh234 is_92 rfl) (my_fr.at gh234 is_82 rfl)
              have c240 := ((my_fr.at frh234 is_82 rfl).trans w215)
              exact w_vret gz_52_102 gm_52 (k1 h234 (gh234) (by omega) (by first | exact std | (unfold cutR; first | exact Or.inr (Or.inr ⟨by omega, by omega, Or.inr ⟨by omega, Or.inr (Or.inr ⟨by omega, by omega, Or.inr ⟨by omega, by omega, by omega⟩⟩)⟩⟩) | exact Or.inr (Or.inr ⟨by omega, by omega, Or.inr ⟨by omega, Or.inr (Or.inr ⟨by omega, by omega, Or.inl ⟨by omega, by omega⟩⟩)⟩⟩) | exact Or.inr (Or.inr ⟨by omega, by omega, Or.inr ⟨by omega, Or.inr (Or.inl ⟨by omega, by omega, by omega⟩)⟩⟩) | exact Or.inr (Or.inr ⟨by omega, by omega, Or.inr ⟨by omega, Or.inl ⟨by omega, by omega⟩⟩⟩) | exact Or.inr (Or.inr ⟨by omega, by omega, Or.inl ⟨by omega, by omega, by omega, by omega⟩⟩) | exact Or.inr (Or.inl ⟨by omega, by omega, by omega⟩) | exact Or.inl ⟨by omega, by omega⟩) | omega) (by first | exact std | (unfold cutR; first | exact Or.inr (Or.inr ⟨by omega, by omega, Or.inr ⟨by omega, Or.inr (Or.inr ⟨by omega, by omega, Or.inr ⟨by omega, by omega, by omega⟩⟩)⟩⟩) | exact Or.inr (Or.inr ⟨by omega, by omega, Or.inr ⟨by omega, Or.inr (Or.inr ⟨by omega, by omega, Or.inl ⟨by omega, by omega⟩⟩)⟩⟩) | exact Or.inr (Or.inr ⟨by omega, by omega, Or.inr ⟨by omega, Or.inr (Or.inl ⟨by omega, by omega, by omega⟩)⟩⟩) | exact Or.inr (Or.inr ⟨by omega, by omega, Or.inr ⟨by omega, Or.inl ⟨by omega, by omega⟩⟩⟩) | exact Or.inr (Or.inr ⟨by omega, by omega, Or.inl ⟨by omega, by omega, by omega, by omega⟩⟩) | exact Or.inr (Or.inl ⟨by omega, by omega, by omega⟩) | exact Or.inl ⟨by omega, by omega⟩) | omega) Ln_h234 Sp_h234t238 Al_h234 Cu_h234)
      ·
        show wp l rho (d + 5) 52 31 [(2, 82), (0, v12), (9, 0), (9, 0)] [(0, 1)] h11 Q
        rw [show wc ((10 : Nat) : Int) = 352 from by decide] at xp139
        have tE241 : cs h11 = cs h := cs_eq (fun j => my_fr.at gh11 is_92 rfl) (my_fr.at gh11 is_82 rfl)
        rw [tE241] at xp139
        have ps242 : h11 82 7 = (sN (cs h) (h 82 7)) := xp18
        rw [ps242] at xp139
        refine w_ifeq (t := 38) gz_52_31 rfl (fun u243 => by exfalso; omega) (fun u243 => ?_)
        refine w_iconst gz_52_34 (by decide) ?_
        refine w_goto (t := 52) gz_52_35 rfl ?_
        refine w_istore_n (ls' := [(2, 82), (0, v12), (0, 1), (9, 0)]) gz_52_52 gm_52 rfl rfl rfl ?_
        refine w_iload_n gz_52_53 rfl ?_
        refine w_iconst gz_52_54 (by decide) ?_
        refine w_icne (t := 66) gz_52_55 rfl (fun u244 => ?_) (fun u244 => by exfalso; omega)
        refine w_aload_n gz_52_66 rfl ?_
        refine w_inv (k := 2) (as := []) (r := []) (x := 82) (ls0 := [(2, 82), (9, 0), (9, 0)]) gz_52_67 gm_37 rfl is_82 rd_5 rfl rfl rfl rfl rfl (c_Reader_nextToken9_f0 (d := (d + 3))  (w17.trans (by omega)) Al_h11t21 (fun h245 frh245 w246 w247 w248 xp249 xp250 Al_h245t251 Cu_h245t252 => ?_))
        have gh245 : my_fr [(4, 5), (4, 8), (4, 9), (5, 5), (5, 6), (5, 7), (5, 8), (5, 9), (32, -1), (33, -1), (34, -1), (35, -1)] h h245 := my_fr.tr gh11 (frh245.mo rfl)
        have Ln_h245 : Ln h245 := Ln_ag (my_ag.fr frh245 rfl) Ln_h11
        have Sp_h245 : Sp h245 wv := Sp_ag (my_ag.fr frh245 rfl) hwv Ln_h11 Sp_h11
        have St5_h245 : St5 h245 := St5_ag (my_ag.fr frh245 rfl) Ln_h11 St5_h11
        show wp l rho (d + 5) 52 70 [(2, 82), (0, v12), (0, 1), (9, 0)] [] h245 Q
        have xc253 := xp249 Cu_h11t22
        have tE254 : cs h11 = cs h := cs_eq (fun j => my_fr.at gh11 is_92 rfl) (my_fr.at gh11 is_82 rfl)
        rw [tE254] at xc253
        have ps255 : h11 82 7 = (sN (cs h) (h 82 7)) := xp18
        rw [ps255] at xc253
        have ck256 := Cu_s Cu_h245t252
        rw [show cs h245 = cs h from cs_eq (fun j => my_fr.at gh245 is_92 rfl) (my_fr.at gh245 is_82 rfl)] at ck256
        rw [show h245 82 7 = (sN (cs h) (((sN (cs h) (h 82 7))))) from xc253] at ck256
        refine w_aload_n gz_52_70 rfl ?_
        refine w_sipush gz_52_71 (by decide) ?_
        refine w_inv (k := 1) (as := [(0, 200)]) (r := []) (x := 82) (ls0 := [(2, 82), (0, 200), (9, 0)]) gz_52_74 gm_51 rfl is_82 rd_5 rfl rfl rfl rfl rfl (c_Reader_takeNumber9_f0 (d := (d + 2)) (x1 := 200) (by omega) (by omega) (((my_fr.at frh245 is_82 rfl).trans w17).trans (by omega)) Al_h245t251 Cu_h245t252 (fun h257 frh257 w258 w259 xp260 Al_h257t261 Cu_h257t262 => ?_) (fun h263 v264 frh263 w265 w266 w267 w268 w269 xp270 xp271 xp272 Al_h263t273 Cu_h263t274 => ?_))
        ·
          have gh257 : my_fr [(4, 5), (4, 8), (4, 9), (5, 5), (5, 6), (5, 7), (5, 8), (5, 9), (32, -1), (33, -1), (34, -1), (35, -1)] h h257 := my_fr.tr gh245 (frh257.mo rfl)
          have Ln_h257 : Ln h257 := Ln_ag (my_ag.fr frh257 rfl) Ln_h245
          have Sp_h257 : Sp h257 wv := Sp_ag (my_ag.fr frh257 rfl) hwv Ln_h245 Sp_h245
          have St5_h257 : St5 h257 := St5_ag (my_ag.fr frh257 rfl) Ln_h245 St5_h245
          show wp l rho (d + 5) 52 77 [(2, 82), (0, v12), (0, 1), (9, 0)] [(0, (-1))] h257 Q
          have tE275 : cs h245 = cs h := cs_eq (fun j => my_fr.at gh245 is_92 rfl) (my_fr.at gh245 is_82 rfl)
          rw [tE275] at xp260
          have ps276 : h245 82 7 = (sN (cs h) (((sN (cs h) (h 82 7))))) := xc253
          rw [ps276] at xp260
          refine w_istore_n (ls' := [(2, 82), (0, v12), (0, 1), (0, (-1))]) gz_52_77 gm_52 rfl rfl rfl ?_
          refine w_aload_n gz_52_78 rfl ?_
          refine v_getI (j := 9) gz_52_79 rfl is_82 rd_5 rfl (fun v277 ev277 pv277 qv277 => ?_)
          have zv277 := ev277.trans (rfl : h257 82 9 = h257 82 9)
          refine w_ifne (t := 102) gz_52_82 rfl (fun u278 => ?_) (fun u278 => by exfalso; omega)
          have psR : h257 82 7 = h257 82 7 := (rfl : h257 82 7 = h257 82 7)
          have npsR : cs h257 = cs h := cs_eq (fun j => my_fr.at gh257 is_92 rfl) (my_fr.at gh257 is_82 rfl)
          have c279 := ev277.symm
          exact w_vret gz_52_102 gm_52 (k0 h257 (gh257) (by omega) (by omega) (by first | exact std | (unfold cutR; first | exact Or.inr (Or.inr ⟨by omega, by omega, Or.inr ⟨by omega, Or.inr (Or.inr ⟨by omega, by omega, Or.inr ⟨by omega, by omega, by omega⟩⟩)⟩⟩) | exact Or.inr (Or.inr ⟨by omega, by omega, Or.inr ⟨by omega, Or.inr (Or.inr ⟨by omega, by omega, Or.inl ⟨by omega, by omega⟩⟩)⟩⟩) | exact Or.inr (Or.inr ⟨by omega, by omega, Or.inr ⟨by omega, Or.inr (Or.inl ⟨by omega, by omega, by omega⟩)⟩⟩) | exact Or.inr (Or.inr ⟨by omega, by omega, Or.inr ⟨by omega, Or.inl ⟨by omega, by omega⟩⟩⟩) | exact Or.inr (Or.inr ⟨by omega, by omega, Or.inl ⟨by omega, by omega, by omega, by omega⟩⟩) | exact Or.inr (Or.inl ⟨by omega, by omega, by omega⟩) | exact Or.inl ⟨by omega, by omega⟩) | omega) Ln_h257 Sp_h257 Al_h257t261 Cu_h257t262)
        ·
          have gh263 : my_fr [(4, 5), (4, 8), (4, 9), (5, 5), (5, 6), (5, 7), (5, 8), (5, 9), (32, -1), (33, -1), (34, -1), (35, -1)] h h263 := my_fr.tr gh245 (frh263.mo rfl)
          have Ln_h263 : Ln h263 := Ln_ag (my_ag.fr frh263 rfl) Ln_h245
          have Sp_h263 : Sp h263 wv := Sp_ag (my_ag.fr frh263 rfl) hwv Ln_h245 Sp_h245
          have St5_h263 : St5 h263 := St5_ag (my_ag.fr frh263 rfl) Ln_h245 St5_h245
          show wp l rho (d + 5) 52 77 [(2, 82), (0, v12), (0, 1), (9, 0)] [(0, v264)] h263 Q
          have tE280 : cs h245 = cs h := cs_eq (fun j => my_fr.at gh245 is_92 rfl) (my_fr.at gh245 is_82 rfl)
          rw [tE280] at xp270
          have ps281 : h245 82 7 = (sN (cs h) (((sN (cs h) (h 82 7))))) := xc253
          rw [ps281] at xp270
          rw [tE280] at xp271
          rw [ps281] at xp271
          rw [tE280] at xp272
          rw [ps281] at xp272
          have ck282 := Cu_s Cu_h263t274
          rw [show cs h263 = cs h from cs_eq (fun j => my_fr.at gh263 is_92 rfl) (my_fr.at gh263 is_82 rfl)] at ck282
          rw [show h263 82 7 = (sN (cs h) (((sN (cs h) (((sN (cs h) (h 82 7)))))))) from xp270] at ck282
          refine w_istore_n (ls' := [(2, 82), (0, v12), (0, 1), (0, v264)]) gz_52_77 gm_52 rfl rfl rfl ?_
          refine w_aload_n gz_52_78 rfl ?_
          refine v_getI (j := 9) gz_52_79 rfl is_82 rd_5 rfl (fun v283 ev283 pv283 qv283 => ?_)
          have zv283 := ev283.trans w269
          refine w_ifne (t := 102) gz_52_82 rfl (fun u284 => by exfalso; omega) (fun u284 => ?_)
          refine w_aload_n gz_52_85 rfl ?_
          refine w_inv (k := 0) (as := []) (r := []) (x := 82) (ls0 := [(2, 82)]) gz_52_86 gm_47 rfl is_82 rd_5 rfl rfl rfl rfl rfl (c_Reader_endsHere9_f0 (d := (d + 2))  (ev283.symm.trans (by omega)) Al_h263t273 Cu_h263t274 (fun h285 frh285 w286 w287 xp288 xp289 Al_h285t290 Cu_h285t291 => ?_) (fun h292 frh292 w293 xp294 xp295 Al_h292t296 Cu_h292t297 => ?_))
          ·
            have gh285 : my_fr [(4, 5), (4, 8), (4, 9), (5, 5), (5, 6), (5, 7), (5, 8), (5, 9), (32, -1), (33, -1), (34, -1), (35, -1)] h h285 := my_fr.tr gh263 (frh285.mo rfl)
            have Ln_h285 : Ln h285 := Ln_ag (my_ag.fr frh285 rfl) Ln_h263
            have Sp_h285 : Sp h285 wv := Sp_ag (my_ag.fr frh285 rfl) hwv Ln_h263 Sp_h263
            have St5_h285 : St5 h285 := St5_ag (my_ag.fr frh285 rfl) Ln_h263 St5_h263
            show wp l rho (d + 5) 52 89 [(2, 82), (0, v12), (0, 1), (0, v264)] [(0, 0)] h285 Q
            have tE298 : cs h263 = cs h := cs_eq (fun j => my_fr.at gh263 is_92 rfl) (my_fr.at gh263 is_82 rfl)
            rw [tE298] at xp288
            have ps299 : h263 82 7 = (sN (cs h) (((sN (cs h) (((sN (cs h) (h 82 7)))))))) := xp270
            rw [ps299] at xp288
            rw [ps299] at xp289
            refine w_ifeq (t := 102) gz_52_89 rfl (fun u300 => ?_) (fun u300 => by exfalso; omega)
            have psR : h285 82 7 = h285 82 7 := (rfl : h285 82 7 = h285 82 7)
            have npsR : cs h285 = cs h := cs_eq (fun j => my_fr.at gh285 is_92 rfl) (my_fr.at gh285 is_82 rfl)
            have c301 := (rfl : h285 82 9 = h285 82 9)
            exact w_vret gz_52_102 gm_52 (k0 h285 (gh285) (by omega) (by omega) (by first | exact std | (unfold cutR; first | exact Or.inr (Or.inr ⟨by omega, by omega, Or.inr ⟨by omega, Or.inr (Or.inr ⟨by omega, by omega, Or.inr ⟨by omega, by omega, by omega⟩⟩)⟩⟩) | exact Or.inr (Or.inr ⟨by omega, by omega, Or.inr ⟨by omega, Or.inr (Or.inr ⟨by omega, by omega, Or.inl ⟨by omega, by omega⟩⟩)⟩⟩) | exact Or.inr (Or.inr ⟨by omega, by omega, Or.inr ⟨by omega, Or.inr (Or.inl ⟨by omega, by omega, by omega⟩)⟩⟩) | exact Or.inr (Or.inr ⟨by omega, by omega, Or.inr ⟨by omega, Or.inl ⟨by omega, by omega⟩⟩⟩) | exact Or.inr (Or.inr ⟨by omega, by omega, Or.inl ⟨by omega, by omega, by omega, by omega⟩⟩) | exact Or.inr (Or.inl ⟨by omega, by omega, by omega⟩) | exact Or.inl ⟨by omega, by omega⟩) | omega) Ln_h285 Sp_h285 Al_h285t290 Cu_h285t291)
          ·
            have gh292 : my_fr [(4, 5), (4, 8), (4, 9), (5, 5), (5, 6), (5, 7), (5, 8), (5, 9), (32, -1), (33, -1), (34, -1), (35, -1)] h h292 := my_fr.tr gh263 (frh292.mo rfl)
            have Ln_h292 : Ln h292 := Ln_ag (my_ag.fr frh292 rfl) Ln_h263
            have Sp_h292 : Sp h292 wv := Sp_ag (my_ag.fr frh292 rfl) hwv Ln_h263 Sp_h263
            have St5_h292 : St5 h292 := St5_ag (my_ag.fr frh292 rfl) Ln_h263 St5_h263
            show wp l rho (d + 5) 52 89 [(2, 82), (0, v12), (0, 1), (0, v264)] [(0, 1)] h292 Q
            have tE302 : cs h263 = cs h := cs_eq (fun j => my_fr.at gh263 is_92 rfl) (my_fr.at gh263 is_82 rfl)
            rw [tE302] at xp294
            have ps303 : h263 82 7 = (sN (cs h) (((sN (cs h) (((sN (cs h) (h 82 7)))))))) := xp270
            rw [ps303] at xp294
            rw [tE302] at xp295
            rw [ps303] at xp295
            have ck304 := Cu_s Cu_h292t297
            rw [show cs h292 = cs h from cs_eq (fun j => my_fr.at gh292 is_92 rfl) (my_fr.at gh292 is_82 rfl)] at ck304
            rw [show h292 82 7 = (sN (cs h) (((sN (cs h) (((sN (cs h) (((sN (cs h) (h 82 7))))))))))) from xp294] at ck304
            refine w_ifeq (t := 102) gz_52_89 rfl (fun u305 => by exfalso; omega) (fun u305 => ?_)
            refine w_aload_n gz_52_92 rfl ?_
            refine v_getR (j := 2) gz_52_93 rfl is_82 rd_5 rfl (fun v306 ev306 tv306 => ?_)
            have zv306 : v2 = v306 := (ev306.trans ((my_fr.at frh292 is_82 rfl).trans ((my_fr.at frh263 is_82 rfl).trans ((my_fr.at frh245 is_82 rfl).trans ((my_fr.at frh11 is_82 rfl).trans ev2.symm))))).symm
            subst zv306
            refine w_iload_n gz_52_96 rfl ?_
            refine w_iload_n gz_52_97 rfl ?_
            refine w_iload_n gz_52_98 rfl ?_
            have ce307 : h292 82 2 = v2 := ((my_fr.at frh292 is_82 rfl).trans ((my_fr.at frh263 is_82 rfl).trans ((my_fr.at frh245 is_82 rfl).trans ((my_fr.at frh11 is_82 rfl).trans ev2.symm))))
            have s5a := St5_h292
            have s5e : v2 = h292 82 2 := by first | assumption | omega
            unfold St5 at s5a
            rw [← s5e] at s5a
            have ce308 : h292 v2 1 = h v2 1 := ((my_fr.at frh292 tv2 rfl).trans ((my_fr.at frh263 tv2 rfl).trans ((my_fr.at frh245 tv2 rfl).trans ((my_fr.at frh11 tv2 rfl).trans (rfl : h v2 1 = h v2 1)))))
            have ce309 : h292 v2 3 = h v2 3 := ((my_fr.at frh292 tv2 rfl).trans ((my_fr.at frh263 tv2 rfl).trans ((my_fr.at frh245 tv2 rfl).trans ((my_fr.at frh11 tv2 rfl).trans (rfl : h v2 3 = h v2 3)))))
            have ce310 : h292 v2 4 = h v2 4 := ((my_fr.at frh292 tv2 rfl).trans ((my_fr.at frh263 tv2 rfl).trans ((my_fr.at frh245 tv2 rfl).trans ((my_fr.at frh11 tv2 rfl).trans (rfl : h v2 4 = h v2 4)))))
            have ce311 : h292 v2 9 = h v2 9 := ((my_fr.at frh292 tv2 rfl).trans ((my_fr.at frh263 tv2 rfl).trans ((my_fr.at frh245 tv2 rfl).trans ((my_fr.at frh11 tv2 rfl).trans (rfl : h v2 9 = h v2 9)))))
            have sE : v2 = h 82 2 := by first | assumption | omega
            have eS1 : h292 v2 1 = h v2 1 := by omega
            have eS3 : h292 v2 3 = h v2 3 := by omega
            have eS4 : h292 v2 4 = h v2 4 := by omega
            have eS9 : h292 v2 9 = h v2 9 := by omega
            refine w_inv (k := 0) (as := [(0, v264), (0, v12), (0, 1)]) (r := []) (x := v2) (ls0 := [(2, v2), (0, 1), (0, v12), (0, v264)]) gz_52_99 gm_53 rfl tv2 rd_4 rfl rfl rfl rfl rfl (c_Lens_addCut (d := (d + 3)) (x0 := v2) (x1 := 1) (x2 := v12) (x3 := v264) tv2 (by omega) (by omega) (by omega) (by omega) (by omega) (by omega) (by first | assumption | exact no_such_saying | exact Fp_told (by omega) (by omega) | omega | (subst_vars; omega) | omega) (fun h312 frh312 fxh312 w313 w314 xp315 => ?_))
            have gh312 : my_fr [(4, 5), (4, 8), (4, 9), (5, 5), (5, 6), (5, 7), (5, 8), (5, 9), (32, -1), (33, -1), (34, -1), (35, -1)] h h312 := my_fr.tr gh292 (frh312.mo rfl)
            have Ln_h312 : Ln h312 := Ln_fx fxh312 (by first | assumption | omega) Ln_h292
            have Al_h312 : Al h312 := Al_ag (my_ag.fr frh312 rfl) Al_h292t296
            have Cu_h312 : Cu h312 := Cu_ag (my_ag.fr frh312 rfl) Cu_h292t297
            show wp l rho (d + 5) 52 102 [(2, 82), (0, v12), (0, 1), (0, v264)] [] h312 Q
            have Sp_h312t316 : Sp h312 wv := Sp_add fxh312 (by first | assumption | omega) hwv Ln_h292 Sp_h292 xp315 (by have := St5_h292.1; omega) (by omega) (by omega)
            have ce317 : h312 82 2 = v2 := ((my_fr.at frh312 is_82 rfl).trans ((my_fr.at frh292 is_82 rfl).trans ((my_fr.at frh263 is_82 rfl).trans ((my_fr.at frh245 is_82 rfl).trans ((my_fr.at frh11 is_82 rfl).trans ev2.symm)))))
            have std := Std_add xp315 sE (by omega) eS3 eS4 eS9 eS1
            have psR : h312 82 7 = (sN (cs h) (((sN (cs h) (((sN (cs h) (((sN (cs h) (h 82 7))))))))))) := ((my_fr.at frh312 is_82 rfl).trans xp294)
            have npsR : cs h312 = cs h := cs_eq (fun j => my_fr.at gh312 is_92 rfl) (my_fr.at gh312 is_82 rfl)
            have c318 := ((my_fr.at frh312 is_82 rfl).trans w293)
            exact w_vret gz_52_102 gm_52 (k1 h312 (gh312) (by omega) (by first | exact std | (unfold cutR; first | exact Or.inr (Or.inr ⟨by omega, by omega, Or.inr ⟨by omega, Or.inr (Or.inr ⟨by omega, by omega, Or.inr ⟨by omega, by omega, by omega⟩⟩)⟩⟩) | exact Or.inr (Or.inr ⟨by omega, by omega, Or.inr ⟨by omega, Or.inr (Or.inr ⟨by omega, by omega, Or.inl ⟨by omega, by omega⟩⟩)⟩⟩) | exact Or.inr (Or.inr ⟨by omega, by omega, Or.inr ⟨by omega, Or.inr (Or.inl ⟨by omega, by omega, by omega⟩)⟩⟩) | exact Or.inr (Or.inr ⟨by omega, by omega, Or.inr ⟨by omega, Or.inl ⟨by omega, by omega⟩⟩⟩) | exact Or.inr (Or.inr ⟨by omega, by omega, Or.inl ⟨by omega, by omega, by omega, by omega⟩⟩) | exact Or.inr (Or.inl ⟨by omega, by omega, by omega⟩) | exact Or.inl ⟨by omega, by omega⟩) | omega) (by first | exact std | (unfold cutR; first | exact Or.inr (Or.inr ⟨by omega, by omega, Or.inr ⟨by omega, Or.inr (Or.inr ⟨by omega, by omega, Or.inr ⟨by omega, by omega, by omega⟩⟩)⟩⟩) | exact Or.inr (Or.inr ⟨by omega, by omega, Or.inr ⟨by omega, Or.inr (Or.inr ⟨by omega, by omega, Or.inl ⟨by omega, by omega⟩⟩)⟩⟩) | exact Or.inr (Or.inr ⟨by omega, by omega, Or.inr ⟨by omega, Or.inr (Or.inl ⟨by omega, by omega, by omega⟩)⟩⟩) | exact Or.inr (Or.inr ⟨by omega, by omega, Or.inr ⟨by omega, Or.inl ⟨by omega, by omega⟩⟩⟩) | exact Or.inr (Or.inr ⟨by omega, by omega, Or.inl ⟨by omega, by omega, by omega, by omega⟩⟩) | exact Or.inr (Or.inl ⟨by omega, by omega, by omega⟩) | exact Or.inl ⟨by omega, by omega⟩) | omega) Ln_h312 Sp_h312t316 Al_h312 Cu_h312)
    ·
      show wp l rho (d + 5) 52 18 [(2, 82), (0, v12), (9, 0), (9, 0)] [(0, 1)] h11 Q
      rw [show wc ((9 : Nat) : Int) = 615403 from by decide] at xp131
      have tE319 : cs h11 = cs h := cs_eq (fun j => my_fr.at gh11 is_92 rfl) (my_fr.at gh11 is_82 rfl)
      rw [tE319] at xp131
      have ps320 : h11 82 7 = (sN (cs h) (h 82 7)) := xp18
      rw [ps320] at xp131
      refine w_ifeq (t := 25) gz_52_18 rfl (fun u321 => by exfalso; omega) (fun u321 => ?_)
      refine w_iconst gz_52_21 (by decide) ?_
      refine w_goto (t := 52) gz_52_22 rfl ?_
      refine w_istore_n (ls' := [(2, 82), (0, v12), (0, 0), (9, 0)]) gz_52_52 gm_52 rfl rfl rfl ?_
      refine w_iload_n gz_52_53 rfl ?_
      refine w_iconst gz_52_54 (by decide) ?_
      refine w_icne (t := 66) gz_52_55 rfl (fun u322 => ?_) (fun u322 => by exfalso; omega)
      refine w_aload_n gz_52_66 rfl ?_
      refine w_inv (k := 2) (as := []) (r := []) (x := 82) (ls0 := [(2, 82), (9, 0), (9, 0)]) gz_52_67 gm_37 rfl is_82 rd_5 rfl rfl rfl rfl rfl (c_Reader_nextToken9_f0 (d := (d + 3))  (w17.trans (by omega)) Al_h11t21 (fun h323 frh323 w324 w325 w326 xp327 xp328 Al_h323t329 Cu_h323t330 => ?_))
      have gh323 : my_fr [(4, 5), (4, 8), (4, 9), (5, 5), (5, 6), (5, 7), (5, 8), (5, 9), (32, -1), (33, -1), (34, -1), (35, -1)] h h323 := my_fr.tr gh11 (frh323.mo rfl)
      have Ln_h323 : Ln h323 := Ln_ag (my_ag.fr frh323 rfl) Ln_h11
      have Sp_h323 : Sp h323 wv := Sp_ag (my_ag.fr frh323 rfl) hwv Ln_h11 Sp_h11
      have St5_h323 : St5 h323 := St5_ag (my_ag.fr frh323 rfl) Ln_h11 St5_h11
      show wp l rho (d + 5) 52 70 [(2, 82), (0, v12), (0, 0), (9, 0)] [] h323 Q
      have xc331 := xp327 Cu_h11t22
      have tE332 : cs h11 = cs h := cs_eq (fun j => my_fr.at gh11 is_92 rfl) (my_fr.at gh11 is_82 rfl)
      rw [tE332] at xc331
      have ps333 : h11 82 7 = (sN (cs h) (h 82 7)) := xp18
      rw [ps333] at xc331
      have ck334 := Cu_s Cu_h323t330
      rw [show cs h323 = cs h from cs_eq (fun j => my_fr.at gh323 is_92 rfl) (my_fr.at gh323 is_82 rfl)] at ck334
      rw [show h323 82 7 = (sN (cs h) (((sN (cs h) (h 82 7))))) from xc331] at ck334
      refine w_aload_n gz_52_70 rfl ?_
      refine w_sipush gz_52_71 (by decide) ?_
      refine w_inv (k := 1) (as := [(0, 200)]) (r := []) (x := 82) (ls0 := [(2, 82), (0, 200), (9, 0)]) gz_52_74 gm_51 rfl is_82 rd_5 rfl rfl rfl rfl rfl (c_Reader_takeNumber9_f0 (d := (d + 2)) (x1 := 200) (by omega) (by omega) (((my_fr.at frh323 is_82 rfl).trans w17).trans (by omega)) Al_h323t329 Cu_h323t330 (fun h335 frh335 w336 w337 xp338 Al_h335t339 Cu_h335t340 => ?_) (fun h341 v342 frh341 w343 w344 w345 w346 w347 xp348 xp349 xp350 Al_h341t351 Cu_h341t352 => ?_))
      ·
        have gh335 : my_fr [(4, 5), (4, 8), (4, 9), (5, 5), (5, 6), (5, 7), (5, 8), (5, 9), (32, -1), (33, -1), (34, -1), (35, -1)] h h335 := my_fr.tr gh323 (frh335.mo rfl)
        have Ln_h335 : Ln h335 := Ln_ag (my_ag.fr frh335 rfl) Ln_h323
        have Sp_h335 : Sp h335 wv := Sp_ag (my_ag.fr frh335 rfl) hwv Ln_h323 Sp_h323
        have St5_h335 : St5 h335 := St5_ag (my_ag.fr frh335 rfl) Ln_h323 St5_h323
        show wp l rho (d + 5) 52 77 [(2, 82), (0, v12), (0, 0), (9, 0)] [(0, (-1))] h335 Q
        have tE353 : cs h323 = cs h := cs_eq (fun j => my_fr.at gh323 is_92 rfl) (my_fr.at gh323 is_82 rfl)
        rw [tE353] at xp338
        have ps354 : h323 82 7 = (sN (cs h) (((sN (cs h) (h 82 7))))) := xc331
        rw [ps354] at xp338
        refine w_istore_n (ls' := [(2, 82), (0, v12), (0, 0), (0, (-1))]) gz_52_77 gm_52 rfl rfl rfl ?_
        refine w_aload_n gz_52_78 rfl ?_
        refine v_getI (j := 9) gz_52_79 rfl is_82 rd_5 rfl (fun v355 ev355 pv355 qv355 => ?_)
        have zv355 := ev355.trans (rfl : h335 82 9 = h335 82 9)
        refine w_ifne (t := 102) gz_52_82 rfl (fun u356 => ?_) (fun u356 => by exfalso; omega)
        have psR : h335 82 7 = h335 82 7 := (rfl : h335 82 7 = h335 82 7)
        have npsR : cs h335 = cs h := cs_eq (fun j => my_fr.at gh335 is_92 rfl) (my_fr.at gh335 is_82 rfl)
        have c357 := ev355.symm
        exact w_vret gz_52_102 gm_52 (k0 h335 (gh335) (by omega) (by omega) (by first | exact std | (unfold cutR; first | exact Or.inr (Or.inr ⟨by omega, by omega, Or.inr ⟨by omega, Or.inr (Or.inr ⟨by omega, by omega, Or.inr ⟨by omega, by omega, by omega⟩⟩)⟩⟩) | exact Or.inr (Or.inr ⟨by omega, by omega, Or.inr ⟨by omega, Or.inr (Or.inr ⟨by omega, by omega, Or.inl ⟨by omega, by omega⟩⟩)⟩⟩) | exact Or.inr (Or.inr ⟨by omega, by omega, Or.inr ⟨by omega, Or.inr (Or.inl ⟨by omega, by omega, by omega⟩)⟩⟩) | exact Or.inr (Or.inr ⟨by omega, by omega, Or.inr ⟨by omega, Or.inl ⟨by omega, by omega⟩⟩⟩) | exact Or.inr (Or.inr ⟨by omega, by omega, Or.inl ⟨by omega, by omega, by omega, by omega⟩⟩) | exact Or.inr (Or.inl ⟨by omega, by omega, by omega⟩) | exact Or.inl ⟨by omega, by omega⟩) | omega) Ln_h335 Sp_h335 Al_h335t339 Cu_h335t340)
      ·
        have gh341 : my_fr [(4, 5), (4, 8), (4, 9), (5, 5), (5, 6), (5, 7), (5, 8), (5, 9), (32, -1), (33, -1), (34, -1), (35, -1)] h h341 := my_fr.tr gh323 (frh341.mo rfl)
        have Ln_h341 : Ln h341 := Ln_ag (my_ag.fr frh341 rfl) Ln_h323
        have Sp_h341 : Sp h341 wv := Sp_ag (my_ag.fr frh341 rfl) hwv Ln_h323 Sp_h323
        have St5_h341 : St5 h341 := St5_ag (my_ag.fr frh341 rfl) Ln_h323 St5_h323
        show wp l rho (d + 5) 52 77 [(2, 82), (0, v12), (0, 0), (9, 0)] [(0, v342)] h341 Q
        have tE358 : cs h323 = cs h := cs_eq (fun j => my_fr.at gh323 is_92 rfl) (my_fr.at gh323 is_82 rfl)
        rw [tE358] at xp348
        have ps359 : h323 82 7 = (sN (cs h) (((sN (cs h) (h 82 7))))) := xc331
        rw [ps359] at xp348
        rw [tE358] at xp349
        rw [ps359] at xp349
        rw [tE358] at xp350
        rw [ps359] at xp350
        have ck360 := Cu_s Cu_h341t352
        rw [show cs h341 = cs h from cs_eq (fun j => my_fr.at gh341 is_92 rfl) (my_fr.at gh341 is_82 rfl)] at ck360
        rw [show h341 82 7 = (sN (cs h) (((sN (cs h) (((sN (cs h) (h 82 7)))))))) from xp348] at ck360
        refine w_istore_n (ls' := [(2, 82), (0, v12), (0, 0), (0, v342)]) gz_52_77 gm_52 rfl rfl rfl ?_
        refine w_aload_n gz_52_78 rfl ?_
        refine v_getI (j := 9) gz_52_79 rfl is_82 rd_5 rfl (fun v361 ev361 pv361 qv361 => ?_)
        have zv361 := ev361.trans w347
        refine w_ifne (t := 102) gz_52_82 rfl (fun u362 => by exfalso; omega) (fun u362 => ?_)
        refine w_aload_n gz_52_85 rfl ?_
        refine w_inv (k := 0) (as := []) (r := []) (x := 82) (ls0 := [(2, 82)]) gz_52_86 gm_47 rfl is_82 rd_5 rfl rfl rfl rfl rfl (c_Reader_endsHere9_f0 (d := (d + 2))  (ev361.symm.trans (by omega)) Al_h341t351 Cu_h341t352 (fun h363 frh363 w364 w365 xp366 xp367 Al_h363t368 Cu_h363t369 => ?_) (fun h370 frh370 w371 xp372 xp373 Al_h370t374 Cu_h370t375 => ?_))
        ·
          have gh363 : my_fr [(4, 5), (4, 8), (4, 9), (5, 5), (5, 6), (5, 7), (5, 8), (5, 9), (32, -1), (33, -1), (34, -1), (35, -1)] h h363 := my_fr.tr gh341 (frh363.mo rfl)
          have Ln_h363 : Ln h363 := Ln_ag (my_ag.fr frh363 rfl) Ln_h341
          have Sp_h363 : Sp h363 wv := Sp_ag (my_ag.fr frh363 rfl) hwv Ln_h341 Sp_h341
          have St5_h363 : St5 h363 := St5_ag (my_ag.fr frh363 rfl) Ln_h341 St5_h341
          show wp l rho (d + 5) 52 89 [(2, 82), (0, v12), (0, 0), (0, v342)] [(0, 0)] h363 Q
          have tE376 : cs h341 = cs h := cs_eq (fun j => my_fr.at gh341 is_92 rfl) (my_fr.at gh341 is_82 rfl)
          rw [tE376] at xp366
          have ps377 : h341 82 7 = (sN (cs h) (((sN (cs h) (((sN (cs h) (h 82 7)))))))) := xp348
          rw [ps377] at xp366
          rw [ps377] at xp367
          refine w_ifeq (t := 102) gz_52_89 rfl (fun u378 => ?_) (fun u378 => by exfalso; omega)
          have psR : h363 82 7 = h363 82 7 := (rfl : h363 82 7 = h363 82 7)
          have npsR : cs h363 = cs h := cs_eq (fun j => my_fr.at gh363 is_92 rfl) (my_fr.at gh363 is_82 rfl)
          have c379 := (rfl : h363 82 9 = h363 82 9)
          exact w_vret gz_52_102 gm_52 (k0 h363 (gh363) (by omega) (by omega) (by first | exact std | (unfold cutR; first | exact Or.inr (Or.inr ⟨by omega, by omega, Or.inr ⟨by omega, Or.inr (Or.inr ⟨by omega, by omega, Or.inr ⟨by omega, by omega, by omega⟩⟩)⟩⟩) | exact Or.inr (Or.inr ⟨by omega, by omega, Or.inr ⟨by omega, Or.inr (Or.inr ⟨by omega, by omega, Or.inl ⟨by omega, by omega⟩⟩)⟩⟩) | exact Or.inr (Or.inr ⟨by omega, by omega, Or.inr ⟨by omega, Or.inr (Or.inl ⟨by omega, by omega, by omega⟩)⟩⟩) | exact Or.inr (Or.inr ⟨by omega, by omega, Or.inr ⟨by omega, Or.inl ⟨by omega, by omega⟩⟩⟩) | exact Or.inr (Or.inr ⟨by omega, by omega, Or.inl ⟨by omega, by omega, by omega, by omega⟩⟩) | exact Or.inr (Or.inl ⟨by omega, by omega, by omega⟩) | exact Or.inl ⟨by omega, by omega⟩) | omega) Ln_h363 Sp_h363 Al_h363t368 Cu_h363t369)
        ·
          have gh370 : my_fr [(4, 5), (4, 8), (4, 9), (5, 5), (5, 6), (5, 7), (5, 8), (5, 9), (32, -1), (33, -1), (34, -1), (35, -1)] h h370 := my_fr.tr gh341 (frh370.mo rfl)
          have Ln_h370 : Ln h370 := Ln_ag (my_ag.fr frh370 rfl) Ln_h341
          have Sp_h370 : Sp h370 wv := Sp_ag (my_ag.fr frh370 rfl) hwv Ln_h341 Sp_h341
          have St5_h370 : St5 h370 := St5_ag (my_ag.fr frh370 rfl) Ln_h341 St5_h341
          show wp l rho (d + 5) 52 89 [(2, 82), (0, v12), (0, 0), (0, v342)] [(0, 1)] h370 Q
          have tE380 : cs h341 = cs h := cs_eq (fun j => my_fr.at gh341 is_92 rfl) (my_fr.at gh341 is_82 rfl)
          rw [tE380] at xp372
          have ps381 : h341 82 7 = (sN (cs h) (((sN (cs h) (((sN (cs h) (h 82 7)))))))) := xp348
          rw [ps381] at xp372
          rw [tE380] at xp373
          rw [ps381] at xp373
          have ck382 := Cu_s Cu_h370t375
          rw [show cs h370 = cs h from cs_eq (fun j => my_fr.at gh370 is_92 rfl) (my_fr.at gh370 is_82 rfl)] at ck382
          rw [show h370 82 7 = (sN (cs h) (((sN (cs h) (((sN (cs h) (((sN (cs h) (h 82 7))))))))))) from xp372] at ck382
          refine w_ifeq (t := 102) gz_52_89 rfl (fun u383 => by exfalso; omega) (fun u383 => ?_)
          refine w_aload_n gz_52_92 rfl ?_
          refine v_getR (j := 2) gz_52_93 rfl is_82 rd_5 rfl (fun v384 ev384 tv384 => ?_)
          have zv384 : v2 = v384 := (ev384.trans ((my_fr.at frh370 is_82 rfl).trans ((my_fr.at frh341 is_82 rfl).trans ((my_fr.at frh323 is_82 rfl).trans ((my_fr.at frh11 is_82 rfl).trans ev2.symm))))).symm
          subst zv384
          refine w_iload_n gz_52_96 rfl ?_
          refine w_iload_n gz_52_97 rfl ?_
          refine w_iload_n gz_52_98 rfl ?_
          have ce385 : h370 82 2 = v2 := ((my_fr.at frh370 is_82 rfl).trans ((my_fr.at frh341 is_82 rfl).trans ((my_fr.at frh323 is_82 rfl).trans ((my_fr.at frh11 is_82 rfl).trans ev2.symm))))
          have s5a := St5_h370
          have s5e : v2 = h370 82 2 := by first | assumption | omega
          unfold St5 at s5a
          rw [← s5e] at s5a
          have ce386 : h370 v2 1 = h v2 1 := ((my_fr.at frh370 tv2 rfl).trans ((my_fr.at frh341 tv2 rfl).trans ((my_fr.at frh323 tv2 rfl).trans ((my_fr.at frh11 tv2 rfl).trans (rfl : h v2 1 = h v2 1)))))
          have ce387 : h370 v2 3 = h v2 3 := ((my_fr.at frh370 tv2 rfl).trans ((my_fr.at frh341 tv2 rfl).trans ((my_fr.at frh323 tv2 rfl).trans ((my_fr.at frh11 tv2 rfl).trans (rfl : h v2 3 = h v2 3)))))
          have ce388 : h370 v2 4 = h v2 4 := ((my_fr.at frh370 tv2 rfl).trans ((my_fr.at frh341 tv2 rfl).trans ((my_fr.at frh323 tv2 rfl).trans ((my_fr.at frh11 tv2 rfl).trans (rfl : h v2 4 = h v2 4)))))
          have ce389 : h370 v2 9 = h v2 9 := ((my_fr.at frh370 tv2 rfl).trans ((my_fr.at frh341 tv2 rfl).trans ((my_fr.at frh323 tv2 rfl).trans ((my_fr.at frh11 tv2 rfl).trans (rfl : h v2 9 = h v2 9)))))
          have sE : v2 = h 82 2 := by first | assumption | omega
          have eS1 : h370 v2 1 = h v2 1 := by omega
          have eS3 : h370 v2 3 = h v2 3 := by omega
          have eS4 : h370 v2 4 = h v2 4 := by omega
          have eS9 : h370 v2 9 = h v2 9 := by omega
          refine w_inv (k := 0) (as := [(0, v342), (0, v12), (0, 0)]) (r := []) (x := v2) (ls0 := [(2, v2), (0, 0), (0, v12), (0, v342)]) gz_52_99 gm_53 rfl tv2 rd_4 rfl rfl rfl rfl rfl (c_Lens_addCut (d := (d + 3)) (x0 := v2) (x1 := 0) (x2 := v12) (x3 := v342) tv2 (by omega) (by omega) (by omega) (by omega) (by omega) (by omega) (by first | assumption | exact no_such_saying | exact Fp_told (by omega) (by omega) | omega | (subst_vars; omega) | omega) (fun h390 frh390 fxh390 w391 w392 xp393 => ?_))
          have gh390 : my_fr [(4, 5), (4, 8), (4, 9), (5, 5), (5, 6), (5, 7), (5, 8), (5, 9), (32, -1), (33, -1), (34, -1), (35, -1)] h h390 := my_fr.tr gh370 (frh390.mo rfl)
          have Ln_h390 : Ln h390 := Ln_fx fxh390 (by first | assumption | omega) Ln_h370
          have Al_h390 : Al h390 := Al_ag (my_ag.fr frh390 rfl) Al_h370t374
          have Cu_h390 : Cu h390 := Cu_ag (my_ag.fr frh390 rfl) Cu_h370t375
          show wp l rho (d + 5) 52 102 [(2, 82), (0, v12), (0, 0), (0, v342)] [] h390 Q
          have Sp_h390t394 : Sp h390 wv := Sp_add fxh390 (by first | assumption | omega) hwv Ln_h370 Sp_h370 xp393 (by have := St5_h370.1; omega) (by omega) (by omega)
          have ce395 : h390 82 2 = v2 := ((my_fr.at frh390 is_82 rfl).trans ((my_fr.at frh370 is_82 rfl).trans ((my_fr.at frh341 is_82 rfl).trans ((my_fr.at frh323 is_82 rfl).trans ((my_fr.at frh11 is_82 rfl).trans ev2.symm)))))
          have std := Std_add xp393 sE (by omega) eS3 eS4 eS9 eS1
          have psR : h390 82 7 = (sN (cs h) (((sN (cs h) (((sN (cs h) (((sN (cs h) (h 82 7))))))))))) := ((my_fr.at frh390 is_82 rfl).trans xp372)
          have npsR : cs h390 = cs h := cs_eq (fun j => my_fr.at gh390 is_92 rfl) (my_fr.at gh390 is_82 rfl)
          have c396 := ((my_fr.at frh390 is_82 rfl).trans w371)
          exact w_vret gz_52_102 gm_52 (k1 h390 (gh390) (by omega) (by first | exact std | (unfold cutR; first | exact Or.inr (Or.inr ⟨by omega, by omega, Or.inr ⟨by omega, Or.inr (Or.inr ⟨by omega, by omega, Or.inr ⟨by omega, by omega, by omega⟩⟩)⟩⟩) | exact Or.inr (Or.inr ⟨by omega, by omega, Or.inr ⟨by omega, Or.inr (Or.inr ⟨by omega, by omega, Or.inl ⟨by omega, by omega⟩⟩)⟩⟩) | exact Or.inr (Or.inr ⟨by omega, by omega, Or.inr ⟨by omega, Or.inr (Or.inl ⟨by omega, by omega, by omega⟩)⟩⟩) | exact Or.inr (Or.inr ⟨by omega, by omega, Or.inr ⟨by omega, Or.inl ⟨by omega, by omega⟩⟩⟩) | exact Or.inr (Or.inr ⟨by omega, by omega, Or.inl ⟨by omega, by omega, by omega, by omega⟩⟩) | exact Or.inr (Or.inl ⟨by omega, by omega, by omega⟩) | exact Or.inl ⟨by omega, by omega⟩) | omega) (by first | exact std | (unfold cutR; first | exact Or.inr (Or.inr ⟨by omega, by omega, Or.inr ⟨by omega, Or.inr (Or.inr ⟨by omega, by omega, Or.inr ⟨by omega, by omega, by omega⟩⟩)⟩⟩) | exact Or.inr (Or.inr ⟨by omega, by omega, Or.inr ⟨by omega, Or.inr (Or.inr ⟨by omega, by omega, Or.inl ⟨by omega, by omega⟩⟩)⟩⟩) | exact Or.inr (Or.inr ⟨by omega, by omega, Or.inr ⟨by omega, Or.inr (Or.inl ⟨by omega, by omega, by omega⟩)⟩⟩) | exact Or.inr (Or.inr ⟨by omega, by omega, Or.inr ⟨by omega, Or.inl ⟨by omega, by omega⟩⟩⟩) | exact Or.inr (Or.inr ⟨by omega, by omega, Or.inl ⟨by omega, by omega, by omega, by omega⟩⟩) | exact Or.inr (Or.inl ⟨by omega, by omega, by omega⟩) | exact Or.inl ⟨by omega, by omega⟩) | omega) Ln_h390 Sp_h390t394 Al_h390 Cu_h390)
end MYNModel_readJoin9_f0
