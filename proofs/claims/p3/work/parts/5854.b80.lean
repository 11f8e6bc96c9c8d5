/-! contracts, printed by wip/gen/gy.py -/
section MYNModel_readJoin7_f0
theorem c_Model_readJoin7_f0 {l : Launch} {rho : Nat → Int32} {d : Nat} {h : my_H} {Q : my_H → my_V → Prop} {x1 : Int} {wv : Int} (a1 : 36 ≤ x1) (b1 : x1 ≤ 41) (cf : h 151 8 = 0) (hwv : wv ≤ 5) (hwv0 : 0 ≤ wv) (n_Tok : Tok h) (n_Mq : Mq h wv) (n_Wd9 : Wd9 h) (hp : x1 = 36 + h 167 6) (k0 : ∀ (h' : my_H), my_fr [(10, 7), (10, 8), (67, -1), (68, -1), (69, -1)] h h' → 1 ≤ h' 151 8 → h' 151 8 ≤ 16005 → h 151 7 ≤ h' 151 7 → joinM (sm h) (h 157) (h 151 7) (h 151 27) (h' 151 8) (h' 151 7) → Ko h h' → Tok h' → Mq h' wv → Wd9 h' → Q h' (9, 0)) (k1 : ∀ (h' : my_H), my_fr [(10, 7), (10, 8), (67, -1), (68, -1), (69, -1)] h h' → 1 ≤ h' 151 7 → h' 151 7 ≤ 1001 → h' 151 8 = 0 → PaneOk h' x1 → Pk3 h' x1 (h' 151 27) → h 151 7 ≤ h' 151 7 → joinM (sm h) (h 157) (h 151 7) (h 151 27) (h' 151 8) (h' 151 7) → h' 168 x1 = 4 ∧ h' 170 x1 = sV (sm h) (h 151 7) → Ko h h' → (∃ a b c : Int, JoinV (sm h) (h 157) (h 151 7) a b c ∧ PmI x1 h h' 4 a b c) → Tok h' → Mq h' wv → Wd9 h' → Q h' (9, 0)) : wp l rho (d + 3) 189 0 [(2, 151), (0, x1), (9, 0)] [] h Q := by
  refine v_know (x := 151) (j := 7) (b := 7) rfl is_151 rd_10 rfl (fun k151_7 ek151_7 pk151_7 qk151_7 => ?_)
  refine v_know (x := 151) (j := 27) (b := 27) rfl is_151 rd_10 rfl (fun k151_27 ek151_27 pk151_27 qk151_27 => ?_)
  refine w_aload_n gz_189_0 rfl ?_
  refine w_getX (v := 168) gz_189_1 is_151 rd_10 rfl (by decide) rfl ?_
  refine w_iload_n gz_189_4 rfl ?_
  refine w_iconst gz_189_5 (by decide) ?_
  refine w_iast gz_189_6 is_168 rd_67 (by omega) (by omega) (by omega) (by omega) (fun h2 fh2 => ?_)
  have gh2 : my_fr [(10, 7), (10, 8), (67, -1), (68, -1), (69, -1)] h h2 := my_fr.up my_fr.rf is_168 fh2 rfl
  have Tok_h2 : Tok h2 := Tok_ag (my_ag.up fh2 is_168 rfl) n_Tok
  have Mq_h2 : Mq h2 wv := Mq_u (a := 168) hwv (by decide) (by omega) fh2 n_Mq
  have Wd9_h2 : Wd9 h2 := Wd9_ag (my_ag.up fh2 is_168 rfl) n_Wd9
  have P6_h2 : h2 167 6 = h 167 6 := P6_ag (my_ag.up fh2 is_168 rfl) (rfl)
  have Ko_h2 : Ko h h2 := Ko_u (a := 168) hwv (by decide) (by omega) fh2 (Ko_rf)
  have Pz_h2 : Pz x1 h h2 := Pz_u (a := 168) hwv (by decide) (by omega) fh2 (Pz_rf)
  have k168 : h2 168 x1 = 4 := my_up_self fh2
  refine w_aload_n gz_189_7 rfl ?_
  refine v_getI (j := 8) gz_189_8 rfl is_151 rd_10 rfl (fun v3 ev3 pv3 qv3 => ?_)
  have zv3 := ev3.trans ((my_up_role fh2 is_151 is_168 rfl).trans cf)
  refine w_ifne (t := 89) gz_189_11 rfl (fun u4 => by exfalso; omega) (fun u4 => ?_)
  refine w_aload_n gz_189_14 rfl ?_
  refine w_getX (v := 153) gz_189_15 is_151 rd_10 rfl (by decide) rfl ?_
  refine w_aload_n gz_189_18 rfl ?_
  refine v_getI (j := 7) gz_189_19 rfl is_151 rd_10 rfl (fun v6 ev6 pv6 qv6 => ?_)
  have zv6 := ev6.trans ((my_up_role fh2 is_151 is_168 rfl).trans ek151_7.symm)
  refine w_iald gz_189_22 is_153 rd_52 (by omega) (by omega) (fun v7 ev7 pv7 qv7 => ?_)
  have nz8a : h2 151 7 = h 151 7 := ((my_up_role fh2 is_151 is_168 rfl).trans (rfl : h 151 7 = h 151 7))
  have nz8 : (v7 ≠ 3 → sK (sm h) (h 151 7) = v7) ∧ (v7 = 3 → sV (sm h) (h 151 7) = 59 → sK (sm h) (h 151 7) = 3) ∧ (v7 = 3 → sV (sm h) (h 151 7) ≠ 59 → sK (sm h) (h 151 7) = 4) := by
    have q := ev7.trans (my_fr.at (j := v6) gh2 is_153 rfl)
    rw [show (v6 : Int) = h 151 7 from by omega] at q
    exact sK_ld q
  refine w_iconst gz_189_23 (by decide) ?_
  refine w_icne (t := 89) gz_189_24 rfl (fun u9 => ?_) (fun u9 => ?_)
  ·
    refine w_aload_n gz_189_89 rfl ?_
    refine w_getX (v := 170) gz_189_90 is_151 rd_10 rfl (by decide) rfl ?_
    refine w_iload_n gz_189_93 rfl ?_
    refine w_aload_n gz_189_94 rfl ?_
    refine w_iconst gz_189_95 (by decide) ?_
    have ce11 : h2 151 7 = v6 := ev6.symm
    have ce12 : h2 151 27 = k151_27 := ((my_up_role fh2 is_151 is_168 rfl).trans ek151_27.symm)
    refine w_inv (k := 0) (as := [(0, 2)]) (r := [(0, x1), (2, 170)]) (x := 151) (ls0 := [(2, 151), (0, 2)]) gz_189_96 gm_187 rfl is_151 rd_10 rfl rfl rfl rfl rfl (c_Model_takeNumber9_f0 (d := (d + 1)) (x1 := 2) (by omega) (by omega) (ev3.symm.trans (by omega)) Tok_h2 (fun h13 frh13 w14 w15 xp16 xp17 Tok_h13t18 => ?_) (fun h19 v20 frh19 w21 w22 w23 w24 w25 xp26 xp27 xp28 xp29 xp30 xp31 xp32 xp33 Tok_h19t34 => ?_))
    ·
      have gh13 : my_fr [(10, 7), (10, 8), (67, -1), (68, -1), (69, -1)] h h13 := my_fr.tr gh2 (frh13.mo rfl)
      have Mq_h13 : Mq h13 wv := Mq_ag (my_ag.fr frh13 rfl) Mq_h2
      have Wd9_h13 : Wd9 h13 := Wd9_ag (my_ag.fr frh13 rfl) Wd9_h2
      have P6_h13 : h13 167 6 = h 167 6 := P6_ag (my_ag.fr frh13 rfl) P6_h2
      have Ko_h13 : Ko h h13 := Ko_ag (my_ag.fr frh13 rfl) Ko_h2
      have Pz_h13 : Pz x1 h h13 := Pz_ag (my_ag.fr frh13 rfl) Pz_h2
      show wp l rho (d + 3) 189 99 [(2, 151), (0, x1), (9, 0)] [(0, 0), (0, x1), (2, 170)] h13 Q
      have ps35 : h2 151 7 = h 151 7 := ((my_up_role fh2 is_151 is_168 rfl).trans (rfl : h 151 7 = h 151 7))
      rw [ps35] at xp16
      have tE36 : sm h2 = sm h := sm_eq (fun j => my_fr.at gh2 is_153 rfl) (fun j => my_fr.at gh2 is_154 rfl) (fun j => my_fr.at gh2 is_155 rfl)
      rw [tE36] at xp17
      rw [ps35] at xp17
      have hi37 : 0 ≤ 0 := by omega
      have hi38 : 0 ≤ 2 := by omega
      refine w_iast gz_189_99 is_170 rd_69 (by omega) (by omega) (by omega) (by omega) (fun h39 fh39 => ?_)
      have gh39 : my_fr [(10, 7), (10, 8), (67, -1), (68, -1), (69, -1)] h h39 := my_fr.up gh13 is_170 fh39 rfl
      have Mq_h39 : Mq h39 wv := Mq_u (a := 170) hwv (by decide) (by omega) fh39 Mq_h13
      have Wd9_h39 : Wd9 h39 := Wd9_ag (my_ag.up fh39 is_170 rfl) Wd9_h13
      have P6_h39 : h39 167 6 = h 167 6 := P6_ag (my_ag.up fh39 is_170 rfl) P6_h13
      have Ko_h39 : Ko h h39 := Ko_u (a := 170) hwv (by decide) (by omega) fh39 Ko_h13
      have Pz_h39 : Pz x1 h h39 := Pz_u (a := 170) hwv (by decide) (by omega) fh39 Pz_h13
      have Tok_h39 : Tok h39 := Tok_ag (my_ag.up fh39 is_170 rfl) Tok_h13t18
      have k170 := my_up_self fh39
      refine w_aload_n gz_189_100 rfl ?_
      refine w_bipush gz_189_101 (by decide) ?_
      have ce40 : h39 151 7 = h13 151 7 := ((my_up_role fh39 is_151 is_170 rfl).trans (rfl : h13 151 7 = h13 151 7))
      have ce41 : h39 151 27 = k151_27 := ((my_up_role fh39 is_151 is_170 rfl).trans ((my_fr.at frh13 is_151 rfl).trans ((my_up_role fh2 is_151 is_168 rfl).trans ek151_27.symm)))
      refine w_inv (k := 0) (as := [(0, 9)]) (r := []) (x := 151) (ls0 := [(2, 151), (0, 9)]) gz_189_103 gm_175 rfl is_151 rd_10 rfl rfl rfl rfl rfl (c_Model_takeWord9_f1 (d := d)  ((h13 151 8)) (((my_up_role fh39 is_151 is_170 rfl).trans (rfl : h13 151 8 = h13 151 8))) (by omega) (by omega) Tok_h39 Wd9_h39 (fun h42 frh42 w43 w44 xp45 xp46 Tok_h42t47 Wd9_h42t48 => ?_))
      have gh42 : my_fr [(10, 7), (10, 8), (67, -1), (68, -1), (69, -1)] h h42 := my_fr.tr gh39 (frh42.mo rfl)
      have Mq_h42 : Mq h42 wv := Mq_ag (my_ag.fr frh42 rfl) Mq_h39
      have Wd9_h42 : Wd9 h42 := Wd9_ag (my_ag.fr frh42 rfl) Wd9_h39
      have P6_h42 : h42 167 6 = h 167 6 := P6_ag (my_ag.fr frh42 rfl) P6_h39
      have Ko_h42 : Ko h h42 := Ko_ag (my_ag.fr frh42 rfl) Ko_h39
      have Pz_h42 : Pz x1 h h42 := Pz_ag (my_ag.fr frh42 rfl) Pz_h39
      show wp l rho (d + 3) 189 106 [(2, 151), (0, x1), (9, 0)] [] h42 Q
      have ps49 : h39 151 7 = ((h 151 7)) := ((my_up_role fh39 is_151 is_170 rfl).trans xp16)
      rw [ps49] at xp45
      rw [ps49] at xp46
      refine w_aload_n gz_189_106 rfl ?_
      refine w_getX (v := 169) gz_189_107 is_151 rd_10 rfl (by decide) rfl ?_
      refine w_iload_n gz_189_110 rfl ?_
      refine w_aload_n gz_189_111 rfl ?_
      refine w_aload_n gz_189_112 rfl ?_
      refine v_getI (j := 27) gz_189_113 rfl is_151 rd_10 rfl (fun v51 ev51 pv51 qv51 => ?_)
      have zv51 := ev51.trans ((my_fr.at frh42 is_151 rfl).trans ((my_up_role fh39 is_151 is_170 rfl).trans ((my_fr.at frh13 is_151 rfl).trans ((my_up_role fh2 is_151 is_168 rfl).trans ek151_27.symm))))
      refine w_iconst gz_189_116 (by decide) ?_
      refine w_isub gz_189_117 ⟨by omega, by omega⟩ ?_
      have ce52 : h42 151 27 = v51 := ev51.symm
      refine w_inv (k := 0) (as := [(0, (v51 - 1))]) (r := [(0, x1), (2, 169)]) (x := 151) (ls0 := [(2, 151), (0, (v51 - 1))]) gz_189_118 gm_187 rfl is_151 rd_10 rfl rfl rfl rfl rfl (c_Model_takeNumber9_f1 (d := (d + 1)) (x1 := (v51 - 1)) (by omega) (by omega) ((h13 151 8)) (((my_fr.at frh42 is_151 rfl).trans ((my_up_role fh39 is_151 is_170 rfl).trans (rfl : h13 151 8 = h13 151 8)))) (by omega) (by omega) Tok_h42t47 (fun w53 w54 xp55 Tok_h42t56 => ?_))
      show wp l rho (d + 3) 189 121 [(2, 151), (0, x1), (9, 0)] [(0, 0), (0, x1), (2, 169)] h42 Q
      have ps57 : h42 151 7 = ((((h 151 7)))) := xp46
      rw [ps57] at xp55
      have hi58 : 0 ≤ 0 := by omega
      have hi59 : 0 ≤ 7 := by omega
      refine w_iast gz_189_121 is_169 rd_68 (by omega) (by omega) (by omega) (by omega) (fun h60 fh60 => ?_)
      have gh60 : my_fr [(10, 7), (10, 8), (67, -1), (68, -1), (69, -1)] h h60 := my_fr.up gh42 is_169 fh60 rfl
      have Mq_h60 : Mq h60 wv := Mq_u (a := 169) hwv (by decide) (by omega) fh60 Mq_h42
      have Wd9_h60 : Wd9 h60 := Wd9_ag (my_ag.up fh60 is_169 rfl) Wd9_h42t48
      have P6_h60 : h60 167 6 = h 167 6 := P6_ag (my_ag.up fh60 is_169 rfl) P6_h42
      have Ko_h60 : Ko h h60 := Ko_u (a := 169) hwv (by decide) (by omega) fh60 Ko_h42
      have Pz_h60 : Pz x1 h h60 := Pz_u (a := 169) hwv (by decide) (by omega) fh60 Pz_h42
      have Tok_h60 : Tok h60 := Tok_ag (my_ag.up fh60 is_169 rfl) Tok_h42t56
      have k169 := my_up_self fh60
      have psR : h60 151 7 = ((((h 151 7)))) := ((my_up_role fh60 is_151 is_169 rfl).trans xp46)
      have npsR : sm h60 = sm h := sm_eq (fun j => my_fr.at gh60 is_153 rfl) (fun j => my_fr.at gh60 is_154 rfl) (fun j => my_fr.at gh60 is_155 rfl)
      have ce61 : h60 151 7 = h42 151 7 := ((my_up_role fh60 is_151 is_169 rfl).trans (rfl : h42 151 7 = h42 151 7))
      have ce62 : h60 151 27 = v51 := ((my_up_role fh60 is_151 is_169 rfl).trans ev51.symm)
      have a168 : ∀ j : Int, h60 168 j = h2 168 j := fun j => ((my_up_role fh60 is_168 is_169 rfl).trans ((my_fr.at frh42 is_168 rfl).trans ((my_up_role fh39 is_168 is_170 rfl).trans ((my_fr.at frh13 is_168 rfl).trans (rfl : h2 168 j = h2 168 j)))))
      have a170 : ∀ j : Int, h60 170 j = h39 170 j := fun j => ((my_up_role fh60 is_170 is_169 rfl).trans ((my_fr.at frh42 is_170 rfl).trans (rfl : h39 170 j = h39 170 j)))
      have a169 : ∀ j : Int, h60 169 j = h60 169 j := fun _ => rfl
      have a157 : ∀ j : Int, h60 157 j = h 157 j := fun j => ((my_up_role fh60 is_157 is_169 rfl).trans ((my_fr.at frh42 is_157 rfl).trans ((my_up_role fh39 is_157 is_170 rfl).trans ((my_fr.at frh13 is_157 rfl).trans ((my_up_role fh2 is_157 is_168 rfl).trans (rfl : h 157 j = h 157 j))))))
      have c63 := ((my_up_role fh60 is_151 is_169 rfl).trans ((my_fr.at frh42 is_151 rfl).trans ((my_up_role fh39 is_151 is_170 rfl).trans (rfl : h13 151 8 = h13 151 8))))
      exact w_vret gz_189_122 gm_189 (k0 h60 (gh60) (by omega) (by omega) (by first | exact ⟨_, _, _, ⟨rfl, rfl, rfl⟩, PmI_4 Pz_h60 (by rw [a168]; exact k168) (by rw [a169, k169]; omega) (by rw [a170, k170]; omega)⟩ | exact Ko_h60 | exact ⟨by rw [a168]; exact k168, by rw [a170, k170]; omega⟩ | (unfold joinM; first | exact Or.inr (Or.inr ⟨by omega, by omega, Or.inr (Or.inr ⟨by omega, by omega, Or.inr ⟨by omega, Or.inr (Or.inr ⟨by omega, by omega, ⟨by omega, by omega⟩⟩)⟩⟩)⟩) | exact Or.inr (Or.inr ⟨by omega, by omega, Or.inr (Or.inr ⟨by omega, by omega, Or.inr ⟨by omega, or_assoc.mp (Or.inl (by omega))⟩⟩)⟩) | exact Or.inr (Or.inr ⟨by omega, by omega, Or.inr (Or.inr ⟨by omega, by omega, Or.inl ⟨by omega, by omega⟩⟩)⟩) | exact Or.inr (Or.inr ⟨by omega, by omega, Or.inr (Or.inl ⟨by omega, by omega, by omega⟩)⟩) | exact Or.inr (Or.inr ⟨by omega, by omega, Or.inl ⟨by omega, by omega⟩⟩) | exact or_assoc.mp (Or.inl (by omega))) | omega | (exfalso; subst_vars; omega) | (exfalso; (try clear k0); (try clear k1); grind) | omega | (refine ⟨fun q => ?_, fun q => ?_⟩ <;> first | (rw [a168, k168] at q; omega) | (have kz := k170.trans (show _ = vz by omega); rw [a170, kz, a157]; omega)) | (refine ⟨fun q => ?_, fun q => ?_, fun q => ?_⟩ <;> first | (exfalso; rw [a168, k168] at q; omega) | (rw [a169, k169]; omega)) | omega) (by first | exact ⟨_, _, _, ⟨rfl, rfl, rfl⟩, PmI_4 Pz_h60 (by rw [a168]; exact k168) (by rw [a169, k169]; omega) (by rw [a170, k170]; omega)⟩ | exact Ko_h60 | exact ⟨by rw [a168]; exact k168, by rw [a170, k170]; omega⟩ | (unfold joinM; first | exact Or.inr (Or.inr ⟨by omega, by omega, Or.inr (Or.inr ⟨by omega, by omega, Or.inr ⟨by omega, Or.inr (Or.inr ⟨by omega, by omega, ⟨by omega, by omega⟩⟩)⟩⟩)⟩) | exact Or.inr (Or.inr ⟨by omega, by omega, Or.inr (Or.inr ⟨by omega, by omega, Or.inr ⟨by omega, or_assoc.mp (Or.inl (by omega))⟩⟩)⟩) | exact Or.inr (Or.inr ⟨by omega, by omega, Or.inr (Or.inr ⟨by omega, by omega, Or.inl ⟨by omega, by omega⟩⟩)⟩) | exact Or.inr (Or.inr ⟨by omega, by omega, Or.inr (Or.inl ⟨by omega, by omega, by omega⟩)⟩) | exact Or.inr (Or.inr ⟨by omega, by omega, Or.inl ⟨by omega, by omega⟩⟩) | exact or_assoc.mp (Or.inl (by omega))) | omega | (exfalso; subst_vars; omega) | (exfalso; (try clear k0); (try clear k1); grind) | omega | (refine ⟨fun q => ?_, fun q => ?_⟩ <;> first | (rw [a168, k168] at q; omega) | (have kz := k170.trans (show _ = vz by omega); rw [a170, kz, a157]; omega)) | (refine ⟨fun q => ?_, fun q => ?_, fun q => ?_⟩ <;> first | (exfalso; rw [a168, k168] at q; omega) | (rw [a169, k169]; omega)) | omega) (by first | exact ⟨_, _, _, ⟨rfl, rfl, rfl⟩, PmI_4 Pz_h60 (by rw [a168]; exact k168) (by rw [a169, k169]; omega) (by rw [a170, k170]; omega)⟩ | exact Ko_h60 | exact ⟨by rw [a168]; exact k168, by rw [a170, k170]; omega⟩ | (unfold joinM; first | exact Or.inr (Or.inr ⟨by omega, by omega, Or.inr (Or.inr ⟨by omega, by omega, Or.inr ⟨by omega, Or.inr (Or.inr ⟨by omega, by omega, ⟨by omega, by omega⟩⟩)⟩⟩)⟩) | exact Or.inr (Or.inr ⟨by omega, by omega, Or.inr (Or.inr ⟨by omega, by omega, Or.inr ⟨by omega, or_assoc.mp (Or.inl (by omega))⟩⟩)⟩) | exact Or.inr (Or.inr ⟨by omega, by omega, Or.inr (Or.inr ⟨by omega, by omega, Or.inl ⟨by omega, by omega⟩⟩)⟩) | exact Or.inr (Or.inr ⟨by omega, by omega, Or.inr (Or.inl ⟨by omega, by omega, by omega⟩)⟩) | exact Or.inr (Or.inr ⟨by omega, by omega, Or.inl ⟨by omega, by omega⟩⟩) | exact or_assoc.mp (Or.inl (by omega))) | omega | (exfalso; subst_vars; omega) | (exfalso; (try clear k0); (try clear k1); grind) | omega | (refine ⟨fun q => ?_, fun q => ?_⟩ <;> first | (rw [a168, k168] at q; omega) | (have kz := k170.trans (show _ = vz by omega); rw [a170, kz, a157]; omega)) | (refine ⟨fun q => ?_, fun q => ?_, fun q => ?_⟩ <;> first | (exfalso; rw [a168, k168] at q; omega) | (rw [a169, k169]; omega)) | omega) Tok_h60 Mq_h60 Wd9_h60)
    ·
      have gh19 : my_fr [(10, 7), (10, 8), (67, -1), (68, -1), (69, -1)] h h19 := my_fr.tr gh2 (frh19.mo rfl)
      have Mq_h19 : Mq h19 wv := Mq_ag (my_ag.fr frh19 rfl) Mq_h2
      have Wd9_h19 : Wd9 h19 := Wd9_ag (my_ag.fr frh19 rfl) Wd9_h2
      have P6_h19 : h19 167 6 = h 167 6 := P6_ag (my_ag.fr frh19 rfl) P6_h2
      have Ko_h19 : Ko h h19 := Ko_ag (my_ag.fr frh19 rfl) Ko_h2
      have Pz_h19 : Pz x1 h h19 := Pz_ag (my_ag.fr frh19 rfl) Pz_h2
      show wp l rho (d + 3) 189 99 [(2, 151), (0, x1), (9, 0)] [(0, v20), (0, x1), (2, 170)] h19 Q
      have ps64 : h2 151 7 = h 151 7 := ((my_up_role fh2 is_151 is_168 rfl).trans (rfl : h 151 7 = h 151 7))
      rw [ps64] at xp28
      rw [ps64] at xp29
      rw [ps64] at xp30
      have tE65 : sm h2 = sm h := sm_eq (fun j => my_fr.at gh2 is_153 rfl) (fun j => my_fr.at gh2 is_154 rfl) (fun j => my_fr.at gh2 is_155 rfl)
      rw [tE65] at xp31
      rw [ps64] at xp31
      rw [tE65] at xp32
      rw [ps64] at xp32
      rw [tE65] at xp33
      rw [ps64] at xp33
      have hi66 : 0 ≤ v20 := by omega
      have hi67 : v20 ≤ 2 := by omega
      refine w_iast gz_189_99 is_170 rd_69 (by omega) (by omega) (by omega) (by omega) (fun h68 fh68 => ?_)
      have gh68 : my_fr [(10, 7), (10, 8), (67, -1), (68, -1), (69, -1)] h h68 := my_fr.up gh19 is_170 fh68 rfl
      have Mq_h68 : Mq h68 wv := Mq_u (a := 170) hwv (by decide) (by omega) fh68 Mq_h19
      have Wd9_h68 : Wd9 h68 := Wd9_ag (my_ag.up fh68 is_170 rfl) Wd9_h19
      have P6_h68 : h68 167 6 = h 167 6 := P6_ag (my_ag.up fh68 is_170 rfl) P6_h19
      have Ko_h68 : Ko h h68 := Ko_u (a := 170) hwv (by decide) (by omega) fh68 Ko_h19
      have Pz_h68 : Pz x1 h h68 := Pz_u (a := 170) hwv (by decide) (by omega) fh68 Pz_h19
      have Tok_h68 : Tok h68 := Tok_ag (my_ag.up fh68 is_170 rfl) Tok_h19t34
      have k170 := my_up_self fh68
      refine w_aload_n gz_189_100 rfl ?_
      refine w_bipush gz_189_101 (by decide) ?_
      have ce69 : h68 151 7 = (h19 151 7) := ((my_up_role fh68 is_151 is_170 rfl).trans (rfl : h19 151 7 = h19 151 7))
      have ce70 : h68 151 27 = k151_27 := ((my_up_role fh68 is_151 is_170 rfl).trans ((my_fr.at frh19 is_151 rfl).trans ((my_up_role fh2 is_151 is_168 rfl).trans ek151_27.symm)))
      refine w_inv (k := 0) (as := [(0, 9)]) (r := []) (x := 151) (ls0 := [(2, 151), (0, 9)]) gz_189_103 gm_175 rfl is_151 rd_10 rfl rfl rfl rfl rfl (c_Model_takeWord9_f0 (d := d) (x1 := 9) (by omega) (by omega) (((my_up_role fh68 is_151 is_170 rfl).trans w25).trans (by omega)) Tok_h68 Wd9_h68 (fun h71 frh71 w72 w73 xp74 xp75 xp76 Tok_h71t77 Wd9_h71t78 => ?_) (fun h79 frh79 w80 w81 w82 xp83 xp84 xp85 Tok_h79t86 Wd9_h79t87 => ?_))
      ·
        have gh71 : my_fr [(10, 7), (10, 8), (67, -1), (68, -1), (69, -1)] h h71 := my_fr.tr gh68 (frh71.mo rfl)
        have Mq_h71 : Mq h71 wv := Mq_ag (my_ag.fr frh71 rfl) Mq_h68
        have Wd9_h71 : Wd9 h71 := Wd9_ag (my_ag.fr frh71 rfl) Wd9_h68
        have P6_h71 : h71 167 6 = h 167 6 := P6_ag (my_ag.fr frh71 rfl) P6_h68
        have Ko_h71 : Ko h h71 := Ko_ag (my_ag.fr frh71 rfl) Ko_h68
        have Pz_h71 : Pz x1 h h71 := Pz_ag (my_ag.fr frh71 rfl) Pz_h68
        show wp l rho (d + 3) 189 106 [(2, 151), (0, x1), (9, 0)] [] h71 Q
        have ps88 : h68 151 7 = (sN (sm h) ((h 151 7))) := ((my_up_role fh68 is_151 is_170 rfl).trans xp31)
        rw [ps88] at xp74
        rw [show wm 9 = 99 from by decide] at xp75
        have tE89 : sm h68 = sm h := sm_eq (fun j => my_fr.at gh68 is_153 rfl) (fun j => my_fr.at gh68 is_154 rfl) (fun j => my_fr.at gh68 is_155 rfl)
        rw [tE89] at xp75
        rw [ps88] at xp75
        rw [tE89] at xp76
        rw [ps88] at xp76
        refine w_aload_n gz_189_106 rfl ?_
        refine w_getX (v := 169) gz_189_107 is_151 rd_10 rfl (by decide) rfl ?_
        refine w_iload_n gz_189_110 rfl ?_
        refine w_aload_n gz_189_111 rfl ?_
        refine w_aload_n gz_189_112 rfl ?_
        refine v_getI (j := 27) gz_189_113 rfl is_151 rd_10 rfl (fun v91 ev91 pv91 qv91 => ?_)
        have zv91 := ev91.trans ((my_fr.at frh71 is_151 rfl).trans ((my_up_role fh68 is_151 is_170 rfl).trans ((my_fr.at frh19 is_151 rfl).trans ((my_up_role fh2 is_151 is_168 rfl).trans ek151_27.symm))))
        refine w_iconst gz_189_116 (by decide) ?_
        refine w_isub gz_189_117 ⟨by omega, by omega⟩ ?_
        have ce92 : h71 151 27 = v91 := ev91.symm
        refine w_inv (k := 0) (as := [(0, (v91 - 1))]) (r := [(0, x1), (2, 169)]) (x := 151) (ls0 := [(2, 151), (0, (v91 - 1))]) gz_189_118 gm_187 rfl is_151 rd_10 rfl rfl rfl rfl rfl (c_Model_takeNumber9_f1 (d := (d + 1)) (x1 := (v91 - 1)) (by omega) (by omega) ((h71 151 8)) ((rfl : h71 151 8 = h71 151 8)) (by omega) (by omega) Tok_h71t77 (fun w93 w94 xp95 Tok_h71t96 => ?_))
        show wp l rho (d + 3) 189 121 [(2, 151), (0, x1), (9, 0)] [(0, 0), (0, x1), (2, 169)] h71 Q
        have hi97 : 0 ≤ 0 := by omega
        have hi98 : 0 ≤ 7 := by omega
        refine w_iast gz_189_121 is_169 rd_68 (by omega) (by omega) (by omega) (by omega) (fun h99 fh99 => ?_)
        have gh99 : my_fr [(10, 7), (10, 8), (67, -1), (68, -1), (69, -1)] h h99 := my_fr.up gh71 is_169 fh99 rfl
        have Mq_h99 : Mq h99 wv := Mq_u (a := 169) hwv (by decide) (by omega) fh99 Mq_h71
        have Wd9_h99 : Wd9 h99 := Wd9_ag (my_ag.up fh99 is_169 rfl) Wd9_h71t78
        have P6_h99 : h99 167 6 = h 167 6 := P6_ag (my_ag.up fh99 is_169 rfl) P6_h71
        have Ko_h99 : Ko h h99 := Ko_u (a := 169) hwv (by decide) (by omega) fh99 Ko_h71
        have Pz_h99 : Pz x1 h h99 := Pz_u (a := 169) hwv (by decide) (by omega) fh99 Pz_h71
        have Tok_h99 : Tok h99 := Tok_ag (my_ag.up fh99 is_169 rfl) Tok_h71t96
        have k169 := my_up_self fh99
        have psR : h99 151 7 = h71 151 7 := ((my_up_role fh99 is_151 is_169 rfl).trans (rfl : h71 151 7 = h71 151 7))
        have npsR : sm h99 = sm h := sm_eq (fun j => my_fr.at gh99 is_153 rfl) (fun j => my_fr.at gh99 is_154 rfl) (fun j => my_fr.at gh99 is_155 rfl)
        have ce100 : h99 151 7 = h71 151 7 := ((my_up_role fh99 is_151 is_169 rfl).trans (rfl : h71 151 7 = h71 151 7))
        have ce101 : h99 151 27 = v91 := ((my_up_role fh99 is_151 is_169 rfl).trans ev91.symm)
        have a168 : ∀ j : Int, h99 168 j = h2 168 j := fun j => ((my_up_role fh99 is_168 is_169 rfl).trans ((my_fr.at frh71 is_168 rfl).trans ((my_up_role fh68 is_168 is_170 rfl).trans ((my_fr.at frh19 is_168 rfl).trans (rfl : h2 168 j = h2 168 j)))))
        have a170 : ∀ j : Int, h99 170 j = h68 170 j := fun j => ((my_up_role fh99 is_170 is_169 rfl).trans ((my_fr.at frh71 is_170 rfl).trans (rfl : h68 170 j = h68 170 j)))
        have a169 : ∀ j : Int, h99 169 j = h99 169 j := fun _ => rfl
        have a157 : ∀ j : Int, h99 157 j = h 157 j := fun j => ((my_up_role fh99 is_157 is_169 rfl).trans ((my_fr.at frh71 is_157 rfl).trans ((my_up_role fh68 is_157 is_170 rfl).trans ((my_fr.at frh19 is_157 rfl).trans ((my_up_role fh2 is_157 is_168 rfl).trans (rfl : h 157 j = h 157 j))))))
        have c102 := ((my_up_role fh99 is_151 is_169 rfl).trans (rfl : h71 151 8 = h71 151 8))
        exact w_vret gz_189_122 gm_189 (k0 h99 (gh99) (by omega) (by omega) (by first | exact ⟨_, _, _, ⟨rfl, rfl, rfl⟩, PmI_4 Pz_h99 (by rw [a168]; exact k168) (by rw [a169, k169]; omega) (by rw [a170, k170]; omega)⟩ | exact Ko_h99 | exact ⟨by rw [a168]; exact k168, by rw [a170, k170]; omega⟩ | (unfold joinM; first | exact Or.inr (Or.inr ⟨by omega, by omega, Or.inr (Or.inr ⟨by omega, by omega, Or.inr ⟨by omega, Or.inr (Or.inr ⟨by omega, by omega, ⟨by omega, by omega⟩⟩)⟩⟩)⟩) | exact Or.inr (Or.inr ⟨by omega, by omega, Or.inr (Or.inr ⟨by omega, by omega, Or.inr ⟨by omega, or_assoc.mp (Or.inl (by omega))⟩⟩)⟩) | exact Or.inr (Or.inr ⟨by omega, by omega, Or.inr (Or.inr ⟨by omega, by omega, Or.inl ⟨by omega, by omega⟩⟩)⟩) | exact Or.inr (Or.inr ⟨by omega, by omega, Or.inr (Or.inl ⟨by omega, by omega, by omega⟩)⟩) | exact Or.inr (Or.inr ⟨by omega, by omega, Or.inl ⟨by omega, by omega⟩⟩) | exact or_assoc.mp (Or.inl (by omega))) | omega | (exfalso; subst_vars; omega) | (exfalso; (try clear k0); (try clear k1); grind) | omega | (refine ⟨fun q => ?_, fun q => ?_⟩ <;> first | (rw [a168, k168] at q; omega) | (have kz := k170.trans (show _ = vz by omega); rw [a170, kz, a157]; omega)) | (refine ⟨fun q => ?_, fun q => ?_, fun q => ?_⟩ <;> first | (exfalso; rw [a168, k168] at q; omega) | (rw [a169, k169]; omega)) | omega) (by first | exact ⟨_, _, _, ⟨rfl, rfl, rfl⟩, PmI_4 Pz_h99 (by rw [a168]; exact k168) (by rw [a169, k169]; omega) (by rw [a170, k170]; omega)⟩ | exact Ko_h99 | exact ⟨by rw [a168]; exact k168, by rw [a170, k170]; omega⟩ | (unfold joinM; first | exact Or.inr (Or.inr ⟨by omega, by omega, Or.inr (Or.inr ⟨by omega, by omega, Or.inr ⟨by omega, Or.inr (Or.inr ⟨by omega, by omega, ⟨by omega, by omega⟩⟩)⟩⟩)⟩) | exact Or.inr (Or.inr ⟨by omega, by omega, Or.inr (Or.inr ⟨by omega, by omega, Or.inr ⟨by omega, or_assoc.mp (Or.inl (by omega))⟩⟩)⟩) | exact Or.inr (Or.inr ⟨by omega, by omega, Or.inr (Or.inr ⟨by omega, by omega, Or.inl ⟨by omega, by omega⟩⟩)⟩) | exact Or.inr (Or.inr ⟨by omega, by omega, Or.inr (Or.inl ⟨by omega, by omega, by omega⟩)⟩) | exact Or.inr (Or.inr ⟨by omega, by omega, Or.inl ⟨by omega, by omega⟩⟩) | exact or_assoc.mp (Or.inl (by omega))) | omega | (exfalso; subst_vars; omega) | (exfalso; (try clear k0); (try clear k1); grind) | omega | (refine ⟨fun q => ?_, fun q => ?_⟩ <;> first | (rw [a168, k168] at q; omega) | (have kz := k170.trans (show _ = vz by omega); rw [a170, kz, a157]; omega)) | (refine ⟨fun q => ?_, fun q => ?_, fun q => ?_⟩ <;> first | (exfalso; rw [a168, k168] at q; omega) | (rw [a169, k169]; omega)) | omega) (by first | exact ⟨_, _, _, ⟨rfl, rfl, rfl⟩, PmI_4 Pz_h99 (by rw [a168]; exact k168) (by rw [a169, k169]; omega) (by rw [a170, k170]; omega)⟩ | exact Ko_h99 | exact ⟨by rw [a168]; exact k168, by rw [a170, k170]; omega⟩ | (unfold joinM; first | exact Or.inr (Or.inr ⟨by omega, by omega, Or.inr (Or.inr ⟨by omega, by omega, Or.inr ⟨by omega, Or.inr (Or.inr ⟨by omega, by omega, ⟨by omega, by omega⟩⟩)⟩⟩)⟩) | exact Or.inr (Or.inr ⟨by omega, by omega, Or.inr (Or.inr ⟨by omega, by omega, Or.inr ⟨by omega, or_assoc.mp (Or.inl (by omega))⟩⟩)⟩) | exact Or.inr (Or.inr ⟨by omega, by omega, Or.inr (Or.inr ⟨by omega, by omega, Or.inl ⟨by omega, by omega⟩⟩)⟩) | exact Or.inr (Or.inr ⟨by omega, by omega, Or.inr (Or.inl ⟨by omega, by omega, by omega⟩)⟩) | exact Or.inr (Or.inr ⟨by omega, by omega, Or.inl ⟨by omega, by omega⟩⟩) | exact or_assoc.mp (Or.inl (by omega))) | omega | (exfalso; subst_vars; omega) | (exfalso; (try clear k0); (try clear k1); grind) | omega | (refine ⟨fun q => ?_, fun q => ?_⟩ <;> first | (rw [a168, k168] at q; omega) | (have kz := k170.trans (show _ = vz by omega); rw [a170, kz, a157]; omega)) | (refine ⟨fun q => ?_, fun q => ?_, fun q => ?_⟩ <;> first | (exfalso; rw [a168, k168] at q; omega) | (rw [a169, k169]; omega)) | omega) Tok_h99 Mq_h99 Wd9_h99)
      ·
        have gh79 : my_fr [(10, 7), (10, 8), (67, -1), (68, -1), (69, -1)] h h79 := my_fr.tr gh68 (frh79.mo rfl)
        have Mq_h79 : Mq h79 wv := Mq_ag (my_ag.fr frh79 rfl) Mq_h68
        have Wd9_h79 : Wd9 h79 := Wd9_ag (my_ag.fr frh79 rfl) Wd9_h68
        have P6_h79 : h79 167 6 = h 167 6 := P6_ag (my_ag.fr frh79 rfl) P6_h68
        have Ko_h79 : Ko h h79 := Ko_ag (my_ag.fr frh79 rfl) Ko_h68
        have Pz_h79 : Pz x1 h h79 := Pz_ag (my_ag.fr frh79 rfl) Pz_h68
        show wp l rho (d + 3) 189 106 [(2, 151), (0, x1), (9, 0)] [] h79 Q
        have ps103 : h68 151 7 = (sN (sm h) ((h 151 7))) := ((my_up_role fh68 is_151 is_170 rfl).trans xp31)
        rw [ps103] at xp83
        have tE104 : sm h68 = sm h := sm_eq (fun j => my_fr.at gh68 is_153 rfl) (fun j => my_fr.at gh68 is_154 rfl) (fun j => my_fr.at gh68 is_155 rfl)
        rw [tE104] at xp84
        rw [ps103] at xp84
        rw [show wm 9 = 99 from by decide] at xp85
        rw [tE104] at xp85
        rw [ps103] at xp85
        refine w_aload_n gz_189_106 rfl ?_
        refine w_getX (v := 169) gz_189_107 is_151 rd_10 rfl (by decide) rfl ?_
        refine w_iload_n gz_189_110 rfl ?_
        refine w_aload_n gz_189_111 rfl ?_
        refine w_aload_n gz_189_112 rfl ?_
        refine v_getI (j := 27) gz_189_113 rfl is_151 rd_10 rfl (fun v106 ev106 pv106 qv106 => ?_)
        have zv106 := ev106.trans ((my_fr.at frh79 is_151 rfl).trans ((my_up_role fh68 is_151 is_170 rfl).trans ((my_fr.at frh19 is_151 rfl).trans ((my_up_role fh2 is_151 is_168 rfl).trans ek151_27.symm))))
        refine w_iconst gz_189_116 (by decide) ?_
        refine w_isub gz_189_117 ⟨by omega, by omega⟩ ?_
        have ce107 : h79 151 7 = (h79 151 7) := (rfl : h79 151 7 = h79 151 7)
        have ce108 : h79 151 27 = v106 := ev106.symm
        refine w_inv (k := 0) (as := [(0, (v106 - 1))]) (r := [(0, x1), (2, 169)]) (x := 151) (ls0 := [(2, 151), (0, (v106 - 1))]) gz_189_118 gm_187 rfl is_151 rd_10 rfl rfl rfl rfl rfl (c_Model_takeNumber9_f0 (d := (d + 1)) (x1 := (v106 - 1)) (by omega) (by omega) (w82.trans (by omega)) Tok_h79t86 (fun h109 frh109 w110 w111 xp112 xp113 Tok_h109t114 => ?_) (fun h115 v116 frh115 w117 w118 w119 w120 w121 xp122 xp123 xp124 xp125 xp126 xp127 xp128 xp129 Tok_h115t130 => ?_))
        ·
          have gh109 : my_fr [(10, 7), (10, 8), (67, -1), (68, -1), (69, -1)] h h109 := my_fr.tr gh79 (frh109.mo rfl)
          have Mq_h109 : Mq h109 wv := Mq_ag (my_ag.fr frh109 rfl) Mq_h79
          have Wd9_h109 : Wd9 h109 := Wd9_ag (my_ag.fr frh109 rfl) Wd9_h79t87
          have P6_h109 : h109 167 6 = h 167 6 := P6_ag (my_ag.fr frh109 rfl) P6_h79
          have Ko_h109 : Ko h h109 := Ko_ag (my_ag.fr frh109 rfl) Ko_h79
          have Pz_h109 : Pz x1 h h109 := Pz_ag (my_ag.fr frh109 rfl) Pz_h79
          show wp l rho (d + 3) 189 121 [(2, 151), (0, x1), (9, 0)] [(0, 0), (0, x1), (2, 169)] h109 Q
          have ps131 : h79 151 7 = (sN (sm h) (((sN (sm h) ((h 151 7)))))) := xp84
          rw [ps131] at xp112
          have tE132 : sm h79 = sm h := sm_eq (fun j => my_fr.at gh79 is_153 rfl) (fun j => my_fr.at gh79 is_154 rfl) (fun j => my_fr.at gh79 is_155 rfl)
          rw [tE132] at xp113
          rw [ps131] at xp113
          have hi133 : 0 ≤ 0 := by omega
          have hi134 : 0 ≤ 7 := by omega
          refine w_iast gz_189_121 is_169 rd_68 (by omega) (by omega) (by omega) (by omega) (fun h135 fh135 => ?_)
          have gh135 : my_fr [(10, 7), (10, 8), (67, -1), (68, -1), (69, -1)] h h135 := my_fr.up gh109 is_169 fh135 rfl
          have Mq_h135 : Mq h135 wv := Mq_u (a := 169) hwv (by decide) (by omega) fh135 Mq_h109
          have Wd9_h135 : Wd9 h135 := Wd9_ag (my_ag.up fh135 is_169 rfl) Wd9_h109
          have P6_h135 : h135 167 6 = h 167 6 := P6_ag (my_ag.up fh135 is_169 rfl) P6_h109
          have Ko_h135 : Ko h h135 := Ko_u (a := 169) hwv (by decide) (by omega) fh135 Ko_h109
          have Pz_h135 : Pz x1 h h135 := Pz_u (a := 169) hwv (by decide) (by omega) fh135 Pz_h109
          have Tok_h135 : Tok h135 := Tok_ag (my_ag.up fh135 is_169 rfl) Tok_h109t114
          have k169 := my_up_self fh135
          have psR : h135 151 7 = (((sN (sm h) (((sN (sm h) ((h 151 7)))))))) := ((my_up_role fh135 is_151 is_169 rfl).trans xp112)
          have npsR : sm h135 = sm h := sm_eq (fun j => my_fr.at gh135 is_153 rfl) (fun j => my_fr.at gh135 is_154 rfl) (fun j => my_fr.at gh135 is_155 rfl)
          have ce136 : h135 151 7 = h109 151 7 := ((my_up_role fh135 is_151 is_169 rfl).trans (rfl : h109 151 7 = h109 151 7))
          have ce137 : h135 151 27 = v106 := ((my_up_role fh135 is_151 is_169 rfl).trans ((my_fr.at frh109 is_151 rfl).trans ev106.symm))
          have a168 : ∀ j : Int, h135 168 j = h2 168 j := fun j => ((my_up_role fh135 is_168 is_169 rfl).trans ((my_fr.at frh109 is_168 rfl).trans ((my_fr.at frh79 is_168 rfl).trans ((my_up_role fh68 is_168 is_170 rfl).trans ((my_fr.at frh19 is_168 rfl).trans (rfl : h2 168 j = h2 168 j))))))
          have a170 : ∀ j : Int, h135 170 j = h68 170 j := fun j => ((my_up_role fh135 is_170 is_169 rfl).trans ((my_fr.at frh109 is_170 rfl).trans ((my_fr.at frh79 is_170 rfl).trans (rfl : h68 170 j = h68 170 j))))
          have a169 : ∀ j : Int, h135 169 j = h135 169 j := fun _ => rfl
          have a157 : ∀ j : Int, h135 157 j = h 157 j := fun j => ((my_up_role fh135 is_157 is_169 rfl).trans ((my_fr.at frh109 is_157 rfl).trans ((my_fr.at frh79 is_157 rfl).trans ((my_up_role fh68 is_157 is_170 rfl).trans ((my_fr.at frh19 is_157 rfl).trans ((my_up_role fh2 is_157 is_168 rfl).trans (rfl : h 157 j = h 157 j)))))))
          have c138 := ((my_up_role fh135 is_151 is_169 rfl).trans (rfl : h109 151 8 = h109 151 8))
          exact w_vret gz_189_122 gm_189 (k0 h135 (gh135) (by omega) (by omega) (by first | exact ⟨_, _, _, ⟨rfl, rfl, rfl⟩, PmI_4 Pz_h135 (by rw [a168]; exact k168) (by rw [a169, k169]; omega) (by rw [a170, k170]; omega)⟩ | exact Ko_h135 | exact ⟨by rw [a168]; exact k168, by rw [a170, k170]; omega⟩ | (unfold joinM; first | exact Or.inr (Or.inr ⟨by omega, by omega, Or.inr (Or.inr ⟨by omega, by omega, Or.inr ⟨by omega, Or.inr (Or.inr ⟨by omega, by omega, ⟨by omega, by omega⟩⟩)⟩⟩)⟩) | exact Or.inr (Or.inr ⟨by omega, by omega, Or.inr (Or.inr ⟨by omega, by omega, Or.inr ⟨by omega, or_assoc.mp (Or.inl (by omega))⟩⟩)⟩) | exact Or.inr (Or.inr ⟨by omega, by omega, Or.inr (Or.inr ⟨by omega, by omega, Or.inl ⟨by omega, by omega⟩⟩)⟩) | exact Or.inr (Or.inr ⟨by omega, by omega, Or.inr (Or.inl ⟨by omega, by omega, by omega⟩)⟩) | exact Or.inr (Or.inr ⟨by omega, by omega, Or.inl ⟨by omega, by omega⟩⟩) | exact or_assoc.mp (Or.inl (by omega))) | omega | (exfalso; subst_vars; omega) | (exfalso; (try clear k0); (try clear k1); grind) | omega | (refine ⟨fun q => ?_, fun q => ?_⟩ <;> first | (rw [a168, k168] at q; omega) | (have kz := k170.trans (show _ = vz by omega); rw [a170, kz, a157]; omega)) | (refine ⟨fun q => ?_, fun q => ?_, fun q => ?_⟩ <;> first | (exfalso; rw [a168, k168] at q; omega) | (rw [a169, k169]; omega)) | omega) (by first | exact ⟨_, _, _, ⟨rfl, rfl, rfl⟩, PmI_4 Pz_h135 (by rw [a168]; exact k168) (by rw [a169, k169]; omega) (by rw [a170, k170]; omega)⟩ | exact Ko_h135 | exact ⟨by rw [a168]; exact k168, by rw [a170, k170]; omega⟩ | (unfold joinM; first | exact Or.inr (Or.inr ⟨by omega, by omega, Or.inr (Or.inr ⟨by omega, by omega, Or.inr ⟨by omega, Or.inr (Or.inr ⟨by omega, by omega, ⟨by omega, by omega⟩⟩)⟩⟩)⟩) | exact Or.inr (Or.inr ⟨by omega, by omega, Or.inr (Or.inr ⟨by omega, by omega, Or.inr ⟨by omega, or_assoc.mp (Or.inl (by omega))⟩⟩)⟩) | exact Or.inr (Or.inr ⟨by omega, by omega, Or.inr (Or.inr ⟨by omega, by omega, Or.inl ⟨by omega, by omega⟩⟩)⟩) | exact Or.inr (Or.inr ⟨by omega, by omega, Or.inr (Or.inl ⟨by omega, by omega, by omega⟩)⟩) | exact Or.inr (Or.inr ⟨by omega, by omega, Or.inl ⟨by omega, by omega⟩⟩) | exact or_assoc.mp (Or.inl (by omega))) | omega | (exfalso; subst_vars; omega) | (exfalso; (try clear k0); (try clear k1); grind) | omega | (refine ⟨fun q => ?_, fun q => ?_⟩ <;> first | (rw [a168, k168] at q; omega) | (have kz := k170.trans (show _ = vz by omega); rw [a170, kz, a157]; omega)) | (refine ⟨fun q => ?_, fun q => ?_, fun q => ?_⟩ <;> first | (exfalso; rw [a168, k168] at q; omega) | (rw [a169, k169]; omega)) | omega) (by first | exact ⟨_, _, _, ⟨rfl, rfl, rfl⟩, PmI_4 Pz_h135 (by rw [a168]; exact k168) (by rw [a169, k169]; omega) (by rw [a170, k170]; omega)⟩ | exact Ko_h135 | exact ⟨by rw [a168]; exact k168, by rw [a170, k170]; omega⟩ | (unfold joinM; first | exact Or.inr (Or.inr ⟨by omega, by omega, Or.inr (Or.inr ⟨by omega, by omega, Or.inr ⟨by omega, Or.inr (Or.inr ⟨by omega, by omega, ⟨by omega, by omega⟩⟩)⟩⟩)⟩) | exact Or.inr (Or.inr ⟨by omega, by omega, Or.inr (Or.inr ⟨by omega, by omega, Or.inr ⟨by omega, or_assoc.mp (Or.inl (by omega))⟩⟩)⟩) | exact Or.inr (Or.inr ⟨by omega, by omega, Or.inr (Or.inr ⟨by omega, by omega, Or.inl ⟨by omega, by omega⟩⟩)⟩) | exact Or.inr (Or.inr ⟨by omega, by omega, Or.inr (Or.inl ⟨by omega, by omega, by omega⟩)⟩) | exact Or.inr (Or.inr ⟨by omega, by omega, Or.inl ⟨by omega, by omega⟩⟩) | exact or_assoc.mp (Or.inl (by omega))) | omega | (exfalso; subst_vars; omega) | (exfalso; (try clear k0); (try clear k1); grind) | omega | (refine ⟨fun q => ?_, fun q => ?_⟩ <;> first | (rw [a168, k168] at q; omega) | (have kz := k170.trans (show _ = vz by omega); rw [a170, kz, a157]; omega)) | (refine ⟨fun q => ?_, fun q => ?_, fun q => ?_⟩ <;> first | (exfalso; rw [a168, k168] at q; omega) | (rw [a169, k169]; omega)) | omega) Tok_h135 Mq_h135 Wd9_h135)
        ·
          have gh115 : my_fr [(10, 7), (10, 8), (67, -1), (68, -1), (69, -1)] h h115 := my_fr.tr gh79 (frh115.mo rfl)
          have Mq_h115 : Mq h115 wv := Mq_ag (my_ag.fr frh115 rfl) Mq_h79
          have Wd9_h115 : Wd9 h115 := Wd9_ag (my_ag.fr frh115 rfl) Wd9_h79t87
          have P6_h115 : h115 167 6 = h 167 6 := P6_ag (my_ag.fr frh115 rfl) P6_h79
          have Ko_h115 : Ko h h115 := Ko_ag (my_ag.fr frh115 rfl) Ko_h79
          have Pz_h115 : Pz x1 h h115 := Pz_ag (my_ag.fr frh115 rfl) Pz_h79
          show wp l rho (d + 3) 189 121 [(2, 151), (0, x1), (9, 0)] [(0, v116), (0, x1), (2, 169)] h115 Q
          have ps139 : h79 151 7 = (sN (sm h) (((sN (sm h) ((h 151 7)))))) := xp84
          rw [ps139] at xp124
          rw [ps139] at xp125
          rw [ps139] at xp126
          have tE140 : sm h79 = sm h := sm_eq (fun j => my_fr.at gh79 is_153 rfl) (fun j => my_fr.at gh79 is_154 rfl) (fun j => my_fr.at gh79 is_155 rfl)
          rw [tE140] at xp127
          rw [ps139] at xp127
          rw [tE140] at xp128
          rw [ps139] at xp128
          rw [tE140] at xp129
          rw [ps139] at xp129
          have hi141 : 0 ≤ v116 := by omega
          have hi142 : v116 ≤ 7 := by omega
          refine w_iast gz_189_121 is_169 rd_68 (by omega) (by omega) (by omega) (by omega) (fun h143 fh143 => ?_)
          have gh143 : my_fr [(10, 7), (10, 8), (67, -1), (68, -1), (69, -1)] h h143 := my_fr.up gh115 is_169 fh143 rfl
          have Mq_h143 : Mq h143 wv := Mq_u (a := 169) hwv (by decide) (by omega) fh143 Mq_h115
          have Wd9_h143 : Wd9 h143 := Wd9_ag (my_ag.up fh143 is_169 rfl) Wd9_h115
          have P6_h143 : h143 167 6 = h 167 6 := P6_ag (my_ag.up fh143 is_169 rfl) P6_h115
          have Ko_h143 : Ko h h143 := Ko_u (a := 169) hwv (by decide) (by omega) fh143 Ko_h115
          have Pz_h143 : Pz x1 h h143 := Pz_u (a := 169) hwv (by decide) (by omega) fh143 Pz_h115
          have Tok_h143 : Tok h143 := Tok_ag (my_ag.up fh143 is_169 rfl) Tok_h115t130
          have k169 := my_up_self fh143
          have psR : h143 151 7 = (sN (sm h) (((sN (sm h) (((sN (sm h) ((h 151 7))))))))) := ((my_up_role fh143 is_151 is_169 rfl).trans xp127)
          have npsR : sm h143 = sm h := sm_eq (fun j => my_fr.at gh143 is_153 rfl) (fun j => my_fr.at gh143 is_154 rfl) (fun j => my_fr.at gh143 is_155 rfl)
          have ce144 : h143 151 7 = (h115 151 7) := ((my_up_role fh143 is_151 is_169 rfl).trans (rfl : h115 151 7 = h115 151 7))
          have ce145 : h143 151 27 = v106 := ((my_up_role fh143 is_151 is_169 rfl).trans ((my_fr.at frh115 is_151 rfl).trans ev106.symm))
          have a168 : ∀ j : Int, h143 168 j = h2 168 j := fun j => ((my_up_role fh143 is_168 is_169 rfl).trans ((my_fr.at frh115 is_168 rfl).trans ((my_fr.at frh79 is_168 rfl).trans ((my_up_role fh68 is_168 is_170 rfl).trans ((my_fr.at frh19 is_168 rfl).trans (rfl : h2 168 j = h2 168 j))))))
          have a170 : ∀ j : Int, h143 170 j = h68 170 j := fun j => ((my_up_role fh143 is_170 is_169 rfl).trans ((my_fr.at frh115 is_170 rfl).trans ((my_fr.at frh79 is_170 rfl).trans (rfl : h68 170 j = h68 170 j))))
          have a169 : ∀ j : Int, h143 169 j = h143 169 j := fun _ => rfl
          have a157 : ∀ j : Int, h143 157 j = h 157 j := fun j => ((my_up_role fh143 is_157 is_169 rfl).trans ((my_fr.at frh115 is_157 rfl).trans ((my_fr.at frh79 is_157 rfl).trans ((my_up_role fh68 is_157 is_170 rfl).trans ((my_fr.at frh19 is_157 rfl).trans ((my_up_role fh2 is_157 is_168 rfl).trans (rfl : h 157 j = h 157 j)))))))
          have c146 := ((my_up_role fh143 is_151 is_169 rfl).trans (rfl : h115 151 7 = h115 151 7))
          have c147 := ((my_up_role fh143 is_151 is_169 rfl).trans w121)
          exact w_vret gz_189_122 gm_189 (k1 h143 (gh143) (by omega) (by omega) (by omega) (by first | exact ⟨_, _, _, ⟨rfl, rfl, rfl⟩, PmI_4 Pz_h143 (by rw [a168]; exact k168) (by rw [a169, k169]; omega) (by rw [a170, k170]; omega)⟩ | exact Ko_h143 | exact ⟨by rw [a168]; exact k168, by rw [a170, k170]; omega⟩ | (unfold joinM; first | exact Or.inr (Or.inr ⟨by omega, by omega, Or.inr (Or.inr ⟨by omega, by omega, Or.inr ⟨by omega, Or.inr (Or.inr ⟨by omega, by omega, ⟨by omega, by omega⟩⟩)⟩⟩)⟩) | exact Or.inr (Or.inr ⟨by omega, by omega, Or.inr (Or.inr ⟨by omega, by omega, Or.inr ⟨by omega, or_assoc.mp (Or.inl (by omega))⟩⟩)⟩) | exact Or.inr (Or.inr ⟨by omega, by omega, Or.inr (Or.inr ⟨by omega, by omega, Or.inl ⟨by omega, by omega⟩⟩)⟩) | exact Or.inr (Or.inr ⟨by omega, by omega, Or.inr (Or.inl ⟨by omega, by omega, by omega⟩)⟩) | exact Or.inr (Or.inr ⟨by omega, by omega, Or.inl ⟨by omega, by omega⟩⟩) | exact or_assoc.mp (Or.inl (by omega))) | omega | (exfalso; subst_vars; omega) | (exfalso; (try clear k0); (try clear k1); grind) | omega | (refine ⟨fun q => ?_, fun q => ?_⟩ <;> first | (rw [a168, k168] at q; omega) | (have kz := k170.trans (show _ = vz by omega); rw [a170, kz, a157]; omega)) | (refine ⟨fun q => ?_, fun q => ?_, fun q => ?_⟩ <;> first | (exfalso; rw [a168, k168] at q; omega) | (rw [a169, k169]; omega)) | omega) (by first | exact ⟨_, _, _, ⟨rfl, rfl, rfl⟩, PmI_4 Pz_h143 (by rw [a168]; exact k168) (by rw [a169, k169]; omega) (by rw [a170, k170]; omega)⟩ | exact Ko_h143 | exact ⟨by rw [a168]; exact k168, by rw [a170, k170]; omega⟩ | (unfold joinM; first | exact Or.inr (Or.inr ⟨by omega, by omega, Or.inr (Or.inr ⟨by omega, by omega, Or.inr ⟨by omega, Or.inr (Or.inr ⟨by omega, by omega, ⟨by omega, by omega⟩⟩)⟩⟩)⟩) | exact Or.inr (Or.inr ⟨by omega, by omega, Or.inr (Or.inr ⟨by omega, by omega, Or.inr ⟨by omega, or_assoc.mp (Or.inl (by omega))⟩⟩)⟩) | exact Or.inr (Or.inr ⟨by omega, by omega, Or.inr (Or.inr ⟨by omega, by omega, Or.inl ⟨by omega, by omega⟩⟩)⟩) | exact Or.inr (Or.inr ⟨by omega, by omega, Or.inr (Or.inl ⟨by omega, by omega, by omega⟩)⟩) | exact Or.inr (Or.inr ⟨by omega, by omega, Or.inl ⟨by omega, by omega⟩⟩) | exact or_assoc.mp (Or.inl (by omega))) | omega | (exfalso; subst_vars; omega) | (exfalso; (try clear k0); (try clear k1); grind) | omega | (refine ⟨fun q => ?_, fun q => ?_⟩ <;> first | (rw [a168, k168] at q; omega) | (have kz := k170.trans (show _ = vz by omega); rw [a170, kz, a157]; omega)) | (refine ⟨fun q => ?_, fun q => ?_, fun q => ?_⟩ <;> first | (exfalso; rw [a168, k168] at q; omega) | (rw [a169, k169]; omega)) | omega) (by first | exact ⟨_, _, _, ⟨rfl, rfl, rfl⟩, PmI_4 Pz_h143 (by rw [a168]; exact k168) (by rw [a169, k169]; omega) (by rw [a170, k170]; omega)⟩ | exact Ko_h143 | exact ⟨by rw [a168]; exact k168, by rw [a170, k170]; omega⟩ | (unfold joinM; first | exact Or.inr (Or.inr ⟨by omega, by omega, Or.inr (Or.inr ⟨by omega, by omega, Or.inr ⟨by omega, Or.inr (Or.inr ⟨by omega, by omega, ⟨by omega, by omega⟩⟩)⟩⟩)⟩) | exact Or.inr (Or.inr ⟨by omega, by omega, Or.inr (Or.inr ⟨by omega, by omega, Or.inr ⟨by omega, or_assoc.mp (Or.inl (by omega))⟩⟩)⟩) | exact Or.inr (Or.inr ⟨by omega, by omega, Or.inr (Or.inr ⟨by omega, by omega, Or.inl ⟨by omega, by omega⟩⟩)⟩) | exact Or.inr (Or.inr ⟨by omega, by omega, Or.inr (Or.inl ⟨by omega, by omega, by omega⟩)⟩) | exact Or.inr (Or.inr ⟨by omega, by omega, Or.inl ⟨by omega, by omega⟩⟩) | exact or_assoc.mp (Or.inl (by omega))) | omega | (exfalso; subst_vars; omega) | (exfalso; (try clear k0); (try clear k1); grind) | omega | (refine ⟨fun q => ?_, fun q => ?_⟩ <;> first | (rw [a168, k168] at q; omega) | (have kz := k170.trans (show _ = vz by omega); rw [a170, kz, a157]; omega)) | (refine ⟨fun q => ?_, fun q => ?_, fun q => ?_⟩ <;> first | (exfalso; rw [a168, k168] at q; omega) | (rw [a169, k169]; omega)) | omega) (by first | exact ⟨_, _, _, ⟨rfl, rfl, rfl⟩, PmI_4 Pz_h143 (by rw [a168]; exact k168) (by rw [a169, k169]; omega) (by rw [a170, k170]; omega)⟩ | exact Ko_h143 | exact ⟨by rw [a168]; exact k168, by rw [a170, k170]; omega⟩ | (unfold joinM; first | exact Or.inr (Or.inr ⟨by omega, by omega, Or.inr (Or.inr ⟨by omega, by omega, Or.inr ⟨by omega, Or.inr (Or.inr ⟨by omega, by omega, ⟨by omega, by omega⟩⟩)⟩⟩)⟩) | exact Or.inr (Or.inr ⟨by omega, by omega, Or.inr (Or.inr ⟨by omega, by omega, Or.inr ⟨by omega, or_assoc.mp (Or.inl (by omega))⟩⟩)⟩) | exact Or.inr (Or.inr ⟨by omega, by omega, Or.inr (Or.inr ⟨by omega, by omega, Or.inl ⟨by omega, by omega⟩⟩)⟩) | exact Or.inr (Or.inr ⟨by omega, by omega, Or.inr (Or.inl ⟨by omega, by omega, by omega⟩)⟩) | exact Or.inr (Or.inr ⟨by omega, by omega, Or.inl ⟨by omega, by omega⟩⟩) | exact or_assoc.mp (Or.inl (by omega))) | omega | (exfalso; subst_vars; omega) | (exfalso; (try clear k0); (try clear k1); grind) | omega | (refine ⟨fun q => ?_, fun q => ?_⟩ <;> first | (rw [a168, k168] at q; omega) | (have kz := k170.trans (show _ = vz by omega); rw [a170, kz, a157]; omega)) | (refine ⟨fun q => ?_, fun q => ?_, fun q => ?_⟩ <;> first | (exfalso; rw [a168, k168] at q; omega) | (rw [a169, k169]; omega)) | omega) (by first | exact ⟨_, _, _, ⟨rfl, rfl, rfl⟩, PmI_4 Pz_h143 (by rw [a168]; exact k168) (by rw [a169, k169]; omega) (by rw [a170, k170]; omega)⟩ | exact Ko_h143 | exact ⟨by rw [a168]; exact k168, by rw [a170, k170]; omega⟩ | (unfold joinM; first | exact Or.inr (Or.inr ⟨by omega, by omega, Or.inr (Or.inr ⟨by omega, by omega, Or.inr ⟨by omega, Or.inr (Or.inr ⟨by omega, by omega, ⟨by omega, by omega⟩⟩)⟩⟩)⟩) | exact Or.inr (Or.inr ⟨by omega, by omega, Or.inr (Or.inr ⟨by omega, by omega, Or.inr ⟨by omega, or_assoc.mp (Or.inl (by omega))⟩⟩)⟩) | exact Or.inr (Or.inr ⟨by omega, by omega, Or.inr (Or.inr ⟨by omega, by omega, Or.inl ⟨by omega, by omega⟩⟩)⟩) | exact Or.inr (Or.inr ⟨by omega, by omega, Or.inr (Or.inl ⟨by omega, by omega, by omega⟩)⟩) | exact Or.inr (Or.inr ⟨by omega, by omega, Or.inl ⟨by omega, by omega⟩⟩) | exact or_assoc.mp (Or.inl (by omega))) | omega | (exfalso; subst_vars; omega) | (exfalso; (try clear k0); (try clear k1); grind) | omega | (refine ⟨fun q => ?_, fun q => ?_⟩ <;> first | (rw [a168, k168] at q; omega) | (have kz := k170.trans (show _ = vz by omega); rw [a170, kz, a157]; omega)) | (refine ⟨fun q => ?_, fun q => ?_, fun q => ?_⟩ <;> first | (exfalso; rw [a168, k168] at q; omega) | (rw [a169, k169]; omega)) | omega) (by first | exact ⟨_, _, _, ⟨rfl, rfl, rfl⟩, PmI_4 Pz_h143 (by rw [a168]; exact k168) (by rw [a169, k169]; omega) (by rw [a170, k170]; omega)⟩ | exact Ko_h143 | exact ⟨by rw [a168]; exact k168, by rw [a170, k170]; omega⟩ | (unfold joinM; first | exact Or.inr (Or.inr ⟨by omega, by omega, Or.inr (Or.inr ⟨by omega, by omega, Or.inr ⟨by omega, Or.inr (Or.inr ⟨by omega, by omega, ⟨by omega, by omega⟩⟩)⟩⟩)⟩) | exact Or.inr (Or.inr ⟨by omega, by omega, Or.inr (Or.inr ⟨by omega, by omega, Or.inr ⟨by omega, or_assoc.mp (Or.inl (by omega))⟩⟩)⟩) | exact Or.inr (Or.inr ⟨by omega, by omega, Or.inr (Or.inr ⟨by omega, by omega, Or.inl ⟨by omega, by omega⟩⟩)⟩) | exact Or.inr (Or.inr ⟨by omega, by omega, Or.inr (Or.inl ⟨by omega, by omega, by omega⟩)⟩) | exact Or.inr (Or.inr ⟨by omega, by omega, Or.inl ⟨by omega, by omega⟩⟩) | exact or_assoc.mp (Or.inl (by omega))) | omega | (exfalso; subst_vars; omega) | (exfalso; (try clear k0); (try clear k1); grind) | omega | (refine ⟨fun q => ?_, fun q => ?_⟩ <;> first | (rw [a168, k168] at q; omega) | (have kz := k170.trans (show _ = vz by omega); rw [a170, kz, a157]; omega)) | (refine ⟨fun q => ?_, fun q => ?_, fun q => ?_⟩ <;> first | (exfalso; rw [a168, k168] at q; omega) | (rw [a169, k169]; omega)) | omega) (by first | exact ⟨_, _, _, ⟨rfl, rfl, rfl⟩, PmI_4 Pz_h143 (by rw [a168]; exact k168) (by rw [a169, k169]; omega) (by rw [a170, k170]; omega)⟩ | exact Ko_h143 | exact ⟨by rw [a168]; exact k168, by rw [a170, k170]; omega⟩ | (unfold joinM; first | exact Or.inr (Or.inr ⟨by omega, by omega, Or.inr (Or.inr ⟨by omega, by omega, Or.inr ⟨by omega, Or.inr (Or.inr ⟨by omega, by omega, ⟨by omega, by omega⟩⟩)⟩⟩)⟩) | exact Or.inr (Or.inr ⟨by omega, by omega, Or.inr (Or.inr ⟨by omega, by omega, Or.inr ⟨by omega, or_assoc.mp (Or.inl (by omega))⟩⟩)⟩) | exact Or.inr (Or.inr ⟨by omega, by omega, Or.inr (Or.inr ⟨by omega, by omega, Or.inl ⟨by omega, by omega⟩⟩)⟩) | exact Or.inr (Or.inr ⟨by omega, by omega, Or.inr (Or.inl ⟨by omega, by omega, by omega⟩)⟩) | exact Or.inr (Or.inr ⟨by omega, by omega, Or.inl ⟨by omega, by omega⟩⟩) | exact or_assoc.mp (Or.inl (by omega))) | omega | (exfalso; subst_vars; omega) | (exfalso; (try clear k0); (try clear k1); grind) | omega | (refine ⟨fun q => ?_, fun q => ?_⟩ <;> first | (rw [a168, k168] at q; omega) | (have kz := k170.trans (show _ = vz by omega); rw [a170, kz, a157]; omega)) | (refine ⟨fun q => ?_, fun q => ?_, fun q => ?_⟩ <;> first | (exfalso; rw [a168, k168] at q; omega) | (rw [a169, k169]; omega)) | omega) Tok_h143 Mq_h143 Wd9_h143)
  ·
    refine w_aload_n gz_189_27 rfl ?_
    refine w_getX (v := 155) gz_189_28 is_151 rd_10 rfl (by decide) rfl ?_
    refine w_aload_n gz_189_31 rfl ?_
    refine v_getI (j := 7) gz_189_32 rfl is_151 rd_10 rfl (fun v149 ev149 pv149 qv149 => ?_)
    have zv149 := ev149.trans ev6.symm
    refine w_lald gz_189_35 is_155 rd_54 (by omega) (by omega) (fun v150 ev150 pv150 => ?_)
    have nz151a : h2 151 7 = h 151 7 := ((my_up_role fh2 is_151 is_168 rfl).trans (rfl : h 151 7 = h 151 7))
    have nz151 : v150 = sV (sm h) (h 151 7) := by
      have q := ev150.trans (my_fr.at (j := v149) gh2 is_155 rfl)
      rw [show (v149 : Int) = h 151 7 from by omega] at q
      exact q
    refine w_ldc2 gz_189_36 rfl ?_
    refine w_lcmpE gz_189_39 (fun v152 pv152 qv152 xv152 => ?_)
    refine w_ifgt (t := 89) gz_189_40 rfl (fun u153 => ?_) (fun u153 => ?_)
    ·
      refine w_aload_n gz_189_89 rfl ?_
      refine w_getX (v := 170) gz_189_90 is_151 rd_10 rfl (by decide) rfl ?_
      refine w_iload_n gz_189_93 rfl ?_
      refine w_aload_n gz_189_94 rfl ?_
      refine w_iconst gz_189_95 (by decide) ?_
      have ce155 : h2 151 7 = v149 := ev149.symm
      have ce156 : h2 151 27 = k151_27 := ((my_up_role fh2 is_151 is_168 rfl).trans ek151_27.symm)
      refine w_inv (k := 0) (as := [(0, 2)]) (r := [(0, x1), (2, 170)]) (x := 151) (ls0 := [(2, 151), (0, 2)]) gz_189_96 gm_187 rfl is_151 rd_10 rfl rfl rfl rfl rfl (c_Model_takeNumber9_f0 (d := (d + 1)) (x1 := 2) (by omega) (by omega) (ev3.symm.trans (by omega)) Tok_h2 (fun h157 frh157 w158 w159 xp160 xp161 Tok_h157t162 => ?_) (fun h163 v164 frh163 w165 w166 w167 w168 w169 xp170 xp171 xp172 xp173 xp174 xp175 xp176 xp177 Tok_h163t178 => ?_))
      ·
        have gh157 : my_fr [(10, 7), (10, 8), (67, -1), (68, -1), (69, -1)] h h157 := my_fr.tr gh2 (frh157.mo rfl)
        have Mq_h157 : Mq h157 wv := Mq_ag (my_ag.fr frh157 rfl) Mq_h2
        have Wd9_h157 : Wd9 h157 := Wd9_ag (my_ag.fr frh157 rfl) Wd9_h2
        have P6_h157 : h157 167 6 = h 167 6 := P6_ag (my_ag.fr frh157 rfl) P6_h2
        have Ko_h157 : Ko h h157 := Ko_ag (my_ag.fr frh157 rfl) Ko_h2
        have Pz_h157 : Pz x1 h h157 := Pz_ag (my_ag.fr frh157 rfl) Pz_h2
        show wp l rho (d + 3) 189 99 [(2, 151), (0, x1), (9, 0)] [(0, 0), (0, x1), (2, 170)] h157 Q
        have ps179 : h2 151 7 = h 151 7 := ((my_up_role fh2 is_151 is_168 rfl).trans (rfl : h 151 7 = h 151 7))
        rw [ps179] at xp160
        have tE180 : sm h2 = sm h := sm_eq (fun j => my_fr.at gh2 is_153 rfl) (fun j => my_fr.at gh2 is_154 rfl) (fun j => my_fr.at gh2 is_155 rfl)
        rw [tE180] at xp161
        rw [ps179] at xp161
        have hi181 : 0 ≤ 0 := by omega
        have hi182 : 0 ≤ 2 := by omega
        refine w_iast gz_189_99 is_170 rd_69 (by omega) (by omega) (by omega) (by omega) (fun h183 fh183 => ?_)
        have gh183 : my_fr [(10, 7), (10, 8), (67, -1), (68, -1), (69, -1)] h h183 := my_fr.up gh157 is_170 fh183 rfl
        have Mq_h183 : Mq h183 wv := Mq_u (a := 170) hwv (by decide) (by omega) fh183 Mq_h157
        have Wd9_h183 : Wd9 h183 := Wd9_ag (my_ag.up fh183 is_170 rfl) Wd9_h157
        have P6_h183 : h183 167 6 = h 167 6 := P6_ag (my_ag.up fh183 is_170 rfl) P6_h157
        have Ko_h183 : Ko h h183 := Ko_u (a := 170) hwv (by decide) (by omega) fh183 Ko_h157
        have Pz_h183 : Pz x1 h h183 := Pz_u (a := 170) hwv (by decide) (by omega) fh183 Pz_h157
        have Tok_h183 : Tok h183 := Tok_ag (my_ag.up fh183 is_170 rfl) Tok_h157t162
        have k170 := my_up_self fh183
        refine w_aload_n gz_189_100 rfl ?_
        refine w_bipush gz_189_101 (by decide) ?_
        have ce184 : h183 151 7 = h157 151 7 := ((my_up_role fh183 is_151 is_170 rfl).trans (rfl : h157 151 7 = h157 151 7))
        have ce185 : h183 151 27 = k151_27 := ((my_up_role fh183 is_151 is_170 rfl).trans ((my_fr.at frh157 is_151 rfl).trans ((my_up_role fh2 is_151 is_168 rfl).trans ek151_27.symm)))
        refine w_inv (k := 0) (as := [(0, 9)]) (r := []) (x := 151) (ls0 := [(2, 151), (0, 9)]) gz_189_103 gm_175 rfl is_151 rd_10 rfl rfl rfl rfl rfl (c_Model_takeWord9_f1 (d := d)  ((h157 151 8)) (((my_up_role fh183 is_151 is_170 rfl).trans (rfl : h157 151 8 = h157 151 8))) (by omega) (by omega) Tok_h183 Wd9_h183 (fun h186 frh186 w187 w188 xp189 xp190 Tok_h186t191 Wd9_h186t192 => ?_))
        have gh186 : my_fr [(10, 7), (10, 8), (67, -1), (68, -1), (69, -1)] h h186 := my_fr.tr gh183 (frh186.mo rfl)
        have Mq_h186 : Mq h186 wv := Mq_ag (my_ag.fr frh186 rfl) Mq_h183
        have Wd9_h186 : Wd9 h186 := Wd9_ag (my_ag.fr frh186 rfl) Wd9_h183
        have P6_h186 : h186 167 6 = h 167 6 := P6_ag (my_ag.fr frh186 rfl) P6_h183
        have Ko_h186 : Ko h h186 := Ko_ag (my_ag.fr frh186 rfl) Ko_h183
        have Pz_h186 : Pz x1 h h186 := Pz_ag (my_ag.fr frh186 rfl) Pz_h183
        show wp l rho (d + 3) 189 106 [(2, 151), (0, x1), (9, 0)] [] h186 Q
        have ps193 : h183 151 7 = ((h 151 7)) := ((my_up_role fh183 is_151 is_170 rfl).trans xp160)
        rw [ps193] at xp189
        rw [ps193] at xp190
        refine w_aload_n gz_189_106 rfl ?_
        refine w_getX (v := 169) gz_189_107 is_151 rd_10 rfl (by decide) rfl ?_
        refine w_iload_n gz_189_110 rfl ?_
        refine w_aload_n gz_189_111 rfl ?_
        refine w_aload_n gz_189_112 rfl ?_
        refine v_getI (j := 27) gz_189_113 rfl is_151 rd_10 rfl (fun v195 ev195 pv195 qv195 => ?_)
        have zv195 := ev195.trans ((my_fr.at frh186 is_151 rfl).trans ((my_up_role fh183 is_151 is_170 rfl).trans ((my_fr.at frh157 is_151 rfl).trans ((my_up_role fh2 is_151 is_168 rfl).trans ek151_27.symm))))
        refine w_iconst gz_189_116 (by decide) ?_
        refine w_isub gz_189_117 ⟨by omega, by omega⟩ ?_
        have ce196 : h186 151 27 = v195 := ev195.symm
        refine w_inv (k := 0) (as := [(0, (v195 - 1))]) (r := [(0, x1), (2, 169)]) (x := 151) (ls0 := [(2, 151), (0, (v195 - 1))]) gz_189_118 gm_187 rfl is_151 rd_10 rfl rfl rfl rfl rfl (c_Model_takeNumber9_f1 (d := (d + 1)) (x1 := (v195 - 1)) (by omega) (by omega) ((h157 151 8)) (((my_fr.at frh186 is_151 rfl).trans ((my_up_role fh183 is_151 is_170 rfl).trans (rfl : h157 151 8 = h157 151 8)))) (by omega) (by omega) Tok_h186t191 (fun w197 w198 xp199 Tok_h186t200 => ?_))
        show wp l rho (d + 3) 189 121 [(2, 151), (0, x1), (9, 0)] [(0, 0), (0, x1), (2, 169)] h186 Q
        have ps201 : h186 151 7 = ((((h 151 7)))) := xp190
        rw [ps201] at xp199
        have hi202 : 0 ≤ 0 := by omega
        have hi203 : 0 ≤ 7 := by omega
        refine w_iast gz_189_121 is_169 rd_68 (by omega) (by omega) (by omega) (by omega) (fun h204 fh204 => ?_)
        have gh204 : my_fr [(10, 7), (10, 8), (67, -1), (68, -1), (69, -1)] h h204 := my_fr.up gh186 is_169 fh204 rfl
        have Mq_h204 : Mq h204 wv := Mq_u (a := 169) hwv (by decide) (by omega) fh204 Mq_h186
        have Wd9_h204 : Wd9 h204 := Wd9_ag (my_ag.up fh204 is_169 rfl) Wd9_h186t192
        have P6_h204 : h204 167 6 = h 167 6 := P6_ag (my_ag.up fh204 is_169 rfl) P6_h186
        have Ko_h204 : Ko h h204 := Ko_u (a := 169) hwv (by decide) (by omega) fh204 Ko_h186
        have Pz_h204 : Pz x1 h h204 := Pz_u (a := 169) hwv (by decide) (by omega) fh204 Pz_h186
        have Tok_h204 : Tok h204 := Tok_ag (my_ag.up fh204 is_169 rfl) Tok_h186t200
        have k169 := my_up_self fh204
        have psR : h204 151 7 = ((((h 151 7)))) := ((my_up_role fh204 is_151 is_169 rfl).trans xp190)
        have npsR : sm h204 = sm h := sm_eq (fun j => my_fr.at gh204 is_153 rfl) (fun j => my_fr.at gh204 is_154 rfl) (fun j => my_fr.at gh204 is_155 rfl)
        have ce205 : h204 151 7 = h186 151 7 := ((my_up_role fh204 is_151 is_169 rfl).trans (rfl : h186 151 7 = h186 151 7))
        have ce206 : h204 151 27 = v195 := ((my_up_role fh204 is_151 is_169 rfl).trans ev195.symm)
        have a168 : ∀ j : Int, h204 168 j = h2 168 j := fun j => ((my_up_role fh204 is_168 is_169 rfl).trans ((my_fr.at frh186 is_168 rfl).trans ((my_up_role fh183 is_168 is_170 rfl).trans ((my_fr.at frh157 is_168 rfl).trans (rfl : h2 168 j = h2 168 j)))))
        have a170 : ∀ j : Int, h204 170 j = h183 170 j := fun j => ((my_up_role fh204 is_170 is_169 rfl).trans ((my_fr.at frh186 is_170 rfl).trans (rfl : h183 170 j = h183 170 j)))
        have a169 : ∀ j : Int, h204 169 j = h204 169 j := fun _ => rfl
        have a157 : ∀ j : Int, h204 157 j = h 157 j := fun j => ((my_up_role fh204 is_157 is_169 rfl).trans ((my_fr.at frh186 is_157 rfl).trans ((my_up_role fh183 is_157 is_170 rfl).trans ((my_fr.at frh157 is_157 rfl).trans ((my_up_role fh2 is_157 is_168 rfl).trans (rfl : h 157 j = h 157 j))))))
        have c207 := ((my_up_role fh204 is_151 is_169 rfl).trans ((my_fr.at frh186 is_151 rfl).trans ((my_up_role fh183 is_151 is_170 rfl).trans (rfl : h157 151 8 = h157 151 8))))
        exact w_vret gz_189_122 gm_189 (k0 h204 (gh204) (by omega) (by omega) (by first | exact ⟨_, _, _, ⟨rfl, rfl, rfl⟩, PmI_4 Pz_h204 (by rw [a168]; exact k168) (by rw [a169, k169]; omega) (by rw [a170, k170]; omega)⟩ | exact Ko_h204 | exact ⟨by rw [a168]; exact k168, by rw [a170, k170]; omega⟩ | (unfold joinM; first | exact Or.inr (Or.inr ⟨by omega, by omega, Or.inr (Or.inr ⟨by omega, by omega, Or.inr ⟨by omega, Or.inr (Or.inr ⟨by omega, by omega, ⟨by omega, by omega⟩⟩)⟩⟩)⟩) | exact Or.inr (Or.inr ⟨by omega, by omega, Or.inr (Or.inr ⟨by omega, by omega, Or.inr ⟨by omega, or_assoc.mp (Or.inl (by omega))⟩⟩)⟩) | exact Or.inr (Or.inr ⟨by omega, by omega, Or.inr (Or.inr ⟨by omega, by omega, Or.inl ⟨by omega, by omega⟩⟩)⟩) | exact Or.inr (Or.inr ⟨by omega, by omega, Or.inr (Or.inl ⟨by omega, by omega, by omega⟩)⟩) | exact Or.inr (Or.inr ⟨by omega, by omega, Or.inl ⟨by omega, by omega⟩⟩) | exact or_assoc.mp (Or.inl (by omega))) | omega | (exfalso; subst_vars; omega) | (exfalso; (try clear k0); (try clear k1); grind) | omega | (refine ⟨fun q => ?_, fun q => ?_⟩ <;> first | (rw [a168, k168] at q; omega) | (have kz := k170.trans (show _ = vz by omega); rw [a170, kz, a157]; omega)) | (refine ⟨fun q => ?_, fun q => ?_, fun q => ?_⟩ <;> first | (exfalso; rw [a168, k168] at q; omega) | (rw [a169, k169]; omega)) | omega) (by first | exact ⟨_, _, _, ⟨rfl, rfl, rfl⟩, PmI_4 Pz_h204 (by rw [a168]; exact k168) (by rw [a169, k169]; omega) (by rw [a170, k170]; omega)⟩ | exact Ko_h204 | exact ⟨by rw [a168]; exact k168, by rw [a170, k170]; omega⟩ | (unfold joinM; first | exact Or.inr (Or.inr ⟨by omega, by omega, Or.inr (Or.inr ⟨by omega, by omega, Or.inr ⟨by omega, Or.inr (Or.inr ⟨by omega, by omega, ⟨by omega, by omega⟩⟩)⟩⟩)⟩) | exact Or.inr (Or.inr ⟨by omega, by omega, Or.inr (Or.inr ⟨by omega, by omega, Or.inr ⟨by omega, or_assoc.mp (Or.inl (by omega))⟩⟩)⟩) | exact Or.inr (Or.inr ⟨by omega, by omega, Or.inr (Or.inr ⟨by omega, by omega, Or.inl ⟨by omega, by omega⟩⟩)⟩) | exact Or.inr (Or.inr ⟨by omega, by omega, Or.inr (Or.inl ⟨by omega, by omega, by omega⟩)⟩) | exact Or.inr (Or.inr ⟨by omega, by omega, Or.inl ⟨by omega, by omega⟩⟩) | exact or_assoc.mp (Or.inl (by omega))) | omega | (exfalso; subst_vars; omega) | (exfalso; (try clear k0); (try clear k1); grind) | omega | (refine ⟨fun q => ?_, fun q => ?_⟩ <;> first | (rw [a168, k168] at q; omega) | (have kz := k170.trans (show _ = vz by omega); rw [a170, kz, a157]; omega)) | (refine ⟨fun q => ?_, fun q => ?_, fun q => ?_⟩ <;> first | (exfalso; rw [a168, k168] at q; omega) | (rw [a169, k169]; omega)) | omega) (by first | exact ⟨_, _, _, ⟨rfl, rfl, rfl⟩, PmI_4 Pz_h204 (by rw [a168]; exact k168) (by rw [a169, k169]; omega) (by rw [a170, k170]; omega)⟩ | exact Ko_h204 | exact ⟨by rw [a168]; exact k168, by rw [a170, k170]; omega⟩ | (unfold joinM; first | exact Or.inr (Or.inr ⟨by omega, by omega, Or.inr (Or.inr ⟨by omega, by omega, Or.inr ⟨by omega, Or.inr (Or.inr ⟨by omega, by omega, ⟨by omega, by omega⟩⟩)⟩⟩)⟩) | exact Or.inr (Or.inr ⟨by omega, by omega, Or.inr (Or.inr ⟨by omega, by omega, Or.inr ⟨by omega, or_assoc.mp (Or.inl (by omega))⟩⟩)⟩) | exact Or.inr (Or.inr ⟨by omega, by omega, Or.inr (Or.inr ⟨by omega, by omega, Or.inl ⟨by omega, by omega⟩⟩)⟩) | exact Or.inr (Or.inr ⟨by omega, by omega, Or.inr (Or.inl ⟨by omega, by omega, by omega⟩)⟩) | exact Or.inr (Or.inr ⟨by omega, by omega, Or.inl ⟨by omega, by omega⟩⟩) | exact or_assoc.mp (Or.inl (by omega))) | omega | (exfalso; subst_vars; omega) | (exfalso; (try clear k0); (try clear k1); grind) | omega | (refine ⟨fun q => ?_, fun q => ?_⟩ <;> first | (rw [a168, k168] at q; omega) | (have kz := k170.trans (show _ = vz by omega); rw [a170, kz, a157]; omega)) | (refine ⟨fun q => ?_, fun q => ?_, fun q => ?_⟩ <;> first | (exfalso; rw [a168, k168] at q; omega) | (rw [a169, k169]; omega)) | omega) Tok_h204 Mq_h204 Wd9_h204)
      ·
        have gh163 : my_fr [(10, 7), (10, 8), (67, -1), (68, -1), (69, -1)] h h163 := my_fr.tr gh2 (frh163.mo rfl)
        have Mq_h163 : Mq h163 wv := Mq_ag (my_ag.fr frh163 rfl) Mq_h2
        have Wd9_h163 : Wd9 h163 := Wd9_ag (my_ag.fr frh163 rfl) Wd9_h2
        have P6_h163 : h163 167 6 = h 167 6 := P6_ag (my_ag.fr frh163 rfl) P6_h2
        have Ko_h163 : Ko h h163 := Ko_ag (my_ag.fr frh163 rfl) Ko_h2
        have Pz_h163 : Pz x1 h h163 := Pz_ag (my_ag.fr frh163 rfl) Pz_h2
        show wp l rho (d + 3) 189 99 [(2, 151), (0, x1), (9, 0)] [(0, v164), (0, x1), (2, 170)] h163 Q
        have ps208 : h2 151 7 = h 151 7 := ((my_up_role fh2 is_151 is_168 rfl).trans (rfl : h 151 7 = h 151 7))
        rw [ps208] at xp172
        rw [ps208] at xp173
        rw [ps208] at xp174
        have tE209 : sm h2 = sm h := sm_eq (fun j => my_fr.at gh2 is_153 rfl) (fun j => my_fr.at gh2 is_154 rfl) (fun j => my_fr.at gh2 is_155 rfl)
        rw [tE209] at xp175
        rw [ps208] at xp175
        rw [tE209] at xp176
        rw [ps208] at xp176
        rw [tE209] at xp177
        rw [ps208] at xp177
        have hi210 : 0 ≤ v164 := by omega
        have hi211 : v164 ≤ 2 := by omega
        refine w_iast gz_189_99 is_170 rd_69 (by omega) (by omega) (by omega) (by omega) (fun h212 fh212 => ?_)
        have gh212 : my_fr [(10, 7), (10, 8), (67, -1), (68, -1), (69, -1)] h h212 := my_fr.up gh163 is_170 fh212 rfl
        have Mq_h212 : Mq h212 wv := Mq_u (a := 170) hwv (by decide) (by omega) fh212 Mq_h163
        have Wd9_h212 : Wd9 h212 := Wd9_ag (my_ag.up fh212 is_170 rfl) Wd9_h163
        have P6_h212 : h212 167 6 = h 167 6 := P6_ag (my_ag.up fh212 is_170 rfl) P6_h163
        have Ko_h212 : Ko h h212 := Ko_u (a := 170) hwv (by decide) (by omega) fh212 Ko_h163
        have Pz_h212 : Pz x1 h h212 := Pz_u (a := 170) hwv (by decide) (by omega) fh212 Pz_h163
        have Tok_h212 : Tok h212 := Tok_ag (my_ag.up fh212 is_170 rfl) Tok_h163t178
        have k170 := my_up_self fh212
        refine w_aload_n gz_189_100 rfl ?_
        refine w_bipush gz_189_101 (by decide) ?_
        have ce213 : h212 151 7 = (h163 151 7) := ((my_up_role fh212 is_151 is_170 rfl).trans (rfl : h163 151 7 = h163 151 7))
        have ce214 : h212 151 27 = k151_27 := ((my_up_role fh212 is_151 is_170 rfl).trans ((my_fr.at frh163 is_151 rfl).trans ((my_up_role fh2 is_151 is_168 rfl).trans ek151_27.symm)))
        refine w_inv (k := 0) (as := [(0, 9)]) (r := []) (x := 151) (ls0 := [(2, 151), (0, 9)]) gz_189_103 gm_175 rfl is_151 rd_10 rfl rfl rfl rfl rfl (c_Model_takeWord9_f0 (d := d) (x1 := 9) (by omega) (by omega) (((my_up_role fh212 is_151 is_170 rfl).trans w169).trans (by omega)) Tok_h212 Wd9_h212 (fun h215 frh215 w216 w217 xp218 xp219 xp220 Tok_h215t221 Wd9_h215t222 => ?_) (fun h223 frh223 w224 w225 w226 xp227 xp228 xp229 Tok_h223t230 Wd9_h223t231 => ?_))
        ·
          have gh215 : my_fr [(10, 7), (10, 8), (67, -1), (68, -1), (69, -1)] h h215 := my_fr.tr gh212 (frh215.mo rfl)
          have Mq_h215 : Mq h215 wv := Mq_ag (my_ag.fr frh215 rfl) Mq_h212
          have Wd9_h215 : Wd9 h215 := Wd9_ag (my_ag.fr frh215 rfl) Wd9_h212
          have P6_h215 : h215 167 6 = h 167 6 := P6_ag (my_ag.fr frh215 rfl) P6_h212
          have Ko_h215 : Ko h h215 := Ko_ag (my_ag.fr frh215 rfl) Ko_h212
          have Pz_h215 : Pz x1 h h215 := Pz_ag (my_ag.fr frh215 rfl) Pz_h212
          show wp l rho (d + 3) 189 106 [(2, 151), (0, x1), (9, 0)] [] h215 Q
          have ps232 : h212 151 7 = (sN (sm h) ((h 151 7))) := ((my_up_role fh212 is_151 is_170 rfl).trans xp175)
          rw [ps232] at xp218
          rw [show wm 9 = 99 from by decide] at xp219
          have tE233 : sm h212 = sm h := sm_eq (fun j => my_fr.at gh212 is_153 rfl) (fun j => my_fr.at gh212 is_154 rfl) (fun j => my_fr.at gh212 is_155 rfl)
          rw [tE233] at xp219
          rw [ps232] at xp219
          rw [tE233] at xp220
          rw [ps232] at xp220
          refine w_aload_n gz_189_106 rfl ?_
          refine w_getX (v := 169) gz_189_107 is_151 rd_10 rfl (by decide) rfl ?_
          refine w_iload_n gz_189_110 rfl ?_
          refine w_aload_n gz_189_111 rfl ?_
          refine w_aload_n gz_189_112 rfl ?_
          refine v_getI (j := 27) gz_189_113 rfl is_151 rd_10 rfl (fun v235 ev235 pv235 qv235 => ?_)
          have zv235 := ev235.trans ((my_fr.at frh215 is_151 rfl).trans ((my_up_role fh212 is_151 is_170 rfl).trans ((my_fr.at frh163 is_151 rfl).trans ((my_up_role fh2 is_151 is_168 rfl).trans ek151_27.symm))))
          refine w_iconst gz_189_116 (by decide) ?_
          refine w_isub gz_189_117 ⟨by omega, by omega⟩ ?_
          have ce236 : h215 151 27 = v235 := ev235.symm
          refine w_inv (k := 0) (as := [(0, (v235 - 1))]) (r := [(0, x1), (2, 169)]) (x := 151) (ls0 := [(2, 151), (0, (v235 - 1))]) gz_189_118 gm_187 rfl is_151 rd_10 rfl rfl rfl rfl rfl (c_Model_takeNumber9_f1 (d := (d + 1)) (x1 := (v235 - 1)) (by omega) (by omega) ((h215 151 8)) ((rfl : h215 151 8 = h215 151 8)) (by omega) (by omega) Tok_h215t221 (fun w237 w238 xp239 Tok_h215t240 => ?_))
          show wp l rho (d + 3) 189 121 [(2, 151), (0, x1), (9, 0)] [(0, 0), (0, x1), (2, 169)] h215 Q
          have hi241 : 0 ≤ 0 := by omega
          have hi242 : 0 ≤ 7 := by omega
          refine w_iast gz_189_121 is_169 rd_68 (by omega) (by omega) (by omega) (by omega) (fun h243 fh243 => ?_)
          have gh243 : my_fr [(10, 7), (10, 8), (67, -1), (68, -1), (69, -1)] h h243 := my_fr.up gh215 is_169 fh243 rfl
          have Mq_h243 : Mq h243 wv := Mq_u (a := 169) hwv (by decide) (by omega) fh243 Mq_h215
          have Wd9_h243 : Wd9 h243 := Wd9_ag (my_ag.up fh243 is_169 rfl) Wd9_h215t222
          have P6_h243 : h243 167 6 = h 167 6 := P6_ag (my_ag.up fh243 is_169 rfl) P6_h215
          have Ko_h243 : Ko h h243 := Ko_u (a := 169) hwv (by decide) (by omega) fh243 Ko_h215
          have Pz_h243 : Pz x1 h h243 := Pz_u (a := 169) hwv (by decide) (by omega) fh243 Pz_h215
          have Tok_h243 : Tok h243 := Tok_ag (my_ag.up fh243 is_169 rfl) Tok_h215t240
          have k169 := my_up_self fh243
          have psR : h243 151 7 = h215 151 7 := ((my_up_role fh243 is_151 is_169 rfl).trans (rfl : h215 151 7 = h215 151 7))
          have npsR : sm h243 = sm h := sm_eq (fun j => my_fr.at gh243 is_153 rfl) (fun j => my_fr.at gh243 is_154 rfl) (fun j => my_fr.at gh243 is_155 rfl)
          have ce244 : h243 151 7 = h215 151 7 := ((my_up_role fh243 is_151 is_169 rfl).trans (rfl : h215 151 7 = h215 151 7))
          have ce245 : h243 151 27 = v235 := ((my_up_role fh243 is_151 is_169 rfl).trans ev235.symm)
          have a168 : ∀ j : Int, h243 168 j = h2 168 j := fun j => ((my_up_role fh243 is_168 is_169 rfl).trans ((my_fr.at frh215 is_168 rfl).trans ((my_up_role fh212 is_168 is_170 rfl).trans ((my_fr.at frh163 is_168 rfl).trans (rfl : h2 168 j = h2 168 j)))))
          have a170 : ∀ j : Int, h243 170 j = h212 170 j := fun j => ((my_up_role fh243 is_170 is_169 rfl).trans ((my_fr.at frh215 is_170 rfl).trans (rfl : h212 170 j = h212 170 j)))
          have a169 : ∀ j : Int, h243 169 j = h243 169 j := fun _ => rfl
          have a157 : ∀ j : Int, h243 157 j = h 157 j := fun j => ((my_up_role fh243 is_157 is_169 rfl).trans ((my_fr.at frh215 is_157 rfl).trans ((my_up_role fh212 is_157 is_170 rfl).trans ((my_fr.at frh163 is_157 rfl).trans ((my_up_role fh2 is_157 is_168 rfl).trans (rfl : h 157 j = h 157 j))))))
          have c246 := ((my_up_role fh243 is_151 is_169 rfl).trans (rfl : h215 151 8 = h215 151 8))
          exact w_vret gz_189_122 gm_189 (k0 h243 (gh243) (by omega) (by omega) (by first | exact ⟨_, _, _, ⟨rfl, rfl, rfl⟩, PmI_4 Pz_h243 (by rw [a168]; exact k168) (by rw [a169, k169]; omega) (by rw [a170, k170]; omega)⟩ | exact Ko_h243 | exact ⟨by rw [a168]; exact k168, by rw [a170, k170]; omega⟩ | (unfold joinM; first | exact Or.inr (Or.inr ⟨by omega, by omega, Or.inr (Or.inr ⟨by omega, by omega, Or.inr ⟨by omega, Or.inr (Or.inr ⟨by omega, by omega, ⟨by omega, by omega⟩⟩)⟩⟩)⟩) | exact Or.inr (Or.inr ⟨by omega, by omega, Or.inr (Or.inr ⟨by omega, by omega, Or.inr ⟨by omega, or_assoc.mp (Or.inl (by omega))⟩⟩)⟩) | exact Or.inr (Or.inr ⟨by omega, by omega, Or.inr (Or.inr ⟨by omega, by omega, Or.inl ⟨by omega, by omega⟩⟩)⟩) | exact Or.inr (Or.inr ⟨by omega, by omega, Or.inr (Or.inl ⟨by omega, by omega, by omega⟩)⟩) | exact Or.inr (Or.inr ⟨by omega, by omega, Or.inl ⟨by omega, by omega⟩⟩) | exact or_assoc.mp (Or.inl (by omega))) | omega | (exfalso; subst_vars; omega) | (exfalso; (try clear k0); (try clear k1); grind) | omega | (refine ⟨fun q => ?_, fun q => ?_⟩ <;> first | (rw [a168, k168] at q; omega) | (have kz := k170.trans (show _ = vz by omega); rw [a170, kz, a157]; omega)) | (refine ⟨fun q => ?_, fun q => ?_, fun q => ?_⟩ <;> first | (exfalso; rw [a168, k168] at q; omega) | (rw [a169, k169]; omega)) | omega) (by first | exact ⟨_, _, _, ⟨rfl, rfl, rfl⟩, PmI_4 Pz_h243 (by rw [a168]; exact k168) (by rw [a169, k169]; omega) (by rw [a170, k170]; omega)⟩ | exact Ko_h243 | exact ⟨by rw [a168]; exact k168, by rw [a170, k170]; omega⟩ | (unfold joinM; first | exact Or.inr (Or.inr ⟨by omega, by omega, Or.inr (Or.inr ⟨by omega, by omega, Or.inr ⟨by omega, Or.inr (Or.inr ⟨by omega, by omega, ⟨by omega, by omega⟩⟩)⟩⟩)⟩) | exact Or.inr (Or.inr ⟨by omega, by omega, Or.inr (Or.inr ⟨by omega, by omega, Or.inr ⟨by omega, or_assoc.mp (Or.inl (by omega))⟩⟩)⟩) | exact Or.inr (Or.inr ⟨by omega, by omega, Or.inr (Or.inr ⟨by omega, by omega, Or.inl ⟨by omega, by omega⟩⟩)⟩) | exact Or.inr (Or.inr ⟨by omega, by omega, Or.inr (Or.inl ⟨by omega, by omega, by omega⟩)⟩) | exact Or.inr (Or.inr ⟨by omega, by omega, Or.inl ⟨by omega, by omega⟩⟩) | exact or_assoc.mp (Or.inl (by omega))) | omega | (exfalso; subst_vars; omega) | (exfalso; (try clear k0); (try clear k1); grind) | omega | (refine ⟨fun q => ?_, fun q => ?_⟩ <;> first | (rw [a168, k168] at q; omega) | (have kz := k170.trans (show _ = vz by omega); rw [a170, kz, a157]; omega)) | (refine ⟨fun q => ?_, fun q => ?_, fun q => ?_⟩ <;> first | (exfalso; rw [a168, k168] at q; omega) | (rw [a169, k169]; omega)) | omega) (by first | exact ⟨_, _, _, ⟨rfl, rfl, rfl⟩, PmI_4 Pz_h243 (by rw [a168]; exact k168) (by rw [a169, k169]; omega) (by rw [a170, k170]; omega)⟩ | exact Ko_h243 | exact ⟨by rw [a168]; exact k168, by rw [a170, k170]; omega⟩ | (unfold joinM; first | exact Or.inr (Or.inr ⟨by omega, by omega, Or.inr (Or.inr ⟨by omega, by omega, Or.inr ⟨by omega, Or.inr (Or.inr ⟨by omega, by omega, ⟨by omega, by omega⟩⟩)⟩⟩)⟩) | exact Or.inr (Or.inr ⟨by omega, by omega, Or.inr (Or.inr ⟨by omega, by omega, Or.inr ⟨by omega, or_assoc.mp (Or.inl (by omega))⟩⟩)⟩) | exact Or.inr (Or.inr ⟨by omega, by omega, Or.inr (Or.inr ⟨by omega, by omega, Or.inl ⟨by omega, by omega⟩⟩)⟩) | exact Or.inr (Or.inr ⟨by omega, by omega, Or.inr (Or.inl ⟨by omega, by omega, by omega⟩)⟩) | exact Or.inr (Or.inr ⟨by omega, by omega, Or.inl ⟨by omega, by omega⟩⟩) | exact or_assoc.mp (Or.inl (by omega))) | omega | (exfalso; subst_vars; omega) | (exfalso; (try clear k0); (try clear k1); grind) | omega | (refine ⟨fun q => ?_, fun q => ?_⟩ <;> first | (rw [a168, k168] at q; omega) | (have kz := k170.trans (show _ = vz by omega); rw [a170, kz, a157]; omega)) | (refine ⟨fun q => ?_, fun q => ?_, fun q => ?_⟩ <;> first | (exfalso; rw [a168, k168] at q; omega) | (rw [a169, k169]; omega)) | omega) Tok_h243 Mq_h243 Wd9_h243)
        ·
          have gh223 : my_fr [(10, 7), (10, 8), (67, -1), (68, -1), (69, -1)] h h223 := my_fr.tr gh212 (frh223.mo rfl)
          have Mq_h223 : Mq h223 wv := Mq_ag (my_ag.fr frh223 rfl) Mq_h212
          have Wd9_h223 : Wd9 h223 := Wd9_ag (my_ag.fr frh223 rfl) Wd9_h212
          have P6_h223 : h223 167 6 = h 167 6 := P6_ag (my_ag.fr frh223 rfl) P6_h212
          have Ko_h223 : Ko h h223 := Ko_ag (my_ag.fr frh223 rfl) Ko_h212
          have Pz_h223 : Pz x1 h h223 := Pz_ag (my_ag.fr frh223 rfl) Pz_h212
          show wp l rho (d + 3) 189 106 [(2, 151), (0, x1), (9, 0)] [] h223 Q
          have ps247 : h212 151 7 = (sN (sm h) ((h 151 7))) := ((my_up_role fh212 is_151 is_170 rfl).trans xp175)
          rw [ps247] at xp227
          have tE248 : sm h212 = sm h := sm_eq (fun j => my_fr.at gh212 is_153 rfl) (fun j => my_fr.at gh212 is_154 rfl) (fun j => my_fr.at gh212 is_155 rfl)
          rw [tE248] at xp228
          rw [ps247] at xp228
          rw [show wm 9 = 99 from by decide] at xp229
          rw [tE248] at xp229
          rw [ps247] at xp229
          refine w_aload_n gz_189_106 rfl ?_
          refine w_getX (v := 169) gz_189_107 is_151 rd_10 rfl (by decide) rfl ?_
          refine w_iload_n gz_189_110 rfl ?_
          refine w_aload_n gz_189_111 rfl ?_
          refine w_aload_n gz_189_112 rfl ?_
          refine v_getI (j := 27) gz_189_113 rfl is_151 rd_10 rfl (fun v250 ev250 pv250 qv250 => ?_)
          have zv250 := ev250.trans ((my_fr.at frh223 is_151 rfl).trans ((my_up_role fh212 is_151 is_170 rfl).trans ((my_fr.at frh163 is_151 rfl).trans ((my_up_role fh2 is_151 is_168 rfl).trans ek151_27.symm))))
          refine w_iconst gz_189_116 (by decide) ?_
          refine w_isub gz_189_117 ⟨by omega, by omega⟩ ?_
          have ce251 : h223 151 7 = (h223 151 7) := (rfl : h223 151 7 = h223 151 7)
          have ce252 : h223 151 27 = v250 := ev250.symm
          refine w_inv (k := 0) (as := [(0, (v250 - 1))]) (r := [(0, x1), (2, 169)]) (x := 151) (ls0 := [(2, 151), (0, (v250 - 1))]) gz_189_118 gm_187 rfl is_151 rd_10 rfl rfl rfl rfl rfl (c_Model_takeNumber9_f0 (d := (d + 1)) (x1 := (v250 - 1)) (by omega) (by omega) (w226.trans (by omega)) Tok_h223t230 (fun h253 frh253 w254 w255 xp256 xp257 Tok_h253t258 => ?_) (fun h259 v260 frh259 w261 w262 w263 w264 w265 xp266 xp267 xp268 xp269 xp270 xp271 xp272 xp273 Tok_h259t274 => ?_))
          ·
            have gh253 : my_fr [(10, 7), (10, 8), (67, -1), (68, -1), (69, -1)] h h253 := my_fr.tr gh223 (frh253.mo rfl)
            have Mq_h253 : Mq h253 wv := Mq_ag (my_ag.fr frh253 rfl) Mq_h223
            have Wd9_h253 : Wd9 h253 := Wd9_ag (my_ag.fr frh253 rfl) Wd9_h223t231
            have P6_h253 : h253 167 6 = h 167 6 := P6_ag (my_ag.fr frh253 rfl) P6_h223
            have Ko_h253 : Ko h h253 := Ko_ag (my_ag.fr frh253 rfl) Ko_h223
            have Pz_h253 : Pz x1 h h253 := Pz_ag (my_ag.fr frh253 rfl) Pz_h223
            show wp l rho (d + 3) 189 121 [(2, 151), (0, x1), (9, 0)] [(0, 0), (0, x1), (2, 169)] h253 Q
            have ps275 : h223 151 7 = (sN (sm h) (((sN (sm h) ((h 151 7)))))) := xp228
            rw [ps275] at xp256
            have tE276 : sm h223 = sm h := sm_eq (fun j => my_fr.at gh223 is_153 rfl) (fun j => my_fr.at gh223 is_154 rfl) (fun j => my_fr.at gh223 is_155 rfl)
            rw [tE276] at xp257
            rw [ps275] at xp257
            have hi277 : 0 ≤ 0 := by omega
            have hi278 : 0 ≤ 7 := by omega
            refine w_iast gz_189_121 is_169 rd_68 (by omega) (by omega) (by omega) (by omega) (fun h279 fh279 => ?_)
            have gh279 : my_fr [(10, 7), (10, 8), (67, -1), (68, -1), (69, -1)] h h279 := my_fr.up gh253 is_169 fh279 rfl
            have Mq_h279 : Mq h279 wv := Mq_u (a := 169) hwv (by decide) (by omega) fh279 Mq_h253
            have Wd9_h279 : Wd9 h279 := Wd9_ag (my_ag.up fh279 is_169 rfl) Wd9_h253
            have P6_h279 : h279 167 6 = h 167 6 := P6_ag (my_ag.up fh279 is_169 rfl) P6_h253
            have Ko_h279 : Ko h h279 := Ko_u (a := 169) hwv (by decide) (by omega) fh279 Ko_h253
            have Pz_h279 : Pz x1 h h279 := Pz_u (a := 169) hwv (by decide) (by omega) fh279 Pz_h253
            have Tok_h279 : Tok h279 := Tok_ag (my_ag.up fh279 is_169 rfl) Tok_h253t258
            have k169 := my_up_self fh279
            have psR : h279 151 7 = (((sN (sm h) (((sN (sm h) ((h 151 7)))))))) := ((my_up_role fh279 is_151 is_169 rfl).trans xp256)
            have npsR : sm h279 = sm h := sm_eq (fun j => my_fr.at gh279 is_153 rfl) (fun j => my_fr.at gh279 is_154 rfl) (fun j => my_fr.at gh279 is_155 rfl)
            have ce280 : h279 151 7 = h253 151 7 := ((my_up_role fh279 is_151 is_169 rfl).trans (rfl : h253 151 7 = h253 151 7))
            have ce281 : h279 151 27 = v250 := ((my_up_role fh279 is_151 is_169 rfl).trans ((my_fr.at frh253 is_151 rfl).trans ev250.symm))
            have a168 : ∀ j : Int, h279 168 j = h2 168 j := fun j => ((my_up_role fh279 is_168 is_169 rfl).trans ((my_fr.at frh253 is_168 rfl).trans ((my_fr.at frh223 is_168 rfl).trans ((my_up_role fh212 is_168 is_170 rfl).trans ((my_fr.at frh163 is_168 rfl).trans (rfl : h2 168 j = h2 168 j))))))
            have a170 : ∀ j : Int, h279 170 j = h212 170 j := fun j => ((my_up_role fh279 is_170 is_169 rfl).trans ((my_fr.at frh253 is_170 rfl).trans ((my_fr.at frh223 is_170 rfl).trans (rfl : h212 170 j = h212 170 j))))
            have a169 : ∀ j : Int, h279 169 j = h279 169 j := fun _ => rfl
            have a157 : ∀ j : Int, h279 157 j = h 157 j := fun j => ((my_up_role fh279 is_157 is_169 rfl).trans ((my_fr.at frh253 is_157 rfl).trans ((my_fr.at frh223 is_157 rfl).trans ((my_up_role fh212 is_157 is_170 rfl).trans ((my_fr.at frh163 is_157 rfl).trans ((my_up_role fh2 is_157 is_168 rfl).trans (rfl : h 157 j = h 157 j)))))))
            have c282 := ((my_up_role fh279 is_151 is_169 rfl).trans (rfl : h253 151 8 = h253 151 8))
            exact w_vret gz_189_122 gm_189 (k0 h279 (gh279) (by omega) (by omega) (by first | exact ⟨_, _, _, ⟨rfl, rfl, rfl⟩, PmI_4 Pz_h279 (by rw [a168]; exact k168) (by rw [a169, k169]; omega) (by rw [a170, k170]; omega)⟩ | exact Ko_h279 | exact ⟨by rw [a168]; exact k168, by rw [a170, k170]; omega⟩ | (unfold joinM; first | exact Or.inr (Or.inr ⟨by omega, by omega, Or.inr (Or.inr ⟨by omega, by omega, Or.inr ⟨by omega, Or.inr (Or.inr ⟨by omega, by omega, ⟨by omega, by omega⟩⟩)⟩⟩)⟩) | exact Or.inr (Or.inr ⟨by omega, by omega, Or.inr (Or.inr ⟨by omega, by omega, Or.inr ⟨by omega, or_assoc.mp (Or.inl (by omega))⟩⟩)⟩) | exact Or.inr (Or.inr ⟨by omega, by omega, Or.inr (Or.inr ⟨by omega, by omega, Or.inl ⟨by omega, by omega⟩⟩)⟩) | exact Or.inr (Or.inr ⟨by omega, by omega, Or.inr (Or.inl ⟨by omega, by omega, by omega⟩)⟩) | exact Or.inr (Or.inr ⟨by omega, by omega, Or.inl ⟨by omega, by omega⟩⟩) | exact or_assoc.mp (Or.inl (by omega))) | omega | (exfalso; subst_vars; omega) | (exfalso; (try clear k0); (try clear k1); grind) | omega | (refine ⟨fun q => ?_, fun q => ?_⟩ <;> first | (rw [a168, k168] at q; omega) | (have kz := k170.trans (show _ = vz by omega); rw [a170, kz, a157]; omega)) | (refine ⟨fun q => ?_, fun q => ?_, fun q => ?_⟩ <;> first | (exfalso; rw [a168, k168] at q; omega) | (rw [a169, k169]; omega)) | omega) (by first | exact ⟨_, _, _, ⟨rfl, rfl, rfl⟩, PmI_4 Pz_h279 (by rw [a168]; exact k168) (by rw [a169, k169]; omega) (by rw [a170, k170]; omega)⟩ | exact Ko_h279 | exact ⟨by rw [a168]; exact k168, by rw [a170, k170]; omega⟩ | (unfold joinM; first | exact Or.inr (Or.inr ⟨by omega, by omega, Or.inr (Or.inr ⟨by omega, by omega, Or.inr ⟨by omega, Or.inr (Or.inr ⟨by omega, by omega, ⟨by omega, by omega⟩⟩)⟩⟩)⟩) | exact Or.inr (Or.inr ⟨by omega, by omega, Or.inr (Or.inr ⟨by omega, by omega, Or.inr ⟨by omega, or_assoc.mp (Or.inl (by omega))⟩⟩)⟩) | exact Or.inr (Or.inr ⟨by omega, by omega, Or.inr (Or.inr ⟨by omega, by omega, Or.inl ⟨by omega, by omega⟩⟩)⟩) | exact Or.inr (Or.inr ⟨by omega, by omega, Or.inr (Or.inl ⟨by omega, by omega, by omega⟩)⟩) | exact Or.inr (Or.inr ⟨by omega, by omega, Or.inl ⟨by omega, by omega⟩⟩) | exact or_assoc.mp (Or.inl (by omega))) | omega | (exfalso; subst_vars; omega) | (exfalso; (try clear k0); (try clear k1); grind) | omega | (refine ⟨fun q => ?_, fun q => ?_⟩ <;> first | (rw [a168, k168] at q; omega) | (have kz := k170.trans (show _ = vz by omega); rw [a170, kz, a157]; omega)) | (refine ⟨fun q => ?_, fun q => ?_, fun q => ?_⟩ <;> first | (exfalso; rw [a168, k168] at q; omega) | (rw [a169, k169]; omega)) | omega) (by first | exact ⟨_, _, _, ⟨rfl, rfl, rfl⟩, PmI_4 Pz_h279 (by rw [a168]; exact k168) (by rw [a169, k169]; omega) (by rw [a170, k170]; omega)⟩ | exact Ko_h279 | exact ⟨by rw [a168]; exact k168, by rw [a170, k170]; omega⟩ | (unfold joinM; first | exact Or.inr (Or.inr ⟨by omega, by omega, Or.inr (Or.inr ⟨by omega, by omega, Or.inr ⟨by omega, Or.inr (Or.inr ⟨by omega, by omega, ⟨by omega, by omega⟩⟩)⟩⟩)⟩) | exact Or.inr (Or.inr ⟨by omega, by omega, Or.inr (Or.inr ⟨by omega, by omega, Or.inr ⟨by omega, or_assoc.mp (Or.inl (by omega))⟩⟩)⟩) | exact Or.inr (Or.inr ⟨by omega, by omega, Or.inr (Or.inr ⟨by omega, by omega, Or.inl ⟨by omega, by omega⟩⟩)⟩) | exact Or.inr (Or.inr ⟨by omega, by omega, Or.inr (Or.inl ⟨by omega, by omega, by omega⟩)⟩) | exact Or.inr (Or.inr ⟨by omega, by omega, Or.inl ⟨by omega, by omega⟩⟩) | exact or_assoc.mp (Or.inl (by omega))) | omega | (exfalso; subst_vars; omega) | (exfalso; (try clear k0); (try clear k1); grind) | omega | (refine ⟨fun q => ?_, fun q => ?_⟩ <;> first | (rw [a168, k168] at q; omega) | (have kz := k170.trans (show _ = vz by omega); rw [a170, kz, a157]; omega)) | (refine ⟨fun q => ?_, fun q => ?_, fun q => ?_⟩ <;> first | (exfalso; rw [a168, k168] at q; omega) | (rw [a169, k169]; omega)) | omega) Tok_h279 Mq_h279 Wd9_h279)
          ·
            have gh259 : my_fr [(10, 7), (10, 8), (67, -1), (68, -1), (69, -1)] h h259 := my_fr.tr gh223 (frh259.mo rfl)
            have Mq_h259 : Mq h259 wv := Mq_ag (my_ag.fr frh259 rfl) Mq_h223
            have Wd9_h259 : Wd9 h259 := Wd9_ag (my_ag.fr frh259 rfl) Wd9_h223t231
            have P6_h259 : h259 167 6 = h 167 6 := P6_ag (my_ag.fr frh259 rfl) P6_h223
            have Ko_h259 : Ko h h259 := Ko_ag (my_ag.fr frh259 rfl) Ko_h223
            have Pz_h259 : Pz x1 h h259 := Pz_ag (my_ag.fr frh259 rfl) Pz_h223
            show wp l rho (d + 3) 189 121 [(2, 151), (0, x1), (9, 0)] [(0, v260), (0, x1), (2, 169)] h259 Q
            have ps283 : h223 151 7 = (sN (sm h) (((sN (sm h) ((h 151 7)))))) := xp228
            rw [ps283] at xp268
            rw [ps283] at xp269
            rw [ps283] at xp270
            have tE284 : sm h223 = sm h := sm_eq (fun j => my_fr.at gh223 is_153 rfl) (fun j => my_fr.at gh223 is_154 rfl) (fun j => my_fr.at gh223 is_155 rfl)
            rw [tE284] at xp271
            rw [ps283] at xp271
            rw [tE284] at xp272
            rw [ps283] at xp272
            rw [tE284] at xp273
            rw [ps283] at xp273
            have hi285 : 0 ≤ v260 := by omega
            have hi286 : v260 ≤ 7 := by omega
            refine w_iast gz_189_121 is_169 rd_68 (by omega) (by omega) (by omega) (by omega) (fun h287 fh287 => ?_)
            have gh287 : my_fr [(10, 7), (10, 8), (67, -1), (68, -1), (69, -1)] h h287 := my_fr.up gh259 is_169 fh287 rfl
            have Mq_h287 : Mq h287 wv := Mq_u (a := 169) hwv (by decide) (by omega) fh287 Mq_h259
            have Wd9_h287 : Wd9 h287 := Wd9_ag (my_ag.up fh287 is_169 rfl) Wd9_h259
            have P6_h287 : h287 167 6 = h 167 6 := P6_ag (my_ag.up fh287 is_169 rfl) P6_h259
            have Ko_h287 : Ko h h287 := Ko_u (a := 169) hwv (by decide) (by omega) fh287 Ko_h259
            have Pz_h287 : Pz x1 h h287 := Pz_u (a := 169) hwv (by decide) (by omega) fh287 Pz_h259
            have Tok_h287 : Tok h287 := Tok_ag (my_ag.up fh287 is_169 rfl) Tok_h259t274
            have k169 := my_up_self fh287
            have psR : h287 151 7 = (sN (sm h) (((sN (sm h) (((sN (sm h) ((h 151 7))))))))) := ((my_up_role fh287 is_151 is_169 rfl).trans xp271)
            have npsR : sm h287 = sm h := sm_eq (fun j => my_fr.at gh287 is_153 rfl) (fun j => my_fr.at gh287 is_154 rfl) (fun j => my_fr.at gh287 is_155 rfl)
            have ce288 : h287 151 7 = (h259 151 7) := ((my_up_role fh287 is_151 is_169 rfl).trans (rfl : h259 151 7 = h259 151 7))
            have ce289 : h287 151 27 = v250 := ((my_up_role fh287 is_151 is_169 rfl).trans ((my_fr.at frh259 is_151 rfl).trans ev250.symm))
            have a168 : ∀ j : Int, h287 168 j = h2 168 j := fun j => ((my_up_role fh287 is_168 is_169 rfl).trans ((my_fr.at frh259 is_168 rfl).trans ((my_fr.at frh223 is_168 rfl).trans ((my_up_role fh212 is_168 is_170 rfl).trans ((my_fr.at frh163 is_168 rfl).trans (rfl : h2 168 j = h2 168 j))))))
            have a170 : ∀ j : Int, h287 170 j = h212 170 j := fun j => ((my_up_role fh287 is_170 is_169 rfl).trans ((my_fr.at frh259 is_170 rfl).trans ((my_fr.at frh223 is_170 rfl).trans (rfl : h212 170 j = h212 170 j))))
            have a169 : ∀ j : Int, h287 169 j = h287 169 j := fun _ => rfl
            have a157 : ∀ j : Int, h287 157 j = h 157 j := fun j => ((my_up_role fh287 is_157 is_169 rfl).trans ((my_fr.at frh259 is_157 rfl).trans ((my_fr.at frh223 is_157 rfl).trans ((my_up_role fh212 is_157 is_170 rfl).trans ((my_fr.at frh163 is_157 rfl).trans ((my_up_role fh2 is_157 is_168 rfl).trans (rfl : h 157 j = h 157 j)))))))
            have c290 := ((my_up_role fh287 is_151 is_169 rfl).trans (rfl : h259 151 7 = h259 151 7))
            have c291 := ((my_up_role fh287 is_151 is_169 rfl).trans w265)
            exact w_vret gz_189_122 gm_189 (k1 h287 (gh287) (by omega) (by omega) (by omega) (by first | exact ⟨_, _, _, ⟨rfl, rfl, rfl⟩, PmI_4 Pz_h287 (by rw [a168]; exact k168) (by rw [a169, k169]; omega) (by rw [a170, k170]; omega)⟩ | exact Ko_h287 | exact ⟨by rw [a168]; exact k168, by rw [a170, k170]; omega⟩ | (unfold joinM; first | exact Or.inr (Or.inr ⟨by omega, by omega, Or.inr (Or.inr ⟨by omega, by omega, Or.inr ⟨by omega, Or.inr (Or.inr ⟨by omega, by omega, ⟨by omega, by omega⟩⟩)⟩⟩)⟩) | exact Or.inr (Or.inr ⟨by omega, by omega, Or.inr (Or.inr ⟨by omega, by omega, Or.inr ⟨by omega, or_assoc.mp (Or.inl (by omega))⟩⟩)⟩) | exact Or.inr (Or.inr ⟨by omega, by omega, Or.inr (Or.inr ⟨by omega, by omega, Or.inl ⟨by omega, by omega⟩⟩)⟩) | exact Or.inr (Or.inr ⟨by omega, by omega, Or.inr (Or.inl ⟨by omega, by omega, by omega⟩)⟩) | exact Or.inr (Or.inr ⟨by omega, by omega, Or.inl ⟨by omega, by omega⟩⟩) | exact or_assoc.mp (Or.inl (by omega))) | omega | (exfalso; subst_vars; omega) | (exfalso; (try clear k0); (try clear k1); grind) | omega | (refine ⟨fun q => ?_, fun q => ?_⟩ <;> first | (rw [a168, k168] at q; omega) | (have kz := k170.trans (show _ = vz by omega); rw [a170, kz, a157]; omega)) | (refine ⟨fun q => ?_, fun q => ?_, fun q => ?_⟩ <;> first | (exfalso; rw [a168, k168] at q; omega) | (rw [a169, k169]; omega)) | omega) (by first | exact ⟨_, _, _, ⟨rfl, rfl, rfl⟩, PmI_4 Pz_h287 (by rw [a168]; exact k168) (by rw [a169, k169]; omega) (by rw [a170, k170]; omega)⟩ | exact Ko_h287 | exact ⟨by rw [a168]; exact k168, by rw [a170, k170]; omega⟩ | (unfold joinM; first | exact Or.inr (Or.inr ⟨by omega, by omega, Or.inr (Or.inr ⟨by omega, by omega, Or.inr ⟨by omega, Or.inr (Or.inr ⟨by omega, by omega, ⟨by omega, by omega⟩⟩)⟩⟩)⟩) | exact Or.inr (Or.inr ⟨by omega, by omega, Or.inr (Or.inr ⟨by omega, by omega, Or.inr ⟨by omega, or_assoc.mp (Or.inl (by omega))⟩⟩)⟩) | exact Or.inr (Or.inr ⟨by omega, by omega, Or.inr (Or.inr ⟨by omega, by omega, Or.inl ⟨by omega, by omega⟩⟩)⟩) | exact Or.inr (Or.inr ⟨by omega, by omega, Or.inr (Or.inl ⟨by omega, by omega, by omega⟩)⟩) | exact Or.inr (Or.inr ⟨by omega, by omega, Or.inl ⟨by omega, by omega⟩⟩) | exact or_assoc.mp (Or.inl (by omega))) | omega | (exfalso; subst_vars; omega) | (exfalso; (try clear k0); (try clear k1); grind) | omega | (refine ⟨fun q => ?_, fun q => ?_⟩ <;> first | (rw [a168, k168] at q; omega) | (have kz := k170.trans (show _ = vz by omega); rw [a170, kz, a157]; omega)) | (refine ⟨fun q => ?_, fun q => ?_, fun q => ?_⟩ <;> first | (exfalso; rw [a168, k168] at q; omega) | (rw [a169, k169]; omega)) | omega) (by first | exact ⟨_, _, _, ⟨rfl, rfl, rfl⟩, PmI_4 Pz_h287 (by rw [a168]; exact k168) (by rw [a169, k169]; omega) (by rw [a170, k170]; omega)⟩ | exact Ko_h287 | exact ⟨by rw [a168]; exact k168, by rw [a170, k170]; omega⟩ | (unfold joinM; first | exact Or.inr (Or.inr ⟨by omega, by omega, Or.inr (Or.inr ⟨by omega, by omega, Or.inr ⟨by omega, Or.inr (Or.inr ⟨by omega, by omega, ⟨by omega, by omega⟩⟩)⟩⟩)⟩) | exact Or.inr (Or.inr ⟨by omega, by omega, Or.inr (Or.inr ⟨by omega, by omega, Or.inr ⟨by omega, or_assoc.mp (Or.inl (by omega))⟩⟩)⟩) | exact Or.inr (Or.inr ⟨by omega, by omega, Or.inr (Or.inr ⟨by omega, by omega, Or.inl ⟨by omega, by omega⟩⟩)⟩) | exact Or.inr (Or.inr ⟨by omega, by omega, Or.inr (Or.inl ⟨by omega, by omega, by omega⟩)⟩) | exact Or.inr (Or.inr ⟨by omega, by omega, Or.inl ⟨by omega, by omega⟩⟩) | exact or_assoc.mp (Or.inl (by omega))) | omega | (exfalso; subst_vars; omega) | (exfalso; (try clear k0); (try clear k1); grind) | omega | (refine ⟨fun q => ?_, fun q => ?_⟩ <;> first | (rw [a168, k168] at q; omega) | (have kz := k170.trans (show _ = vz by omega); rw [a170, kz, a157]; omega)) | (refine ⟨fun q => ?_, fun q => ?_, fun q => ?_⟩ <;> first | (exfalso; rw [a168, k168] at q; omega) | (rw [a169, k169]; omega)) | omega) (by first | exact ⟨_, _, _, ⟨rfl, rfl, rfl⟩, PmI_4 Pz_h287 (by rw [a168]; exact k168) (by rw [a169, k169]; omega) (by rw [a170, k170]; omega)⟩ | exact Ko_h287 | exact ⟨by rw [a168]; exact k168, by rw [a170, k170]; omega⟩ | (unfold joinM; first | exact Or.inr (Or.inr ⟨by omega, by omega, Or.inr (Or.inr ⟨by omega, by omega, Or.inr ⟨by omega, Or.inr (Or.inr ⟨by omega, by omega, ⟨by omega, by omega⟩⟩)⟩⟩)⟩) | exact Or.inr (Or.inr ⟨by omega, by omega, Or.inr (Or.inr ⟨by omega, by omega, Or.inr ⟨by omega, or_assoc.mp (Or.inl (by omega))⟩⟩)⟩) | exact Or.inr (Or.inr ⟨by omega, by omega, Or.inr (Or.inr ⟨by omega, by omega, Or.inl ⟨by omega, by omega⟩⟩)⟩) | exact Or.inr (Or.inr ⟨by omega, by omega, Or.inr (Or.inl ⟨by omega, by omega, by omega⟩)⟩) | exact Or.inr (Or.inr ⟨by omega, by omega, Or.inl ⟨by omega, by omega⟩⟩) | exact or_assoc.mp (Or.inl (by omega))) | omega | (exfalso; subst_vars; omega) | (exfalso; (try clear k0); (try clear k1); grind) | omega | (refine ⟨fun q => ?_, fun q => ?_⟩ <;> first | (rw [a168, k168] at q; omega) | (have kz := k170.trans (show _ = vz by omega); rw [a170, kz, a157]; omega)) | (refine ⟨fun q => ?_, fun q => ?_, fun q => ?_⟩ <;> first | (exfalso; rw [a168, k168] at q; omega) | (rw [a169, k169]; omega)) | omega) (by first | exact ⟨_, _, _, ⟨rfl, rfl, rfl⟩, PmI_4 Pz_h287 (by rw [a168]; exact k168) (by rw [a169, k169]; omega) (by rw [a170, k170]; omega)⟩ | exact Ko_h287 | exact ⟨by rw [a168]; exact k168, by rw [a170, k170]; omega⟩ | (unfold joinM; first | exact Or.inr (Or.inr ⟨by omega, by omega, Or.inr (Or.inr ⟨by omega, by omega, Or.inr ⟨by omega, Or.inr (Or.inr ⟨by omega, by omega, ⟨by omega, by omega⟩⟩)⟩⟩)⟩) | exact Or.inr (Or.inr ⟨by omega, by omega, Or.inr (Or.inr ⟨by omega, by omega, Or.inr ⟨by omega, or_assoc.mp (Or.inl (by omega))⟩⟩)⟩) | exact Or.inr (Or.inr ⟨by omega, by omega, Or.inr (Or.inr ⟨by omega, by omega, Or.inl ⟨by omega, by omega⟩⟩)⟩) | exact Or.inr (Or.inr ⟨by omega, by omega, Or.inr (Or.inl ⟨by omega, by omega, by omega⟩)⟩) | exact Or.inr (Or.inr ⟨by omega, by omega, Or.inl ⟨by omega, by omega⟩⟩) | exact or_assoc.mp (Or.inl (by omega))) | omega | (exfalso; subst_vars; omega) | (exfalso; (try clear k0); (try clear k1); grind) | omega | (refine ⟨fun q => ?_, fun q => ?_⟩ <;> first | (rw [a168, k168] at q; omega) | (have kz := k170.trans (show _ = vz by omega); rw [a170, kz, a157]; omega)) | (refine ⟨fun q => ?_, fun q => ?_, fun q => ?_⟩ <;> first | (exfalso; rw [a168, k168] at q; omega) | (rw [a169, k169]; omega)) | omega) (by first | exact ⟨_, _, _, ⟨rfl, rfl, rfl⟩, PmI_4 Pz_h287 (by rw [a168]; exact k168) (by rw [a169, k169]; omega) (by rw [a170, k170]; omega)⟩ | exact Ko_h287 | exact ⟨by rw [a168]; exact k168, by rw [a170, k170]; omega⟩ | (unfold joinM; first | exact Or.inr (Or.inr ⟨by omega, by omega, Or.inr (Or.inr ⟨by omega, by omega, Or.inr ⟨by omega, Or.inr (Or.inr ⟨by omega, by omega, ⟨by omega, by omega⟩⟩)⟩⟩)⟩) | exact Or.inr (Or.inr ⟨by omega, by omega, Or.inr (Or.inr ⟨by omega, by omega, Or.inr ⟨by omega, or_assoc.mp (Or.inl (by omega))⟩⟩)⟩) | exact Or.inr (Or.inr ⟨by omega, by omega, Or.inr (Or.inr ⟨by omega, by omega, Or.inl ⟨by omega, by omega⟩⟩)⟩) | exact Or.inr (Or.inr ⟨by omega, by omega, Or.inr (Or.inl ⟨by omega, by omega, by omega⟩)⟩) | exact Or.inr (Or.inr ⟨by omega, by omega, Or.inl ⟨by omega, by omega⟩⟩) | exact or_assoc.mp (Or.inl (by omega))) | omega | (exfalso; subst_vars; omega) | (exfalso; (try clear k0); (try clear k1); grind) | omega | (refine ⟨fun q => ?_, fun q => ?_⟩ <;> first | (rw [a168, k168] at q; omega) | (have kz := k170.trans (show _ = vz by omega); rw [a170, kz, a157]; omega)) | (refine ⟨fun q => ?_, fun q => ?_, fun q => ?_⟩ <;> first | (exfalso; rw [a168, k168] at q; omega) | (rw [a169, k169]; omega)) | omega) (by first | exact ⟨_, _, _, ⟨rfl, rfl, rfl⟩, PmI_4 Pz_h287 (by rw [a168]; exact k168) (by rw [a169, k169]; omega) (by rw [a170, k170]; omega)⟩ | exact Ko_h287 | exact ⟨by rw [a168]; exact k168, by rw [a170, k170]; omega⟩ | (unfold joinM; first | exact Or.inr (Or.inr ⟨by omega, by omega, Or.inr (Or.inr ⟨by omega, by omega, Or.inr ⟨by omega, Or.inr (Or.inr ⟨by omega, by omega, ⟨by omega, by omega⟩⟩)⟩⟩)⟩) | exact Or.inr (Or.inr ⟨by omega, by omega, Or.inr (Or.inr ⟨by omega, by omega, Or.inr ⟨by omega, or_assoc.mp (Or.inl (by omega))⟩⟩)⟩) | exact Or.inr (Or.inr ⟨by omega, by omega, Or.inr (Or.inr ⟨by omega, by omega, Or.inl ⟨by omega, by omega⟩⟩)⟩) | exact Or.inr (Or.inr ⟨by omega, by omega, Or.inr (Or.inl ⟨by omega, by omega, by omega⟩)⟩) | exact Or.inr (Or.inr ⟨by omega, by omega, Or.inl ⟨by omega, by omega⟩⟩) | exact or_assoc.mp (Or.inl (by omega))) | omega | (exfalso; subst_vars; omega) | (exfalso; (try clear k0); (try clear k1); grind) | omega | (refine ⟨fun q => ?_, fun q => ?_⟩ <;> first | (rw [a168, k168] at q; omega) | (have kz := k170.trans (show _ = vz by omega); rw [a170, kz, a157]; omega)) | (refine ⟨fun q => ?_, fun q => ?_, fun q => ?_⟩ <;> first | (exfalso; rw [a168, k168] at q; omega) | (rw [a169, k169]; omega)) | omega) Tok_h287 Mq_h287 Wd9_h287)
    ·
      refine w_aload_n gz_189_43 rfl ?_
      refine w_getX (v := 157) gz_189_44 is_151 rd_10 rfl (by decide) rfl ?_
      refine w_aload_n gz_189_47 rfl ?_
      refine w_getX (v := 155) gz_189_48 is_151 rd_10 rfl (by decide) rfl ?_
      refine w_aload_n gz_189_51 rfl ?_
      refine v_getI (j := 7) gz_189_52 rfl is_151 rd_10 rfl (fun v294 ev294 pv294 qv294 => ?_)
      have zv294 := ev294.trans ev149.symm
      refine w_lald gz_189_55 is_155 rd_54 (by omega) (by omega) (fun v295 ev295 pv295 => ?_)
      have nz296a : h2 151 7 = h 151 7 := ((my_up_role fh2 is_151 is_168 rfl).trans (rfl : h 151 7 = h 151 7))
      have nz296 : v295 = sV (sm h) (h 151 7) := by
        have q := ev295.trans (my_fr.at (j := v294) gh2 is_155 rfl)
        rw [show (v294 : Int) = h 151 7 from by omega] at q
        exact q
      have tb : 0 ≤ v295 ∧ v295 ≤ 999 := by
        have q := Tok_at Tok_h2
        subst_vars
        omega
      refine w_l2iE gz_189_56 (fun v297 pv297 qv297 xv297 => ?_)
      have z155 : v297 = h2 155 (h2 151 7) := by subst_vars; omega
      have hi298 : 0 ≤ v297 := by subst_vars; omega
      have hi299 : v297 ≤ 2 := by subst_vars; omega
      refine w_iald gz_189_57 is_157 rd_56 (by omega) (by omega) (fun v300 ev300 pv300 qv300 => ?_)
      have b157 : ∀ j : Int, h2 157 j = h 157 j := fun j => ((my_up_role fh2 is_157 is_168 rfl).trans (rfl : h 157 j = h 157 j))
      obtain ⟨vz, ez⟩ : ∃ vz : Int, vz = h2 155 (h2 151 7) := ⟨_, rfl⟩
      have c157 : v300 = h 157 vz := by rw [ez, ← z155, ← b157]; omega
      have w58 : v300 = h 157 (sV (sm h) (h 151 7)) := by
        have q : vz = sV (sm h) (h 151 7) := by
          rw [ez, my_fr.at (j := h2 151 7) gh2 is_155 rfl, show h2 151 7 = h 151 7 by omega]
          rfl
        rw [← q]
        exact c157
      refine w_istore_n (ls' := [(2, 151), (0, x1), (0, v300)]) gz_189_58 gm_189 rfl rfl rfl ?_
      refine w_iload_n gz_189_59 rfl ?_
      refine w_ifeq (t := 76) gz_189_60 rfl (fun u301 => ?_) (fun u301 => ?_)
      ·
        refine w_aload_n gz_189_76 rfl ?_
        refine w_iload_n gz_189_77 rfl ?_
        refine w_ifne (t := 85) gz_189_78 rfl (fun u302 => by exfalso; omega) (fun u302 => ?_)
        refine w_iconst gz_189_81 (by decide) ?_
        refine w_goto (t := 86) gz_189_82 rfl ?_
        have ce303 : h2 151 7 = v294 := ev294.symm
        have ce304 : h2 151 27 = k151_27 := ((my_up_role fh2 is_151 is_168 rfl).trans ek151_27.symm)
        refine w_inv (k := 0) (as := [(0, 2)]) (r := []) (x := 151) (ls0 := [(2, 151), (0, 2)]) gz_189_86 gm_178 rfl is_151 rd_10 rfl rfl rfl rfl rfl ?_
        refine w_aload_n gz_178_0 rfl ?_
        refine v_getI (j := 8) gz_178_1 rfl is_151 rd_10 rfl (fun v305 ev305 pv305 qv305 => ?_)
        have zv305 := ev305.trans ev3.symm
        refine w_ifne (t := 25) gz_178_4 rfl (fun u306 => by exfalso; omega) (fun u306 => ?_)
        refine w_aload_n gz_178_7 rfl ?_
        refine w_iload_n gz_178_8 rfl ?_
        refine w_bipush gz_178_9 (by decide) ?_
        refine w_aload_n gz_178_11 rfl ?_
        refine w_getX (v := 154) gz_178_12 is_151 rd_10 rfl (by decide) rfl ?_
        refine w_aload_n gz_178_15 rfl ?_
        refine v_getI (j := 7) gz_178_16 rfl is_151 rd_10 rfl (fun v308 ev308 pv308 qv308 => ?_)
        have zv308 := ev308.trans ev294.symm
        refine w_iald gz_178_19 is_154 rd_53 (by omega) (by omega) (fun v309 ev309 pv309 qv309 => ?_)
        have nz310a : h2 151 7 = h 151 7 := ((my_up_role fh2 is_151 is_168 rfl).trans (rfl : h 151 7 = h 151 7))
        have nz310 : v309 = sP (sm h) (h 151 7) := by
          have q := ev309.trans (my_fr.at (j := v308) gh2 is_154 rfl)
          rw [show (v308 : Int) = h 151 7 from by omega] at q
          exact q
        refine w_imul gz_178_20 ⟨by omega, by omega⟩ ?_
        refine w_iadd gz_178_21 ⟨by omega, by omega⟩ ?_
        refine v_putI (j := 8) gz_178_22 rfl is_151 rd_10 rfl (by omega) (by omega) rfl (fun h311 fh311 => ?_)
        have gh311 : my_fr [(10, 7), (10, 8), (67, -1), (68, -1), (69, -1)] h h311 := my_fr.up gh2 is_151 fh311 rfl
        have Tok_h311 : Tok h311 := Tok_ag (my_ag.up fh311 is_151 rfl) Tok_h2
        have Mq_h311 : Mq h311 wv := Mq_ag (my_ag.up fh311 is_151 rfl) Mq_h2
        have Wd9_h311 : Wd9 h311 := Wd9_ag (my_ag.up fh311 is_151 rfl) Wd9_h2
        have P6_h311 : h311 167 6 = h 167 6 := P6_ag (my_ag.up fh311 is_151 rfl) P6_h2
        have Ko_h311 : Ko h h311 := Ko_ag (my_ag.up fh311 is_151 rfl) Ko_h2
        have Pz_h311 : Pz x1 h h311 := Pz_ag (my_ag.up fh311 is_151 rfl) Pz_h2
        refine w_vret gz_178_25 gm_178 ?_
        show wp l rho (d + 3) 189 89 [(2, 151), (0, x1), (0, v300)] [] h311 Q
        refine w_aload_n gz_189_89 rfl ?_
        refine w_getX (v := 170) gz_189_90 is_151 rd_10 rfl (by decide) rfl ?_
        refine w_iload_n gz_189_93 rfl ?_
        refine w_aload_n gz_189_94 rfl ?_
        refine w_iconst gz_189_95 (by decide) ?_
        have ce313 : h311 151 7 = v308 := ((my_up_fld fh311 (by decide)).trans ev308.symm)
        have ce314 : h311 151 27 = k151_27 := ((my_up_fld fh311 (by decide)).trans ((my_up_role fh2 is_151 is_168 rfl).trans ek151_27.symm))
        refine w_inv (k := 0) (as := [(0, 2)]) (r := [(0, x1), (2, 170)]) (x := 151) (ls0 := [(2, 151), (0, 2)]) gz_189_96 gm_187 rfl is_151 rd_10 rfl rfl rfl rfl rfl (c_Model_takeNumber9_f1 (d := (d + 1)) (x1 := 2) (by omega) (by omega) ((2 + (16 * v309))) ((my_up_self fh311)) (by omega) (by omega) Tok_h311 (fun w315 w316 xp317 Tok_h311t318 => ?_))
        show wp l rho (d + 3) 189 99 [(2, 151), (0, x1), (0, v300)] [(0, 0), (0, x1), (2, 170)] h311 Q
        have ps319 : h311 151 7 = h 151 7 := ((my_up_fld fh311 (by decide)).trans ((my_up_role fh2 is_151 is_168 rfl).trans (rfl : h 151 7 = h 151 7)))
        rw [ps319] at xp317
        have hi320 : 0 ≤ 0 := by omega
        have hi321 : 0 ≤ 2 := by omega
        refine w_iast gz_189_99 is_170 rd_69 (by omega) (by omega) (by omega) (by omega) (fun h322 fh322 => ?_)
        have gh322 : my_fr [(10, 7), (10, 8), (67, -1), (68, -1), (69, -1)] h h322 := my_fr.up gh311 is_170 fh322 rfl
        have Tok_h322 : Tok h322 := Tok_ag (my_ag.up fh322 is_170 rfl) Tok_h311t318
        have Mq_h322 : Mq h322 wv := Mq_u (a := 170) hwv (by decide) (by omega) fh322 Mq_h311
        have Wd9_h322 : Wd9 h322 := Wd9_ag (my_ag.up fh322 is_170 rfl) Wd9_h311
        have P6_h322 : h322 167 6 = h 167 6 := P6_ag (my_ag.up fh322 is_170 rfl) P6_h311
        have Ko_h322 : Ko h h322 := Ko_u (a := 170) hwv (by decide) (by omega) fh322 Ko_h311
        have Pz_h322 : Pz x1 h h322 := Pz_u (a := 170) hwv (by decide) (by omega) fh322 Pz_h311
        have k170 := my_up_self fh322
        refine w_aload_n gz_189_100 rfl ?_
        refine w_bipush gz_189_101 (by decide) ?_
        have ce323 : h322 151 7 = v308 := ((my_up_role fh322 is_151 is_170 rfl).trans ((my_up_fld fh311 (by decide)).trans ev308.symm))
        have ce324 : h322 151 27 = k151_27 := ((my_up_role fh322 is_151 is_170 rfl).trans ((my_up_fld fh311 (by decide)).trans ((my_up_role fh2 is_151 is_168 rfl).trans ek151_27.symm)))
        refine w_inv (k := 0) (as := [(0, 9)]) (r := []) (x := 151) (ls0 := [(2, 151), (0, 9)]) gz_189_103 gm_175 rfl is_151 rd_10 rfl rfl rfl rfl rfl (c_Model_takeWord9_f1 (d := d)  ((2 + (16 * v309))) (((my_up_role fh322 is_151 is_170 rfl).trans (my_up_self fh311))) (by omega) (by omega) Tok_h322 Wd9_h322 (fun h325 frh325 w326 w327 xp328 xp329 Tok_h325t330 Wd9_h325t331 => ?_))
        have gh325 : my_fr [(10, 7), (10, 8), (67, -1), (68, -1), (69, -1)] h h325 := my_fr.tr gh322 (frh325.mo rfl)
        have Mq_h325 : Mq h325 wv := Mq_ag (my_ag.fr frh325 rfl) Mq_h322
        have Wd9_h325 : Wd9 h325 := Wd9_ag (my_ag.fr frh325 rfl) Wd9_h322
        have P6_h325 : h325 167 6 = h 167 6 := P6_ag (my_ag.fr frh325 rfl) P6_h322
        have Ko_h325 : Ko h h325 := Ko_ag (my_ag.fr frh325 rfl) Ko_h322
        have Pz_h325 : Pz x1 h h325 := Pz_ag (my_ag.fr frh325 rfl) Pz_h322
        show wp l rho (d + 3) 189 106 [(2, 151), (0, x1), (0, v300)] [] h325 Q
        have ps332 : h322 151 7 = h 151 7 := ((my_up_role fh322 is_151 is_170 rfl).trans ((my_up_fld fh311 (by decide)).trans ((my_up_role fh2 is_151 is_168 rfl).trans (rfl : h 151 7 = h 151 7))))
        rw [ps332] at xp328
        rw [ps332] at xp329
        refine w_aload_n gz_189_106 rfl ?_
        refine w_getX (v := 169) gz_189_107 is_151 rd_10 rfl (by decide) rfl ?_
        refine w_iload_n gz_189_110 rfl ?_
        refine w_aload_n gz_189_111 rfl ?_
        refine w_aload_n gz_189_112 rfl ?_
        refine v_getI (j := 27) gz_189_113 rfl is_151 rd_10 rfl (fun v334 ev334 pv334 qv334 => ?_)
        have zv334 := ev334.trans ((my_fr.at frh325 is_151 rfl).trans ((my_up_role fh322 is_151 is_170 rfl).trans ((my_up_fld fh311 (by decide)).trans ((my_up_role fh2 is_151 is_168 rfl).trans ek151_27.symm))))
        refine w_iconst gz_189_116 (by decide) ?_
        refine w_isub gz_189_117 ⟨by omega, by omega⟩ ?_
        have ce335 : h325 151 27 = v334 := ev334.symm
        refine w_inv (k := 0) (as := [(0, (v334 - 1))]) (r := [(0, x1), (2, 169)]) (x := 151) (ls0 := [(2, 151), (0, (v334 - 1))]) gz_189_118 gm_187 rfl is_151 rd_10 rfl rfl rfl rfl rfl (c_Model_takeNumber9_f1 (d := (d + 1)) (x1 := (v334 - 1)) (by omega) (by omega) ((2 + (16 * v309))) (((my_fr.at frh325 is_151 rfl).trans ((my_up_role fh322 is_151 is_170 rfl).trans (my_up_self fh311)))) (by omega) (by omega) Tok_h325t330 (fun w336 w337 xp338 Tok_h325t339 => ?_))
        show wp l rho (d + 3) 189 121 [(2, 151), (0, x1), (0, v300)] [(0, 0), (0, x1), (2, 169)] h325 Q
        have ps340 : h325 151 7 = ((h 151 7)) := xp329
        rw [ps340] at xp338
        have hi341 : 0 ≤ 0 := by omega
        have hi342 : 0 ≤ 7 := by omega
        refine w_iast gz_189_121 is_169 rd_68 (by omega) (by omega) (by omega) (by omega) (fun h343 fh343 => ?_)
        have gh343 : my_fr [(10, 7), (10, 8), (67, -1), (68, -1), (69, -1)] h h343 := my_fr.up gh325 is_169 fh343 rfl
        have Mq_h343 : Mq h343 wv := Mq_u (a := 169) hwv (by decide) (by omega) fh343 Mq_h325
        have Wd9_h343 : Wd9 h343 := Wd9_ag (my_ag.up fh343 is_169 rfl) Wd9_h325t331
        have P6_h343 : h343 167 6 = h 167 6 := P6_ag (my_ag.up fh343 is_169 rfl) P6_h325
        have Ko_h343 : Ko h h343 := Ko_u (a := 169) hwv (by decide) (by omega) fh343 Ko_h325
        have Pz_h343 : Pz x1 h h343 := Pz_u (a := 169) hwv (by decide) (by omega) fh343 Pz_h325
        have Tok_h343 : Tok h343 := Tok_ag (my_ag.up fh343 is_169 rfl) Tok_h325t339
        have k169 := my_up_self fh343
        have psR : h343 151 7 = ((h 151 7)) := ((my_up_role fh343 is_151 is_169 rfl).trans xp329)
        have npsR : sm h343 = sm h := sm_eq (fun j => my_fr.at gh343 is_153 rfl) (fun j => my_fr.at gh343 is_154 rfl) (fun j => my_fr.at gh343 is_155 rfl)
        have ce344 : h343 151 7 = h325 151 7 := ((my_up_role fh343 is_151 is_169 rfl).trans (rfl : h325 151 7 = h325 151 7))
        have ce345 : h343 151 27 = v334 := ((my_up_role fh343 is_151 is_169 rfl).trans ev334.symm)
        have a168 : ∀ j : Int, h343 168 j = h2 168 j := fun j => ((my_up_role fh343 is_168 is_169 rfl).trans ((my_fr.at frh325 is_168 rfl).trans ((my_up_role fh322 is_168 is_170 rfl).trans ((my_up_role fh311 is_168 is_151 rfl).trans (rfl : h2 168 j = h2 168 j)))))
        have a170 : ∀ j : Int, h343 170 j = h322 170 j := fun j => ((my_up_role fh343 is_170 is_169 rfl).trans ((my_fr.at frh325 is_170 rfl).trans (rfl : h322 170 j = h322 170 j)))
        have a169 : ∀ j : Int, h343 169 j = h343 169 j := fun _ => rfl
        have a157 : ∀ j : Int, h343 157 j = h 157 j := fun j => ((my_up_role fh343 is_157 is_169 rfl).trans ((my_fr.at frh325 is_157 rfl).trans ((my_up_role fh322 is_157 is_170 rfl).trans ((my_up_role fh311 is_157 is_151 rfl).trans ((my_up_role fh2 is_157 is_168 rfl).trans (rfl : h 157 j = h 157 j))))))
        have c346 := ((my_up_role fh343 is_151 is_169 rfl).trans ((my_fr.at frh325 is_151 rfl).trans ((my_up_role fh322 is_151 is_170 rfl).trans (my_up_self fh311))))
        exact w_vret gz_189_122 gm_189 (k0 h343 (gh343) (by omega) (by omega) (by first | exact ⟨_, _, _, ⟨rfl, rfl, rfl⟩, PmI_4 Pz_h343 (by rw [a168]; exact k168) (by rw [a169, k169]; omega) (by rw [a170, k170]; omega)⟩ | exact Ko_h343 | exact ⟨by rw [a168]; exact k168, by rw [a170, k170]; omega⟩ | (unfold joinM; first | exact Or.inr (Or.inr ⟨by omega, by omega, Or.inr (Or.inr ⟨by omega, by omega, Or.inr ⟨by omega, Or.inr (Or.inr ⟨by omega, by omega, ⟨by omega, by omega⟩⟩)⟩⟩)⟩) | exact Or.inr (Or.inr ⟨by omega, by omega, Or.inr (Or.inr ⟨by omega, by omega, Or.inr ⟨by omega, or_assoc.mp (Or.inl (by omega))⟩⟩)⟩) | exact Or.inr (Or.inr ⟨by omega, by omega, Or.inr (Or.inr ⟨by omega, by omega, Or.inl ⟨by omega, by omega⟩⟩)⟩) | exact Or.inr (Or.inr ⟨by omega, by omega, Or.inr (Or.inl ⟨by omega, by omega, by omega⟩)⟩) | exact Or.inr (Or.inr ⟨by omega, by omega, Or.inl ⟨by omega, by omega⟩⟩) | exact or_assoc.mp (Or.inl (by omega))) | omega | (exfalso; subst_vars; omega) | (exfalso; (try clear k0); (try clear k1); grind) | omega | (refine ⟨fun q => ?_, fun q => ?_⟩ <;> first | (rw [a168, k168] at q; omega) | (have kz := k170.trans (show _ = vz by omega); rw [a170, kz, a157]; omega)) | (refine ⟨fun q => ?_, fun q => ?_, fun q => ?_⟩ <;> first | (exfalso; rw [a168, k168] at q; omega) | (rw [a169, k169]; omega)) | omega) (by first | exact ⟨_, _, _, ⟨rfl, rfl, rfl⟩, PmI_4 Pz_h343 (by rw [a168]; exact k168) (by rw [a169, k169]; omega) (by rw [a170, k170]; omega)⟩ | exact Ko_h343 | exact ⟨by rw [a168]; exact k168, by rw [a170, k170]; omega⟩ | (unfold joinM; first | exact Or.inr (Or.inr ⟨by omega, by omega, Or.inr (Or.inr ⟨by omega, by omega, Or.inr ⟨by omega, Or.inr (Or.inr ⟨by omega, by omega, ⟨by omega, by omega⟩⟩)⟩⟩)⟩) | exact Or.inr (Or.inr ⟨by omega, by omega, Or.inr (Or.inr ⟨by omega, by omega, Or.inr ⟨by omega, or_assoc.mp (Or.inl (by omega))⟩⟩)⟩) | exact Or.inr (Or.inr ⟨by omega, by omega, Or.inr (Or.inr ⟨by omega, by omega, Or.inl ⟨by omega, by omega⟩⟩)⟩) | exact Or.inr (Or.inr ⟨by omega, by omega, Or.inr (Or.inl ⟨by omega, by omega, by omega⟩)⟩) | exact Or.inr (Or.inr ⟨by omega, by omega, Or.inl ⟨by omega, by omega⟩⟩) | exact or_assoc.mp (Or.inl (by omega))) | omega | (exfalso; subst_vars; omega) | (exfalso; (try clear k0); (try clear k1); grind) | omega | (refine ⟨fun q => ?_, fun q => ?_⟩ <;> first | (rw [a168, k168] at q; omega) | (have kz := k170.trans (show _ = vz by omega); rw [a170, kz, a157]; omega)) | (refine ⟨fun q => ?_, fun q => ?_, fun q => ?_⟩ <;> first | (exfalso; rw [a168, k168] at q; omega) | (rw [a169, k169]; omega)) | omega) (by first | exact ⟨_, _, _, ⟨rfl, rfl, rfl⟩, PmI_4 Pz_h343 (by rw [a168]; exact k168) (by rw [a169, k169]; omega) (by rw [a170, k170]; omega)⟩ | exact Ko_h343 | exact ⟨by rw [a168]; exact k168, by rw [a170, k170]; omega⟩ | (unfold joinM; first | exact Or.inr (Or.inr ⟨by omega, by omega, Or.inr (Or.inr ⟨by omega, by omega, Or.inr ⟨by omega, Or.inr (Or.inr ⟨by omega, by omega, ⟨by omega, by omega⟩⟩)⟩⟩)⟩) | exact Or.inr (Or.inr ⟨by omega, by omega, Or.inr (Or.inr ⟨by omega, by omega, Or.inr ⟨by omega, or_assoc.mp (Or.inl (by omega))⟩⟩)⟩) | exact Or.inr (Or.inr ⟨by omega, by omega, Or.inr (Or.inr ⟨by omega, by omega, Or.inl ⟨by omega, by omega⟩⟩)⟩) | exact Or.inr (Or.inr ⟨by omega, by omega, Or.inr (Or.inl ⟨by omega, by omega, by omega⟩)⟩) | exact Or.inr (Or.inr ⟨by omega, by omega, Or.inl ⟨by omega, by omega⟩⟩) | exact or_assoc.mp (Or.inl (by omega))) | omega | (exfalso; subst_vars; omega) | (exfalso; (try clear k0); (try clear k1); grind) | omega | (refine ⟨fun q => ?_, fun q => ?_⟩ <;> first | (rw [a168, k168] at q; omega) | (have kz := k170.trans (show _ = vz by omega); rw [a170, kz, a157]; omega)) | (refine ⟨fun q => ?_, fun q => ?_, fun q => ?_⟩ <;> first | (exfalso; rw [a168, k168] at q; omega) | (rw [a169, k169]; omega)) | omega) Tok_h343 Mq_h343 Wd9_h343)
      ·
        refine w_aload_n gz_189_63 rfl ?_
        refine v_getI (j := 27) gz_189_64 rfl is_151 rd_10 rfl (fun v347 ev347 pv347 qv347 => ?_)
        have zv347 := ev347.trans ((my_up_role fh2 is_151 is_168 rfl).trans ek151_27.symm)
        refine w_iload_n gz_189_67 rfl ?_
        refine w_iadd gz_189_68 ⟨by omega, by omega⟩ ?_
        refine w_iconst gz_189_69 (by decide) ?_
        refine w_isub gz_189_70 ⟨by omega, by omega⟩ ?_
        refine w_bipush gz_189_71 (by decide) ?_
        refine w_icle (t := 89) gz_189_73 rfl (fun u348 => ?_) (fun u348 => ?_)
        ·
          refine w_aload_n gz_189_89 rfl ?_
          refine w_getX (v := 170) gz_189_90 is_151 rd_10 rfl (by decide) rfl ?_
          refine w_iload_n gz_189_93 rfl ?_
          refine w_aload_n gz_189_94 rfl ?_
          refine w_iconst gz_189_95 (by decide) ?_
          have ce350 : h2 151 7 = v294 := ev294.symm
          have ce351 : h2 151 27 = v347 := ev347.symm
          refine w_inv (k := 0) (as := [(0, 2)]) (r := [(0, x1), (2, 170)]) (x := 151) (ls0 := [(2, 151), (0, 2)]) gz_189_96 gm_187 rfl is_151 rd_10 rfl rfl rfl rfl rfl (c_Model_takeNumber9_f0 (d := (d + 1)) (x1 := 2) (by omega) (by omega) (ev3.symm.trans (by omega)) Tok_h2 (fun h352 frh352 w353 w354 xp355 xp356 Tok_h352t357 => ?_) (fun h358 v359 frh358 w360 w361 w362 w363 w364 xp365 xp366 xp367 xp368 xp369 xp370 xp371 xp372 Tok_h358t373 => ?_))
          ·
            have gh352 : my_fr [(10, 7), (10, 8), (67, -1), (68, -1), (69, -1)] h h352 := my_fr.tr gh2 (frh352.mo rfl)
            have Mq_h352 : Mq h352 wv := Mq_ag (my_ag.fr frh352 rfl) Mq_h2
            have Wd9_h352 : Wd9 h352 := Wd9_ag (my_ag.fr frh352 rfl) Wd9_h2
            have P6_h352 : h352 167 6 = h 167 6 := P6_ag (my_ag.fr frh352 rfl) P6_h2
            have Ko_h352 : Ko h h352 := Ko_ag (my_ag.fr frh352 rfl) Ko_h2
            have Pz_h352 : Pz x1 h h352 := Pz_ag (my_ag.fr frh352 rfl) Pz_h2
            show wp l rho (d + 3) 189 99 [(2, 151), (0, x1), (0, v300)] [(0, 0), (0, x1), (2, 170)] h352 Q
            have ps374 : h2 151 7 = h 151 7 := ((my_up_role fh2 is_151 is_168 rfl).trans (rfl : h 151 7 = h 151 7))
            rw [ps374] at xp355
            have tE375 : sm h2 = sm h := sm_eq (fun j => my_fr.at gh2 is_153 rfl) (fun j => my_fr.at gh2 is_154 rfl) (fun j => my_fr.at gh2 is_155 rfl)
            rw [tE375] at xp356
            rw [ps374] at xp356
            have hi376 : 0 ≤ 0 := by omega
            have hi377 : 0 ≤ 2 := by omega
            refine w_iast gz_189_99 is_170 rd_69 (by omega) (by omega) (by omega) (by omega) (fun h378 fh378 => ?_)
            have gh378 : my_fr [(10, 7), (10, 8), (67, -1), (68, -1), (69, -1)] h h378 := my_fr.up gh352 is_170 fh378 rfl
            have Mq_h378 : Mq h378 wv := Mq_u (a := 170) hwv (by decide) (by omega) fh378 Mq_h352
            have Wd9_h378 : Wd9 h378 := Wd9_ag (my_ag.up fh378 is_170 rfl) Wd9_h352
            have P6_h378 : h378 167 6 = h 167 6 := P6_ag (my_ag.up fh378 is_170 rfl) P6_h352
            have Ko_h378 : Ko h h378 := Ko_u (a := 170) hwv (by decide) (by omega) fh378 Ko_h352
            have Pz_h378 : Pz x1 h h378 := Pz_u (a := 170) hwv (by decide) (by omega) fh378 Pz_h352
            have Tok_h378 : Tok h378 := Tok_ag (my_ag.up fh378 is_170 rfl) Tok_h352t357
            have k170 := my_up_self fh378
            refine w_aload_n gz_189_100 rfl ?_
            refine w_bipush gz_189_101 (by decide) ?_
            have ce379 : h378 151 7 = h352 151 7 := ((my_up_role fh378 is_151 is_170 rfl).trans (rfl : h352 151 7 = h352 151 7))
            have ce380 : h378 151 27 = v347 := ((my_up_role fh378 is_151 is_170 rfl).trans ((my_fr.at frh352 is_151 rfl).trans ev347.symm))
            refine w_inv (k := 0) (as := [(0, 9)]) (r := []) (x := 151) (ls0 := [(2, 151), (0, 9)]) gz_189_103 gm_175 rfl is_151 rd_10 rfl rfl rfl rfl rfl (c_Model_takeWord9_f1 (d := d)  ((h352 151 8)) (((my_up_role fh378 is_151 is_170 rfl).trans (rfl : h352 151 8 = h352 151 8))) (by omega) (by omega) Tok_h378 Wd9_h378 (fun h381 frh381 w382 w383 xp384 xp385 Tok_h381t386 Wd9_h381t387 => ?_))
            have gh381 : my_fr [(10, 7), (10, 8), (67, -1), (68, -1), (69, -1)] h h381 := my_fr.tr gh378 (frh381.mo rfl)
            have Mq_h381 : Mq h381 wv := Mq_ag (my_ag.fr frh381 rfl) Mq_h378
            have Wd9_h381 : Wd9 h381 := Wd9_ag (my_ag.fr frh381 rfl) Wd9_h378
            have P6_h381 : h381 167 6 = h 167 6 := P6_ag (my_ag.fr frh381 rfl) P6_h378
            have Ko_h381 : Ko h h381 := Ko_ag (my_ag.fr frh381 rfl) Ko_h378
            have Pz_h381 : Pz x1 h h381 := Pz_ag (my_ag.fr frh381 rfl) Pz_h378
            show wp l rho (d + 3) 189 106 [(2, 151), (0, x1), (0, v300)] [] h381 Q
            have ps388 : h378 151 7 = ((h 151 7)) := ((my_up_role fh378 is_151 is_170 rfl).trans xp355)
            rw [ps388] at xp384
            rw [ps388] at xp385
            refine w_aload_n gz_189_106 rfl ?_
            refine w_getX (v := 169) gz_189_107 is_151 rd_10 rfl (by decide) rfl ?_
            refine w_iload_n gz_189_110 rfl ?_
            refine w_aload_n gz_189_111 rfl ?_
            refine w_aload_n gz_189_112 rfl ?_
            refine v_getI (j := 27) gz_189_113 rfl is_151 rd_10 rfl (fun v390 ev390 pv390 qv390 => ?_)
            have zv390 := ev390.trans ((my_fr.at frh381 is_151 rfl).trans ((my_up_role fh378 is_151 is_170 rfl).trans ((my_fr.at frh352 is_151 rfl).trans ev347.symm)))
            refine w_iconst gz_189_116 (by decide) ?_
            refine w_isub gz_189_117 ⟨by omega, by omega⟩ ?_
            have ce391 : h381 151 27 = v390 := ev390.symm
            refine w_inv (k := 0) (as := [(0, (v390 - 1))]) (r := [(0, x1), (2, 169)]) (x := 151) (ls0 := [(2, 151), (0, (v390 - 1))]) gz_189_118 gm_187 rfl is_151 rd_10 rfl rfl rfl rfl rfl (c_Model_takeNumber9_f1 (d := (d + 1)) (x1 := (v390 - 1)) (by omega) (by omega) ((h352 151 8)) (((my_fr.at frh381 is_151 rfl).trans ((my_up_role fh378 is_151 is_170 rfl).trans (rfl : h352 151 8 = h352 151 8)))) (by omega) (by omega) Tok_h381t386 (fun w392 w393 xp394 Tok_h381t395 => ?_))
            show wp l rho (d + 3) 189 121 [(2, 151), (0, x1), (0, v300)] [(0, 0), (0, x1), (2, 169)] h381 Q
            have ps396 : h381 151 7 = ((((h 151 7)))) := xp385
            rw [ps396] at xp394
            have hi397 : 0 ≤ 0 := by omega
            have hi398 : 0 ≤ 7 := by omega
            refine w_iast gz_189_121 is_169 rd_68 (by omega) (by omega) (by omega) (by omega) (fun h399 fh399 => ?_)
            have gh399 : my_fr [(10, 7), (10, 8), (67, -1), (68, -1), (69, -1)] h h399 := my_fr.up gh381 is_169 fh399 rfl
            have Mq_h399 : Mq h399 wv := Mq_u (a := 169) hwv (by decide) (by omega) fh399 Mq_h381
            have Wd9_h399 : Wd9 h399 := Wd9_ag (my_ag.up fh399 is_169 rfl) Wd9_h381t387
            have P6_h399 : h399 167 6 = h 167 6 := P6_ag (my_ag.up fh399 is_169 rfl) P6_h381
            have Ko_h399 : Ko h h399 := Ko_u (a := 169) hwv (by decide) (by omega) fh399 Ko_h381
            have Pz_h399 : Pz x1 h h399 := Pz_u (a := 169) hwv (by decide) (by omega) fh399 Pz_h381
            have Tok_h399 : Tok h399 := Tok_ag (my_ag.up fh399 is_169 rfl) Tok_h381t395
            have k169 := my_up_self fh399
            have psR : h399 151 7 = ((((h 151 7)))) := ((my_up_role fh399 is_151 is_169 rfl).trans xp385)
            have npsR : sm h399 = sm h := sm_eq (fun j => my_fr.at gh399 is_153 rfl) (fun j => my_fr.at gh399 is_154 rfl) (fun j => my_fr.at gh399 is_155 rfl)
            have ce400 : h399 151 7 = h381 151 7 := ((my_up_role fh399 is_151 is_169 rfl).trans (rfl : h381 151 7 = h381 151 7))
            have ce401 : h399 151 27 = v390 := ((my_up_role fh399 is_151 is_169 rfl).trans ev390.symm)
            have a168 : ∀ j : Int, h399 168 j = h2 168 j := fun j => ((my_up_role fh399 is_168 is_169 rfl).trans ((my_fr.at frh381 is_168 rfl).trans ((my_up_role fh378 is_168 is_170 rfl).trans ((my_fr.at frh352 is_168 rfl).trans (rfl : h2 168 j = h2 168 j)))))
            have a170 : ∀ j : Int, h399 170 j = h378 170 j := fun j => ((my_up_role fh399 is_170 is_169 rfl).trans ((my_fr.at frh381 is_170 rfl).trans (rfl : h378 170 j = h378 170 j)))
            have a169 : ∀ j : Int, h399 169 j = h399 169 j := fun _ => rfl
            have a157 : ∀ j : Int, h399 157 j = h 157 j := fun j => ((my_up_role fh399 is_157 is_169 rfl).trans ((my_fr.at frh381 is_157 rfl).trans ((my_up_role fh378 is_157 is_170 rfl).trans ((my_fr.at frh352 is_157 rfl).trans ((my_up_role fh2 is_157 is_168 rfl).trans (rfl : h 157 j = h 157 j))))))
            have c402 := ((my_up_role fh399 is_151 is_169 rfl).trans ((my_fr.at frh381 is_151 rfl).trans ((my_up_role fh378 is_151 is_170 rfl).trans (rfl : h352 151 8 = h352 151 8))))
            exact w_vret gz_189_122 gm_189 (k0 h399 (gh399) (by omega) (by omega) (by first | exact ⟨_, _, _, ⟨rfl, rfl, rfl⟩, PmI_4 Pz_h399 (by rw [a168]; exact k168) (by rw [a169, k169]; omega) (by rw [a170, k170]; omega)⟩ | exact Ko_h399 | exact ⟨by rw [a168]; exact k168, by rw [a170, k170]; omega⟩ | (unfold joinM; first | exact Or.inr (Or.inr ⟨by omega, by omega, Or.inr (Or.inr ⟨by omega, by omega, Or.inr ⟨by omega, Or.inr (Or.inr ⟨by omega, by omega, ⟨by omega, by omega⟩⟩)⟩⟩)⟩) | exact Or.inr (Or.inr ⟨by omega, by omega, Or.inr (Or.inr ⟨by omega, by omega, Or.inr ⟨by omega, or_assoc.mp (Or.inl (by omega))⟩⟩)⟩) | exact Or.inr (Or.inr ⟨by omega, by omega, Or.inr (Or.inr ⟨by omega, by omega, Or.inl ⟨by omega, by omega⟩⟩)⟩) | exact Or.inr (Or.inr ⟨by omega, by omega, Or.inr (Or.inl ⟨by omega, by omega, by omega⟩)⟩) | exact Or.inr (Or.inr ⟨by omega, by omega, Or.inl ⟨by omega, by omega⟩⟩) | exact or_assoc.mp (Or.inl (by omega))) | omega | (exfalso; subst_vars; omega) | (exfalso; (try clear k0); (try clear k1); grind) | omega | (refine ⟨fun q => ?_, fun q => ?_⟩ <;> first | (rw [a168, k168] at q; omega) | (have kz := k170.trans (show _ = vz by omega); rw [a170, kz, a157]; omega)) | (refine ⟨fun q => ?_, fun q => ?_, fun q => ?_⟩ <;> first | (exfalso; rw [a168, k168] at q; omega) | (rw [a169, k169]; omega)) | omega) (by first | exact ⟨_, _, _, ⟨rfl, rfl, rfl⟩, PmI_4 Pz_h399 (by rw [a168]; exact k168) (by rw [a169, k169]; omega) (by rw [a170, k170]; omega)⟩ | exact Ko_h399 | exact ⟨by rw [a168]; exact k168, by rw [a170, k170]; omega⟩ | (unfold joinM; first | exact Or.inr (Or.inr ⟨by omega, by omega, Or.inr (Or.inr ⟨by omega, by omega, Or.inr ⟨by omega, Or.inr (Or.inr ⟨by omega, by omega, ⟨by omega, by omega⟩⟩)⟩⟩)⟩) | exact Or.inr (Or.inr ⟨by omega, by omega, Or.inr (Or.inr ⟨by omega, by omega, Or.inr ⟨by omega, or_assoc.mp (Or.inl (by omega))⟩⟩)⟩) | exact Or.inr (Or.inr ⟨by omega, by omega, Or.inr (Or.inr ⟨by omega, by omega, Or.inl ⟨by omega, by omega⟩⟩)⟩) | exact Or.inr (Or.inr ⟨by omega, by omega, Or.inr (Or.inl ⟨by omega, by omega, by omega⟩)⟩) | exact Or.inr (Or.inr ⟨by omega, by omega, Or.inl ⟨by omega, by omega⟩⟩) | exact or_assoc.mp (Or.inl (by omega))) | omega | (exfalso; subst_vars; omega) | (exfalso; (try clear k0); (try clear k1); grind) | omega | (refine ⟨fun q => ?_, fun q => ?_⟩ <;> first | (rw [a168, k168] at q; omega) | (have kz := k170.trans (show _ = vz by omega); rw [a170, kz, a157]; omega)) | (refine ⟨fun q => ?_, fun q => ?_, fun q => ?_⟩ <;> first | (exfalso; rw [a168, k168] at q; omega) | (rw [a169, k169]; omega)) | omega) (by first | exact ⟨_, _, _, ⟨rfl, rfl, rfl⟩, PmI_4 Pz_h399 (by rw [a168]; exact k168) (by rw [a169, k169]; omega) (by rw [a170, k170]; omega)⟩ | exact Ko_h399 | exact ⟨by rw [a168]; exact k168, by rw [a170, k170]; omega⟩ | (unfold joinM; first | exact Or.inr (Or.inr ⟨by omega, by omega, Or.inr (Or.inr ⟨by omega, by omega, Or.inr ⟨by omega, Or.inr (Or.inr ⟨by omega, by omega, ⟨by omega, by omega⟩⟩)⟩⟩)⟩) | exact Or.inr (Or.inr ⟨by omega, by omega, Or.inr (Or.inr ⟨by omega, by omega, Or.inr ⟨by omega, or_assoc.mp (Or.inl (by omega))⟩⟩)⟩) | exact Or.inr (Or.inr ⟨by omega, by omega, Or.inr (Or.inr ⟨by omega, by omega, Or.inl ⟨by omega, by omega⟩⟩)⟩) | exact Or.inr (Or.inr ⟨by omega, by omega, Or.inr (Or.inl ⟨by omega, by omega, by omega⟩)⟩) | exact Or.inr (Or.inr ⟨by omega, by omega, Or.inl ⟨by omega, by omega⟩⟩) | exact or_assoc.mp (Or.inl (by omega))) | omega | (exfalso; subst_vars; omega) | (exfalso; (try clear k0); (try clear k1); grind) | omega | (refine ⟨fun q => ?_, fun q => ?_⟩ <;> first | (rw [a168, k168] at q; omega) | (have kz := k170.trans (show _ = vz by omega); rw [a170, kz, a157]; omega)) | (refine ⟨fun q => ?_, fun q => ?_, fun q => ?_⟩ <;> first | (exfalso; rw [a168, k168] at q; omega) | (rw [a169, k169]; omega)) | omega) Tok_h399 Mq_h399 Wd9_h399)
          ·
            have gh358 : my_fr [(10, 7), (10, 8), (67, -1), (68, -1), (69, -1)] h h358 := my_fr.tr gh2 (frh358.mo rfl)
            have Mq_h358 : Mq h358 wv := Mq_ag (my_ag.fr frh358 rfl) Mq_h2
            have Wd9_h358 : Wd9 h358 := Wd9_ag (my_ag.fr frh358 rfl) Wd9_h2
            have P6_h358 : h358 167 6 = h 167 6 := P6_ag (my_ag.fr frh358 rfl) P6_h2
            have Ko_h358 : Ko h h358 := Ko_ag (my_ag.fr frh358 rfl) Ko_h2
            have Pz_h358 : Pz x1 h h358 := Pz_ag (my_ag.fr frh358 rfl) Pz_h2
            show wp l rho (d + 3) 189 99 [(2, 151), (0, x1), (0, v300)] [(0, v359), (0, x1), (2, 170)] h358 Q
            have ps403 : h2 151 7 = h 151 7 := ((my_up_role fh2 is_151 is_168 rfl).trans (rfl : h 151 7 = h 151 7))
            rw [ps403] at xp367
            rw [ps403] at xp368
            rw [ps403] at xp369
            have tE404 : sm h2 = sm h := sm_eq (fun j => my_fr.at gh2 is_153 rfl) (fun j => my_fr.at gh2 is_154 rfl) (fun j => my_fr.at gh2 is_155 rfl)
            rw [tE404] at xp370
            rw [ps403] at xp370
            rw [tE404] at xp371
            rw [ps403] at xp371
            rw [tE404] at xp372
            rw [ps403] at xp372
            have hi405 : 0 ≤ v359 := by omega
            have hi406 : v359 ≤ 2 := by omega
            refine w_iast gz_189_99 is_170 rd_69 (by omega) (by omega) (by omega) (by omega) (fun h407 fh407 => ?_)
            have gh407 : my_fr [(10, 7), (10, 8), (67, -1), (68, -1), (69, -1)] h h407 := my_fr.up gh358 is_170 fh407 rfl
            have Mq_h407 : Mq h407 wv := Mq_u (a := 170) hwv (by decide) (by omega) fh407 Mq_h358
            have Wd9_h407 : Wd9 h407 := Wd9_ag (my_ag.up fh407 is_170 rfl) Wd9_h358
            have P6_h407 : h407 167 6 = h 167 6 := P6_ag (my_ag.up fh407 is_170 rfl) P6_h358
            have Ko_h407 : Ko h h407 := Ko_u (a := 170) hwv (by decide) (by omega) fh407 Ko_h358
            have Pz_h407 : Pz x1 h h407 := Pz_u (a := 170) hwv (by decide) (by omega) fh407 Pz_h358
            have Tok_h407 : Tok h407 := Tok_ag (my_ag.up fh407 is_170 rfl) Tok_h358t373
            have k170 := my_up_self fh407
            refine w_aload_n gz_189_100 rfl ?_
            refine w_bipush gz_189_101 (by decide) ?_
            have ce408 : h407 151 7 = (h358 151 7) := ((my_up_role fh407 is_151 is_170 rfl).trans (rfl : h358 151 7 = h358 151 7))
            have ce409 : h407 151 27 = v347 := ((my_up_role fh407 is_151 is_170 rfl).trans ((my_fr.at frh358 is_151 rfl).trans ev347.symm))
            refine w_inv (k := 0) (as := [(0, 9)]) (r := []) (x := 151) (ls0 := [(2, 151), (0, 9)]) gz_189_103 gm_175 rfl is_151 rd_10 rfl rfl rfl rfl rfl (c_Model_takeWord9_f0 (d := d) (x1 := 9) (by omega) (by omega) (((my_up_role fh407 is_151 is_170 rfl).trans w364).trans (by omega)) Tok_h407 Wd9_h407 (fun h410 frh410 w411 w412 xp413 xp414 xp415 Tok_h410t416 Wd9_h410t417 => ?_) (fun h418 frh418 w419 w420 w421 xp422 xp423 xp424 Tok_h418t425 Wd9_h418t426 => ?_))
            ·
              have gh410 : my_fr [(10, 7), (10, 8), (67, -1), (68, -1), (69, -1)] h h410 := my_fr.tr gh407 (frh410.mo rfl)
              have Mq_h410 : Mq h410 wv := Mq_ag (my_ag.fr frh410 rfl) Mq_h407
              have Wd9_h410 : Wd9 h410 := Wd9_ag (my_ag.fr frh410 rfl) Wd9_h407
              have P6_h410 : h410 167 6 = h 167 6 := P6_ag (my_ag.fr frh410 rfl) P6_h407
              have Ko_h410 : Ko h h410 := Ko_ag (my_ag.fr frh410 rfl) Ko_h407
              have Pz_h410 : Pz x1 h h410 := Pz_ag (my_ag.fr frh410 rfl) Pz_h407
              show wp l rho (d + 3) 189 106 [(2, 151), (0, x1), (0, v300)] [] h410 Q
              have ps427 : h407 151 7 = (sN (sm h) ((h 151 7))) := ((my_up_role fh407 is_151 is_170 rfl).trans xp370)
              rw [ps427] at xp413
              rw [show wm 9 = 99 from by decide] at xp414
              have tE428 : sm h407 = sm h := sm_eq (fun j => my_fr.at gh407 is_153 rfl) (fun j => my_fr.at gh407 is_154 rfl) (fun j => my_fr.at gh407 is_155 rfl)
              rw [tE428] at xp414
              rw [ps427] at xp414
              rw [tE428] at xp415
              rw [ps427] at xp415
              refine w_aload_n gz_189_106 rfl ?_
              refine w_getX (v := 169) gz_189_107 is_151 rd_10 rfl (by decide) rfl ?_
              refine w_iload_n gz_189_110 rfl ?_
              refine w_aload_n gz_189_111 rfl ?_
              refine w_aload_n gz_189_112 rfl ?_
              refine v_getI (j := 27) gz_189_113 rfl is_151 rd_10 rfl (fun v430 ev430 pv430 qv430 => ?_)
              have zv430 := ev430.trans ((my_fr.at frh410 is_151 rfl).trans ((my_up_role fh407 is_151 is_170 rfl).trans ((my_fr.at frh358 is_151 rfl).trans ev347.symm)))
              refine w_iconst gz_189_116 (by decide) ?_
              refine w_isub gz_189_117 ⟨by omega, by omega⟩ ?_
              have ce431 : h410 151 27 = v430 := ev430.symm
              refine w_inv (k := 0) (as := [(0, (v430 - 1))]) (r := [(0, x1), (2, 169)]) (x := 151) (ls0 := [(2, 151), (0, (v430 - 1))]) gz_189_118 gm_187 rfl is_151 rd_10 rfl rfl rfl rfl rfl (c_Model_takeNumber9_f1 (d := (d + 1)) (x1 := (v430 - 1)) (by omega) (by omega) ((h410 151 8)) ((rfl : h410 151 8 = h410 151 8)) (by omega) (by omega) Tok_h410t416 (fun w432 w433 xp434 Tok_h410t435 => ?_))
              show wp l rho (d + 3) 189 121 [(2, 151), (0, x1), (0, v300)] [(0, 0), (0, x1), (2, 169)] h410 Q
              have hi436 : 0 ≤ 0 := by omega
              have hi437 : 0 ≤ 7 := by omega
              refine w_iast gz_189_121 is_169 rd_68 (by omega) (by omega) (by omega) (by omega) (fun h438 fh438 => ?_)
              have gh438 : my_fr [(10, 7), (10, 8), (67, -1), (68, -1), (69, -1)] h h438 := my_fr.up gh410 is_169 fh438 rfl
              have Mq_h438 : Mq h438 wv := Mq_u (a := 169) hwv (by decide) (by omega) fh438 Mq_h410
              have Wd9_h438 : Wd9 h438 := Wd9_ag (my_ag.up fh438 is_169 rfl) Wd9_h410t417
              have P6_h438 : h438 167 6 = h 167 6 := P6_ag (my_ag.up fh438 is_169 rfl) P6_h410
              have Ko_h438 : Ko h h438 := Ko_u (a := 169) hwv (by decide) (by omega) fh438 Ko_h410
              have Pz_h438 : Pz x1 h h438 := Pz_u (a := 169) hwv (by decide) (by omega) fh438 Pz_h410
              have Tok_h438 : Tok h438 := Tok_ag (my_ag.up fh438 is_169 rfl) Tok_h410t435
              have k169 := my_up_self fh438
              have psR : h438 151 7 = h410 151 7 := ((my_up_role fh438 is_151 is_169 rfl).trans (rfl : h410 151 7 = h410 151 7))
              have npsR : sm h438 = sm h := sm_eq (fun j => my_fr.at gh438 is_153 rfl) (fun j => my_fr.at gh438 is_154 rfl) (fun j => my_fr.at gh438 is_155 rfl)
              have ce439 : h438 151 7 = h410 151 7 := ((my_up_role fh438 is_151 is_169 rfl).trans (rfl : h410 151 7 = h410 151 7))
              have ce440 : h438 151 27 = v430 := ((my_up_role fh438 is_151 is_169 rfl).trans ev430.symm)
              have a168 : ∀ j : Int, h438 168 j = h2 168 j := fun j => ((my_up_role fh438 is_168 is_169 rfl).trans ((my_fr.at frh410 is_168 rfl).trans ((my_up_role fh407 is_168 is_170 rfl).trans ((my_fr.at frh358 is_168 rfl).trans (rfl : h2 168 j = h2 168 j)))))
              have a170 : ∀ j : Int, h438 170 j = h407 170 j := fun j => ((my_up_role fh438 is_170 is_169 rfl).trans ((my_fr.at frh410 is_170 rfl).trans (rfl : h407 170 j = h407 170 j)))
              have a169 : ∀ j : Int, h438 169 j = h438 169 j := fun _ => rfl
              have a157 : ∀ j : Int, h438 157 j = h 157 j := fun j => ((my_up_role fh438 is_157 is_169 rfl).trans ((my_fr.at frh410 is_157 rfl).trans ((my_up_role fh407 is_157 is_170 rfl).trans ((my_fr.at frh358 is_157 rfl).trans ((my_up_role fh2 is_157 is_168 rfl).trans (rfl : h 157 j = h 157 j))))))
              have c441 := ((my_up_role fh438 is_151 is_169 rfl).trans (rfl : h410 151 8 = h410 151 8))
              exact w_vret gz_189_122 gm_189 (k0 h438 (gh438) (by omega) (by omega) (by first | exact ⟨_, _, _, ⟨rfl, rfl, rfl⟩, PmI_4 Pz_h438 (by rw [a168]; exact k168) (by rw [a169, k169]; omega) (by rw [a170, k170]; omega)⟩ | exact Ko_h438 | exact ⟨by rw [a168]; exact k168, by rw [a170, k170]; omega⟩ | (unfold joinM; first | exact Or.inr (Or.inr ⟨by omega, by omega, Or.inr (Or.inr ⟨by omega, by omega, Or.inr ⟨by omega, Or.inr (Or.inr ⟨by omega, by omega, ⟨by omega, by omega⟩⟩)⟩⟩)⟩) | exact Or.inr (Or.inr ⟨by omega, by omega, Or.inr (Or.inr ⟨by omega, by omega, Or.inr ⟨by omega, or_assoc.mp (Or.inl (by omega))⟩⟩)⟩) | exact Or.inr (Or.inr ⟨by omega, by omega, Or.inr (Or.inr ⟨by omega, by omega, Or.inl ⟨by omega, by omega⟩⟩)⟩) | exact Or.inr (Or.inr ⟨by omega, by omega, Or.inr (Or.inl ⟨by omega, by omega, by omega⟩)⟩) | exact Or.inr (Or.inr ⟨by omega, by omega, Or.inl ⟨by omega, by omega⟩⟩) | exact or_assoc.mp (Or.inl (by omega))) | omega | (exfalso; subst_vars; omega) | (exfalso; (try clear k0); (try clear k1); grind) | omega | (refine ⟨fun q => ?_, fun q => ?_⟩ <;> first | (rw [a168, k168] at q; omega) | (have kz := k170.trans (show _ = vz by omega); rw [a170, kz, a157]; omega)) | (refine ⟨fun q => ?_, fun q => ?_, fun q => ?_⟩ <;> first | (exfalso; rw [a168, k168] at q; omega) | (rw [a169, k169]; omega)) | omega) (by first | exact ⟨_, _, _, ⟨rfl, rfl, rfl⟩, PmI_4 Pz_h438 (by rw [a168]; exact k168) (by rw [a169, k169]; omega) (by rw [a170, k170]; omega)⟩ | exact Ko_h438 | exact ⟨by rw [a168]; exact k168, by rw [a170, k170]; omega⟩ | (unfold joinM; first | exact Or.inr (Or.inr ⟨by omega, by omega, Or.inr (Or.inr ⟨by omega, by omega, Or.inr ⟨by omega, Or.inr (Or.inr ⟨by omega, by omega, ⟨by omega, by omega⟩⟩)⟩⟩)⟩) | exact Or.inr (Or.inr ⟨by omega, by omega, Or.inr (Or.inr ⟨by omega, by omega, Or.inr ⟨by omega, or_assoc.mp (Or.inl (by omega))⟩⟩)⟩) | exact Or.inr (Or.inr ⟨by omega, by omega, Or.inr (Or.inr ⟨by omega, by omega, Or.inl ⟨by omega, by omega⟩⟩)⟩) | exact Or.inr (Or.inr ⟨by omega, by omega, Or.inr (Or.inl ⟨by omega, by omega, by omega⟩)⟩) | exact Or.inr (Or.inr ⟨by omega, by omega, Or.inl ⟨by omega, by omega⟩⟩) | exact or_assoc.mp (Or.inl (by omega))) | omega | (exfalso; subst_vars; omega) | (exfalso; (try clear k0); (try clear k1); grind) | omega | (refine ⟨fun q => ?_, fun q => ?_⟩ <;> first | (rw [a168, k168] at q; omega) | (have kz := k170.trans (show _ = vz by omega); rw [a170, kz, a157]; omega)) | (refine ⟨fun q => ?_, fun q => ?_, fun q => ?_⟩ <;> first | (exfalso; rw [a168, k168] at q; omega) | (rw [a169, k169]; omega)) | omega) (by first | exact ⟨_, _, _, ⟨rfl, rfl, rfl⟩, PmI_4 Pz_h438 (by rw [a168]; exact k168) (by rw [a169, k169]; omega) (by rw [a170, k170]; omega)⟩ | exact Ko_h438 | exact ⟨by rw [a168]; exact k168, by rw [a170, k170]; omega⟩ | (unfold joinM; first | exact Or.inr (Or.inr ⟨by omega, by omega, Or.inr (Or.inr ⟨by omega, by omega, Or.inr ⟨by omega, Or.inr (Or.inr ⟨by omega, by omega, ⟨by omega, by omega⟩⟩)⟩⟩)⟩) | exact Or.inr (Or.inr ⟨by omega, by omega, Or.inr (Or.inr ⟨by omega, by omega, Or.inr ⟨by omega, or_assoc.mp (Or.inl (by omega))⟩⟩)⟩) | exact Or.inr (Or.inr ⟨by omega, by omega, Or.inr (Or.inr ⟨by omega, by omega, Or.inl ⟨by omega, by omega⟩⟩)⟩) | exact Or.inr (Or.inr ⟨by omega, by omega, Or.inr (Or.inl ⟨by omega, by omega, by omega⟩)⟩) | exact Or.inr (Or.inr ⟨by omega, by omega, Or.inl ⟨by omega, by omega⟩⟩) | exact or_assoc.mp (Or.inl (by omega))) | omega | (exfalso; subst_vars; omega) | (exfalso; (try clear k0); (try clear k1); grind) | omega | (refine ⟨fun q => ?_, fun q => ?_⟩ <;> first | (rw [a168, k168] at q; omega) | (have kz := k170.trans (show _ = vz by omega); rw [a170, kz, a157]; omega)) | (refine ⟨fun q => ?_, fun q => ?_, fun q => ?_⟩ <;> first | (exfalso; rw [a168, k168] at q; omega) | (rw [a169, k169]; omega)) | omega) Tok_h438 Mq_h438 Wd9_h438)
            ·
              have gh418 : my_fr [(10, 7), (10, 8), (67, -1), (68, -1), (69, -1)] h h418 := my_fr.tr gh407 (frh418.mo rfl)
              have Mq_h418 : Mq h418 wv := Mq_ag (my_ag.fr frh418 rfl) Mq_h407
              have Wd9_h418 : Wd9 h418 := Wd9_ag (my_ag.fr frh418 rfl) Wd9_h407
              have P6_h418 : h418 167 6 = h 167 6 := P6_ag (my_ag.fr frh418 rfl) P6_h407
              have Ko_h418 : Ko h h418 := Ko_ag (my_ag.fr frh418 rfl) Ko_h407
              have Pz_h418 : Pz x1 h h418 := Pz_ag (my_ag.fr frh418 rfl) Pz_h407
              show wp l rho (d + 3) 189 106 [(2, 151), (0, x1), (0, v300)] [] h418 Q
              have ps442 : h407 151 7 = (sN (sm h) ((h 151 7))) := ((my_up_role fh407 is_151 is_170 rfl).trans xp370)
              rw [ps442] at xp422
              have tE443 : sm h407 = sm h := sm_eq (fun j => my_fr.at gh407 is_153 rfl) (fun j => my_fr.at gh407 is_154 rfl) (fun j => my_fr.at gh407 is_155 rfl)
              rw [tE443] at xp423
              rw [ps442] at xp423
              rw [show wm 9 = 99 from by decide] at xp424
              rw [tE443] at xp424
              rw [ps442] at xp424
              refine w_aload_n gz_189_106 rfl ?_
              refine w_getX (v := 169) gz_189_107 is_151 rd_10 rfl (by decide) rfl ?_
              refine w_iload_n gz_189_110 rfl ?_
              refine w_aload_n gz_189_111 rfl ?_
              refine w_aload_n gz_189_112 rfl ?_
              refine v_getI (j := 27) gz_189_113 rfl is_151 rd_10 rfl (fun v445 ev445 pv445 qv445 => ?_)
              have zv445 := ev445.trans ((my_fr.at frh418 is_151 rfl).trans ((my_up_role fh407 is_151 is_170 rfl).trans ((my_fr.at frh358 is_151 rfl).trans ev347.symm)))
              refine w_iconst gz_189_116 (by decide) ?_
              refine w_isub gz_189_117 ⟨by omega, by omega⟩ ?_
              have ce446 : h418 151 7 = (h418 151 7) := (rfl : h418 151 7 = h418 151 7)
              have ce447 : h418 151 27 = v445 := ev445.symm
              refine w_inv (k := 0) (as := [(0, (v445 - 1))]) (r := [(0, x1), (2, 169)]) (x := 151) (ls0 := [(2, 151), (0, (v445 - 1))]) gz_189_118 gm_187 rfl is_151 rd_10 rfl rfl rfl rfl rfl (c_Model_takeNumber9_f0 (d := (d + 1)) (x1 := (v445 - 1)) (by omega) (by omega) (w421.trans (by omega)) Tok_h418t425 (fun h448 frh448 w449 w450 xp451 xp452 Tok_h448t453 => ?_) (fun h454 v455 frh454 w456 w457 w458 w459 w460 xp461 xp462 xp463 xp464 xp465 xp466 xp467 xp468 Tok_h454t469 => ?_))
              ·
                have gh448 : my_fr [(10, 7), (10, 8), (67, -1), (68, -1), (69, -1)] h h448 := my_fr.tr gh418 (frh448.mo rfl)
                have Mq_h448 : Mq h448 wv := Mq_ag (my_ag.fr frh448 rfl) Mq_h418
                have Wd9_h448 : Wd9 h448 := Wd9_ag (my_ag.fr frh448 rfl) Wd9_h418t426
                have P6_h448 : h448 167 6 = h 167 6 := P6_ag (my_ag.fr frh448 rfl) P6_h418
                have Ko_h448 : Ko h h448 := Ko_ag (my_ag.fr frh448 rfl) Ko_h418
                have Pz_h448 : Pz x1 h h448 := Pz_ag (my_ag.fr frh448 rfl) Pz_h418
                show wp l rho (d + 3) 189 121 [(2, 151), (0, x1), (0, v300)] [(0, 0), (0, x1), (2, 169)] h448 Q
                have ps470 : h418 151 7 = (sN (sm h) (((sN (sm h) ((h 151 7)))))) := xp423
                rw [ps470] at xp451
                have tE471 : sm h418 = sm h := sm_eq (fun j => my_fr.at gh418 is_153 rfl) (fun j => my_fr.at gh418 is_154 rfl) (fun j => my_fr.at gh418 is_155 rfl)
                rw [tE471] at xp452
                rw [ps470] at xp452
                have hi472 : 0 ≤ 0 := by omega
                have hi473 : 0 ≤ 7 := by omega
                refine w_iast gz_189_121 is_169 rd_68 (by omega) (by omega) (by omega) (by omega) (fun h474 fh474 => ?_)
                have gh474 : my_fr [(10, 7), (10, 8), (67, -1), (68, -1), (69, -1)] h h474 := my_fr.up gh448 is_169 fh474 rfl
                have Mq_h474 : Mq h474 wv := Mq_u (a := 169) hwv (by decide) (by omega) fh474 Mq_h448
                have Wd9_h474 : Wd9 h474 := Wd9_ag (my_ag.up fh474 is_169 rfl) Wd9_h448
                have P6_h474 : h474 167 6 = h 167 6 := P6_ag (my_ag.up fh474 is_169 rfl) P6_h448
                have Ko_h474 : Ko h h474 := Ko_u (a := 169) hwv (by decide) (by omega) fh474 Ko_h448
                have Pz_h474 : Pz x1 h h474 := Pz_u (a := 169) hwv (by decide) (by omega) fh474 Pz_h448
                have Tok_h474 : Tok h474 := Tok_ag (my_ag.up fh474 is_169 rfl) Tok_h448t453
                have k169 := my_up_self fh474
                have psR : h474 151 7 = (((sN (sm h) (((sN (sm h) ((h 151 7)))))))) := ((my_up_role fh474 is_151 is_169 rfl).trans xp451)
                have npsR : sm h474 = sm h := sm_eq (fun j => my_fr.at gh474 is_153 rfl) (fun j => my_fr.at gh474 is_154 rfl) (fun j => my_fr.at gh474 is_155 rfl)
                have ce475 : h474 151 7 = h448 151 7 := ((my_up_role fh474 is_151 is_169 rfl).trans (rfl : h448 151 7 = h448 151 7))
                have ce476 : h474 151 27 = v445 := ((my_up_role fh474 is_151 is_169 rfl).trans ((my_fr.at frh448 is_151 rfl).trans ev445.symm))
                have a168 : ∀ j : Int, h474 168 j = h2 168 j := fun j => ((my_up_role fh474 is_168 is_169 rfl).trans ((my_fr.at frh448 is_168 rfl).trans ((my_fr.at frh418 is_168 rfl).trans ((my_up_role fh407 is_168 is_170 rfl).trans ((my_fr.at frh358 is_168 rfl).trans (rfl : h2 168 j = h2 168 j))))))
                have a170 : ∀ j : Int, h474 170 j = h407 170 j := fun j => ((my_up_role fh474 is_170 is_169 rfl).trans ((my_fr.at frh448 is_170 rfl).trans ((my_fr.at frh418 is_170 rfl).trans (rfl : h407 170 j = h407 170 j))))
                have a169 : ∀ j : Int, h474 169 j = h474 169 j := fun _ => rfl
                have a157 : ∀ j : Int, h474 157 j = h 157 j := fun j => ((my_up_role fh474 is_157 is_169 rfl).trans ((my_fr.at frh448 is_157 rfl).trans ((my_fr.at frh418 is_157 rfl).trans ((my_up_role fh407 is_157 is_170 rfl).trans ((my_fr.at frh358 is_157 rfl).trans ((my_up_role fh2 is_157 is_168 rfl).trans (rfl : h 157 j = h 157 j)))))))
                have c477 := ((my_up_role fh474 is_151 is_169 rfl).trans (rfl : h448 151 8 = h448 151 8))
                exact w_vret gz_189_122 gm_189 (k0 h474 (gh474) (by omega) (by omega) (by first | exact ⟨_, _, _, ⟨rfl, rfl, rfl⟩, PmI_4 Pz_h474 (by rw [a168]; exact k168) (by rw [a169, k169]; omega) (by rw [a170, k170]; omega)⟩ | exact Ko_h474 | exact ⟨by rw [a168]; exact k168, by rw [a170, k170]; omega⟩ | (unfold joinM; first | exact Or.inr (Or.inr ⟨by omega, by omega, Or.inr (Or.inr ⟨by omega, by omega, Or.inr ⟨by omega, Or.inr (Or.inr ⟨by omega, by omega, ⟨by omega, by omega⟩⟩)⟩⟩)⟩) | exact Or.inr (Or.inr ⟨by omega, by omega, Or.inr (Or.inr ⟨by omega, by omega, Or.inr ⟨by omega, or_assoc.mp (Or.inl (by omega))⟩⟩)⟩) | exact Or.inr (Or.inr ⟨by omega, by omega, Or.inr (Or.inr ⟨by omega, by omega, Or.inl ⟨by omega, by omega⟩⟩)⟩) | exact Or.inr (Or.inr ⟨by omega, by omega, Or.inr (Or.inl ⟨by omega, by omega, by omega⟩)⟩) | exact Or.inr (Or.inr ⟨by omega, by omega, Or.inl ⟨by omega, by omega⟩⟩) | exact or_assoc.mp (Or.inl (by omega))) | omega | (exfalso; subst_vars; omega) | (exfalso; (try clear k0); (try clear k1); grind) | omega | (refine ⟨fun q => ?_, fun q => ?_⟩ <;> first | (rw [a168, k168] at q; omega) | (have kz := k170.trans (show _ = vz by omega); rw [a170, kz, a157]; omega)) | (refine ⟨fun q => ?_, fun q => ?_, fun q => ?_⟩ <;> first | (exfalso; rw [a168, k168] at q; omega) | (rw [a169, k169]; omega)) | omega) (by first | exact ⟨_, _, _, ⟨rfl, rfl, rfl⟩, PmI_4 Pz_h474 (by rw [a168]; exact k168) (by rw [a169, k169]; omega) (by rw [a170, k170]; omega)⟩ | exact Ko_h474 | exact ⟨by rw [a168]; exact k168, by rw [a170, k170]; omega⟩ | (unfold joinM; first | exact Or.inr (Or.inr ⟨by omega, by omega, Or.inr (Or.inr ⟨by omega, by omega, Or.inr ⟨by omega, Or.inr (Or.inr ⟨by omega, by omega, ⟨by omega, by omega⟩⟩)⟩⟩)⟩) | exact Or.inr (Or.inr ⟨by omega, by omega, Or.inr (Or.inr ⟨by omega, by omega, Or.inr ⟨by omega, or_assoc.mp (Or.inl (by omega))⟩⟩)⟩) | exact Or.inr (Or.inr ⟨by omega, by omega, Or.inr (Or.inr ⟨by omega, by omega, Or.inl ⟨by omega, by omega⟩⟩)⟩) | exact Or.inr (Or.inr ⟨by omega, by omega, Or.inr (Or.inl ⟨by omega, by omega, by omega⟩)⟩) | exact Or.inr (Or.inr ⟨by omega, by omega, Or.inl ⟨by omega, by omega⟩⟩) | exact or_assoc.mp (Or.inl (by omega))) | omega | (exfalso; subst_vars; omega) | (exfalso; (try clear k0); (try clear k1); grind) | omega | (refine ⟨fun q => ?_, fun q => ?_⟩ <;> first | (rw [a168, k168] at q; omega) | (have kz := k170.trans (show _ = vz by omega); rw [a170, kz, a157]; omega)) | (refine ⟨fun q => ?_, fun q => ?_, fun q => ?_⟩ <;> first | (exfalso; rw [a168, k168] at q; omega) | (rw [a169, k169]; omega)) | omega) (by first | exact ⟨_, _, _, ⟨rfl, rfl, rfl⟩, PmI_4 Pz_h474 (by rw [a168]; exact k168) (by rw [a169, k169]; omega) (by rw [a170, k170]; omega)⟩ | exact Ko_h474 | exact ⟨by rw [a168]; exact k168, by rw [a170, k170]; omega⟩ | (unfold joinM; first | exact Or.inr (Or.inr ⟨by omega, by omega, Or.inr (Or.inr ⟨by omega, by omega, Or.inr ⟨by omega, Or.inr (Or.inr ⟨by omega, by omega, ⟨by omega, by omega⟩⟩)⟩⟩)⟩) | exact Or.inr (Or.inr ⟨by omega, by omega, Or.inr (Or.inr ⟨by omega, by omega, Or.inr ⟨by omega, or_assoc.mp (Or.inl (by omega))⟩⟩)⟩) | exact Or.inr (Or.inr ⟨by omega, by omega, Or.inr (Or.inr ⟨by omega, by omega, Or.inl ⟨by omega, by omega⟩⟩)⟩) | exact Or.inr (Or.inr ⟨by omega, by omega, Or.inr (Or.inl ⟨by omega, by omega, by omega⟩)⟩) | exact Or.inr (Or.inr ⟨by omega, by omega, Or.inl ⟨by omega, by omega⟩⟩) | exact or_assoc.mp (Or.inl (by omega))) | omega | (exfalso; subst_vars; omega) | (exfalso; (try clear k0); (try clear k1); grind) | omega | (refine ⟨fun q => ?_, fun q => ?_⟩ <;> first | (rw [a168, k168] at q; omega) | (have kz := k170.trans (show _ = vz by omega); rw [a170, kz, a157]; omega)) | (refine ⟨fun q => ?_, fun q => ?_, fun q => ?_⟩ <;> first | (exfalso; rw [a168, k168] at q; omega) | (rw [a169, k169]; omega)) | omega) Tok_h474 Mq_h474 Wd9_h474)
              ·
                have gh454 : my_fr [(10, 7), (10, 8), (67, -1), (68, -1), (69, -1)] h h454 := my_fr.tr gh418 (frh454.mo rfl)
                have Mq_h454 : Mq h454 wv := Mq_ag (my_ag.fr frh454 rfl) Mq_h418
                have Wd9_h454 : Wd9 h454 := Wd9_ag (my_ag.fr frh454 rfl) Wd9_h418t426
                have P6_h454 : h454 167 6 = h 167 6 := P6_ag (my_ag.fr frh454 rfl) P6_h418
                have Ko_h454 : Ko h h454 := Ko_ag (my_ag.fr frh454 rfl) Ko_h418
                have Pz_h454 : Pz x1 h h454 := Pz_ag (my_ag.fr frh454 rfl) Pz_h418
                show wp l rho (d + 3) 189 121 [(2, 151), (0, x1), (0, v300)] [(0, v455), (0, x1), (2, 169)] h454 Q
                have ps478 : h418 151 7 = (sN (sm h) (((sN (sm h) ((h 151 7)))))) := xp423
                rw [ps478] at xp463
                rw [ps478] at xp464
                rw [ps478] at xp465
                have tE479 : sm h418 = sm h := sm_eq (fun j => my_fr.at gh418 is_153 rfl) (fun j => my_fr.at gh418 is_154 rfl) (fun j => my_fr.at gh418 is_155 rfl)
                rw [tE479] at xp466
                rw [ps478] at xp466
                rw [tE479] at xp467
                rw [ps478] at xp467
                rw [tE479] at xp468
                rw [ps478] at xp468
                have hi480 : 0 ≤ v455 := by omega
                have hi481 : v455 ≤ 7 := by omega
                refine w_iast gz_189_121 is_169 rd_68 (by omega) (by omega) (by omega) (by omega) (fun h482 fh482 => ?_)
                have gh482 : my_fr [(10, 7), (10, 8), (67, -1), (68, -1), (69, -1)] h h482 := my_fr.up gh454 is_169 fh482 rfl
                have Mq_h482 : Mq h482 wv := Mq_u (a := 169) hwv (by decide) (by omega) fh482 Mq_h454
                have Wd9_h482 : Wd9 h482 := Wd9_ag (my_ag.up fh482 is_169 rfl) Wd9_h454
                have P6_h482 : h482 167 6 = h 167 6 := P6_ag (my_ag.up fh482 is_169 rfl) P6_h454
                have Ko_h482 : Ko h h482 := Ko_u (a := 169) hwv (by decide) (by omega) fh482 Ko_h454
                have Pz_h482 : Pz x1 h h482 := Pz_u (a := 169) hwv (by decide) (by omega) fh482 Pz_h454
                have Tok_h482 : Tok h482 := Tok_ag (my_ag.up fh482 is_169 rfl) Tok_h454t469
                have k169 := my_up_self fh482
                have psR : h482 151 7 = (sN (sm h) (((sN (sm h) (((sN (sm h) ((h 151 7))))))))) := ((my_up_role fh482 is_151 is_169 rfl).trans xp466)
                have npsR : sm h482 = sm h := sm_eq (fun j => my_fr.at gh482 is_153 rfl) (fun j => my_fr.at gh482 is_154 rfl) (fun j => my_fr.at gh482 is_155 rfl)
                have ce483 : h482 151 7 = (h454 151 7) := ((my_up_role fh482 is_151 is_169 rfl).trans (rfl : h454 151 7 = h454 151 7))
                have ce484 : h482 151 27 = v445 := ((my_up_role fh482 is_151 is_169 rfl).trans ((my_fr.at frh454 is_151 rfl).trans ev445.symm))
                have a168 : ∀ j : Int, h482 168 j = h2 168 j := fun j => ((my_up_role fh482 is_168 is_169 rfl).trans ((my_fr.at frh454 is_168 rfl).trans ((my_fr.at frh418 is_168 rfl).trans ((my_up_role fh407 is_168 is_170 rfl).trans ((my_fr.at frh358 is_168 rfl).trans (rfl : h2 168 j = h2 168 j))))))
                have a170 : ∀ j : Int, h482 170 j = h407 170 j := fun j => ((my_up_role fh482 is_170 is_169 rfl).trans ((my_fr.at frh454 is_170 rfl).trans ((my_fr.at frh418 is_170 rfl).trans (rfl : h407 170 j = h407 170 j))))
                have a169 : ∀ j : Int, h482 169 j = h482 169 j := fun _ => rfl
                have a157 : ∀ j : Int, h482 157 j = h 157 j := fun j => ((my_up_role fh482 is_157 is_169 rfl).trans ((my_fr.at frh454 is_157 rfl).trans ((my_fr.at frh418 is_157 rfl).trans ((my_up_role fh407 is_157 is_170 rfl).trans ((my_fr.at frh358 is_157 rfl).trans ((my_up_role fh2 is_157 is_168 rfl).trans (rfl : h 157 j = h 157 j)))))))
                have c485 := ((my_up_role fh482 is_151 is_169 rfl).trans (rfl : h454 151 7 = h454 151 7))
                have c486 := ((my_up_role fh482 is_151 is_169 rfl).trans w460)
                exact w_vret gz_189_122 gm_189 (k1 h482 (gh482) (by omega) (by omega) (by omega) (by first | exact ⟨_, _, _, ⟨rfl, rfl, rfl⟩, PmI_4 Pz_h482 (by rw [a168]; exact k168) (by rw [a169, k169]; omega) (by rw [a170, k170]; omega)⟩ | exact Ko_h482 | exact ⟨by rw [a168]; exact k168, by rw [a170, k170]; omega⟩ | (unfold joinM; first | exact Or.inr (Or.inr ⟨by omega, by omega, Or.inr (Or.inr ⟨by omega, by omega, Or.inr ⟨by omega, Or.inr (Or.inr ⟨by omega, by omega, ⟨by omega, by omega⟩⟩)⟩⟩)⟩) | exact Or.inr (Or.inr ⟨by omega, by omega, Or.inr (Or.inr ⟨by omega, by omega, Or.inr ⟨by omega, or_assoc.mp (Or.inl (by omega))⟩⟩)⟩) | exact Or.inr (Or.inr ⟨by omega, by omega, Or.inr (Or.inr ⟨by omega, by omega, Or.inl ⟨by omega, by omega⟩⟩)⟩) | exact Or.inr (Or.inr ⟨by omega, by omega, Or.inr (Or.inl ⟨by omega, by omega, by omega⟩)⟩) | exact Or.inr (Or.inr ⟨by omega, by omega, Or.inl ⟨by omega, by omega⟩⟩) | exact or_assoc.mp (Or.inl (by omega))) | omega | (exfalso; subst_vars; omega) | (exfalso; (try clear k0); (try clear k1); grind) | omega | (refine ⟨fun q => ?_, fun q => ?_⟩ <;> first | (rw [a168, k168] at q; omega) | (have kz := k170.trans (show _ = vz by omega); rw [a170, kz, a157]; omega)) | (refine ⟨fun q => ?_, fun q => ?_, fun q => ?_⟩ <;> first | (exfalso; rw [a168, k168] at q; omega) | (rw [a169, k169]; omega)) | omega) (by first | exact ⟨_, _, _, ⟨rfl, rfl, rfl⟩, PmI_4 Pz_h482 (by rw [a168]; exact k168) (by rw [a169, k169]; omega) (by rw [a170, k170]; omega)⟩ | exact Ko_h482 | exact ⟨by rw [a168]; exact k168, by rw [a170, k170]; omega⟩ | (unfold joinM; first | exact Or.inr (Or.inr ⟨by omega, by omega, Or.inr (Or.inr ⟨by omega, by omega, Or.inr ⟨by omega, Or.inr (Or.inr ⟨by omega, by omega, ⟨by omega, by omega⟩⟩)⟩⟩)⟩) | exact Or.inr (Or.inr ⟨by omega, by omega, Or.inr (Or.inr ⟨by omega, by omega, Or.inr ⟨by omega, or_assoc.mp (Or.inl (by omega))⟩⟩)⟩) | exact Or.inr (Or.inr ⟨by omega, by omega, Or.inr (Or.inr ⟨by omega, by omega, Or.inl ⟨by omega, by omega⟩⟩)⟩) | exact Or.inr (Or.inr ⟨by omega, by omega, Or.inr (Or.inl ⟨by omega, by omega, by omega⟩)⟩) | exact Or.inr (Or.inr ⟨by omega, by omega, Or.inl ⟨by omega, by omega⟩⟩) | exact or_assoc.mp (Or.inl (by omega))) | omega | (exfalso; subst_vars; omega) | (exfalso; (try clear k0); (try clear k1); grind) | omega | (refine ⟨fun q => ?_, fun q => ?_⟩ <;> first | (rw [a168, k168] at q; omega) | (have kz := k170.trans (show _ = vz by omega); rw [a170, kz, a157]; omega)) | (refine ⟨fun q => ?_, fun q => ?_, fun q => ?_⟩ <;> first | (exfalso; rw [a168, k168] at q; omega) | (rw [a169, k169]; omega)) | omega) (by first | exact ⟨_, _, _, ⟨rfl, rfl, rfl⟩, PmI_4 Pz_h482 (by rw [a168]; exact k168) (by rw [a169, k169]; omega) (by rw [a170, k170]; omega)⟩ | exact Ko_h482 | exact ⟨by rw [a168]; exact k168, by rw [a170, k170]; omega⟩ | (unfold joinM; first | exact Or.inr (Or.inr ⟨by omega, by omega, Or.inr (Or.inr ⟨by omega, by omega, Or.inr ⟨by omega, Or.inr (Or.inr ⟨by omega, by omega, ⟨by omega, by omega⟩⟩)⟩⟩)⟩) | exact Or.inr (Or.inr ⟨by omega, by omega, Or.inr (Or.inr ⟨by omega, by omega, Or.inr ⟨by omega, or_assoc.mp (Or.inl (by omega))⟩⟩)⟩) | exact Or.inr (Or.inr ⟨by omega, by omega, Or.inr (Or.inr ⟨by omega, by omega, Or.inl ⟨by omega, by omega⟩⟩)⟩) | exact Or.inr (Or.inr ⟨by omega, by omega, Or.inr (Or.inl ⟨by omega, by omega, by omega⟩)⟩) | exact Or.inr (Or.inr ⟨by omega, by omega, Or.inl ⟨by omega, by omega⟩⟩) | exact or_assoc.mp (Or.inl (by omega))) | omega | (exfalso; subst_vars; omega) | (exfalso; (try clear k0); (try clear k1); grind) | omega | (refine ⟨fun q => ?_, fun q => ?_⟩ <;> first | (rw [a168, k168] at q; omega) | (have kz := k170.trans (show _ = vz by omega); rw [a170, kz, a157]; omega)) | (refine ⟨fun q => ?_, fun q => ?_, fun q => ?_⟩ <;> first | (exfalso; rw [a168, k168] at q; omega) | (rw [a169, k169]; omega)) | omega) (by first | exact ⟨_, _, _, ⟨rfl, rfl, rfl⟩, PmI_4 Pz_h482 (by rw [a168]; exact k168) (by rw [a169, k169]; omega) (by rw [a170, k170]; omega)⟩ | exact Ko_h482 | exact ⟨by rw [a168]; exact k168, by rw [a170, k170]; omega⟩ | (unfold joinM; first | exact Or.inr (Or.inr ⟨by omega, by omega, Or.inr (Or.inr ⟨by omega, by omega, Or.inr ⟨by omega, Or.inr (Or.inr ⟨by omega, by omega, ⟨by omega, by omega⟩⟩)⟩⟩)⟩) | exact Or.inr (Or.inr ⟨by omega, by omega, Or.inr (Or.inr ⟨by omega, by omega, Or.inr ⟨by omega, or_assoc.mp (Or.inl (by omega))⟩⟩)⟩) | exact Or.inr (Or.inr ⟨by omega, by omega, Or.inr (Or.inr ⟨by omega, by omega, Or.inl ⟨by omega, by omega⟩⟩)⟩) | exact Or.inr (Or.inr ⟨by omega, by omega, Or.inr (Or.inl ⟨by omega, by omega, by omega⟩)⟩) | exact Or.inr (Or.inr ⟨by omega, by omega, Or.inl ⟨by omega, by omega⟩⟩) | exact or_assoc.mp (Or.inl (by omega))) | omega | (exfalso; subst_vars; omega) | (exfalso; (try clear k0); (try clear k1); grind) | omega | (refine ⟨fun q => ?_, fun q => ?_⟩ <;> first | (rw [a168, k168] at q; omega) | (have kz := k170.trans (show _ = vz by omega); rw [a170, kz, a157]; omega)) | (refine ⟨fun q => ?_, fun q => ?_, fun q => ?_⟩ <;> first | (exfalso; rw [a168, k168] at q; omega) | (rw [a169, k169]; omega)) | omega) (by first | exact ⟨_, _, _, ⟨rfl, rfl, rfl⟩, PmI_4 Pz_h482 (by rw [a168]; exact k168) (by rw [a169, k169]; omega) (by rw [a170, k170]; omega)⟩ | exact Ko_h482 | exact ⟨by rw [a168]; exact k168, by rw [a170, k170]; omega⟩ | (unfold joinM; first | exact Or.inr (Or.inr ⟨by omega, by omega, Or.inr (Or.inr ⟨by omega, by omega, Or.inr ⟨by omega, Or.inr (Or.inr ⟨by omega, by omega, ⟨by omega, by omega⟩⟩)⟩⟩)⟩) | exact Or.inr (Or.inr ⟨by omega, by omega, Or.inr (Or.inr ⟨by omega, by omega, Or.inr ⟨by omega, or_assoc.mp (Or.inl (by omega))⟩⟩)⟩) | exact Or.inr (Or.inr ⟨by omega, by omega, Or.inr (Or.inr ⟨by omega, by omega, Or.inl ⟨by omega, by omega⟩⟩)⟩) | exact Or.inr (Or.inr ⟨by omega, by omega, Or.inr (Or.inl ⟨by omega, by omega, by omega⟩)⟩) | exact Or.inr (Or.inr ⟨by omega, by omega, Or.inl ⟨by omega, by omega⟩⟩) | exact or_assoc.mp (Or.inl (by omega))) | omega | (exfalso; subst_vars; omega) | (exfalso; (try clear k0); (try clear k1); grind) | omega | (refine ⟨fun q => ?_, fun q => ?_⟩ <;> first | (rw [a168, k168] at q; omega) | (have kz := k170.trans (show _ = vz by omega); rw [a170, kz, a157]; omega)) | (refine ⟨fun q => ?_, fun q => ?_, fun q => ?_⟩ <;> first | (exfalso; rw [a168, k168] at q; omega) | (rw [a169, k169]; omega)) | omega) (by first | exact ⟨_, _, _, ⟨rfl, rfl, rfl⟩, PmI_4 Pz_h482 (by rw [a168]; exact k168) (by rw [a169, k169]; omega) (by rw [a170, k170]; omega)⟩ | exact Ko_h482 | exact ⟨by rw [a168]; exact k168, by rw [a170, k170]; omega⟩ | (unfold joinM; first | exact Or.inr (Or.inr ⟨by omega, by omega, Or.inr (Or.inr ⟨by omega, by omega, Or.inr ⟨by omega, Or.inr (Or.inr ⟨by omega, by omega, ⟨by omega, by omega⟩⟩)⟩⟩)⟩) | exact Or.inr (Or.inr ⟨by omega, by omega, Or.inr (Or.inr ⟨by omega, by omega, Or.inr ⟨by omega, or_assoc.mp (Or.inl (by omega))⟩⟩)⟩) | exact Or.inr (Or.inr ⟨by omega, by omega, Or.inr (Or.inr ⟨by omega, by omega, Or.inl ⟨by omega, by omega⟩⟩)⟩) | exact Or.inr (Or.inr ⟨by omega, by omega, Or.inr (Or.inl ⟨by omega, by omega, by omega⟩)⟩) | exact Or.inr (Or.inr ⟨by omega, by omega, Or.inl ⟨by omega, by omega⟩⟩) | exact or_assoc.mp (Or.inl (by omega))) | omega | (exfalso; subst_vars; omega) | (exfalso; (try clear k0); (try clear k1); grind) | omega | (refine ⟨fun q => ?_, fun q => ?_⟩ <;> first | (rw [a168, k168] at q; omega) | (have kz := k170.trans (show _ = vz by omega); rw [a170, kz, a157]; omega)) | (refine ⟨fun q => ?_, fun q => ?_, fun q => ?_⟩ <;> first | (exfalso; rw [a168, k168] at q; omega) | (rw [a169, k169]; omega)) | omega) (by first | exact ⟨_, _, _, ⟨rfl, rfl, rfl⟩, PmI_4 Pz_h482 (by rw [a168]; exact k168) (by rw [a169, k169]; omega) (by rw [a170, k170]; omega)⟩ | exact Ko_h482 | exact ⟨by rw [a168]; exact k168, by rw [a170, k170]; omega⟩ | (unfold joinM; first | exact Or.inr (Or.inr ⟨by omega, by omega, Or.inr (Or.inr ⟨by omega, by omega, Or.inr ⟨by omega, Or.inr (Or.inr ⟨by omega, by omega, ⟨by omega, by omega⟩⟩)⟩⟩)⟩) | exact Or.inr (Or.inr ⟨by omega, by omega, Or.inr (Or.inr ⟨by omega, by omega, Or.inr ⟨by omega, or_assoc.mp (Or.inl (by omega))⟩⟩)⟩) | exact Or.inr (Or.inr ⟨by omega, by omega, Or.inr (Or.inr ⟨by omega, by omega, Or.inl ⟨by omega, by omega⟩⟩)⟩) | exact Or.inr (Or.inr ⟨by omega, by omega, Or.inr (Or.inl ⟨by omega, by omega, by omega⟩)⟩) | exact Or.inr (Or.inr ⟨by omega, by omega, Or.inl ⟨by omega, by omega⟩⟩) | exact or_assoc.mp (Or.inl (by omega))) | omega | (exfalso; subst_vars; omega) | (exfalso; (try clear k0); (try clear k1); grind) | omega | (refine ⟨fun q => ?_, fun q => ?_⟩ <;> first | (rw [a168, k168] at q; omega) | (have kz := k170.trans (show _ = vz by omega); rw [a170, kz, a157]; omega)) | (refine ⟨fun q => ?_, fun q => ?_, fun q => ?_⟩ <;> first | (exfalso; rw [a168, k168] at q; omega) | (rw [a169, k169]; omega)) | omega) Tok_h482 Mq_h482 Wd9_h482)
        ·
          refine w_aload_n gz_189_76 rfl ?_
          refine w_iload_n gz_189_77 rfl ?_
          refine w_ifne (t := 85) gz_189_78 rfl (fun u487 => ?_) (fun u487 => by exfalso; omega)
          refine w_iconst gz_189_85 (by decide) ?_
          have ce488 : h2 151 7 = v294 := ev294.symm
          have ce489 : h2 151 27 = v347 := ev347.symm
          refine w_inv (k := 0) (as := [(0, 5)]) (r := []) (x := 151) (ls0 := [(2, 151), (0, 5)]) gz_189_86 gm_178 rfl is_151 rd_10 rfl rfl rfl rfl rfl ?_
          refine w_aload_n gz_178_0 rfl ?_
          refine v_getI (j := 8) gz_178_1 rfl is_151 rd_10 rfl (fun v490 ev490 pv490 qv490 => ?_)
          have zv490 := ev490.trans ev3.symm
          refine w_ifne (t := 25) gz_178_4 rfl (fun u491 => by exfalso; omega) (fun u491 => ?_)
          refine w_aload_n gz_178_7 rfl ?_
          refine w_iload_n gz_178_8 rfl ?_
          refine w_bipush gz_178_9 (by decide) ?_
          refine w_aload_n gz_178_11 rfl ?_
          refine w_getX (v := 154) gz_178_12 is_151 rd_10 rfl (by decide) rfl ?_
          refine w_aload_n gz_178_15 rfl ?_
          refine v_getI (j := 7) gz_178_16 rfl is_151 rd_10 rfl (fun v493 ev493 pv493 qv493 => ?_)
          have zv493 := ev493.trans ev294.symm
          refine w_iald gz_178_19 is_154 rd_53 (by omega) (by omega) (fun v494 ev494 pv494 qv494 => ?_)
          have nz495a : h2 151 7 = h 151 7 := ((my_up_role fh2 is_151 is_168 rfl).trans (rfl : h 151 7 = h 151 7))
          have nz495 : v494 = sP (sm h) (h 151 7) := by
            have q := ev494.trans (my_fr.at (j := v493) gh2 is_154 rfl)
            rw [show (v493 : Int) = h 151 7 from by omega] at q
            exact q
          refine w_imul gz_178_20 ⟨by omega, by omega⟩ ?_
          refine w_iadd gz_178_21 ⟨by omega, by omega⟩ ?_
          refine v_putI (j := 8) gz_178_22 rfl is_151 rd_10 rfl (by omega) (by omega) rfl (fun h496 fh496 => ?_)
          have gh496 : my_fr [(10, 7), (10, 8), (67, -1), (68, -1), (69, -1)] h h496 := my_fr.up gh2 is_151 fh496 rfl
          have Tok_h496 : Tok h496 := Tok_ag (my_ag.up fh496 is_151 rfl) Tok_h2
          have Mq_h496 : Mq h496 wv := Mq_ag (my_ag.up fh496 is_151 rfl) Mq_h2
          have Wd9_h496 : Wd9 h496 := Wd9_ag (my_ag.up fh496 is_151 rfl) Wd9_h2
          have P6_h496 : h496 167 6 = h 167 6 := P6_ag (my_ag.up fh496 is_151 rfl) P6_h2
          have Ko_h496 : Ko h h496 := Ko_ag (my_ag.up fh496 is_151 rfl) Ko_h2
          have Pz_h496 : Pz x1 h h496 := Pz_ag (my_ag.up fh496 is_151 rfl) Pz_h2
          refine w_vret gz_178_25 gm_178 ?_
          show wp l rho (d + 3) 189 89 [(2, 151), (0, x1), (0, v300)] [] h496 Q
          refine w_aload_n gz_189_89 rfl ?_
          refine w_getX (v := 170) gz_189_90 is_151 rd_10 rfl (by decide) rfl ?_
          refine w_iload_n gz_189_93 rfl ?_
          refine w_aload_n gz_189_94 rfl ?_
          refine w_iconst gz_189_95 (by decide) ?_
          have ce498 : h496 151 7 = v493 := ((my_up_fld fh496 (by decide)).trans ev493.symm)
          have ce499 : h496 151 27 = v347 := ((my_up_fld fh496 (by decide)).trans ev347.symm)
          refine w_inv (k := 0) (as := [(0, 2)]) (r := [(0, x1), (2, 170)]) (x := 151) (ls0 := [(2, 151), (0, 2)]) gz_189_96 gm_187 rfl is_151 rd_10 rfl rfl rfl rfl rfl (c_Model_takeNumber9_f1 (d := (d + 1)) (x1 := 2) (by omega) (by omega) ((5 + (16 * v494))) ((my_up_self fh496)) (by omega) (by omega) Tok_h496 (fun w500 w501 xp502 Tok_h496t503 => ?_))
          show wp l rho (d + 3) 189 99 [(2, 151), (0, x1), (0, v300)] [(0, 0), (0, x1), (2, 170)] h496 Q
          have ps504 : h496 151 7 = h 151 7 := ((my_up_fld fh496 (by decide)).trans ((my_up_role fh2 is_151 is_168 rfl).trans (rfl : h 151 7 = h 151 7)))
          rw [ps504] at xp502
          have hi505 : 0 ≤ 0 := by omega
          have hi506 : 0 ≤ 2 := by omega
          refine w_iast gz_189_99 is_170 rd_69 (by omega) (by omega) (by omega) (by omega) (fun h507 fh507 => ?_)
          have gh507 : my_fr [(10, 7), (10, 8), (67, -1), (68, -1), (69, -1)] h h507 := my_fr.up gh496 is_170 fh507 rfl
          have Tok_h507 : Tok h507 := Tok_ag (my_ag.up fh507 is_170 rfl) Tok_h496t503
          have Mq_h507 : Mq h507 wv := Mq_u (a := 170) hwv (by decide) (by omega) fh507 Mq_h496
          have Wd9_h507 : Wd9 h507 := Wd9_ag (my_ag.up fh507 is_170 rfl) Wd9_h496
          have P6_h507 : h507 167 6 = h 167 6 := P6_ag (my_ag.up fh507 is_170 rfl) P6_h496
          have Ko_h507 : Ko h h507 := Ko_u (a := 170) hwv (by decide) (by omega) fh507 Ko_h496
          have Pz_h507 : Pz x1 h h507 := Pz_u (a := 170) hwv (by decide) (by omega) fh507 Pz_h496
          have k170 := my_up_self fh507
          refine w_aload_n gz_189_100 rfl ?_
          refine w_bipush gz_189_101 (by decide) ?_
          have ce508 : h507 151 7 = v493 := ((my_up_role fh507 is_151 is_170 rfl).trans ((my_up_fld fh496 (by decide)).trans ev493.symm))
          have ce509 : h507 151 27 = v347 := ((my_up_role fh507 is_151 is_170 rfl).trans ((my_up_fld fh496 (by decide)).trans ev347.symm))
          refine w_inv (k := 0) (as := [(0, 9)]) (r := []) (x := 151) (ls0 := [(2, 151), (0, 9)]) gz_189_103 gm_175 rfl is_151 rd_10 rfl rfl rfl rfl rfl (c_Model_takeWord9_f1 (d := d)  ((5 + (16 * v494))) (((my_up_role fh507 is_151 is_170 rfl).trans (my_up_self fh496))) (by omega) (by omega) Tok_h507 Wd9_h507 (fun h510 frh510 w511 w512 xp513 xp514 Tok_h510t515 Wd9_h510t516 => ?_))
          have gh510 : my_fr [(10, 7), (10, 8), (67, -1), (68, -1), (69, -1)] h h510 := my_fr.tr gh507 (frh510.mo rfl)
          have Mq_h510 : Mq h510 wv := Mq_ag (my_ag.fr frh510 rfl) Mq_h507
          have Wd9_h510 : Wd9 h510 := Wd9_ag (my_ag.fr frh510 rfl) Wd9_h507
          have P6_h510 : h510 167 6 = h 167 6 := P6_ag (my_ag.fr frh510 rfl) P6_h507
          have Ko_h510 : Ko h h510 := Ko_ag (my_ag.fr frh510 rfl) Ko_h507
          have Pz_h510 : Pz x1 h h510 := Pz_ag (my_ag.fr frh510 rfl) Pz_h507
          show wp l rho (d + 3) 189 106 [(2, 151), (0, x1), (0, v300)] [] h510 Q
          have ps517 : h507 151 7 = h 151 7 := ((my_up_role fh507 is_151 is_170 rfl).trans ((my_up_fld fh496 (by decide)).trans ((my_up_role fh2 is_151 is_168 rfl).trans (rfl : h 151 7 = h 151 7))))
          rw [ps517] at xp513
          rw [ps517] at xp514
          refine w_aload_n gz_189_106 rfl ?_
          refine w_getX (v := 169) gz_189_107 is_151 rd_10 rfl (by decide) rfl ?_
          refine w_iload_n gz_189_110 rfl ?_
          refine w_aload_n gz_189_111 rfl ?_
          refine w_aload_n gz_189_112 rfl ?_
          refine v_getI (j := 27) gz_189_113 rfl is_151 rd_10 rfl (fun v519 ev519 pv519 qv519 => ?_)
          have zv519 := ev519.trans ((my_fr.at frh510 is_151 rfl).trans ((my_up_role fh507 is_151 is_170 rfl).trans ((my_up_fld fh496 (by decide)).trans ev347.symm)))
          refine w_iconst gz_189_116 (by decide) ?_
          refine w_isub gz_189_117 ⟨by omega, by omega⟩ ?_
          have ce520 : h510 151 27 = v519 := ev519.symm
          refine w_inv (k := 0) (as := [(0, (v519 - 1))]) (r := [(0, x1), (2, 169)]) (x := 151) (ls0 := [(2, 151), (0, (v519 - 1))]) gz_189_118 gm_187 rfl is_151 rd_10 rfl rfl rfl rfl rfl (c_Model_takeNumber9_f1 (d := (d + 1)) (x1 := (v519 - 1)) (by omega) (by omega) ((5 + (16 * v494))) (((my_fr.at frh510 is_151 rfl).trans ((my_up_role fh507 is_151 is_170 rfl).trans (my_up_self fh496)))) (by omega) (by omega) Tok_h510t515 (fun w521 w522 xp523 Tok_h510t524 => ?_))
          show wp l rho (d + 3) 189 121 [(2, 151), (0, x1), (0, v300)] [(0, 0), (0, x1), (2, 169)] h510 Q
          have ps525 : h510 151 7 = ((h 151 7)) := xp514
          rw [ps525] at xp523
          have hi526 : 0 ≤ 0 := by omega
          have hi527 : 0 ≤ 7 := by omega
          refine w_iast gz_189_121 is_169 rd_68 (by omega) (by omega) (by omega) (by omega) (fun h528 fh528 => ?_)
          have gh528 : my_fr [(10, 7), (10, 8), (67, -1), (68, -1), (69, -1)] h h528 := my_fr.up gh510 is_169 fh528 rfl
          have Mq_h528 : Mq h528 wv := Mq_u (a := 169) hwv (by decide) (by omega) fh528 Mq_h510
          have Wd9_h528 : Wd9 h528 := Wd9_ag (my_ag.up fh528 is_169 rfl) Wd9_h510t516
          have P6_h528 : h528 167 6 = h 167 6 := P6_ag (my_ag.up fh528 is_169 rfl) P6_h510
          have Ko_h528 : Ko h h528 := Ko_u (a := 169) hwv (by decide) (by omega) fh528 Ko_h510
          have Pz_h528 : Pz x1 h h528 := Pz_u (a := 169) hwv (by decide) (by omega) fh528 Pz_h510
          have Tok_h528 : Tok h528 := Tok_ag (my_ag.up fh528 is_169 rfl) Tok_h510t524
          have k169 := my_up_self fh528
          have psR : h528 151 7 = ((h 151 7)) := ((my_up_role fh528 is_151 is_169 rfl).trans xp514)
          have npsR : sm h528 = sm h := sm_eq (fun j => my_fr.at gh528 is_153 rfl) (fun j => my_fr.at gh528 is_154 rfl) (fun j => my_fr.at gh528 is_155 rfl)
          have ce529 : h528 151 7 = h510 151 7 := ((my_up_role fh528 is_151 is_169 rfl).trans (rfl : h510 151 7 = h510 151 7))
          have ce530 : h528 151 27 = v519 := ((my_up_role fh528 is_151 is_169 rfl).trans ev519.symm)
          have a168 : ∀ j : Int, h528 168 j = h2 168 j := fun j => ((my_up_role fh528 is_168 is_169 rfl).trans ((my_fr.at frh510 is_168 rfl).trans ((my_up_role fh507 is_168 is_170 rfl).trans ((my_up_role fh496 is_168 is_151 rfl).trans (rfl : h2 168 j = h2 168 j)))))
          have a170 : ∀ j : Int, h528 170 j = h507 170 j := fun j => ((my_up_role fh528 is_170 is_169 rfl).trans ((my_fr.at frh510 is_170 rfl).trans (rfl : h507 170 j = h507 170 j)))
          have a169 : ∀ j : Int, h528 169 j = h528 169 j := fun _ => rfl
          have a157 : ∀ j : Int, h528 157 j = h 157 j := fun j => ((my_up_role fh528 is_157 is_169 rfl).trans ((my_fr.at frh510 is_157 rfl).trans ((my_up_role fh507 is_157 is_170 rfl).trans ((my_up_role fh496 is_157 is_151 rfl).trans ((my_up_role fh2 is_157 is_168 rfl).trans (rfl : h 157 j = h 157 j))))))
          have c531 := ((my_up_role fh528 is_151 is_169 rfl).trans ((my_fr.at frh510 is_151 rfl).trans ((my_up_role fh507 is_151 is_170 rfl).trans (my_up_self fh496))))
          exact w_vret gz_189_122 gm_189 (k0 h528 (gh528) (by omega) (by omega) (by first | exact ⟨_, _, _, ⟨rfl, rfl, rfl⟩, PmI_4 Pz_h528 (by rw [a168]; exact k168) (by rw [a169, k169]; omega) (by rw [a170, k170]; omega)⟩ | exact Ko_h528 | exact ⟨by rw [a168]; exact k168, by rw [a170, k170]; omega⟩ | (unfold joinM; first | exact Or.inr (Or.inr ⟨by omega, by omega, Or.inr (Or.inr ⟨by omega, by omega, Or.inr ⟨by omega, Or.inr (Or.inr ⟨by omega, by omega, ⟨by omega, by omega⟩⟩)⟩⟩)⟩) | exact Or.inr (Or.inr ⟨by omega, by omega, Or.inr (Or.inr ⟨by omega, by omega, Or.inr ⟨by omega, or_assoc.mp (Or.inl (by omega))⟩⟩)⟩) | exact Or.inr (Or.inr ⟨by omega, by omega, Or.inr (Or.inr ⟨by omega, by omega, Or.inl ⟨by omega, by omega⟩⟩)⟩) | exact Or.inr (Or.inr ⟨by omega, by omega, Or.inr (Or.inl ⟨by omega, by omega, by omega⟩)⟩) | exact Or.inr (Or.inr ⟨by omega, by omega, Or.inl ⟨by omega, by omega⟩⟩) | exact or_assoc.mp (Or.inl (by omega))) | omega | (exfalso; subst_vars; omega) | (exfalso; (try clear k0); (try clear k1); grind) | omega | (refine ⟨fun q => ?_, fun q => ?_⟩ <;> first | (rw [a168, k168] at q; omega) | (have kz := k170.trans (show _ = vz by omega); rw [a170, kz, a157]; omega)) | (refine ⟨fun q => ?_, fun q => ?_, fun q => ?_⟩ <;> first | (exfalso; rw [a168, k168] at q; omega) | (rw [a169, k169]; omega)) | omega) (by first | exact ⟨_, _, _, ⟨rfl, rfl, rfl⟩, PmI_4 Pz_h528 (by rw [a168]; exact k168) (by rw [a169, k169]; omega) (by rw [a170, k170]; omega)⟩ | exact Ko_h528 | exact ⟨by rw [a168]; exact k168, by rw [a170, k170]; omega⟩ | (unfold joinM; first | exact Or.inr (Or.inr ⟨by omega, by omega, Or.inr (Or.inr ⟨by omega, by omega, Or.inr ⟨by omega, Or.inr (Or.inr ⟨by omega, by omega, ⟨by omega, by omega⟩⟩)⟩⟩)⟩) | exact Or.inr (Or.inr ⟨by omega, by omega, Or.inr (Or.inr ⟨by omega, by omega, Or.inr ⟨by omega, or_assoc.mp (Or.inl (by omega))⟩⟩)⟩) | exact Or.inr (Or.inr ⟨by omega, by omega, Or.inr (Or.inr ⟨by omega, by omega, Or.inl ⟨by omega, by omega⟩⟩)⟩) | exact Or.inr (Or.inr ⟨by omega, by omega, Or.inr (Or.inl ⟨by omega, by omega, by omega⟩)⟩) | exact Or.inr (Or.inr ⟨by omega, by omega, Or.inl ⟨by omega, by omega⟩⟩) | exact or_assoc.mp (Or.inl (by omega))) | omega | (exfalso; subst_vars; omega) | (exfalso; (try clear k0); (try clear k1); grind) | omega | (refine ⟨fun q => ?_, fun q => ?_⟩ <;> first | (rw [a168, k168] at q; omega) | (have kz := k170.trans (show _ = vz by omega); rw [a170, kz, a157]; omega)) | (refine ⟨fun q => ?_, fun q => ?_, fun q => ?_⟩ <;> first | (exfalso; rw [a168, k168] at q; omega) | (rw [a169, k169]; omega)) | omega) (by first | exact ⟨_, _, _, ⟨rfl, rfl, rfl⟩, PmI_4 Pz_h528 (by rw [a168]; exact k168) (by rw [a169, k169]; omega) (by rw [a170, k170]; omega)⟩ | exact Ko_h528 | exact ⟨by rw [a168]; exact k168, by rw [a170, k170]; omega⟩ | (unfold joinM; first | exact Or.inr (Or.inr ⟨by omega, by omega, Or.inr (Or.inr ⟨by omega, by omega, Or.inr ⟨by omega, Or.inr (Or.inr ⟨by omega, by omega, ⟨by omega, by omega⟩⟩)⟩⟩)⟩) | exact Or.inr (Or.inr ⟨by omega, by omega, Or.inr (Or.inr ⟨by omega, by omega, Or.inr ⟨by omega, or_assoc.mp (Or.inl (by omega))⟩⟩)⟩) | exact Or.inr (Or.inr ⟨by omega, by omega, Or.inr (Or.inr ⟨by omega, by omega, Or.inl ⟨by omega, by omega⟩⟩)⟩) | exact Or.inr (Or.inr ⟨by omega, by omega, Or.inr (Or.inl ⟨by omega, by omega, by omega⟩)⟩) | exact Or.inr (Or.inr ⟨by omega, by omega, Or.inl ⟨by omega, by omega⟩⟩) | exact or_assoc.mp (Or.inl (by omega))) | omega | (exfalso; subst_vars; omega) | (exfalso; (try clear k0); (try clear k1); grind) | omega | (refine ⟨fun q => ?_, fun q => ?_⟩ <;> first | (rw [a168, k168] at q; omega) | (have kz := k170.trans (show _ = vz by omega); rw [a170, kz, a157]; omega)) | (refine ⟨fun q => ?_, fun q => ?_, fun q => ?_⟩ <;> first | (exfalso; rw [a168, k168] at q; omega) | (rw [a169, k169]; omega)) | omega) Tok_h528 Mq_h528 Wd9_h528)
end MYNModel_readJoin7_f0
