/-! contracts, printed by wip/gen/gy.py -/
section MYNModel_readJoin_f0
theorem c_Model_readJoin_f0 {l : Launch} {rho : Nat → Int32} {d : Nat} {h : my_H} {Q : my_H → my_V → Prop} {x1 : Int} {wv : Int} (a1 : 36 ≤ x1) (b1 : x1 ≤ 41) (cf : h 151 8 = 0) (hwv : wv ≤ 5) (hwv0 : 0 ≤ wv) (n_Tok : Tok h) (n_Mq : Mq h wv) (hp : x1 = 36 + h 167 6) (k0 : ∀ (h' : my_H), my_fr [(10, 7), (10, 8), (67, -1), (68, -1), (69, -1)] h h' → 1 ≤ h' 151 8 → h' 151 8 ≤ 16005 → h 151 7 ≤ h' 151 7 → Tok h' → Mq h' wv → Q h' (9, 0)) (k1 : ∀ (h' : my_H), my_fr [(10, 7), (10, 8), (67, -1), (68, -1), (69, -1)] h h' → 1 ≤ h' 151 7 → h' 151 7 ≤ 1001 → h' 151 8 = 0 → PaneOk h' x1 → Pk3 h' x1 (h' 151 27) → h 151 7 ≤ h' 151 7 → Tok h' → Mq h' wv → Q h' (9, 0)) : wp l rho (d + 3) 189 0 [(2, 151), (0, x1), (9, 0)] [] h Q := by
  refine v_know (x := 151) (j := 7) (b := 7) rfl is_151 rd_10 rfl (fun k151_7 ek151_7 pk151_7 qk151_7 => ?_)
  refine v_know (x := 151) (j := 27) (b := 27) rfl is_151 rd_10 rfl (fun k151_27 ek151_27 pk151_27 qk151_27 => ?_)
  refine w_aload_n gz_189_0 rfl ?_
  refine w_getX (v := 168) gz_189_1 is_151 rd_10 rfl (by decide) rfl ?_
  refine w_iload_n gz_189_4 rfl ?_
  refine w_iconst gz_189_5 (by decide) ?_
  refine w_iast gz_189_6 is_168 rd_67 (by omega) (by omega) (by omega) (by omega) (fun h2 fh2 => ?_)
  have gh2 : my_fr [(10, 7), (10, 8), (67, -1), (68, -1), (69, -1)] h h2 := my_fr.up my_fr.rf is_168 fh2 rfl
  have Tok_h2 : Tok h2 := Tok_ag (my_ag.up fh2 is_168 rfl) n_Tok
  have Mq_h2 : Mq h2 wv := Mq_u (a := 168) hwv (by decide) (by omega) fh2 n_Mq
  have P6_h2 : h2 167 6 = h 167 6 := P6_ag (my_ag.up fh2 is_168 rfl) (rfl)
  have k168 : h2 168 x1 = 4 := my_up_self fh2
  refine w_aload_n gz_189_7 rfl ?_
  refine v_getI (j := 8) gz_189_8 rfl is_151 rd_10 rfl (fun v3 ev3 pv3 qv3 => ?_)
  have zv3 := ev3.trans ((my_up_role fh2 is_151 is_168 rfl).trans cf)
  refine w_ifne (t := 89) gz_189_11 rfl (fun u4 => by exfalso; omega) (fun u4 => ?_)
  refine w_aload_n gz_189_14 rfl ?_
  refine w_getX (v := 153) gz_189_15 is_151 rd_10 rfl (by decide) rfl ?_
  refine w_aload_n gz_189_18 rfl ?_
  refine v_getI (j := 7) gz_189_19 rfl is_151 rd_10 rfl (fun v6 ev6 pv6 qv6 => ?_)
  have zv6 := ev6.trans ((my_up_role fh2 is_151 is_168 rfl).trans ek151_7.symm)
  refine w_iald gz_189_22 is_153 rd_52 (by omega) (by omega) (fun v7 ev7 pv7 qv7 => ?_)
  refine w_iconst gz_189_23 (by decide) ?_
  refine w_icne (t := 89) gz_189_24 rfl (fun u8 => ?_) (fun u8 => ?_)
  ·
    refine w_aload_n gz_189_89 rfl ?_
    refine w_getX (v := 170) gz_189_90 is_151 rd_10 rfl (by decide) rfl ?_
    refine w_iload_n gz_189_93 rfl ?_
    refine w_aload_n gz_189_94 rfl ?_
    refine w_iconst gz_189_95 (by decide) ?_
    have ce10 : h2 151 7 = v6 := ev6.symm
    have ce11 : h2 151 27 = k151_27 := ((my_up_role fh2 is_151 is_168 rfl).trans ek151_27.symm)
    refine w_inv (k := 0) (as := [(0, 2)]) (r := [(0, x1), (2, 170)]) (x := 151) (ls0 := [(2, 151), (0, 2)]) gz_189_96 gm_187 rfl is_151 rd_10 rfl rfl rfl rfl rfl (c_Model_takeNumber2_f0 (d := (d + 1)) (x1 := 2) (by omega) (by omega) (ev3.symm.trans (by omega)) Tok_h2 (fun h12 frh12 w13 w14 xp15 Tok_h12t16 => ?_) (fun h17 v18 frh17 w19 w20 w21 w22 w23 xp24 xp25 xp26 xp27 xp28 Tok_h17t29 => ?_))
    ·
      have gh12 : my_fr [(10, 7), (10, 8), (67, -1), (68, -1), (69, -1)] h h12 := my_fr.tr gh2 (frh12.mo rfl)
      have Mq_h12 : Mq h12 wv := Mq_ag (my_ag.fr frh12 rfl) Mq_h2
      have P6_h12 : h12 167 6 = h 167 6 := P6_ag (my_ag.fr frh12 rfl) P6_h2
      show wp l rho (d + 3) 189 99 [(2, 151), (0, x1), (9, 0)] [(0, 0), (0, x1), (2, 170)] h12 Q
      have hi30 : 0 ≤ 0 := by omega
      have hi31 : 0 ≤ 2 := by omega
      refine w_iast gz_189_99 is_170 rd_69 (by omega) (by omega) (by omega) (by omega) (fun h32 fh32 => ?_)
      have gh32 : my_fr [(10, 7), (10, 8), (67, -1), (68, -1), (69, -1)] h h32 := my_fr.up gh12 is_170 fh32 rfl
      have Mq_h32 : Mq h32 wv := Mq_u (a := 170) hwv (by decide) (by omega) fh32 Mq_h12
      have P6_h32 : h32 167 6 = h 167 6 := P6_ag (my_ag.up fh32 is_170 rfl) P6_h12
      have Tok_h32 : Tok h32 := Tok_ag (my_ag.up fh32 is_170 rfl) Tok_h12t16
      have k170 := my_up_self fh32
      refine w_aload_n gz_189_100 rfl ?_
      refine w_bipush gz_189_101 (by decide) ?_
      have ce33 : h32 151 7 = h12 151 7 := ((my_up_role fh32 is_151 is_170 rfl).trans (rfl : h12 151 7 = h12 151 7))
      have ce34 : h32 151 27 = k151_27 := ((my_up_role fh32 is_151 is_170 rfl).trans ((my_fr.at frh12 is_151 rfl).trans ((my_up_role fh2 is_151 is_168 rfl).trans ek151_27.symm)))
      refine w_inv (k := 0) (as := [(0, 9)]) (r := []) (x := 151) (ls0 := [(2, 151), (0, 9)]) gz_189_103 gm_175 rfl is_151 rd_10 rfl rfl rfl rfl rfl (c_Model_takeWord_f1 (d := d)  ((h12 151 8)) (((my_up_role fh32 is_151 is_170 rfl).trans (rfl : h12 151 8 = h12 151 8))) (by omega) (by omega) Tok_h32 (fun h35 frh35 w36 w37 xp38 Tok_h35t39 => ?_))
      have gh35 : my_fr [(10, 7), (10, 8), (67, -1), (68, -1), (69, -1)] h h35 := my_fr.tr gh32 (frh35.mo rfl)
      have Mq_h35 : Mq h35 wv := Mq_ag (my_ag.fr frh35 rfl) Mq_h32
      have P6_h35 : h35 167 6 = h 167 6 := P6_ag (my_ag.fr frh35 rfl) P6_h32
      show wp l rho (d + 3) 189 106 [(2, 151), (0, x1), (9, 0)] [] h35 Q
      refine w_aload_n gz_189_106 rfl ?_
      refine w_getX (v := 169) gz_189_107 is_151 rd_10 rfl (by decide) rfl ?_
      refine w_iload_n gz_189_110 rfl ?_
      refine w_aload_n gz_189_111 rfl ?_
      refine w_aload_n gz_189_112 rfl ?_
      refine v_getI (j := 27) gz_189_113 rfl is_151 rd_10 rfl (fun v41 ev41 pv41 qv41 => ?_)
      have zv41 := ev41.trans ((my_fr.at frh35 is_151 rfl).trans ((my_up_role fh32 is_151 is_170 rfl).trans ((my_fr.at frh12 is_151 rfl).trans ((my_up_role fh2 is_151 is_168 rfl).trans ek151_27.symm))))
      refine w_iconst gz_189_116 (by decide) ?_
      refine w_isub gz_189_117 ⟨by omega, by omega⟩ ?_
      have ce42 : h35 151 27 = v41 := ev41.symm
      refine w_inv (k := 0) (as := [(0, (v41 - 1))]) (r := [(0, x1), (2, 169)]) (x := 151) (ls0 := [(2, 151), (0, (v41 - 1))]) gz_189_118 gm_187 rfl is_151 rd_10 rfl rfl rfl rfl rfl (c_Model_takeNumber2_f1 (d := (d + 1)) (x1 := (v41 - 1)) (by omega) (by omega) ((h12 151 8)) (((my_fr.at frh35 is_151 rfl).trans ((my_up_role fh32 is_151 is_170 rfl).trans (rfl : h12 151 8 = h12 151 8)))) (by omega) (by omega) Tok_h35t39 (fun w43 w44 xp45 Tok_h35t46 => ?_))
      show wp l rho (d + 3) 189 121 [(2, 151), (0, x1), (9, 0)] [(0, 0), (0, x1), (2, 169)] h35 Q
      have hi47 : 0 ≤ 0 := by omega
      have hi48 : 0 ≤ 7 := by omega
      refine w_iast gz_189_121 is_169 rd_68 (by omega) (by omega) (by omega) (by omega) (fun h49 fh49 => ?_)
      have gh49 : my_fr [(10, 7), (10, 8), (67, -1), (68, -1), (69, -1)] h h49 := my_fr.up gh35 is_169 fh49 rfl
      have Mq_h49 : Mq h49 wv := Mq_u (a := 169) hwv (by decide) (by omega) fh49 Mq_h35
      have P6_h49 : h49 167 6 = h 167 6 := P6_ag (my_ag.up fh49 is_169 rfl) P6_h35
      have Tok_h49 : Tok h49 := Tok_ag (my_ag.up fh49 is_169 rfl) Tok_h35t46
      have k169 := my_up_self fh49
      have ce50 : h49 151 7 = h35 151 7 := ((my_up_role fh49 is_151 is_169 rfl).trans (rfl : h35 151 7 = h35 151 7))
      have ce51 : h49 151 27 = v41 := ((my_up_role fh49 is_151 is_169 rfl).trans ev41.symm)
      have a168 : ∀ j : Int, h49 168 j = h2 168 j := fun j => ((my_up_role fh49 is_168 is_169 rfl).trans ((my_fr.at frh35 is_168 rfl).trans ((my_up_role fh32 is_168 is_170 rfl).trans ((my_fr.at frh12 is_168 rfl).trans (rfl : h2 168 j = h2 168 j)))))
      have a170 : ∀ j : Int, h49 170 j = h32 170 j := fun j => ((my_up_role fh49 is_170 is_169 rfl).trans ((my_fr.at frh35 is_170 rfl).trans (rfl : h32 170 j = h32 170 j)))
      have a169 : ∀ j : Int, h49 169 j = h49 169 j := fun _ => rfl
      have a157 : ∀ j : Int, h49 157 j = h 157 j := fun j => ((my_up_role fh49 is_157 is_169 rfl).trans ((my_fr.at frh35 is_157 rfl).trans ((my_up_role fh32 is_157 is_170 rfl).trans ((my_fr.at frh12 is_157 rfl).trans ((my_up_role fh2 is_157 is_168 rfl).trans (rfl : h 157 j = h 157 j))))))
      have c52 := ((my_up_role fh49 is_151 is_169 rfl).trans ((my_fr.at frh35 is_151 rfl).trans ((my_up_role fh32 is_151 is_170 rfl).trans (rfl : h12 151 8 = h12 151 8))))
      exact w_vret gz_189_122 gm_189 (k0 h49 (gh49) (by omega) (by omega) (by first | omega | (exfalso; subst_vars; omega) | (exfalso; clear k0 k1; grind) | (refine ⟨fun q => ?_, fun q => ?_⟩ <;> first | (rw [a168, k168] at q; omega) | (have kz := k170.trans (show _ = vz by omega); rw [a170, kz, a157]; omega)) | (refine ⟨fun q => ?_, fun q => ?_, fun q => ?_⟩ <;> first | (exfalso; rw [a168, k168] at q; omega) | (rw [a169, k169]; omega))) Tok_h49 Mq_h49)
    ·
      have gh17 : my_fr [(10, 7), (10, 8), (67, -1), (68, -1), (69, -1)] h h17 := my_fr.tr gh2 (frh17.mo rfl)
      have Mq_h17 : Mq h17 wv := Mq_ag (my_ag.fr frh17 rfl) Mq_h2
      have P6_h17 : h17 167 6 = h 167 6 := P6_ag (my_ag.fr frh17 rfl) P6_h2
      show wp l rho (d + 3) 189 99 [(2, 151), (0, x1), (9, 0)] [(0, v18), (0, x1), (2, 170)] h17 Q
      have hi53 : 0 ≤ v18 := by omega
      have hi54 : v18 ≤ 2 := by omega
      refine w_iast gz_189_99 is_170 rd_69 (by omega) (by omega) (by omega) (by omega) (fun h55 fh55 => ?_)
      have gh55 : my_fr [(10, 7), (10, 8), (67, -1), (68, -1), (69, -1)] h h55 := my_fr.up gh17 is_170 fh55 rfl
      have Mq_h55 : Mq h55 wv := Mq_u (a := 170) hwv (by decide) (by omega) fh55 Mq_h17
      have P6_h55 : h55 167 6 = h 167 6 := P6_ag (my_ag.up fh55 is_170 rfl) P6_h17
      have Tok_h55 : Tok h55 := Tok_ag (my_ag.up fh55 is_170 rfl) Tok_h17t29
      have k170 := my_up_self fh55
      refine w_aload_n gz_189_100 rfl ?_
      refine w_bipush gz_189_101 (by decide) ?_
      have ce56 : h55 151 7 = (h17 151 7) := ((my_up_role fh55 is_151 is_170 rfl).trans (rfl : h17 151 7 = h17 151 7))
      have ce57 : h55 151 27 = k151_27 := ((my_up_role fh55 is_151 is_170 rfl).trans ((my_fr.at frh17 is_151 rfl).trans ((my_up_role fh2 is_151 is_168 rfl).trans ek151_27.symm)))
      refine w_inv (k := 0) (as := [(0, 9)]) (r := []) (x := 151) (ls0 := [(2, 151), (0, 9)]) gz_189_103 gm_175 rfl is_151 rd_10 rfl rfl rfl rfl rfl (c_Model_takeWord_f0 (d := d) (x1 := 9) (by omega) (by omega) (((my_up_role fh55 is_151 is_170 rfl).trans w23).trans (by omega)) Tok_h55 (fun h58 frh58 w59 w60 xp61 Tok_h58t62 => ?_) (fun h63 frh63 w64 w65 w66 xp67 Tok_h63t68 => ?_))
      ·
        have gh58 : my_fr [(10, 7), (10, 8), (67, -1), (68, -1), (69, -1)] h h58 := my_fr.tr gh55 (frh58.mo rfl)
        have Mq_h58 : Mq h58 wv := Mq_ag (my_ag.fr frh58 rfl) Mq_h55
        have P6_h58 : h58 167 6 = h 167 6 := P6_ag (my_ag.fr frh58 rfl) P6_h55
        show wp l rho (d + 3) 189 106 [(2, 151), (0, x1), (9, 0)] [] h58 Q
        refine w_aload_n gz_189_106 rfl ?_
        refine w_getX (v := 169) gz_189_107 is_151 rd_10 rfl (by decide) rfl ?_
        refine w_iload_n gz_189_110 rfl ?_
        refine w_aload_n gz_189_111 rfl ?_
        refine w_aload_n gz_189_112 rfl ?_
        refine v_getI (j := 27) gz_189_113 rfl is_151 rd_10 rfl (fun v70 ev70 pv70 qv70 => ?_)
        have zv70 := ev70.trans ((my_fr.at frh58 is_151 rfl).trans ((my_up_role fh55 is_151 is_170 rfl).trans ((my_fr.at frh17 is_151 rfl).trans ((my_up_role fh2 is_151 is_168 rfl).trans ek151_27.symm))))
        refine w_iconst gz_189_116 (by decide) ?_
        refine w_isub gz_189_117 ⟨by omega, by omega⟩ ?_
        have ce71 : h58 151 27 = v70 := ev70.symm
        refine w_inv (k := 0) (as := [(0, (v70 - 1))]) (r := [(0, x1), (2, 169)]) (x := 151) (ls0 := [(2, 151), (0, (v70 - 1))]) gz_189_118 gm_187 rfl is_151 rd_10 rfl rfl rfl rfl rfl (c_Model_takeNumber2_f1 (d := (d + 1)) (x1 := (v70 - 1)) (by omega) (by omega) ((h58 151 8)) ((rfl : h58 151 8 = h58 151 8)) (by omega) (by omega) Tok_h58t62 (fun w72 w73 xp74 Tok_h58t75 => ?_))
        show wp l rho (d + 3) 189 121 [(2, 151), (0, x1), (9, 0)] [(0, 0), (0, x1), (2, 169)] h58 Q
        have hi76 : 0 ≤ 0 := by omega
        have hi77 : 0 ≤ 7 := by omega
        refine w_iast gz_189_121 is_169 rd_68 (by omega) (by omega) (by omega) (by omega) (fun h78 fh78 => ?_)
        have gh78 : my_fr [(10, 7), (10, 8), (67, -1), (68, -1), (69, -1)] h h78 := my_fr.up gh58 is_169 fh78 rfl
        have Mq_h78 : Mq h78 wv := Mq_u (a := 169) hwv (by decide) (by omega) fh78 Mq_h58
        have P6_h78 : h78 167 6 = h 167 6 := P6_ag (my_ag.up fh78 is_169 rfl) P6_h58
        have Tok_h78 : Tok h78 := Tok_ag (my_ag.up fh78 is_169 rfl) Tok_h58t75
        have k169 := my_up_self fh78
        have ce79 : h78 151 7 = h58 151 7 := ((my_up_role fh78 is_151 is_169 rfl).trans (rfl : h58 151 7 = h58 151 7))
        have ce80 : h78 151 27 = v70 := ((my_up_role fh78 is_151 is_169 rfl).trans ev70.symm)
        have a168 : ∀ j : Int, h78 168 j = h2 168 j := fun j => ((my_up_role fh78 is_168 is_169 rfl).trans ((my_fr.at frh58 is_168 rfl).trans ((my_up_role fh55 is_168 is_170 rfl).trans ((my_fr.at frh17 is_168 rfl).trans (rfl : h2 168 j = h2 168 j)))))
        have a170 : ∀ j : Int, h78 170 j = h55 170 j := fun j => ((my_up_role fh78 is_170 is_169 rfl).trans ((my_fr.at frh58 is_170 rfl).trans (rfl : h55 170 j = h55 170 j)))
        have a169 : ∀ j : Int, h78 169 j = h78 169 j := fun _ => rfl
        have a157 : ∀ j : Int, h78 157 j = h 157 j := fun j => ((my_up_role fh78 is_157 is_169 rfl).trans ((my_fr.at frh58 is_157 rfl).trans ((my_up_role fh55 is_157 is_170 rfl).trans ((my_fr.at frh17 is_157 rfl).trans ((my_up_role fh2 is_157 is_168 rfl).trans (rfl : h 157 j = h 157 j))))))
        have c81 := ((my_up_role fh78 is_151 is_169 rfl).trans (rfl : h58 151 8 = h58 151 8))
        exact w_vret gz_189_122 gm_189 (k0 h78 (gh78) (by omega) (by omega) (by first | omega | (exfalso; subst_vars; omega) | (exfalso; clear k0 k1; grind) | (refine ⟨fun q => ?_, fun q => ?_⟩ <;> first | (rw [a168, k168] at q; omega) | (have kz := k170.trans (show _ = vz by omega); rw [a170, kz, a157]; omega)) | (refine ⟨fun q => ?_, fun q => ?_, fun q => ?_⟩ <;> first | (exfalso; rw [a168, k168] at q; omega) | (rw [a169, k169]; omega))) Tok_h78 Mq_h78)
      ·
        have gh63 : my_fr [(10, 7), (10, 8), (67, -1), (68, -1), (69, -1)] h h63 := my_fr.tr gh55 (frh63.mo rfl)
        have Mq_h63 : Mq h63 wv := Mq_ag (my_ag.fr frh63 rfl) Mq_h55
        have P6_h63 : h63 167 6 = h 167 6 := P6_ag (my_ag.fr frh63 rfl) P6_h55
        show wp l rho (d + 3) 189 106 [(2, 151), (0, x1), (9, 0)] [] h63 Q
        refine w_aload_n gz_189_106 rfl ?_
        refine w_getX (v := 169) gz_189_107 is_151 rd_10 rfl (by decide) rfl ?_
        refine w_iload_n gz_189_110 rfl ?_
        refine w_aload_n gz_189_111 rfl ?_
        refine w_aload_n gz_189_112 rfl ?_
        refine v_getI (j := 27) gz_189_113 rfl is_151 rd_10 rfl (fun v83 ev83 pv83 qv83 => ?_)
        have zv83 := ev83.trans ((my_fr.at frh63 is_151 rfl).trans ((my_up_role fh55 is_151 is_170 rfl).trans ((my_fr.at frh17 is_151 rfl).trans ((my_up_role fh2 is_151 is_168 rfl).trans ek151_27.symm))))
        refine w_iconst gz_189_116 (by decide) ?_
        refine w_isub gz_189_117 ⟨by omega, by omega⟩ ?_
        have ce84 : h63 151 7 = (h63 151 7) := (rfl : h63 151 7 = h63 151 7)
        have ce85 : h63 151 27 = v83 := ev83.symm
        refine w_inv (k := 0) (as := [(0, (v83 - 1))]) (r := [(0, x1), (2, 169)]) (x := 151) (ls0 := [(2, 151), (0, (v83 - 1))]) gz_189_118 gm_187 rfl is_151 rd_10 rfl rfl rfl rfl rfl (c_Model_takeNumber2_f0 (d := (d + 1)) (x1 := (v83 - 1)) (by omega) (by omega) (w66.trans (by omega)) Tok_h63t68 (fun h86 frh86 w87 w88 xp89 Tok_h86t90 => ?_) (fun h91 v92 frh91 w93 w94 w95 w96 w97 xp98 xp99 xp100 xp101 xp102 Tok_h91t103 => ?_))
        ·
          have gh86 : my_fr [(10, 7), (10, 8), (67, -1), (68, -1), (69, -1)] h h86 := my_fr.tr gh63 (frh86.mo rfl)
          have Mq_h86 : Mq h86 wv := Mq_ag (my_ag.fr frh86 rfl) Mq_h63
          have P6_h86 : h86 167 6 = h 167 6 := P6_ag (my_ag.fr frh86 rfl) P6_h63
          show wp l rho (d + 3) 189 121 [(2, 151), (0, x1), (9, 0)] [(0, 0), (0, x1), (2, 169)] h86 Q
          have hi104 : 0 ≤ 0 := by omega
          have hi105 : 0 ≤ 7 := by omega
          refine w_iast gz_189_121 is_169 rd_68 (by omega) (by omega) (by omega) (by omega) (fun h106 fh106 => ?_)
          have gh106 : my_fr [(10, 7), (10, 8), (67, -1), (68, -1), (69, -1)] h h106 := my_fr.up gh86 is_169 fh106 rfl
          have Mq_h106 : Mq h106 wv := Mq_u (a := 169) hwv (by decide) (by omega) fh106 Mq_h86
          have P6_h106 : h106 167 6 = h 167 6 := P6_ag (my_ag.up fh106 is_169 rfl) P6_h86
          have Tok_h106 : Tok h106 := Tok_ag (my_ag.up fh106 is_169 rfl) Tok_h86t90
          have k169 := my_up_self fh106
          have ce107 : h106 151 7 = h86 151 7 := ((my_up_role fh106 is_151 is_169 rfl).trans (rfl : h86 151 7 = h86 151 7))
          have ce108 : h106 151 27 = v83 := ((my_up_role fh106 is_151 is_169 rfl).trans ((my_fr.at frh86 is_151 rfl).trans ev83.symm))
          have a168 : ∀ j : Int, h106 168 j = h2 168 j := fun j => ((my_up_role fh106 is_168 is_169 rfl).trans ((my_fr.at frh86 is_168 rfl).trans ((my_fr.at frh63 is_168 rfl).trans ((my_up_role fh55 is_168 is_170 rfl).trans ((my_fr.at frh17 is_168 rfl).trans (rfl : h2 168 j = h2 168 j))))))
          have a170 : ∀ j : Int, h106 170 j = h55 170 j := fun j => ((my_up_role fh106 is_170 is_169 rfl).trans ((my_fr.at frh86 is_170 rfl).trans ((my_fr.at frh63 is_170 rfl).trans (rfl : h55 170 j = h55 170 j))))
          have a169 : ∀ j : Int, h106 169 j = h106 169 j := fun _ => rfl
          have a157 : ∀ j : Int, h106 157 j = h 157 j := fun j => ((my_up_role fh106 is_157 is_169 rfl).trans ((my_fr.at frh86 is_157 rfl).trans ((my_fr.at frh63 is_157 rfl).trans ((my_up_role fh55 is_157 is_170 rfl).trans ((my_fr.at frh17 is_157 rfl).trans ((my_up_role fh2 is_157 is_168 rfl).trans (rfl : h 157 j = h 157 j)))))))
          have c109 := ((my_up_role fh106 is_151 is_169 rfl).trans (rfl : h86 151 8 = h86 151 8))
          exact w_vret gz_189_122 gm_189 (k0 h106 (gh106) (by omega) (by omega) (by first | omega | (exfalso; subst_vars; omega) | (exfalso; clear k0 k1; grind) | (refine ⟨fun q => ?_, fun q => ?_⟩ <;> first | (rw [a168, k168] at q; omega) | (have kz := k170.trans (show _ = vz by omega); rw [a170, kz, a157]; omega)) | (refine ⟨fun q => ?_, fun q => ?_, fun q => ?_⟩ <;> first | (exfalso; rw [a168, k168] at q; omega) | (rw [a169, k169]; omega))) Tok_h106 Mq_h106)
        ·
          have gh91 : my_fr [(10, 7), (10, 8), (67, -1), (68, -1), (69, -1)] h h91 := my_fr.tr gh63 (frh91.mo rfl)
          have Mq_h91 : Mq h91 wv := Mq_ag (my_ag.fr frh91 rfl) Mq_h63
          have P6_h91 : h91 167 6 = h 167 6 := P6_ag (my_ag.fr frh91 rfl) P6_h63
          show wp l rho (d + 3) 189 121 [(2, 151), (0, x1), (9, 0)] [(0, v92), (0, x1), (2, 169)] h91 Q
          have hi110 : 0 ≤ v92 := by omega
          have hi111 : v92 ≤ 7 := by omega
          refine w_iast gz_189_121 is_169 rd_68 (by omega) (by omega) (by omega) (by omega) (fun h112 fh112 => ?_)
          have gh112 : my_fr [(10, 7), (10, 8), (67, -1), (68, -1), (69, -1)] h h112 := my_fr.up gh91 is_169 fh112 rfl
          have Mq_h112 : Mq h112 wv := Mq_u (a := 169) hwv (by decide) (by omega) fh112 Mq_h91
          have P6_h112 : h112 167 6 = h 167 6 := P6_ag (my_ag.up fh112 is_169 rfl) P6_h91
          have Tok_h112 : Tok h112 := Tok_ag (my_ag.up fh112 is_169 rfl) Tok_h91t103
          have k169 := my_up_self fh112
          have ce113 : h112 151 7 = (h91 151 7) := ((my_up_role fh112 is_151 is_169 rfl).trans (rfl : h91 151 7 = h91 151 7))
          have ce114 : h112 151 27 = v83 := ((my_up_role fh112 is_151 is_169 rfl).trans ((my_fr.at frh91 is_151 rfl).trans ev83.symm))
          have a168 : ∀ j : Int, h112 168 j = h2 168 j := fun j => ((my_up_role fh112 is_168 is_169 rfl).trans ((my_fr.at frh91 is_168 rfl).trans ((my_fr.at frh63 is_168 rfl).trans ((my_up_role fh55 is_168 is_170 rfl).trans ((my_fr.at frh17 is_168 rfl).trans (rfl : h2 168 j = h2 168 j))))))
          have a170 : ∀ j : Int, h112 170 j = h55 170 j := fun j => ((my_up_role fh112 is_170 is_169 rfl).trans ((my_fr.at frh91 is_170 rfl).trans ((my_fr.at frh63 is_170 rfl).trans (rfl : h55 170 j = h55 170 j))))
          have a169 : ∀ j : Int, h112 169 j = h112 169 j := fun _ => rfl
          have a157 : ∀ j : Int, h112 157 j = h 157 j := fun j => ((my_up_role fh112 is_157 is_169 rfl).trans ((my_fr.at frh91 is_157 rfl).trans ((my_fr.at frh63 is_157 rfl).trans ((my_up_role fh55 is_157 is_170 rfl).trans ((my_fr.at frh17 is_157 rfl).trans ((my_up_role fh2 is_157 is_168 rfl).trans (rfl : h 157 j = h 157 j)))))))
          have c115 := ((my_up_role fh112 is_151 is_169 rfl).trans (rfl : h91 151 7 = h91 151 7))
          have c116 := ((my_up_role fh112 is_151 is_169 rfl).trans w97)
          exact w_vret gz_189_122 gm_189 (k1 h112 (gh112) (by omega) (by omega) (by omega) (by first | omega | (exfalso; subst_vars; omega) | (exfalso; clear k0 k1; grind) | (refine ⟨fun q => ?_, fun q => ?_⟩ <;> first | (rw [a168, k168] at q; omega) | (have kz := k170.trans (show _ = vz by omega); rw [a170, kz, a157]; omega)) | (refine ⟨fun q => ?_, fun q => ?_, fun q => ?_⟩ <;> first | (exfalso; rw [a168, k168] at q; omega) | (rw [a169, k169]; omega))) (by first | omega | (exfalso; subst_vars; omega) | (exfalso; clear k0 k1; grind) | (refine ⟨fun q => ?_, fun q => ?_⟩ <;> first | (rw [a168, k168] at q; omega) | (have kz := k170.trans (show _ = vz by omega); rw [a170, kz, a157]; omega)) | (refine ⟨fun q => ?_, fun q => ?_, fun q => ?_⟩ <;> first | (exfalso; rw [a168, k168] at q; omega) | (rw [a169, k169]; omega))) (by first | omega | (exfalso; subst_vars; omega) | (exfalso; clear k0 k1; grind) | (refine ⟨fun q => ?_, fun q => ?_⟩ <;> first | (rw [a168, k168] at q; omega) | (have kz := k170.trans (show _ = vz by omega); rw [a170, kz, a157]; omega)) | (refine ⟨fun q => ?_, fun q => ?_, fun q => ?_⟩ <;> first | (exfalso; rw [a168, k168] at q; omega) | (rw [a169, k169]; omega))) Tok_h112 Mq_h112)
  ·
    refine w_aload_n gz_189_27 rfl ?_
    refine w_getX (v := 155) gz_189_28 is_151 rd_10 rfl (by decide) rfl ?_
    refine w_aload_n gz_189_31 rfl ?_
    refine v_getI (j := 7) gz_189_32 rfl is_151 rd_10 rfl (fun v118 ev118 pv118 qv118 => ?_)
    have zv118 := ev118.trans ev6.symm
    refine w_lald gz_189_35 is_155 rd_54 (by omega) (by omega) (fun v119 ev119 pv119 => ?_)
    refine w_ldc2 gz_189_36 rfl ?_
    refine w_lcmpE gz_189_39 (fun v120 pv120 qv120 xv120 => ?_)
    refine w_ifgt (t := 89) gz_189_40 rfl (fun u121 => ?_) (fun u121 => ?_)
    ·
      refine w_aload_n gz_189_89 rfl ?_
      refine w_getX (v := 170) gz_189_90 is_151 rd_10 rfl (by decide) rfl ?_
      refine w_iload_n gz_189_93 rfl ?_
      refine w_aload_n gz_189_94 rfl ?_
      refine w_iconst gz_189_95 (by decide) ?_
      have ce123 : h2 151 7 = v118 := ev118.symm
      have ce124 : h2 151 27 = k151_27 := ((my_up_role fh2 is_151 is_168 rfl).trans ek151_27.symm)
      refine w_inv (k := 0) (as := [(0, 2)]) (r := [(0, x1), (2, 170)]) (x := 151) (ls0 := [(2, 151), (0, 2)]) gz_189_96 gm_187 rfl is_151 rd_10 rfl rfl rfl rfl rfl (c_Model_takeNumber2_f0 (d := (d + 1)) (x1 := 2) (by omega) (by omega) (ev3.symm.trans (by omega)) Tok_h2 (fun h125 frh125 w126 w127 xp128 Tok_h125t129 => ?_) (fun h130 v131 frh130 w132 w133 w134 w135 w136 xp137 xp138 xp139 xp140 xp141 Tok_h130t142 => ?_))
      ·
        have gh125 : my_fr [(10, 7), (10, 8), (67, -1), (68, -1), (69, -1)] h h125 := my_fr.tr gh2 (frh125.mo rfl)
        have Mq_h125 : Mq h125 wv := Mq_ag (my_ag.fr frh125 rfl) Mq_h2
        have P6_h125 : h125 167 6 = h 167 6 := P6_ag (my_ag.fr frh125 rfl) P6_h2
        show wp l rho (d + 3) 189 99 [(2, 151), (0, x1), (9, 0)] [(0, 0), (0, x1), (2, 170)] h125 Q
        have hi143 : 0 ≤ 0 := by omega
        have hi144 : 0 ≤ 2 := by omega
        refine w_iast gz_189_99 is_170 rd_69 (by omega) (by omega) (by omega) (by omega) (fun h145 fh145 => ?_)
        have gh145 : my_fr [(10, 7), (10, 8), (67, -1), (68, -1), (69, -1)] h h145 := my_fr.up gh125 is_170 fh145 rfl
        have Mq_h145 : Mq h145 wv := Mq_u (a := 170) hwv (by decide) (by omega) fh145 Mq_h125
        have P6_h145 : h145 167 6 = h 167 6 := P6_ag (my_ag.up fh145 is_170 rfl) P6_h125
        have Tok_h145 : Tok h145 := Tok_ag (my_ag.up fh145 is_170 rfl) Tok_h125t129
        have k170 := my_up_self fh145
        refine w_aload_n gz_189_100 rfl ?_
        refine w_bipush gz_189_101 (by decide) ?_
        have ce146 : h145 151 7 = h125 151 7 := ((my_up_role fh145 is_151 is_170 rfl).trans (rfl : h125 151 7 = h125 151 7))
        have ce147 : h145 151 27 = k151_27 := ((my_up_role fh145 is_151 is_170 rfl).trans ((my_fr.at frh125 is_151 rfl).trans ((my_up_role fh2 is_151 is_168 rfl).trans ek151_27.symm)))
        refine w_inv (k := 0) (as := [(0, 9)]) (r := []) (x := 151) (ls0 := [(2, 151), (0, 9)]) gz_189_103 gm_175 rfl is_151 rd_10 rfl rfl rfl rfl rfl (c_Model_takeWord_f1 (d := d)  ((h125 151 8)) (((my_up_role fh145 is_151 is_170 rfl).trans (rfl : h125 151 8 = h125 151 8))) (by omega) (by omega) Tok_h145 (fun h148 frh148 w149 w150 xp151 Tok_h148t152 => ?_))
        have gh148 : my_fr [(10, 7), (10, 8), (67, -1), (68, -1), (69, -1)] h h148 := my_fr.tr gh145 (frh148.mo rfl)
        have Mq_h148 : Mq h148 wv := Mq_ag (my_ag.fr frh148 rfl) Mq_h145
        have P6_h148 : h148 167 6 = h 167 6 := P6_ag (my_ag.fr frh148 rfl) P6_h145
        show wp l rho (d + 3) 189 106 [(2, 151), (0, x1), (9, 0)] [] h148 Q
        refine w_aload_n gz_189_106 rfl ?_
        refine w_getX (v := 169) gz_189_107 is_151 rd_10 rfl (by decide) rfl ?_
        refine w_iload_n gz_189_110 rfl ?_
        refine w_aload_n gz_189_111 rfl ?_
        refine w_aload_n gz_189_112 rfl ?_
        refine v_getI (j := 27) gz_189_113 rfl is_151 rd_10 rfl (fun v154 ev154 pv154 qv154 => ?_)
        have zv154 := ev154.trans ((my_fr.at frh148 is_151 rfl).trans ((my_up_role fh145 is_151 is_170 rfl).trans ((my_fr.at frh125 is_151 rfl).trans ((my_up_role fh2 is_151 is_168 rfl).trans ek151_27.symm))))
        refine w_iconst gz_189_116 (by decide) ?_
        refine w_isub gz_189_117 ⟨by omega, by omega⟩ ?_
        have ce155 : h148 151 27 = v154 := ev154.symm
        refine w_inv (k := 0) (as := [(0, (v154 - 1))]) (r := [(0, x1), (2, 169)]) (x := 151) (ls0 := [(2, 151), (0, (v154 - 1))]) gz_189_118 gm_187 rfl is_151 rd_10 rfl rfl rfl rfl rfl (c_Model_takeNumber2_f1 (d := (d + 1)) (x1 := (v154 - 1)) (by omega) (by omega) ((h125 151 8)) (((my_fr.at frh148 is_151 rfl).trans ((my_up_role fh145 is_151 is_170 rfl).trans (rfl : h125 151 8 = h125 151 8)))) (by omega) (by omega) Tok_h148t152 (fun w156 w157 xp158 Tok_h148t159 => ?_))
        show wp l rho (d + 3) 189 121 [(2, 151), (0, x1), (9, 0)] [(0, 0), (0, x1), (2, 169)] h148 Q
        have hi160 : 0 ≤ 0 := by omega
        have hi161 : 0 ≤ 7 := by omega
        refine w_iast gz_189_121 is_169 rd_68 (by omega) (by omega) (by omega) (by omega) (fun h162 fh162 => ?_)
        have gh162 : my_fr [(10, 7), (10, 8), (67, -1), (68, -1), (69, -1)] h h162 := my_fr.up gh148 is_169 fh162 rfl
        have Mq_h162 : Mq h162 wv := Mq_u (a := 169) hwv (by decide) (by omega) fh162 Mq_h148
        have P6_h162 : h162 167 6 = h 167 6 := P6_ag (my_ag.up fh162 is_169 rfl) P6_h148
        have Tok_h162 : Tok h162 := Tok_ag (my_ag.up fh162 is_169 rfl) Tok_h148t159
        have k169 := my_up_self fh162
        have ce163 : h162 151 7 = h148 151 7 := ((my_up_role fh162 is_151 is_169 rfl).trans (rfl : h148 151 7 = h148 151 7))
        have ce164 : h162 151 27 = v154 := ((my_up_role fh162 is_151 is_169 rfl).trans ev154.symm)
        have a168 : ∀ j : Int, h162 168 j = h2 168 j := fun j => ((my_up_role fh162 is_168 is_169 rfl).trans ((my_fr.at frh148 is_168 rfl).trans ((my_up_role fh145 is_168 is_170 rfl).trans ((my_fr.at frh125 is_168 rfl).trans (rfl : h2 168 j = h2 168 j)))))
        have a170 : ∀ j : Int, h162 170 j = h145 170 j := fun j => ((my_up_role fh162 is_170 is_169 rfl).trans ((my_fr.at frh148 is_170 rfl).trans (rfl : h145 170 j = h145 170 j)))
        have a169 : ∀ j : Int, h162 169 j = h162 169 j := fun _ => rfl
        have a157 : ∀ j : Int, h162 157 j = h 157 j := fun j => ((my_up_role fh162 is_157 is_169 rfl).trans ((my_fr.at frh148 is_157 rfl).trans ((my_up_role fh145 is_157 is_170 rfl).trans ((my_fr.at frh125 is_157 rfl).trans ((my_up_role fh2 is_157 is_168 rfl).trans (rfl : h 157 j = h 157 j))))))
        have c165 := ((my_up_role fh162 is_151 is_169 rfl).trans ((my_fr.at frh148 is_151 rfl).trans ((my_up_role fh145 is_151 is_170 rfl).trans (rfl : h125 151 8 = h125 151 8))))
        exact w_vret gz_189_122 gm_189 (k0 h162 (gh162) (by omega) (by omega) (by first | omega | (exfalso; subst_vars; omega) | (exfalso; clear k0 k1; grind) | (refine ⟨fun q => ?_, fun q => ?_⟩ <;> first | (rw [a168, k168] at q; omega) | (have kz := k170.trans (show _ = vz by omega); rw [a170, kz, a157]; omega)) | (refine ⟨fun q => ?_, fun q => ?_, fun q => ?_⟩ <;> first | (exfalso; rw [a168, k168] at q; omega) | (rw [a169, k169]; omega))) Tok_h162 Mq_h162)
      ·
        have gh130 : my_fr [(10, 7), (10, 8), (67, -1), (68, -1), (69, -1)] h h130 := my_fr.tr gh2 (frh130.mo rfl)
        have Mq_h130 : Mq h130 wv := Mq_ag (my_ag.fr frh130 rfl) Mq_h2
        have P6_h130 : h130 167 6 = h 167 6 := P6_ag (my_ag.fr frh130 rfl) P6_h2
        show wp l rho (d + 3) 189 99 [(2, 151), (0, x1), (9, 0)] [(0, v131), (0, x1), (2, 170)] h130 Q
        have hi166 : 0 ≤ v131 := by omega
        have hi167 : v131 ≤ 2 := by omega
        refine w_iast gz_189_99 is_170 rd_69 (by omega) (by omega) (by omega) (by omega) (fun h168 fh168 => ?_)
        have gh168 : my_fr [(10, 7), (10, 8), (67, -1), (68, -1), (69, -1)] h h168 := my_fr.up gh130 is_170 fh168 rfl
        have Mq_h168 : Mq h168 wv := Mq_u (a := 170) hwv (by decide) (by omega) fh168 Mq_h130
        have P6_h168 : h168 167 6 = h 167 6 := P6_ag (my_ag.up fh168 is_170 rfl) P6_h130
        have Tok_h168 : Tok h168 := Tok_ag (my_ag.up fh168 is_170 rfl) Tok_h130t142
        have k170 := my_up_self fh168
        refine w_aload_n gz_189_100 rfl ?_
        refine w_bipush gz_189_101 (by decide) ?_
        have ce169 : h168 151 7 = (h130 151 7) := ((my_up_role fh168 is_151 is_170 rfl).trans (rfl : h130 151 7 = h130 151 7))
        have ce170 : h168 151 27 = k151_27 := ((my_up_role fh168 is_151 is_170 rfl).trans ((my_fr.at frh130 is_151 rfl).trans ((my_up_role fh2 is_151 is_168 rfl).trans ek151_27.symm)))
        refine w_inv (k := 0) (as := [(0, 9)]) (r := []) (x := 151) (ls0 := [(2, 151), (0, 9)]) gz_189_103 gm_175 rfl is_151 rd_10 rfl rfl rfl rfl rfl (c_Model_takeWord_f0 (d := d) (x1 := 9) (by omega) (by omega) (((my_up_role fh168 is_151 is_170 rfl).trans w136).trans (by omega)) Tok_h168 (fun h171 frh171 w172 w173 xp174 Tok_h171t175 => ?_) (fun h176 frh176 w177 w178 w179 xp180 Tok_h176t181 => ?_))
        ·
          have gh171 : my_fr [(10, 7), (10, 8), (67, -1), (68, -1), (69, -1)] h h171 := my_fr.tr gh168 (frh171.mo rfl)
          have Mq_h171 : Mq h171 wv := Mq_ag (my_ag.fr frh171 rfl) Mq_h168
          have P6_h171 : h171 167 6 = h 167 6 := P6_ag (my_ag.fr frh171 rfl) P6_h168
          show wp l rho (d + 3) 189 106 [(2, 151), (0, x1), (9, 0)] [] h171 Q
          refine w_aload_n gz_189_106 rfl ?_
          refine w_getX (v := 169) gz_189_107 is_151 rd_10 rfl (by decide) rfl ?_
          refine w_iload_n gz_189_110 rfl ?_
          refine w_aload_n gz_189_111 rfl ?_
          refine w_aload_n gz_189_112 rfl ?_
          refine v_getI (j := 27) gz_189_113 rfl is_151 rd_10 rfl (fun v183 ev183 pv183 qv183 => ?_)
          have zv183 := ev183.trans ((my_fr.at frh171 is_151 rfl).trans ((my_up_role fh168 is_151 is_170 rfl).trans ((my_fr.at frh130 is_151 rfl).trans ((my_up_role fh2 is_151 is_168 rfl).trans ek151_27.symm))))
          refine w_iconst gz_189_116 (by decide) ?_
          refine w_isub gz_189_117 ⟨by omega, by omega⟩ ?_
          have ce184 : h171 151 27 = v183 := ev183.symm
          refine w_inv (k := 0) (as := [(0, (v183 - 1))]) (r := [(0, x1), (2, 169)]) (x := 151) (ls0 := [(2, 151), (0, (v183 - 1))]) gz_189_118 gm_187 rfl is_151 rd_10 rfl rfl rfl rfl rfl (c_Model_takeNumber2_f1 (d := (d + 1)) (x1 := (v183 - 1)) (by omega) (by omega) ((h171 151 8)) ((rfl : h171 151 8 = h171 151 8)) (by omega) (by omega) Tok_h171t175 (fun w185 w186 xp187 Tok_h171t188 => ?_))
          show wp l rho (d + 3) 189 121 [(2, 151), (0, x1), (9, 0)] [(0, 0), (0, x1), (2, 169)] h171 Q
          have hi189 : 0 ≤ 0 := by omega
          have hi190 : 0 ≤ 7 := by omega
          refine w_iast gz_189_121 is_169 rd_68 (by omega) (by omega) (by omega) (by omega) (fun h191 fh191 => ?_)
          have gh191 : my_fr [(10, 7), (10, 8), (67, -1), (68, -1), (69, -1)] h h191 := my_fr.up gh171 is_169 fh191 rfl
          have Mq_h191 : Mq h191 wv := Mq_u (a := 169) hwv (by decide) (by omega) fh191 Mq_h171
          have P6_h191 : h191 167 6 = h 167 6 := P6_ag (my_ag.up fh191 is_169 rfl) P6_h171
          have Tok_h191 : Tok h191 := Tok_ag (my_ag.up fh191 is_169 rfl) Tok_h171t188
          have k169 := my_up_self fh191
          have ce192 : h191 151 7 = h171 151 7 := ((my_up_role fh191 is_151 is_169 rfl).trans (rfl : h171 151 7 = h171 151 7))
          have ce193 : h191 151 27 = v183 := ((my_up_role fh191 is_151 is_169 rfl).trans ev183.symm)
          have a168 : ∀ j : Int, h191 168 j = h2 168 j := fun j => ((my_up_role fh191 is_168 is_169 rfl).trans ((my_fr.at frh171 is_168 rfl).trans ((my_up_role fh168 is_168 is_170 rfl).trans ((my_fr.at frh130 is_168 rfl).trans (rfl : h2 168 j = h2 168 j)))))
          have a170 : ∀ j : Int, h191 170 j = h168 170 j := fun j => ((my_up_role fh191 is_170 is_169 rfl).trans ((my_fr.at frh171 is_170 rfl).trans (rfl : h168 170 j = h168 170 j)))
          have a169 : ∀ j : Int, h191 169 j = h191 169 j := fun _ => rfl
          have a157 : ∀ j : Int, h191 157 j = h 157 j := fun j => ((my_up_role fh191 is_157 is_169 rfl).trans ((my_fr.at frh171 is_157 rfl).trans ((my_up_role fh168 is_157 is_170 rfl).trans ((my_fr.at frh130 is_157 rfl).trans ((my_up_role fh2 is_157 is_168 rfl).trans (rfl : h 157 j = h 157 j))))))
          have c194 := ((my_up_role fh191 is_151 is_169 rfl).trans (rfl : h171 151 8 = h171 151 8))
          exact w_vret gz_189_122 gm_189 (k0 h191 (gh191) (by omega) (by omega) (by first | omega | (exfalso; subst_vars; omega) | (exfalso; clear k0 k1; grind) | (refine ⟨fun q => ?_, fun q => ?_⟩ <;> first | (rw [a168, k168] at q; omega) | (have kz := k170.trans (show _ = vz by omega); rw [a170, kz, a157]; omega)) | (refine ⟨fun q => ?_, fun q => ?_, fun q => ?_⟩ <;> first | (exfalso; rw [a168, k168] at q; omega) | (rw [a169, k169]; omega))) Tok_h191 Mq_h191)
        ·
          have gh176 : my_fr [(10, 7), (10, 8), (67, -1), (68, -1), (69, -1)] h h176 := my_fr.tr gh168 (frh176.mo rfl)
          have Mq_h176 : Mq h176 wv := Mq_ag (my_ag.fr frh176 rfl) Mq_h168
          have P6_h176 : h176 167 6 = h 167 6 := P6_ag (my_ag.fr frh176 rfl) P6_h168
          show wp l rho (d + 3) 189 106 [(2, 151), (0, x1), (9, 0)] [] h176 Q
          refine w_aload_n gz_189_106 rfl ?_
          refine w_getX (v := 169) gz_189_107 is_151 rd_10 rfl (by decide) rfl ?_
          refine w_iload_n gz_189_110 rfl ?_
          refine w_aload_n gz_189_111 rfl ?_
          refine w_aload_n gz_189_112 rfl ?_
          refine v_getI (j := 27) gz_189_113 rfl is_151 rd_10 rfl (fun v196 ev196 pv196 qv196 => ?_)
          have zv196 := ev196.trans ((my_fr.at frh176 is_151 rfl).trans ((my_up_role fh168 is_151 is_170 rfl).trans ((my_fr.at frh130 is_151 rfl).trans ((my_up_role fh2 is_151 is_168 rfl).trans ek151_27.symm))))
          refine w_iconst gz_189_116 (by decide) ?_
          refine w_isub gz_189_117 ⟨by omega, by omega⟩ ?_
          have ce197 : h176 151 7 = (h176 151 7) := (rfl : h176 151 7 = h176 151 7)
          have ce198 : h176 151 27 = v196 := ev196.symm
          refine w_inv (k := 0) (as := [(0, (v196 - 1))]) (r := [(0, x1), (2, 169)]) (x := 151) (ls0 := [(2, 151), (0, (v196 - 1))]) gz_189_118 gm_187 rfl is_151 rd_10 rfl rfl rfl rfl rfl (c_Model_takeNumber2_f0 (d := (d + 1)) (x1 := (v196 - 1)) (by omega) (by omega) (w179.trans (by omega)) Tok_h176t181 (fun h199 frh199 w200 w201 xp202 Tok_h199t203 => ?_) (fun h204 v205 frh204 w206 w207 w208 w209 w210 xp211 xp212 xp213 xp214 xp215 Tok_h204t216 => ?_))
          ·
            have gh199 : my_fr [(10, 7), (10, 8), (67, -1), (68, -1), (69, -1)] h h199 := my_fr.tr gh176 (frh199.mo rfl)
            have Mq_h199 : Mq h199 wv := Mq_ag (my_ag.fr frh199 rfl) Mq_h176
            have P6_h199 : h199 167 6 = h 167 6 := P6_ag (my_ag.fr frh199 rfl) P6_h176
            show wp l rho (d + 3) 189 121 [(2, 151), (0, x1), (9, 0)] [(0, 0), (0, x1), (2, 169)] h199 Q
            have hi217 : 0 ≤ 0 := by omega
            have hi218 : 0 ≤ 7 := by omega
            refine w_iast gz_189_121 is_169 rd_68 (by omega) (by omega) (by omega) (by omega) (fun h219 fh219 => ?_)
            have gh219 : my_fr [(10, 7), (10, 8), (67, -1), (68, -1), (69, -1)] h h219 := my_fr.up gh199 is_169 fh219 rfl
            have Mq_h219 : Mq h219 wv := Mq_u (a := 169) hwv (by decide) (by omega) fh219 Mq_h199
            have P6_h219 : h219 167 6 = h 167 6 := P6_ag (my_ag.up fh219 is_169 rfl) P6_h199
            have Tok_h219 : Tok h219 := Tok_ag (my_ag.up fh219 is_169 rfl) Tok_h199t203
            have k169 := my_up_self fh219
            have ce220 : h219 151 7 = h199 151 7 := ((my_up_role fh219 is_151 is_169 rfl).trans (rfl : h199 151 7 = h199 151 7))
            have ce221 : h219 151 27 = v196 := ((my_up_role fh219 is_151 is_169 rfl).trans ((my_fr.at frh199 is_151 rfl).trans ev196.symm))
            have a168 : ∀ j : Int, h219 168 j = h2 168 j := fun j => ((my_up_role fh219 is_168 is_169 rfl).trans ((my_fr.at frh199 is_168 rfl).trans ((my_fr.at frh176 is_168 rfl).trans ((my_up_role fh168 is_168 is_170 rfl).trans ((my_fr.at frh130 is_168 rfl).trans (rfl : h2 168 j = h2 168 j))))))
            have a170 : ∀ j : Int, h219 170 j = h168 170 j := fun j => ((my_up_role fh219 is_170 is_169 rfl).trans ((my_fr.at frh199 is_170 rfl).trans ((my_fr.at frh176 is_170 rfl).trans (rfl : h168 170 j = h168 170 j))))
            have a169 : ∀ j : Int, h219 169 j = h219 169 j := fun _ => rfl
            have a157 : ∀ j : Int, h219 157 j = h 157 j := fun j => ((my_up_role fh219 is_157 is_169 rfl).trans ((my_fr.at frh199 is_157 rfl).trans ((my_fr.at frh176 is_157 rfl).trans ((my_up_role fh168 is_157 is_170 rfl).trans ((my_fr.at frh130 is_157 rfl).trans ((my_up_role fh2 is_157 is_168 rfl).trans (rfl : h 157 j = h 157 j)))))))
            have c222 := ((my_up_role fh219 is_151 is_169 rfl).trans (rfl : h199 151 8 = h199 151 8))
            exact w_vret gz_189_122 gm_189 (k0 h219 (gh219) (by omega) (by omega) (by first | omega | (exfalso; subst_vars; omega) | (exfalso; clear k0 k1; grind) | (refine ⟨fun q => ?_, fun q => ?_⟩ <;> first | (rw [a168, k168] at q; omega) | (have kz := k170.trans (show _ = vz by omega); rw [a170, kz, a157]; omega)) | (refine ⟨fun q => ?_, fun q => ?_, fun q => ?_⟩ <;> first | (exfalso; rw [a168, k168] at q; omega) | (rw [a169, k169]; omega))) Tok_h219 Mq_h219)
          ·
            have gh204 : my_fr [(10, 7), (10, 8), (67, -1), (68, -1), (69, -1)] h h204 := my_fr.tr gh176 (frh204.mo rfl)
            have Mq_h204 : Mq h204 wv := Mq_ag (my_ag.fr frh204 rfl) Mq_h176
            have P6_h204 : h204 167 6 = h 167 6 := P6_ag (my_ag.fr frh204 rfl) P6_h176
            show wp l rho (d + 3) 189 121 [(2, 151), (0, x1), (9, 0)] [(0, v205), (0, x1), (2, 169)] h204 Q
            have hi223 : 0 ≤ v205 := by omega
            have hi224 : v205 ≤ 7 := by omega
            refine w_iast gz_189_121 is_169 rd_68 (by omega) (by omega) (by omega) (by omega) (fun h225 fh225 => ?_)
            have gh225 : my_fr [(10, 7), (10, 8), (67, -1), (68, -1), (69, -1)] h h225 := my_fr.up gh204 is_169 fh225 rfl
            have Mq_h225 : Mq h225 wv := Mq_u (a := 169) hwv (by decide) (by omega) fh225 Mq_h204
            have P6_h225 : h225 167 6 = h 167 6 := P6_ag (my_ag.up fh225 is_169 rfl) P6_h204
            have Tok_h225 : Tok h225 := Tok_ag (my_ag.up fh225 is_169 rfl) Tok_h204t216
            have k169 := my_up_self fh225
            have ce226 : h225 151 7 = (h204 151 7) := ((my_up_role fh225 is_151 is_169 rfl).trans (rfl : h204 151 7 = h204 151 7))
            have ce227 : h225 151 27 = v196 := ((my_up_role fh225 is_151 is_169 rfl).trans ((my_fr.at frh204 is_151 rfl).trans ev196.symm))
            have a168 : ∀ j : Int, h225 168 j = h2 168 j := fun j => ((my_up_role fh225 is_168 is_169 rfl).trans ((my_fr.at frh204 is_168 rfl).trans ((my_fr.at frh176 is_168 rfl).trans ((my_up_role fh168 is_168 is_170 rfl).trans ((my_fr.at frh130 is_168 rfl).trans (rfl : h2 168 j = h2 168 j))))))
            have a170 : ∀ j : Int, h225 170 j = h168 170 j := fun j => ((my_up_role fh225 is_170 is_169 rfl).trans ((my_fr.at frh204 is_170 rfl).trans ((my_fr.at frh176 is_170 rfl).trans (rfl : h168 170 j = h168 170 j))))
            have a169 : ∀ j : Int, h225 169 j = h225 169 j := fun _ => rfl
            have a157 : ∀ j : Int, h225 157 j = h 157 j := fun j => ((my_up_role fh225 is_157 is_169 rfl).trans ((my_fr.at frh204 is_157 rfl).trans ((my_fr.at frh176 is_157 rfl).trans ((my_up_role fh168 is_157 is_170 rfl).trans ((my_fr.at frh130 is_157 rfl).trans ((my_up_role fh2 is_157 is_168 rfl).trans (rfl : h 157 j = h 157 j)))))))
            have c228 := ((my_up_role fh225 is_151 is_169 rfl).trans (rfl : h204 151 7 = h204 151 7))
            have c229 := ((my_up_role fh225 is_151 is_169 rfl).trans w210)
            exact w_vret gz_189_122 gm_189 (k1 h225 (gh225) (by omega) (by omega) (by omega) (by first | omega | (exfalso; subst_vars; omega) | (exfalso; clear k0 k1; grind) | (refine ⟨fun q => ?_, fun q => ?_⟩ <;> first | (rw [a168, k168] at q; omega) | (have kz := k170.trans (show _ = vz by omega); rw [a170, kz, a157]; omega)) | (refine ⟨fun q => ?_, fun q => ?_, fun q => ?_⟩ <;> first | (exfalso; rw [a168, k168] at q; omega) | (rw [a169, k169]; omega))) (by first | omega | (exfalso; subst_vars; omega) | (exfalso; clear k0 k1; grind) | (refine ⟨fun q => ?_, fun q => ?_⟩ <;> first | (rw [a168, k168] at q; omega) | (have kz := k170.trans (show _ = vz by omega); rw [a170, kz, a157]; omega)) | (refine ⟨fun q => ?_, fun q => ?_, fun q => ?_⟩ <;> first | (exfalso; rw [a168, k168] at q; omega) | (rw [a169, k169]; omega))) (by first | omega | (exfalso; subst_vars; omega) | (exfalso; clear k0 k1; grind) | (refine ⟨fun q => ?_, fun q => ?_⟩ <;> first | (rw [a168, k168] at q; omega) | (have kz := k170.trans (show _ = vz by omega); rw [a170, kz, a157]; omega)) | (refine ⟨fun q => ?_, fun q => ?_, fun q => ?_⟩ <;> first | (exfalso; rw [a168, k168] at q; omega) | (rw [a169, k169]; omega))) Tok_h225 Mq_h225)
    ·
      refine w_aload_n gz_189_43 rfl ?_
      refine w_getX (v := 157) gz_189_44 is_151 rd_10 rfl (by decide) rfl ?_
      refine w_aload_n gz_189_47 rfl ?_
      refine w_getX (v := 155) gz_189_48 is_151 rd_10 rfl (by decide) rfl ?_
      refine w_aload_n gz_189_51 rfl ?_
      refine v_getI (j := 7) gz_189_52 rfl is_151 rd_10 rfl (fun v232 ev232 pv232 qv232 => ?_)
      have zv232 := ev232.trans ev118.symm
      refine w_lald gz_189_55 is_155 rd_54 (by omega) (by omega) (fun v233 ev233 pv233 => ?_)
      have tb : 0 ≤ v233 ∧ v233 ≤ 999 := by
        have q := Tok_at Tok_h2
        subst_vars
        omega
      refine w_l2iE gz_189_56 (fun v234 pv234 qv234 xv234 => ?_)
      have z155 : v234 = h2 155 (h2 151 7) := by subst_vars; omega
      have hi235 : 0 ≤ v234 := by subst_vars; omega
      have hi236 : v234 ≤ 2 := by subst_vars; omega
      refine w_iald gz_189_57 is_157 rd_56 (by omega) (by omega) (fun v237 ev237 pv237 qv237 => ?_)
      have b157 : ∀ j : Int, h2 157 j = h 157 j := fun j => ((my_up_role fh2 is_157 is_168 rfl).trans (rfl : h 157 j = h 157 j))
      obtain ⟨vz, ez⟩ : ∃ vz : Int, vz = h2 155 (h2 151 7) := ⟨_, rfl⟩
      have c157 : v237 = h 157 vz := by rw [ez, ← z155, ← b157]; omega
      refine w_istore_n (ls' := [(2, 151), (0, x1), (0, v237)]) gz_189_58 gm_189 rfl rfl rfl ?_
      refine w_iload_n gz_189_59 rfl ?_
      refine w_ifeq (t := 76) gz_189_60 rfl (fun u238 => ?_) (fun u238 => ?_)
      ·
        refine w_aload_n gz_189_76 rfl ?_
        refine w_iload_n gz_189_77 rfl ?_
        refine w_ifne (t := 85) gz_189_78 rfl (fun u239 => by exfalso; omega) (fun u239 => ?_)
        refine w_iconst gz_189_81 (by decide) ?_
        refine w_goto (t := 86) gz_189_82 rfl ?_
        have ce240 : h2 151 7 = v232 := ev232.symm
        have ce241 : h2 151 27 = k151_27 := ((my_up_role fh2 is_151 is_168 rfl).trans ek151_27.symm)
        refine w_inv (k := 0) (as := [(0, 2)]) (r := []) (x := 151) (ls0 := [(2, 151), (0, 2)]) gz_189_86 gm_178 rfl is_151 rd_10 rfl rfl rfl rfl rfl ?_
        refine w_aload_n gz_178_0 rfl ?_
        refine v_getI (j := 8) gz_178_1 rfl is_151 rd_10 rfl (fun v242 ev242 pv242 qv242 => ?_)
        have zv242 := ev242.trans ev3.symm
        refine w_ifne (t := 25) gz_178_4 rfl (fun u243 => by exfalso; omega) (fun u243 => ?_)
        refine w_aload_n gz_178_7 rfl ?_
        refine w_iload_n gz_178_8 rfl ?_
        refine w_bipush gz_178_9 (by decide) ?_
        refine w_aload_n gz_178_11 rfl ?_
        refine w_getX (v := 154) gz_178_12 is_151 rd_10 rfl (by decide) rfl ?_
        refine w_aload_n gz_178_15 rfl ?_
        refine v_getI (j := 7) gz_178_16 rfl is_151 rd_10 rfl (fun v245 ev245 pv245 qv245 => ?_)
        have zv245 := ev245.trans ev232.symm
        refine w_iald gz_178_19 is_154 rd_53 (by omega) (by omega) (fun v246 ev246 pv246 qv246 => ?_)
        refine w_imul gz_178_20 ⟨by omega, by omega⟩ ?_
        refine w_iadd gz_178_21 ⟨by omega, by omega⟩ ?_
        refine v_putI (j := 8) gz_178_22 rfl is_151 rd_10 rfl (by omega) (by omega) rfl (fun h247 fh247 => ?_)
        have gh247 : my_fr [(10, 7), (10, 8), (67, -1), (68, -1), (69, -1)] h h247 := my_fr.up gh2 is_151 fh247 rfl
        have Tok_h247 : Tok h247 := Tok_ag (my_ag.up fh247 is_151 rfl) Tok_h2
        have Mq_h247 : Mq h247 wv := Mq_ag (my_ag.up fh247 is_151 rfl) Mq_h2
        have P6_h247 : h247 167 6 = h 167 6 := P6_ag (my_ag.up fh247 is_151 rfl) P6_h2
        refine w_vret gz_178_25 gm_178 ?_
        show wp l rho (d + 3) 189 89 [(2, 151), (0, x1), (0, v237)] [] h247 Q
        refine w_aload_n gz_189_89 rfl ?_
        refine w_getX (v := 170) gz_189_90 is_151 rd_10 rfl (by decide) rfl ?_
        refine w_iload_n gz_189_93 rfl ?_
        refine w_aload_n gz_189_94 rfl ?_
        refine w_iconst gz_189_95 (by decide) ?_
        have ce249 : h247 151 7 = v245 := ((my_up_fld fh247 (by decide)).trans ev245.symm)
        have ce250 : h247 151 27 = k151_27 := ((my_up_fld fh247 (by decide)).trans ((my_up_role fh2 is_151 is_168 rfl).trans ek151_27.symm))
        refine w_inv (k := 0) (as := [(0, 2)]) (r := [(0, x1), (2, 170)]) (x := 151) (ls0 := [(2, 151), (0, 2)]) gz_189_96 gm_187 rfl is_151 rd_10 rfl rfl rfl rfl rfl (c_Model_takeNumber2_f1 (d := (d + 1)) (x1 := 2) (by omega) (by omega) ((2 + (16 * v246))) ((my_up_self fh247)) (by omega) (by omega) Tok_h247 (fun w251 w252 xp253 Tok_h247t254 => ?_))
        show wp l rho (d + 3) 189 99 [(2, 151), (0, x1), (0, v237)] [(0, 0), (0, x1), (2, 170)] h247 Q
        have hi255 : 0 ≤ 0 := by omega
        have hi256 : 0 ≤ 2 := by omega
        refine w_iast gz_189_99 is_170 rd_69 (by omega) (by omega) (by omega) (by omega) (fun h257 fh257 => ?_)
        have gh257 : my_fr [(10, 7), (10, 8), (67, -1), (68, -1), (69, -1)] h h257 := my_fr.up gh247 is_170 fh257 rfl
        have Tok_h257 : Tok h257 := Tok_ag (my_ag.up fh257 is_170 rfl) Tok_h247t254
        have Mq_h257 : Mq h257 wv := Mq_u (a := 170) hwv (by decide) (by omega) fh257 Mq_h247
        have P6_h257 : h257 167 6 = h 167 6 := P6_ag (my_ag.up fh257 is_170 rfl) P6_h247
        have k170 := my_up_self fh257
        refine w_aload_n gz_189_100 rfl ?_
        refine w_bipush gz_189_101 (by decide) ?_
        have ce258 : h257 151 7 = v245 := ((my_up_role fh257 is_151 is_170 rfl).trans ((my_up_fld fh247 (by decide)).trans ev245.symm))
        have ce259 : h257 151 27 = k151_27 := ((my_up_role fh257 is_151 is_170 rfl).trans ((my_up_fld fh247 (by decide)).trans ((my_up_role fh2 is_151 is_168 rfl).trans ek151_27.symm)))
        refine w_inv (k := 0) (as := [(0, 9)]) (r := []) (x := 151) (ls0 := [(2, 151), (0, 9)]) gz_189_103 gm_175 rfl is_151 rd_10 rfl rfl rfl rfl rfl (c_Model_takeWord_f1 (d := d)  ((2 + (16 * v246))) (((my_up_role fh257 is_151 is_170 rfl).trans (my_up_self fh247))) (by omega) (by omega) Tok_h257 (fun h260 frh260 w261 w262 xp263 Tok_h260t264 => ?_))
        have gh260 : my_fr [(10, 7), (10, 8), (67, -1), (68, -1), (69, -1)] h h260 := my_fr.tr gh257 (frh260.mo rfl)
        have Mq_h260 : Mq h260 wv := Mq_ag (my_ag.fr frh260 rfl) Mq_h257
        have P6_h260 : h260 167 6 = h 167 6 := P6_ag (my_ag.fr frh260 rfl) P6_h257
        show wp l rho (d + 3) 189 106 [(2, 151), (0, x1), (0, v237)] [] h260 Q
        refine w_aload_n gz_189_106 rfl ?_
        refine w_getX (v := 169) gz_189_107 is_151 rd_10 rfl (by decide) rfl ?_
        refine w_iload_n gz_189_110 rfl ?_
        refine w_aload_n gz_189_111 rfl ?_
        refine w_aload_n gz_189_112 rfl ?_
        refine v_getI (j := 27) gz_189_113 rfl is_151 rd_10 rfl (fun v266 ev266 pv266 qv266 => ?_)
        have zv266 := ev266.trans ((my_fr.at frh260 is_151 rfl).trans ((my_up_role fh257 is_151 is_170 rfl).trans ((my_up_fld fh247 (by decide)).trans ((my_up_role fh2 is_151 is_168 rfl).trans ek151_27.symm))))
        refine w_iconst gz_189_116 (by decide) ?_
        refine w_isub gz_189_117 ⟨by omega, by omega⟩ ?_
        have ce267 : h260 151 27 = v266 := ev266.symm
        refine w_inv (k := 0) (as := [(0, (v266 - 1))]) (r := [(0, x1), (2, 169)]) (x := 151) (ls0 := [(2, 151), (0, (v266 - 1))]) gz_189_118 gm_187 rfl is_151 rd_10 rfl rfl rfl rfl rfl (c_Model_takeNumber2_f1 (d := (d + 1)) (x1 := (v266 - 1)) (by omega) (by omega) ((2 + (16 * v246))) (((my_fr.at frh260 is_151 rfl).trans ((my_up_role fh257 is_151 is_170 rfl).trans (my_up_self fh247)))) (by omega) (by omega) Tok_h260t264 (fun w268 w269 xp270 Tok_h260t271 => ?_))
        show wp l rho (d + 3) 189 121 [(2, 151), (0, x1), (0, v237)] [(0, 0), (0, x1), (2, 169)] h260 Q
        have hi272 : 0 ≤ 0 := by omega
        have hi273 : 0 ≤ 7 := by omega
        refine w_iast gz_189_121 is_169 rd_68 (by omega) (by omega) (by omega) (by omega) (fun h274 fh274 => ?_)
        have gh274 : my_fr [(10, 7), (10, 8), (67, -1), (68, -1), (69, -1)] h h274 := my_fr.up gh260 is_169 fh274 rfl
        have Mq_h274 : Mq h274 wv := Mq_u (a := 169) hwv (by decide) (by omega) fh274 Mq_h260
        have P6_h274 : h274 167 6 = h 167 6 := P6_ag (my_ag.up fh274 is_169 rfl) P6_h260
        have Tok_h274 : Tok h274 := Tok_ag (my_ag.up fh274 is_169 rfl) Tok_h260t271
        have k169 := my_up_self fh274
        have ce275 : h274 151 7 = h260 151 7 := ((my_up_role fh274 is_151 is_169 rfl).trans (rfl : h260 151 7 = h260 151 7))
        have ce276 : h274 151 27 = v266 := ((my_up_role fh274 is_151 is_169 rfl).trans ev266.symm)
        have a168 : ∀ j : Int, h274 168 j = h2 168 j := fun j => ((my_up_role fh274 is_168 is_169 rfl).trans ((my_fr.at frh260 is_168 rfl).trans ((my_up_role fh257 is_168 is_170 rfl).trans ((my_up_role fh247 is_168 is_151 rfl).trans (rfl : h2 168 j = h2 168 j)))))
        have a170 : ∀ j : Int, h274 170 j = h257 170 j := fun j => ((my_up_role fh274 is_170 is_169 rfl).trans ((my_fr.at frh260 is_170 rfl).trans (rfl : h257 170 j = h257 170 j)))
        have a169 : ∀ j : Int, h274 169 j = h274 169 j := fun _ => rfl
        have a157 : ∀ j : Int, h274 157 j = h 157 j := fun j => ((my_up_role fh274 is_157 is_169 rfl).trans ((my_fr.at frh260 is_157 rfl).trans ((my_up_role fh257 is_157 is_170 rfl).trans ((my_up_role fh247 is_157 is_151 rfl).trans ((my_up_role fh2 is_157 is_168 rfl).trans (rfl : h 157 j = h 157 j))))))
        have c277 := ((my_up_role fh274 is_151 is_169 rfl).trans ((my_fr.at frh260 is_151 rfl).trans ((my_up_role fh257 is_151 is_170 rfl).trans (my_up_self fh247))))
        exact w_vret gz_189_122 gm_189 (k0 h274 (gh274) (by omega) (by omega) (by first | omega | (exfalso; subst_vars; omega) | (exfalso; clear k0 k1; grind) | (refine ⟨fun q => ?_, fun q => ?_⟩ <;> first | (rw [a168, k168] at q; omega) | (have kz := k170.trans (show _ = vz by omega); rw [a170, kz, a157]; omega)) | (refine ⟨fun q => ?_, fun q => ?_, fun q => ?_⟩ <;> first | (exfalso; rw [a168, k168] at q; omega) | (rw [a169, k169]; omega))) Tok_h274 Mq_h274)
      ·
        refine w_aload_n gz_189_63 rfl ?_
        refine v_getI (j := 27) gz_189_64 rfl is_151 rd_10 rfl (fun v278 ev278 pv278 qv278 => ?_)
        have zv278 := ev278.trans ((my_up_role fh2 is_151 is_168 rfl).trans ek151_27.symm)
        refine w_iload_n gz_189_67 rfl ?_
        refine w_iadd gz_189_68 ⟨by omega, by omega⟩ ?_
        refine w_iconst gz_189_69 (by decide) ?_
        refine w_isub gz_189_70 ⟨by omega, by omega⟩ ?_
        refine w_bipush gz_189_71 (by decide) ?_
        refine w_icle (t := 89) gz_189_73 rfl (fun u279 => ?_) (fun u279 => ?_)
        ·
          refine w_aload_n gz_189_89 rfl ?_
          refine w_getX (v := 170) gz_189_90 is_151 rd_10 rfl (by decide) rfl ?_
          refine w_iload_n gz_189_93 rfl ?_
          refine w_aload_n gz_189_94 rfl ?_
          refine w_iconst gz_189_95 (by decide) ?_
          have ce281 : h2 151 7 = v232 := ev232.symm
          have ce282 : h2 151 27 = v278 := ev278.symm
          refine w_inv (k := 0) (as := [(0, 2)]) (r := [(0, x1), (2, 170)]) (x := 151) (ls0 := [(2, 151), (0, 2)]) gz_189_96 gm_187 rfl is_151 rd_10 rfl rfl rfl rfl rfl (c_Model_takeNumber2_f0 (d := (d + 1)) (x1 := 2) (by omega) (by omega) (ev3.symm.trans (by omega)) Tok_h2 (fun h283 frh283 w284 w285 xp286 Tok_h283t287 => ?_) (fun h288 v289 frh288 w290 w291 w292 w293 w294 xp295 xp296 xp297 xp298 xp299 Tok_h288t300 => ?_))
          ·
            have gh283 : my_fr [(10, 7), (10, 8), (67, -1), (68, -1), (69, -1)] h h283 := my_fr.tr gh2 (frh283.mo rfl)
            have Mq_h283 : Mq h283 wv := Mq_ag (my_ag.fr frh283 rfl) Mq_h2
            have P6_h283 : h283 167 6 = h 167 6 := P6_ag (my_ag.fr frh283 rfl) P6_h2
            show wp l rho (d + 3) 189 99 [(2, 151), (0, x1), (0, v237)] [(0, 0), (0, x1), (2, 170)] h283 Q
            have hi301 : 0 ≤ 0 := by omega
            have hi302 : 0 ≤ 2 := by omega
            refine w_iast gz_189_99 is_170 rd_69 (by omega) (by omega) (by omega) (by omega) (fun h303 fh303 => ?_)
            have gh303 : my_fr [(10, 7), (10, 8), (67, -1), (68, -1), (69, -1)] h h303 := my_fr.up gh283 is_170 fh303 rfl
            have Mq_h303 : Mq h303 wv := Mq_u (a := 170) hwv (by decide) (by omega) fh303 Mq_h283
            have P6_h303 : h303 167 6 = h 167 6 := P6_ag (my_ag.up fh303 is_170 rfl) P6_h283
            have Tok_h303 : Tok h303 := Tok_ag (my_ag.up fh303 is_170 rfl) Tok_h283t287
            have k170 := my_up_self fh303
            refine w_aload_n gz_189_100 rfl ?_
            refine w_bipush gz_189_101 (by decide) ?_
            have ce304 : h303 151 7 = h283 151 7 := ((my_up_role fh303 is_151 is_170 rfl).trans (rfl : h283 151 7 = h283 151 7))
            have ce305 : h303 151 27 = v278 := ((my_up_role fh303 is_151 is_170 rfl).trans ((my_fr.at frh283 is_151 rfl).trans ev278.symm))
            refine w_inv (k := 0) (as := [(0, 9)]) (r := []) (x := 151) (ls0 := [(2, 151), (0, 9)]) gz_189_103 gm_175 rfl is_151 rd_10 rfl rfl rfl rfl rfl (c_Model_takeWord_f1 (d := d)  ((h283 151 8)) (((my_up_role fh303 is_151 is_170 rfl).trans (rfl : h283 151 8 = h283 151 8))) (by omega) (by omega) Tok_h303 (fun h306 frh306 w307 w308 xp309 Tok_h306t310 => ?_))
            have gh306 : my_fr [(10, 7), (10, 8), (67, -1), (68, -1), (69, -1)] h h306 := my_fr.tr gh303 (frh306.mo rfl)
            have Mq_h306 : Mq h306 wv := Mq_ag (my_ag.fr frh306 rfl) Mq_h303
            have P6_h306 : h306 167 6 = h 167 6 := P6_ag (my_ag.fr frh306 rfl) P6_h303
            show wp l rho (d + 3) 189 106 [(2, 151), (0, x1), (0, v237)] [] h306 Q
            refine w_aload_n gz_189_106 rfl ?_
            refine w_getX (v := 169) gz_189_107 is_151 rd_10 rfl (by decide) rfl ?_
            refine w_iload_n gz_189_110 rfl ?_
            refine w_aload_n gz_189_111 rfl ?_
            refine w_aload_n gz_189_112 rfl ?_
            refine v_getI (j := 27) gz_189_113 rfl is_151 rd_10 rfl (fun v312 ev312 pv312 qv312 => ?_)
            have zv312 := ev312.trans ((my_fr.at frh306 is_151 rfl).trans ((my_up_role fh303 is_151 is_170 rfl).trans ((my_fr.at frh283 is_151 rfl).trans ev278.symm)))
            refine w_iconst gz_189_116 (by decide) ?_
            refine w_isub gz_189_117 ⟨by omega, by omega⟩ ?_
            have ce313 : h306 151 27 = v312 := ev312.symm
            refine w_inv (k := 0) (as := [(0, (v312 - 1))]) (r := [(0, x1), (2, 169)]) (x := 151) (ls0 := [(2, 151), (0, (v312 - 1))]) gz_189_118 gm_187 rfl is_151 rd_10 rfl rfl rfl rfl rfl (c_Model_takeNumber2_f1 (d := (d + 1)) (x1 := (v312 - 1)) (by omega) (by omega) ((h283 151 8)) (((my_fr.at frh306 is_151 rfl).trans ((my_up_role fh303 is_151 is_170 rfl).trans (rfl : h283 151 8 = h283 151 8)))) (by omega) (by omega) Tok_h306t310 (fun w314 w315 xp316 Tok_h306t317 => ?_))
            show wp l rho (d + 3) 189 121 [(2, 151), (0, x1), (0, v237)] [(0, 0), (0, x1), (2, 169)] h306 Q
            have hi318 : 0 ≤ 0 := by omega
            have hi319 : 0 ≤ 7 := by omega
            refine w_iast gz_189_121 is_169 rd_68 (by omega) (by omega) (by omega) (by omega) (fun h320 fh320 => ?_)
            have gh320 : my_fr [(10, 7), (10, 8), (67, -1), (68, -1), (69, -1)] h h320 := my_fr.up gh306 is_169 fh320 rfl
            have Mq_h320 : Mq h320 wv := Mq_u (a := 169) hwv (by decide) (by omega) fh320 Mq_h306
            have P6_h320 : h320 167 6 = h 167 6 := P6_ag (my_ag.up fh320 is_169 rfl) P6_h306
            have Tok_h320 : Tok h320 := Tok_ag (my_ag.up fh320 is_169 rfl) Tok_h306t317
            have k169 := my_up_self fh320
            have ce321 : h320 151 7 = h306 151 7 := ((my_up_role fh320 is_151 is_169 rfl).trans (rfl : h306 151 7 = h306 151 7))
            have ce322 : h320 151 27 = v312 := ((my_up_role fh320 is_151 is_169 rfl).trans ev312.symm)
            have a168 : ∀ j : Int, h320 168 j = h2 168 j := fun j => ((my_up_role fh320 is_168 is_169 rfl).trans ((my_fr.at frh306 is_168 rfl).trans ((my_up_role fh303 is_168 is_170 rfl).trans ((my_fr.at frh283 is_168 rfl).trans (rfl : h2 168 j = h2 168 j)))))
            have a170 : ∀ j : Int, h320 170 j = h303 170 j := fun j => ((my_up_role fh320 is_170 is_169 rfl).trans ((my_fr.at frh306 is_170 rfl).trans (rfl : h303 170 j = h303 170 j)))
            have a169 : ∀ j : Int, h320 169 j = h320 169 j := fun _ => rfl
            have a157 : ∀ j : Int, h320 157 j = h 157 j := fun j => ((my_up_role fh320 is_157 is_169 rfl).trans ((my_fr.at frh306 is_157 rfl).trans ((my_up_role fh303 is_157 is_170 rfl).trans ((my_fr.at frh283 is_157 rfl).trans ((my_up_role fh2 is_157 is_168 rfl).trans (rfl : h 157 j = h 157 j))))))
            have c323 := ((my_up_role fh320 is_151 is_169 rfl).trans ((my_fr.at frh306 is_151 rfl).trans ((my_up_role fh303 is_151 is_170 rfl).trans (rfl : h283 151 8 = h283 151 8))))
            exact w_vret gz_189_122 gm_189 (k0 h320 (gh320) (by omega) (by omega) (by first | omega | (exfalso; subst_vars; omega) | (exfalso; clear k0 k1; grind) | (refine ⟨fun q => ?_, fun q => ?_⟩ <;> first | (rw [a168, k168] at q; omega) | (have kz := k170.trans (show _ = vz by omega); rw [a170, kz, a157]; omega)) | (refine ⟨fun q => ?_, fun q => ?_, fun q => ?_⟩ <;> first | (exfalso; rw [a168, k168] at q; omega) | (rw [a169, k169]; omega))) Tok_h320 Mq_h320)
          ·
            have gh288 : my_fr [(10, 7), (10, 8), (67, -1), (68, -1), (69, -1)] h h288 := my_fr.tr gh2 (frh288.mo rfl)
            have Mq_h288 : Mq h288 wv := Mq_ag (my_ag.fr frh288 rfl) Mq_h2
            have P6_h288 : h288 167 6 = h 167 6 := P6_ag (my_ag.fr frh288 rfl) P6_h2
            show wp l rho (d + 3) 189 99 [(2, 151), (0, x1), (0, v237)] [(0, v289), (0, x1), (2, 170)] h288 Q
            have hi324 : 0 ≤ v289 := by omega
            have hi325 : v289 ≤ 2 := by omega
            refine w_iast gz_189_99 is_170 rd_69 (by omega) (by omega) (by omega) (by omega) (fun h326 fh326 => ?_)
            have gh326 : my_fr [(10, 7), (10, 8), (67, -1), (68, -1), (69, -1)] h h326 := my_fr.up gh288 is_170 fh326 rfl
            have Mq_h326 : Mq h326 wv := Mq_u (a := 170) hwv (by decide) (by omega) fh326 Mq_h288
            have P6_h326 : h326 167 6 = h 167 6 := P6_ag (my_ag.up fh326 is_170 rfl) P6_h288
            have Tok_h326 : Tok h326 := Tok_ag (my_ag.up fh326 is_170 rfl) Tok_h288t300
            have k170 := my_up_self fh326
            refine w_aload_n gz_189_100 rfl ?_
            refine w_bipush gz_189_101 (by decide) ?_
            have ce327 : h326 151 7 = (h288 151 7) := ((my_up_role fh326 is_151 is_170 rfl).trans (rfl : h288 151 7 = h288 151 7))
            have ce328 : h326 151 27 = v278 := ((my_up_role fh326 is_151 is_170 rfl).trans ((my_fr.at frh288 is_151 rfl).trans ev278.symm))
            refine w_inv (k := 0) (as := [(0, 9)]) (r := []) (x := 151) (ls0 := [(2, 151), (0, 9)]) gz_189_103 gm_175 rfl is_151 rd_10 rfl rfl rfl rfl rfl (c_Model_takeWord_f0 (d := d) (x1 := 9) (by omega) (by omega) (((my_up_role fh326 is_151 is_170 rfl).trans w294).trans (by omega)) Tok_h326 (fun h329 frh329 w330 w331 xp332 Tok_h329t333 => ?_) (fun h334 frh334 w335 w336 w337 xp338 Tok_h334t339 => ?_))
            ·
              have gh329 : my_fr [(10, 7), (10, 8), (67, -1), (68, -1), (69, -1)] h h329 := my_fr.tr gh326 (frh329.mo rfl)
              have Mq_h329 : Mq h329 wv := Mq_ag (my_ag.fr frh329 rfl) Mq_h326
              have P6_h329 : h329 167 6 = h 167 6 := P6_ag (my_ag.fr frh329 rfl) P6_h326
              show wp l rho (d + 3) 189 106 [(2, 151), (0, x1), (0, v237)] [] h329 Q
              refine w_aload_n gz_189_106 rfl ?_
              refine w_getX (v := 169) gz_189_107 is_151 rd_10 rfl (by decide) rfl ?_
              refine w_iload_n gz_189_110 rfl ?_
              refine w_aload_n gz_189_111 rfl ?_
              refine w_aload_n gz_189_112 rfl ?_
              refine v_getI (j := 27) gz_189_113 rfl is_151 rd_10 rfl (fun v341 ev341 pv341 qv341 => ?_)
              have zv341 := ev341.trans ((my_fr.at frh329 is_151 rfl).trans ((my_up_role fh326 is_151 is_170 rfl).trans ((my_fr.at frh288 is_151 rfl).trans ev278.symm)))
              refine w_iconst gz_189_116 (by decide) ?_
              refine w_isub gz_189_117 ⟨by omega, by omega⟩ ?_
              have ce342 : h329 151 27 = v341 := ev341.symm
              refine w_inv (k := 0) (as := [(0, (v341 - 1))]) (r := [(0, x1), (2, 169)]) (x := 151) (ls0 := [(2, 151), (0, (v341 - 1))]) gz_189_118 gm_187 rfl is_151 rd_10 rfl rfl rfl rfl rfl (c_Model_takeNumber2_f1 (d := (d + 1)) (x1 := (v341 - 1)) (by omega) (by omega) ((h329 151 8)) ((rfl : h329 151 8 = h329 151 8)) (by omega) (by omega) Tok_h329t333 (fun w343 w344 xp345 Tok_h329t346 => ?_))
              show wp l rho (d + 3) 189 121 [(2, 151), (0, x1), (0, v237)] [(0, 0), (0, x1), (2, 169)] h329 Q
              have hi347 : 0 ≤ 0 := by omega
              have hi348 : 0 ≤ 7 := by omega
              refine w_iast gz_189_121 is_169 rd_68 (by omega) (by omega) (by omega) (by omega) (fun h349 fh349 => ?_)
              have gh349 : my_fr [(10, 7), (10, 8), (67, -1), (68, -1), (69, -1)] h h349 := my_fr.up gh329 is_169 fh349 rfl
              have Mq_h349 : Mq h349 wv := Mq_u (a := 169) hwv (by decide) (by omega) fh349 Mq_h329
              have P6_h349 : h349 167 6 = h 167 6 := P6_ag (my_ag.up fh349 is_169 rfl) P6_h329
              have Tok_h349 : Tok h349 := Tok_ag (my_ag.up fh349 is_169 rfl) Tok_h329t346
              have k169 := my_up_self fh349
              have ce350 : h349 151 7 = h329 151 7 := ((my_up_role fh349 is_151 is_169 rfl).trans (rfl : h329 151 7 = h329 151 7))
              have ce351 : h349 151 27 = v341 := ((my_up_role fh349 is_151 is_169 rfl).trans ev341.symm)
              have a168 : ∀ j : Int, h349 168 j = h2 168 j := fun j => ((my_up_role fh349 is_168 is_169 rfl).trans ((my_fr.at frh329 is_168 rfl).trans ((my_up_role fh326 is_168 is_170 rfl).trans ((my_fr.at frh288 is_168 rfl).trans (rfl : h2 168 j = h2 168 j)))))
              have a170 : ∀ j : Int, h349 170 j = h326 170 j := fun j => ((my_up_role fh349 is_170 is_169 rfl).trans ((my_fr.at frh329 is_170 rfl).trans (rfl : h326 170 j = h326 170 j)))
              have a169 : ∀ j : Int, h349 169 j = h349 169 j := fun _ => rfl
              have a157 : ∀ j : Int, h349 157 j = h 157 j := fun j => ((my_up_role fh349 is_157 is_169 rfl).trans ((my_fr.at frh329 is_157 rfl).trans ((my_up_role fh326 is_157 is_170 rfl).trans ((my_fr.at frh288 is_157 rfl).trans ((my_up_role fh2 is_157 is_168 rfl).trans (rfl : h 157 j = h 157 j))))))
              have c352 := ((my_up_role fh349 is_151 is_169 rfl).trans (rfl : h329 151 8 = h329 151 8))
              exact w_vret gz_189_122 gm_189 (k0 h349 (gh349) (by omega) (by omega) (by first | omega | (exfalso; subst_vars; omega) | (exfalso; clear k0 k1; grind) | (refine ⟨fun q => ?_, fun q => ?_⟩ <;> first | (rw [a168, k168] at q; omega) | (have kz := k170.trans (show _ = vz by omega); rw [a170, kz, a157]; omega)) | (refine ⟨fun q => ?_, fun q => ?_, fun q => ?_⟩ <;> first | (exfalso; rw [a168, k168] at q; omega) | (rw [a169, k169]; omega))) Tok_h349 Mq_h349)
            ·
              have gh334 : my_fr [(10, 7), (10, 8), (67, -1), (68, -1), (69, -1)] h h334 := my_fr.tr gh326 (frh334.mo rfl)
              have Mq_h334 : Mq h334 wv := Mq_ag (my_ag.fr frh334 rfl) Mq_h326
              have P6_h334 : h334 167 6 = h 167 6 := P6_ag (my_ag.fr frh334 rfl) P6_h326
              show wp l rho (d + 3) 189 106 [(2, 151), (0, x1), (0, v237)] [] h334 Q
              refine w_aload_n gz_189_106 rfl ?_
              refine w_getX (v := 169) gz_189_107 is_151 rd_10 rfl (by decide) rfl ?_
              refine w_iload_n gz_189_110 rfl ?_
              refine w_aload_n gz_189_111 rfl ?_
              refine w_aload_n gz_189_112 rfl ?_
              refine v_getI (j := 27) gz_189_113 rfl is_151 rd_10 rfl (fun v354 ev354 pv354 qv354 => ?_)
              have zv354 := ev354.trans ((my_fr.at frh334 is_151 rfl).trans ((my_up_role fh326 is_151 is_170 rfl).trans ((my_fr.at frh288 is_151 rfl).trans ev278.symm)))
              refine w_iconst gz_189_116 (by decide) ?_
              refine w_isub gz_189_117 ⟨by omega, by omega⟩ ?_
              have ce355 : h334 151 7 = (h334 151 7) := (rfl : h334 151 7 = h334 151 7)
              have ce356 : h334 151 27 = v354 := ev354.symm
              refine w_inv (k := 0) (as := [(0, (v354 - 1))]) (r := [(0, x1), (2, 169)]) (x := 151) (ls0 := [(2, 151), (0, (v354 - 1))]) gz_189_118 gm_187 rfl is_151 rd_10 rfl rfl rfl rfl rfl (c_Model_takeNumber2_f0 (d := (d + 1)) (x1 := (v354 - 1)) (by omega) (by omega) (w337.trans (by omega)) Tok_h334t339 (fun h357 frh357 w358 w359 xp360 Tok_h357t361 => ?_) (fun h362 v363 frh362 w364 w365 w366 w367 w368 xp369 xp370 xp371 xp372 xp373 Tok_h362t374 => ?_))
              ·
                have gh357 : my_fr [(10, 7), (10, 8), (67, -1), (68, -1), (69, -1)] h h357 := my_fr.tr gh334 (frh357.mo rfl)
                have Mq_h357 : Mq h357 wv := Mq_ag (my_ag.fr frh357 rfl) Mq_h334
                have P6_h357 : h357 167 6 = h 167 6 := P6_ag (my_ag.fr frh357 rfl) P6_h334
                show wp l rho (d + 3) 189 121 [(2, 151), (0, x1), (0, v237)] [(0, 0), (0, x1), (2, 169)] h357 Q
                have hi375 : 0 ≤ 0 := by omega
                have hi376 : 0 ≤ 7 := by omega
                refine w_iast gz_189_121 is_169 rd_68 (by omega) (by omega) (by omega) (by omega) (fun h377 fh377 => ?_)
                have gh377 : my_fr [(10, 7), (10, 8), (67, -1), (68, -1), (69, -1)] h h377 := my_fr.up gh357 is_169 fh377 rfl
                have Mq_h377 : Mq h377 wv := Mq_u (a := 169) hwv (by decide) (by omega) fh377 Mq_h357
                have P6_h377 : h377 167 6 = h 167 6 := P6_ag (my_ag.up fh377 is_169 rfl) P6_h357
                have Tok_h377 : Tok h377 := Tok_ag (my_ag.up fh377 is_169 rfl) Tok_h357t361
                have k169 := my_up_self fh377
                have ce378 : h377 151 7 = h357 151 7 := ((my_up_role fh377 is_151 is_169 rfl).trans (rfl : h357 151 7 = h357 151 7))
                have ce379 : h377 151 27 = v354 := ((my_up_role fh377 is_151 is_169 rfl).trans ((my_fr.at frh357 is_151 rfl).trans ev354.symm))
                have a168 : ∀ j : Int, h377 168 j = h2 168 j := fun j => ((my_up_role fh377 is_168 is_169 rfl).trans ((my_fr.at frh357 is_168 rfl).trans ((my_fr.at frh334 is_168 rfl).trans ((my_up_role fh326 is_168 is_170 rfl).trans ((my_fr.at frh288 is_168 rfl).trans (rfl : h2 168 j = h2 168 j))))))
                have a170 : ∀ j : Int, h377 170 j = h326 170 j := fun j => ((my_up_role fh377 is_170 is_169 rfl).trans ((my_fr.at frh357 is_170 rfl).trans ((my_fr.at frh334 is_170 rfl).trans (rfl : h326 170 j = h326 170 j))))
                have a169 : ∀ j : Int, h377 169 j = h377 169 j := fun _ => rfl
                have a157 : ∀ j : Int, h377 157 j = h 157 j := fun j => ((my_up_role fh377 is_157 is_169 rfl).trans ((my_fr.at frh357 is_157 rfl).trans ((my_fr.at frh334 is_157 rfl).trans ((my_up_role fh326 is_157 is_170 rfl).trans ((my_fr.at frh288 is_157 rfl).trans ((my_up_role fh2 is_157 is_168 rfl).trans (rfl : h 157 j = h 157 j)))))))
                have c380 := ((my_up_role fh377 is_151 is_169 rfl).trans (rfl : h357 151 8 = h357 151 8))
                exact w_vret gz_189_122 gm_189 (k0 h377 (gh377) (by omega) (by omega) (by first | omega | (exfalso; subst_vars; omega) | (exfalso; clear k0 k1; grind) | (refine ⟨fun q => ?_, fun q => ?_⟩ <;> first | (rw [a168, k168] at q; omega) | (have kz := k170.trans (show _ = vz by omega); rw [a170, kz, a157]; omega)) | (refine ⟨fun q => ?_, fun q => ?_, fun q => ?_⟩ <;> first | (exfalso; rw [a168, k168] at q; omega) | (rw [a169, k169]; omega))) Tok_h377 Mq_h377)
              ·
                have gh362 : my_fr [(10, 7), (10, 8), (67, -1), (68, -1), (69, -1)] h h362 := my_fr.tr gh334 (frh362.mo rfl)
                have Mq_h362 : Mq h362 wv := Mq_ag (my_ag.fr frh362 rfl) Mq_h334
                have P6_h362 : h362 167 6 = h 167 6 := P6_ag (my_ag.fr frh362 rfl) P6_h334
                show wp l rho (d + 3) 189 121 [(2, 151), (0, x1), (0, v237)] [(0, v363), (0, x1), (2, 169)] h362 Q
                have hi381 : 0 ≤ v363 := by omega
                have hi382 : v363 ≤ 7 := by omega
                refine w_iast gz_189_121 is_169 rd_68 (by omega) (by omega) (by omega) (by omega) (fun h383 fh383 => ?_)
                have gh383 : my_fr [(10, 7), (10, 8), (67, -1), (68, -1), (69, -1)] h h383 := my_fr.up gh362 is_169 fh383 rfl
                have Mq_h383 : Mq h383 wv := Mq_u (a := 169) hwv (by decide) (by omega) fh383 Mq_h362
                have P6_h383 : h383 167 6 = h 167 6 := P6_ag (my_ag.up fh383 is_169 rfl) P6_h362
                have Tok_h383 : Tok h383 := Tok_ag (my_ag.up fh383 is_169 rfl) Tok_h362t374
                have k169 := my_up_self fh383
                have ce384 : h383 151 7 = (h362 151 7) := ((my_up_role fh383 is_151 is_169 rfl).trans (rfl : h362 151 7 = h362 151 7))
                have ce385 : h383 151 27 = v354 := ((my_up_role fh383 is_151 is_169 rfl).trans ((my_fr.at frh362 is_151 rfl).trans ev354.symm))
                have a168 : ∀ j : Int, h383 168 j = h2 168 j := fun j => ((my_up_role fh383 is_168 is_169 rfl).trans ((my_fr.at frh362 is_168 rfl).trans ((my_fr.at frh334 is_168 rfl).trans ((my_up_role fh326 is_168 is_170 rfl).trans ((my_fr.at frh288 is_168 rfl).trans (rfl : h2 168 j = h2 168 j))))))
                have a170 : ∀ j : Int, h383 170 j = h326 170 j := fun j => ((my_up_role fh383 is_170 is_169 rfl).trans ((my_fr.at frh362 is_170 rfl).trans ((my_fr.at frh334 is_170 rfl).trans (rfl : h326 170 j = h326 170 j))))
                have a169 : ∀ j : Int, h383 169 j = h383 169 j := fun _ => rfl
                have a157 : ∀ j : Int, h383 157 j = h 157 j := fun j => ((my_up_role fh383 is_157 is_169 rfl).trans ((my_fr.at frh362 is_157 rfl).trans ((my_fr.at frh334 is_157 rfl).trans ((my_up_role fh326 is_157 is_170 rfl).trans ((my_fr.at frh288 is_157 rfl).trans ((my_up_role fh2 is_157 is_168 rfl).trans (rfl : h 157 j = h 157 j)))))))
                have c386 := ((my_up_role fh383 is_151 is_169 rfl).trans (rfl : h362 151 7 = h362 151 7))
                have c387 := ((my_up_role fh383 is_151 is_169 rfl).trans w368)
                exact w_vret gz_189_122 gm_189 (k1 h383 (gh383) (by omega) (by omega) (by omega) (by first | omega | (exfalso; subst_vars; omega) | (exfalso; clear k0 k1; grind) | (refine ⟨fun q => ?_, fun q => ?_⟩ <;> first | (rw [a168, k168] at q; omega) | (have kz := k170.trans (show _ = vz by omega); rw [a170, kz, a157]; omega)) | (refine ⟨fun q => ?_, fun q => ?_, fun q => ?_⟩ <;> first | (exfalso; rw [a168, k168] at q; omega) | (rw [a169, k169]; omega))) (by first | omega | (exfalso; subst_vars; omega) | (exfalso; clear k0 k1; grind) | (refine ⟨fun q => ?_, fun q => ?_⟩ <;> first | (rw [a168, k168] at q; omega) | (have kz := k170.trans (show _ = vz by omega); rw [a170, kz, a157]; omega)) | (refine ⟨fun q => ?_, fun q => ?_, fun q => ?_⟩ <;> first | (exfalso; rw [a168, k168] at q; omega) | (rw [a169, k169]; omega))) (by first | omega | (exfalso; subst_vars; omega) | (exfalso; clear k0 k1; grind) | (refine ⟨fun q => ?_, fun q => ?_⟩ <;> first | (rw [a168, k168] at q; omega) | (have kz := k170.trans (show _ = vz by omega); rw [a170, kz, a157]; omega)) | (refine ⟨fun q => ?_, fun q => ?_, fun q => ?_⟩ <;> first | (exfalso; rw [a168, k168] at q; omega) | (rw [a169, k169]; omega))) Tok_h383 Mq_h383)
        ·
          refine w_aload_n gz_189_76 rfl ?_
          refine w_iload_n gz_189_77 rfl ?_
          refine w_ifne (t := 85) gz_189_78 rfl (fun u388 => ?_) (fun u388 => by exfalso; omega)
          refine w_iconst gz_189_85 (by decide) ?_
          have ce389 : h2 151 7 = v232 := ev232.symm
          have ce390 : h2 151 27 = v278 := ev278.symm
          refine w_inv (k := 0) (as := [(0, 5)]) (r := []) (x := 151) (ls0 := [(2, 151), (0, 5)]) gz_189_86 gm_178 rfl is_151 rd_10 rfl rfl rfl rfl rfl ?_
          refine w_aload_n gz_178_0 rfl ?_
          refine v_getI (j := 8) gz_178_1 rfl is_151 rd_10 rfl (fun v391 ev391 pv391 qv391 => ?_)
          have zv391 := ev391.trans ev3.symm
          refine w_ifne (t := 25) gz_178_4 rfl (fun u392 => by exfalso; omega) (fun u392 => ?_)
          refine w_aload_n gz_178_7 rfl ?_
          refine w_iload_n gz_178_8 rfl ?_
          refine w_bipush gz_178_9 (by decide) ?_
          refine w_aload_n gz_178_11 rfl ?_
          refine w_getX (v := 154) gz_178_12 is_151 rd_10 rfl (by decide) rfl ?_
          refine w_aload_n gz_178_15 rfl ?_
          refine v_getI (j := 7) gz_178_16 rfl is_151 rd_10 rfl (fun v394 ev394 pv394 qv394 => ?_)
          have zv394 := ev394.trans ev232.symm
          refine w_iald gz_178_19 is_154 rd_53 (by omega) (by omega) (fun v395 ev395 pv395 qv395 => ?_)
          refine w_imul gz_178_20 ⟨by omega, by omega⟩ ?_
          refine w_iadd gz_178_21 ⟨by omega, by omega⟩ ?_
          refine v_putI (j := 8) gz_178_22 rfl is_151 rd_10 rfl (by omega) (by omega) rfl (fun h396 fh396 => ?_)
          have gh396 : my_fr [(10, 7), (10, 8), (67, -1), (68, -1), (69, -1)] h h396 := my_fr.up gh2 is_151 fh396 rfl
          have Tok_h396 : Tok h396 := Tok_ag (my_ag.up fh396 is_151 rfl) Tok_h2
          have Mq_h396 : Mq h396 wv := Mq_ag (my_ag.up fh396 is_151 rfl) Mq_h2
          have P6_h396 : h396 167 6 = h 167 6 := P6_ag (my_ag.up fh396 is_151 rfl) P6_h2
          refine w_vret gz_178_25 gm_178 ?_
          show wp l rho (d + 3) 189 89 [(2, 151), (0, x1), (0, v237)] [] h396 Q
          refine w_aload_n gz_189_89 rfl ?_
          refine w_getX (v := 170) gz_189_90 is_151 rd_10 rfl (by decide) rfl ?_
          refine w_iload_n gz_189_93 rfl ?_
          refine w_aload_n gz_189_94 rfl ?_
          refine w_iconst gz_189_95 (by decide) ?_
          have ce398 : h396 151 7 = v394 := ((my_up_fld fh396 (by decide)).trans ev394.symm)
          have ce399 : h396 151 27 = v278 := ((my_up_fld fh396 (by decide)).trans ev278.symm)
          refine w_inv (k := 0) (as := [(0, 2)]) (r := [(0, x1), (2, 170)]) (x := 151) (ls0 := [(2, 151), (0, 2)]) gz_189_96 gm_187 rfl is_151 rd_10 rfl rfl rfl rfl rfl (c_Model_takeNumber2_f1 (d := (d + 1)) (x1 := 2) (by omega) (by omega) ((5 + (16 * v395))) ((my_up_self fh396)) (by omega) (by omega) Tok_h396 (fun w400 w401 xp402 Tok_h396t403 => ?_))
          show wp l rho (d + 3) 189 99 [(2, 151), (0, x1), (0, v237)] [(0, 0), (0, x1), (2, 170)] h396 Q
          have hi404 : 0 ≤ 0 := by omega
          have hi405 : 0 ≤ 2 := by omega
          refine w_iast gz_189_99 is_170 rd_69 (by omega) (by omega) (by omega) (by omega) (fun h406 fh406 => ?_)
          have gh406 : my_fr [(10, 7), (10, 8), (67, -1), (68, -1), (69, -1)] h h406 := my_fr.up gh396 is_170 fh406 rfl
          have Tok_h406 : Tok h406 := Tok_ag (my_ag.up fh406 is_170 rfl) Tok_h396t403
          have Mq_h406 : Mq h406 wv := Mq_u (a := 170) hwv (by decide) (by omega) fh406 Mq_h396
          have P6_h406 : h406 167 6 = h 167 6 := P6_ag (my_ag.up fh406 is_170 rfl) P6_h396
          have k170 := my_up_self fh406
          refine w_aload_n gz_189_100 rfl ?_
          refine w_bipush gz_189_101 (by decide) ?_
          have ce407 : h406 151 7 = v394 := ((my_up_role fh406 is_151 is_170 rfl).trans ((my_up_fld fh396 (by decide)).trans ev394.symm))
          have ce408 : h406 151 27 = v278 := ((my_up_role fh406 is_151 is_170 rfl).trans ((my_up_fld fh396 (by decide)).trans ev278.symm))
          refine w_inv (k := 0) (as := [(0, 9)]) (r := []) (x := 151) (ls0 := [(2, 151), (0, 9)]) gz_189_103 gm_175 rfl is_151 rd_10 rfl rfl rfl rfl rfl (c_Model_takeWord_f1 (d := d)  ((5 + (16 * v395))) (((my_up_role fh406 is_151 is_170 rfl).trans (my_up_self fh396))) (by omega) (by omega) Tok_h406 (fun h409 frh409 w410 w411 xp412 Tok_h409t413 => ?_))
          have gh409 : my_fr [(10, 7), (10, 8), (67, -1), (68, -1), (69, -1)] h h409 := my_fr.tr gh406 (frh409.mo rfl)
          have Mq_h409 : Mq h409 wv := Mq_ag (my_ag.fr frh409 rfl) Mq_h406
          have P6_h409 : h409 167 6 = h 167 6 := P6_ag (my_ag.fr frh409 rfl) P6_h406
          show wp l rho (d + 3) 189 106 [(2, 151), (0, x1), (0, v237)] [] h409 Q
          refine w_aload_n gz_189_106 rfl ?_
          refine w_getX (v := 169) gz_189_107 is_151 rd_10 rfl (by decide) rfl ?_
          refine w_iload_n gz_189_110 rfl ?_
          refine w_aload_n gz_189_111 rfl ?_
          refine w_aload_n gz_189_112 rfl ?_
          refine v_getI (j := 27) gz_189_113 rfl is_151 rd_10 rfl (fun v415 ev415 pv415 qv415 => ?_)
          have zv415 := ev415.trans ((my_fr.at frh409 is_151 rfl).trans ((my_up_role fh406 is_151 is_170 rfl).trans ((my_up_fld fh396 (by decide)).trans ev278.symm)))
          refine w_iconst gz_189_116 (by decide) ?_
          refine w_isub gz_189_117 ⟨by omega, by omega⟩ ?_
          have ce416 : h409 151 27 = v415 := ev415.symm
          refine w_inv (k := 0) (as := [(0, (v415 - 1))]) (r := [(0, x1), (2, 169)]) (x := 151) (ls0 := [(2, 151), (0, (v415 - 1))]) gz_189_118 gm_187 rfl is_151 rd_10 rfl rfl rfl rfl rfl (c_Model_takeNumber2_f1 (d := (d + 1)) (x1 := (v415 - 1)) (by omega) (by omega) ((5 + (16 * v395))) (((my_fr.at frh409 is_151 rfl).trans ((my_up_role fh406 is_151 is_170 rfl).trans (my_up_self fh396)))) (by omega) (by omega) Tok_h409t413 (fun w417 w418 xp419 Tok_h409t420 => ?_))
          show wp l rho (d + 3) 189 121 [(2, 151), (0, x1), (0, v237)] [(0, 0), (0, x1), (2, 169)] h409 Q
          have hi421 : 0 ≤ 0 := by omega
          have hi422 : 0 ≤ 7 := by omega
          refine w_iast gz_189_121 is_169 rd_68 (by omega) (by omega) (by omega) (by omega) (fun h423 fh423 => ?_)
          have gh423 : my_fr [(10, 7), (10, 8), (67, -1), (68, -1), (69, -1)] h h423 := my_fr.up gh409 is_169 fh423 rfl
          have Mq_h423 : Mq h423 wv := Mq_u (a := 169) hwv (by decide) (by omega) fh423 Mq_h409
          have P6_h423 : h423 167 6 = h 167 6 := P6_ag (my_ag.up fh423 is_169 rfl) P6_h409
          have Tok_h423 : Tok h423 := Tok_ag (my_ag.up fh423 is_169 rfl) Tok_h409t420
          have k169 := my_up_self fh423
          have ce424 : h423 151 7 = h409 151 7 := ((my_up_role fh423 is_151 is_169 rfl).trans (rfl : h409 151 7 = h409 151 7))
          have ce425 : h423 151 27 = v415 := ((my_up_role fh423 is_151 is_169 rfl).trans ev415.symm)
          have a168 : ∀ j : Int, h423 168 j = h2 168 j := fun j => ((my_up_role fh423 is_168 is_169 rfl).trans ((my_fr.at frh409 is_168 rfl).trans ((my_up_role fh406 is_168 is_170 rfl).trans ((my_up_role fh396 is_168 is_151 rfl).trans (rfl : h2 168 j = h2 168 j)))))
          have a170 : ∀ j : Int, h423 170 j = h406 170 j := fun j => ((my_up_role fh423 is_170 is_169 rfl).trans ((my_fr.at frh409 is_170 rfl).trans (rfl : h406 170 j = h406 170 j)))
          have a169 : ∀ j : Int, h423 169 j = h423 169 j := fun _ => rfl
          have a157 : ∀ j : Int, h423 157 j = h 157 j := fun j => ((my_up_role fh423 is_157 is_169 rfl).trans ((my_fr.at frh409 is_157 rfl).trans ((my_up_role fh406 is_157 is_170 rfl).trans ((my_up_role fh396 is_157 is_151 rfl).trans ((my_up_role fh2 is_157 is_168 rfl).trans (rfl : h 157 j = h 157 j))))))
          have c426 := ((my_up_role fh423 is_151 is_169 rfl).trans ((my_fr.at frh409 is_151 rfl).trans ((my_up_role fh406 is_151 is_170 rfl).trans (my_up_self fh396))))
          exact w_vret gz_189_122 gm_189 (k0 h423 (gh423) (by omega) (by omega) (by first | omega | (exfalso; subst_vars; omega) | (exfalso; clear k0 k1; grind) | (refine ⟨fun q => ?_, fun q => ?_⟩ <;> first | (rw [a168, k168] at q; omega) | (have kz := k170.trans (show _ = vz by omega); rw [a170, kz, a157]; omega)) | (refine ⟨fun q => ?_, fun q => ?_, fun q => ?_⟩ <;> first | (exfalso; rw [a168, k168] at q; omega) | (rw [a169, k169]; omega))) Tok_h423 Mq_h423)
theorem c_Model_readSum2_f0 {l : Launch} {rho : Nat → Int32} {d : Nat} {h : my_H} {Q : my_H → my_V → Prop} {x1 : Int} {wv : Int} (a1 : 36 ≤ x1) (b1 : x1 ≤ 41) (cf : h 151 8 = 0) (hwv : wv ≤ 5) (hwv0 : 0 ≤ wv) (n_Tok : Tok h) (n_Mq : Mq h wv) (hp : x1 = 36 + h 167 6) (k0 : ∀ (h' : my_H), my_fr [(10, 7), (10, 8), (67, -1), (68, -1), (69, -1)] h h' → 1 ≤ h' 151 8 → h' 151 8 ≤ 16004 → h 151 7 ≤ h' 151 7 → Tok h' → Mq h' wv → Q h' (9, 0)) (k1 : ∀ (h' : my_H), my_fr [(10, 7), (10, 8), (67, -1), (68, -1), (69, -1)] h h' → 1 ≤ h' 151 7 → h' 151 7 ≤ 1001 → h' 151 8 = 0 → PaneOk h' x1 → Pk3 h' x1 (h' 151 27) → h 151 7 ≤ h' 151 7 → Tok h' → Mq h' wv → Q h' (9, 0)) : wp l rho (d + 3) 190 0 [(2, 151), (0, x1)] [] h Q := by
  refine v_know (x := 151) (j := 7) (b := 7) rfl is_151 rd_10 rfl (fun k151_7 ek151_7 pk151_7 qk151_7 => ?_)
  refine v_know (x := 151) (j := 27) (b := 27) rfl is_151 rd_10 rfl (fun k151_27 ek151_27 pk151_27 qk151_27 => ?_)
  refine w_aload_n gz_190_0 rfl ?_
  refine w_getX (v := 168) gz_190_1 is_151 rd_10 rfl (by decide) rfl ?_
  refine w_iload_n gz_190_4 rfl ?_
  refine w_iconst gz_190_5 (by decide) ?_
  refine w_iast gz_190_6 is_168 rd_67 (by omega) (by omega) (by omega) (by omega) (fun h2 fh2 => ?_)
  have gh2 : my_fr [(10, 7), (10, 8), (67, -1), (68, -1), (69, -1)] h h2 := my_fr.up my_fr.rf is_168 fh2 rfl
  have Tok_h2 : Tok h2 := Tok_ag (my_ag.up fh2 is_168 rfl) n_Tok
  have Mq_h2 : Mq h2 wv := Mq_u (a := 168) hwv (by decide) (by omega) fh2 n_Mq
  have P6_h2 : h2 167 6 = h 167 6 := P6_ag (my_ag.up fh2 is_168 rfl) (rfl)
  have k168 : h2 168 x1 = 5 := my_up_self fh2
  refine w_aload_n gz_190_7 rfl ?_
  refine w_getX (v := 170) gz_190_8 is_151 rd_10 rfl (by decide) rfl ?_
  refine w_iload_n gz_190_11 rfl ?_
  refine w_aload_n gz_190_12 rfl ?_
  refine w_aload_n gz_190_13 rfl ?_
  refine v_getI (j := 27) gz_190_14 rfl is_151 rd_10 rfl (fun v4 ev4 pv4 qv4 => ?_)
  have zv4 := ev4.trans ((my_up_role fh2 is_151 is_168 rfl).trans ek151_27.symm)
  refine w_iconst gz_190_17 (by decide) ?_
  refine w_isub gz_190_18 ⟨by omega, by omega⟩ ?_
  have ce5 : h2 151 7 = k151_7 := ((my_up_role fh2 is_151 is_168 rfl).trans ek151_7.symm)
  have ce6 : h2 151 27 = v4 := ev4.symm
  refine w_inv (k := 0) (as := [(0, (v4 - 1))]) (r := [(0, x1), (2, 170)]) (x := 151) (ls0 := [(2, 151), (0, (v4 - 1))]) gz_190_19 gm_187 rfl is_151 rd_10 rfl rfl rfl rfl rfl (c_Model_takeNumber2_f0 (d := (d + 1)) (x1 := (v4 - 1)) (by omega) (by omega) (((my_up_role fh2 is_151 is_168 rfl).trans cf).trans (by omega)) Tok_h2 (fun h7 frh7 w8 w9 xp10 Tok_h7t11 => ?_) (fun h12 v13 frh12 w14 w15 w16 w17 w18 xp19 xp20 xp21 xp22 xp23 Tok_h12t24 => ?_))
  ·
    have gh7 : my_fr [(10, 7), (10, 8), (67, -1), (68, -1), (69, -1)] h h7 := my_fr.tr gh2 (frh7.mo rfl)
    have Mq_h7 : Mq h7 wv := Mq_ag (my_ag.fr frh7 rfl) Mq_h2
    have P6_h7 : h7 167 6 = h 167 6 := P6_ag (my_ag.fr frh7 rfl) P6_h2
    show wp l rho (d + 3) 190 22 [(2, 151), (0, x1)] [(0, 0), (0, x1), (2, 170)] h7 Q
    have hi25 : 0 ≤ 0 := by omega
    have hi26 : 0 ≤ 7 := by omega
    refine w_iast gz_190_22 is_170 rd_69 (by omega) (by omega) (by omega) (by omega) (fun h27 fh27 => ?_)
    have gh27 : my_fr [(10, 7), (10, 8), (67, -1), (68, -1), (69, -1)] h h27 := my_fr.up gh7 is_170 fh27 rfl
    have Mq_h27 : Mq h27 wv := Mq_u (a := 170) hwv (by decide) (by omega) fh27 Mq_h7
    have P6_h27 : h27 167 6 = h 167 6 := P6_ag (my_ag.up fh27 is_170 rfl) P6_h7
    have Tok_h27 : Tok h27 := Tok_ag (my_ag.up fh27 is_170 rfl) Tok_h7t11
    have k170 := my_up_self fh27
    refine w_aload_n gz_190_23 rfl ?_
    refine w_bipush gz_190_24 (by decide) ?_
    have ce28 : h27 151 7 = h7 151 7 := ((my_up_role fh27 is_151 is_170 rfl).trans (rfl : h7 151 7 = h7 151 7))
    have ce29 : h27 151 27 = v4 := ((my_up_role fh27 is_151 is_170 rfl).trans ((my_fr.at frh7 is_151 rfl).trans ev4.symm))
    refine w_inv (k := 0) (as := [(0, 9)]) (r := []) (x := 151) (ls0 := [(2, 151), (0, 9)]) gz_190_26 gm_175 rfl is_151 rd_10 rfl rfl rfl rfl rfl (c_Model_takeWord_f1 (d := d)  ((h7 151 8)) (((my_up_role fh27 is_151 is_170 rfl).trans (rfl : h7 151 8 = h7 151 8))) (by omega) (by omega) Tok_h27 (fun h30 frh30 w31 w32 xp33 Tok_h30t34 => ?_))
    have gh30 : my_fr [(10, 7), (10, 8), (67, -1), (68, -1), (69, -1)] h h30 := my_fr.tr gh27 (frh30.mo rfl)
    have Mq_h30 : Mq h30 wv := Mq_ag (my_ag.fr frh30 rfl) Mq_h27
    have P6_h30 : h30 167 6 = h 167 6 := P6_ag (my_ag.fr frh30 rfl) P6_h27
    show wp l rho (d + 3) 190 29 [(2, 151), (0, x1)] [] h30 Q
    refine w_aload_n gz_190_29 rfl ?_
    refine v_getI (j := 8) gz_190_30 rfl is_151 rd_10 rfl (fun v35 ev35 pv35 qv35 => ?_)
    have zv35 := ev35.trans ((my_fr.at frh30 is_151 rfl).trans ((my_up_role fh27 is_151 is_170 rfl).trans (rfl : h7 151 8 = h7 151 8)))
    refine w_ifne (t := 74) gz_190_33 rfl (fun u36 => ?_) (fun u36 => by exfalso; omega)
    refine w_aload_n gz_190_74 rfl ?_
    refine w_getX (v := 169) gz_190_75 is_151 rd_10 rfl (by decide) rfl ?_
    refine w_iload_n gz_190_78 rfl ?_
    refine w_aload_n gz_190_79 rfl ?_
    refine w_aload_n gz_190_80 rfl ?_
    refine v_getI (j := 27) gz_190_81 rfl is_151 rd_10 rfl (fun v38 ev38 pv38 qv38 => ?_)
    have zv38 := ev38.trans ((my_fr.at frh30 is_151 rfl).trans ((my_up_role fh27 is_151 is_170 rfl).trans ((my_fr.at frh7 is_151 rfl).trans ev4.symm)))
    refine w_iconst gz_190_84 (by decide) ?_
    refine w_isub gz_190_85 ⟨by omega, by omega⟩ ?_
    have ce39 : h30 151 27 = v38 := ev38.symm
    refine w_inv (k := 0) (as := [(0, (v38 - 1))]) (r := [(0, x1), (2, 169)]) (x := 151) (ls0 := [(2, 151), (0, (v38 - 1))]) gz_190_86 gm_187 rfl is_151 rd_10 rfl rfl rfl rfl rfl (c_Model_takeNumber2_f1 (d := (d + 1)) (x1 := (v38 - 1)) (by omega) (by omega) (v35) (ev35.symm) (by omega) (by omega) Tok_h30t34 (fun w40 w41 xp42 Tok_h30t43 => ?_))
    show wp l rho (d + 3) 190 89 [(2, 151), (0, x1)] [(0, 0), (0, x1), (2, 169)] h30 Q
    have hi44 : 0 ≤ 0 := by omega
    have hi45 : 0 ≤ 7 := by omega
    refine w_iast gz_190_89 is_169 rd_68 (by omega) (by omega) (by omega) (by omega) (fun h46 fh46 => ?_)
    have gh46 : my_fr [(10, 7), (10, 8), (67, -1), (68, -1), (69, -1)] h h46 := my_fr.up gh30 is_169 fh46 rfl
    have Mq_h46 : Mq h46 wv := Mq_u (a := 169) hwv (by decide) (by omega) fh46 Mq_h30
    have P6_h46 : h46 167 6 = h 167 6 := P6_ag (my_ag.up fh46 is_169 rfl) P6_h30
    have Tok_h46 : Tok h46 := Tok_ag (my_ag.up fh46 is_169 rfl) Tok_h30t43
    have k169 := my_up_self fh46
    have ce47 : h46 151 7 = h30 151 7 := ((my_up_role fh46 is_151 is_169 rfl).trans (rfl : h30 151 7 = h30 151 7))
    have ce48 : h46 151 27 = v38 := ((my_up_role fh46 is_151 is_169 rfl).trans ev38.symm)
    have a168 : ∀ j : Int, h46 168 j = h2 168 j := fun j => ((my_up_role fh46 is_168 is_169 rfl).trans ((my_fr.at frh30 is_168 rfl).trans ((my_up_role fh27 is_168 is_170 rfl).trans ((my_fr.at frh7 is_168 rfl).trans (rfl : h2 168 j = h2 168 j)))))
    have a170 : ∀ j : Int, h46 170 j = h27 170 j := fun j => ((my_up_role fh46 is_170 is_169 rfl).trans ((my_fr.at frh30 is_170 rfl).trans (rfl : h27 170 j = h27 170 j)))
    have a169 : ∀ j : Int, h46 169 j = h46 169 j := fun _ => rfl
    have c49 := ((my_up_role fh46 is_151 is_169 rfl).trans ev35.symm)
    exact w_vret gz_190_90 gm_190 (k0 h46 (gh46) (by omega) (by omega) (by first | omega | (refine ⟨fun q => ?_, fun q => ?_⟩ <;> first | (rw [a168, k168] at q; omega) | (rw [a170, k170]; omega)) | (refine ⟨fun q => ?_, fun q => ?_, fun q => ?_⟩ <;> first | (exfalso; rw [a168, k168] at q; omega) | (rw [a169, k169]; omega) | (rw [a170, k170]; omega))) Tok_h46 Mq_h46)
  ·
    have gh12 : my_fr [(10, 7), (10, 8), (67, -1), (68, -1), (69, -1)] h h12 := my_fr.tr gh2 (frh12.mo rfl)
    have Mq_h12 : Mq h12 wv := Mq_ag (my_ag.fr frh12 rfl) Mq_h2
    have P6_h12 : h12 167 6 = h 167 6 := P6_ag (my_ag.fr frh12 rfl) P6_h2
    show wp l rho (d + 3) 190 22 [(2, 151), (0, x1)] [(0, v13), (0, x1), (2, 170)] h12 Q
    have hi50 : 0 ≤ v13 := by omega
    have hi51 : v13 ≤ 7 := by omega
    refine w_iast gz_190_22 is_170 rd_69 (by omega) (by omega) (by omega) (by omega) (fun h52 fh52 => ?_)
    have gh52 : my_fr [(10, 7), (10, 8), (67, -1), (68, -1), (69, -1)] h h52 := my_fr.up gh12 is_170 fh52 rfl
    have Mq_h52 : Mq h52 wv := Mq_u (a := 170) hwv (by decide) (by omega) fh52 Mq_h12
    have P6_h52 : h52 167 6 = h 167 6 := P6_ag (my_ag.up fh52 is_170 rfl) P6_h12
    have Tok_h52 : Tok h52 := Tok_ag (my_ag.up fh52 is_170 rfl) Tok_h12t24
    have k170 := my_up_self fh52
    refine w_aload_n gz_190_23 rfl ?_
    refine w_bipush gz_190_24 (by decide) ?_
    have ce53 : h52 151 7 = (h12 151 7) := ((my_up_role fh52 is_151 is_170 rfl).trans (rfl : h12 151 7 = h12 151 7))
    have ce54 : h52 151 27 = v4 := ((my_up_role fh52 is_151 is_170 rfl).trans ((my_fr.at frh12 is_151 rfl).trans ev4.symm))
    refine w_inv (k := 0) (as := [(0, 9)]) (r := []) (x := 151) (ls0 := [(2, 151), (0, 9)]) gz_190_26 gm_175 rfl is_151 rd_10 rfl rfl rfl rfl rfl (c_Model_takeWord_f0 (d := d) (x1 := 9) (by omega) (by omega) (((my_up_role fh52 is_151 is_170 rfl).trans w18).trans (by omega)) Tok_h52 (fun h55 frh55 w56 w57 xp58 Tok_h55t59 => ?_) (fun h60 frh60 w61 w62 w63 xp64 Tok_h60t65 => ?_))
    ·
      have gh55 : my_fr [(10, 7), (10, 8), (67, -1), (68, -1), (69, -1)] h h55 := my_fr.tr gh52 (frh55.mo rfl)
      have Mq_h55 : Mq h55 wv := Mq_ag (my_ag.fr frh55 rfl) Mq_h52
      have P6_h55 : h55 167 6 = h 167 6 := P6_ag (my_ag.fr frh55 rfl) P6_h52
      show wp l rho (d + 3) 190 29 [(2, 151), (0, x1)] [] h55 Q
      refine w_aload_n gz_190_29 rfl ?_
      refine v_getI (j := 8) gz_190_30 rfl is_151 rd_10 rfl (fun v66 ev66 pv66 qv66 => ?_)
      have zv66 := ev66.trans (rfl : h55 151 8 = h55 151 8)
      refine w_ifne (t := 74) gz_190_33 rfl (fun u67 => ?_) (fun u67 => by exfalso; omega)
      refine w_aload_n gz_190_74 rfl ?_
      refine w_getX (v := 169) gz_190_75 is_151 rd_10 rfl (by decide) rfl ?_
      refine w_iload_n gz_190_78 rfl ?_
      refine w_aload_n gz_190_79 rfl ?_
      refine w_aload_n gz_190_80 rfl ?_
      refine v_getI (j := 27) gz_190_81 rfl is_151 rd_10 rfl (fun v69 ev69 pv69 qv69 => ?_)
      have zv69 := ev69.trans ((my_fr.at frh55 is_151 rfl).trans ((my_up_role fh52 is_151 is_170 rfl).trans ((my_fr.at frh12 is_151 rfl).trans ev4.symm)))
      refine w_iconst gz_190_84 (by decide) ?_
      refine w_isub gz_190_85 ⟨by omega, by omega⟩ ?_
      have ce70 : h55 151 27 = v69 := ev69.symm
      refine w_inv (k := 0) (as := [(0, (v69 - 1))]) (r := [(0, x1), (2, 169)]) (x := 151) (ls0 := [(2, 151), (0, (v69 - 1))]) gz_190_86 gm_187 rfl is_151 rd_10 rfl rfl rfl rfl rfl (c_Model_takeNumber2_f1 (d := (d + 1)) (x1 := (v69 - 1)) (by omega) (by omega) (v66) (ev66.symm) (by omega) (by omega) Tok_h55t59 (fun w71 w72 xp73 Tok_h55t74 => ?_))
      show wp l rho (d + 3) 190 89 [(2, 151), (0, x1)] [(0, 0), (0, x1), (2, 169)] h55 Q
      have hi75 : 0 ≤ 0 := by omega
      have hi76 : 0 ≤ 7 := by omega
      refine w_iast gz_190_89 is_169 rd_68 (by omega) (by omega) (by omega) (by omega) (fun h77 fh77 => ?_)
      have gh77 : my_fr [(10, 7), (10, 8), (67, -1), (68, -1), (69, -1)] h h77 := my_fr.up gh55 is_169 fh77 rfl
      have Mq_h77 : Mq h77 wv := Mq_u (a := 169) hwv (by decide) (by omega) fh77 Mq_h55
      have P6_h77 : h77 167 6 = h 167 6 := P6_ag (my_ag.up fh77 is_169 rfl) P6_h55
      have Tok_h77 : Tok h77 := Tok_ag (my_ag.up fh77 is_169 rfl) Tok_h55t74
      have k169 := my_up_self fh77
      have ce78 : h77 151 7 = h55 151 7 := ((my_up_role fh77 is_151 is_169 rfl).trans (rfl : h55 151 7 = h55 151 7))
      have ce79 : h77 151 27 = v69 := ((my_up_role fh77 is_151 is_169 rfl).trans ev69.symm)
      have a168 : ∀ j : Int, h77 168 j = h2 168 j := fun j => ((my_up_role fh77 is_168 is_169 rfl).trans ((my_fr.at frh55 is_168 rfl).trans ((my_up_role fh52 is_168 is_170 rfl).trans ((my_fr.at frh12 is_168 rfl).trans (rfl : h2 168 j = h2 168 j)))))
      have a170 : ∀ j : Int, h77 170 j = h52 170 j := fun j => ((my_up_role fh77 is_170 is_169 rfl).trans ((my_fr.at frh55 is_170 rfl).trans (rfl : h52 170 j = h52 170 j)))
      have a169 : ∀ j : Int, h77 169 j = h77 169 j := fun _ => rfl
      have c80 := ((my_up_role fh77 is_151 is_169 rfl).trans ev66.symm)
      exact w_vret gz_190_90 gm_190 (k0 h77 (gh77) (by omega) (by omega) (by first | omega | (refine ⟨fun q => ?_, fun q => ?_⟩ <;> first | (rw [a168, k168] at q; omega) | (rw [a170, k170]; omega)) | (refine ⟨fun q => ?_, fun q => ?_, fun q => ?_⟩ <;> first | (exfalso; rw [a168, k168] at q; omega) | (rw [a169, k169]; omega) | (rw [a170, k170]; omega))) Tok_h77 Mq_h77)
    ·
      have gh60 : my_fr [(10, 7), (10, 8), (67, -1), (68, -1), (69, -1)] h h60 := my_fr.tr gh52 (frh60.mo rfl)
      have Mq_h60 : Mq h60 wv := Mq_ag (my_ag.fr frh60 rfl) Mq_h52
      have P6_h60 : h60 167 6 = h 167 6 := P6_ag (my_ag.fr frh60 rfl) P6_h52
      show wp l rho (d + 3) 190 29 [(2, 151), (0, x1)] [] h60 Q
      refine w_aload_n gz_190_29 rfl ?_
      refine v_getI (j := 8) gz_190_30 rfl is_151 rd_10 rfl (fun v81 ev81 pv81 qv81 => ?_)
      have zv81 := ev81.trans w63
      refine w_ifne (t := 74) gz_190_33 rfl (fun u82 => by exfalso; omega) (fun u82 => ?_)
      refine w_aload_n gz_190_36 rfl ?_
      refine w_getX (v := 153) gz_190_37 is_151 rd_10 rfl (by decide) rfl ?_
      refine w_aload_n gz_190_40 rfl ?_
      refine v_getI (j := 7) gz_190_41 rfl is_151 rd_10 rfl (fun v84 ev84 pv84 qv84 => ?_)
      have zv84 := ev84.trans (rfl : h60 151 7 = h60 151 7)
      refine w_iald gz_190_44 is_153 rd_52 (by omega) (by omega) (fun v85 ev85 pv85 qv85 => ?_)
      refine w_iconst gz_190_45 (by decide) ?_
      refine w_icne (t := 74) gz_190_46 rfl (fun u86 => ?_) (fun u86 => ?_)
      ·
        refine w_aload_n gz_190_74 rfl ?_
        refine w_getX (v := 169) gz_190_75 is_151 rd_10 rfl (by decide) rfl ?_
        refine w_iload_n gz_190_78 rfl ?_
        refine w_aload_n gz_190_79 rfl ?_
        refine w_aload_n gz_190_80 rfl ?_
        refine v_getI (j := 27) gz_190_81 rfl is_151 rd_10 rfl (fun v88 ev88 pv88 qv88 => ?_)
        have zv88 := ev88.trans ((my_fr.at frh60 is_151 rfl).trans ((my_up_role fh52 is_151 is_170 rfl).trans ((my_fr.at frh12 is_151 rfl).trans ev4.symm)))
        refine w_iconst gz_190_84 (by decide) ?_
        refine w_isub gz_190_85 ⟨by omega, by omega⟩ ?_
        have ce89 : h60 151 7 = v84 := ev84.symm
        have ce90 : h60 151 27 = v88 := ev88.symm
        refine w_inv (k := 0) (as := [(0, (v88 - 1))]) (r := [(0, x1), (2, 169)]) (x := 151) (ls0 := [(2, 151), (0, (v88 - 1))]) gz_190_86 gm_187 rfl is_151 rd_10 rfl rfl rfl rfl rfl (c_Model_takeNumber2_f0 (d := (d + 1)) (x1 := (v88 - 1)) (by omega) (by omega) (ev81.symm.trans (by omega)) Tok_h60t65 (fun h91 frh91 w92 w93 xp94 Tok_h91t95 => ?_) (fun h96 v97 frh96 w98 w99 w100 w101 w102 xp103 xp104 xp105 xp106 xp107 Tok_h96t108 => ?_))
        ·
          have gh91 : my_fr [(10, 7), (10, 8), (67, -1), (68, -1), (69, -1)] h h91 := my_fr.tr gh60 (frh91.mo rfl)
          have Mq_h91 : Mq h91 wv := Mq_ag (my_ag.fr frh91 rfl) Mq_h60
          have P6_h91 : h91 167 6 = h 167 6 := P6_ag (my_ag.fr frh91 rfl) P6_h60
          show wp l rho (d + 3) 190 89 [(2, 151), (0, x1)] [(0, 0), (0, x1), (2, 169)] h91 Q
          have hi109 : 0 ≤ 0 := by omega
          have hi110 : 0 ≤ 7 := by omega
          refine w_iast gz_190_89 is_169 rd_68 (by omega) (by omega) (by omega) (by omega) (fun h111 fh111 => ?_)
          have gh111 : my_fr [(10, 7), (10, 8), (67, -1), (68, -1), (69, -1)] h h111 := my_fr.up gh91 is_169 fh111 rfl
          have Mq_h111 : Mq h111 wv := Mq_u (a := 169) hwv (by decide) (by omega) fh111 Mq_h91
          have P6_h111 : h111 167 6 = h 167 6 := P6_ag (my_ag.up fh111 is_169 rfl) P6_h91
          have Tok_h111 : Tok h111 := Tok_ag (my_ag.up fh111 is_169 rfl) Tok_h91t95
          have k169 := my_up_self fh111
          have ce112 : h111 151 7 = h91 151 7 := ((my_up_role fh111 is_151 is_169 rfl).trans (rfl : h91 151 7 = h91 151 7))
          have ce113 : h111 151 27 = v88 := ((my_up_role fh111 is_151 is_169 rfl).trans ((my_fr.at frh91 is_151 rfl).trans ev88.symm))
          have a168 : ∀ j : Int, h111 168 j = h2 168 j := fun j => ((my_up_role fh111 is_168 is_169 rfl).trans ((my_fr.at frh91 is_168 rfl).trans ((my_fr.at frh60 is_168 rfl).trans ((my_up_role fh52 is_168 is_170 rfl).trans ((my_fr.at frh12 is_168 rfl).trans (rfl : h2 168 j = h2 168 j))))))
          have a170 : ∀ j : Int, h111 170 j = h52 170 j := fun j => ((my_up_role fh111 is_170 is_169 rfl).trans ((my_fr.at frh91 is_170 rfl).trans ((my_fr.at frh60 is_170 rfl).trans (rfl : h52 170 j = h52 170 j))))
          have a169 : ∀ j : Int, h111 169 j = h111 169 j := fun _ => rfl
          have c114 := ((my_up_role fh111 is_151 is_169 rfl).trans (rfl : h91 151 8 = h91 151 8))
          exact w_vret gz_190_90 gm_190 (k0 h111 (gh111) (by omega) (by omega) (by first | omega | (refine ⟨fun q => ?_, fun q => ?_⟩ <;> first | (rw [a168, k168] at q; omega) | (rw [a170, k170]; omega)) | (refine ⟨fun q => ?_, fun q => ?_, fun q => ?_⟩ <;> first | (exfalso; rw [a168, k168] at q; omega) | (rw [a169, k169]; omega) | (rw [a170, k170]; omega))) Tok_h111 Mq_h111)
        ·
          have gh96 : my_fr [(10, 7), (10, 8), (67, -1), (68, -1), (69, -1)] h h96 := my_fr.tr gh60 (frh96.mo rfl)
          have Mq_h96 : Mq h96 wv := Mq_ag (my_ag.fr frh96 rfl) Mq_h60
          have P6_h96 : h96 167 6 = h 167 6 := P6_ag (my_ag.fr frh96 rfl) P6_h60
          show wp l rho (d + 3) 190 89 [(2, 151), (0, x1)] [(0, v97), (0, x1), (2, 169)] h96 Q
          have hi115 : 0 ≤ v97 := by omega
          have hi116 : v97 ≤ 7 := by omega
          refine w_iast gz_190_89 is_169 rd_68 (by omega) (by omega) (by omega) (by omega) (fun h117 fh117 => ?_)
          have gh117 : my_fr [(10, 7), (10, 8), (67, -1), (68, -1), (69, -1)] h h117 := my_fr.up gh96 is_169 fh117 rfl
          have Mq_h117 : Mq h117 wv := Mq_u (a := 169) hwv (by decide) (by omega) fh117 Mq_h96
          have P6_h117 : h117 167 6 = h 167 6 := P6_ag (my_ag.up fh117 is_169 rfl) P6_h96
          have Tok_h117 : Tok h117 := Tok_ag (my_ag.up fh117 is_169 rfl) Tok_h96t108
          have k169 := my_up_self fh117
          have ce118 : h117 151 7 = (h96 151 7) := ((my_up_role fh117 is_151 is_169 rfl).trans (rfl : h96 151 7 = h96 151 7))
          have ce119 : h117 151 27 = v88 := ((my_up_role fh117 is_151 is_169 rfl).trans ((my_fr.at frh96 is_151 rfl).trans ev88.symm))
          have a168 : ∀ j : Int, h117 168 j = h2 168 j := fun j => ((my_up_role fh117 is_168 is_169 rfl).trans ((my_fr.at frh96 is_168 rfl).trans ((my_fr.at frh60 is_168 rfl).trans ((my_up_role fh52 is_168 is_170 rfl).trans ((my_fr.at frh12 is_168 rfl).trans (rfl : h2 168 j = h2 168 j))))))
          have a170 : ∀ j : Int, h117 170 j = h52 170 j := fun j => ((my_up_role fh117 is_170 is_169 rfl).trans ((my_fr.at frh96 is_170 rfl).trans ((my_fr.at frh60 is_170 rfl).trans (rfl : h52 170 j = h52 170 j))))
          have a169 : ∀ j : Int, h117 169 j = h117 169 j := fun _ => rfl
          have c120 := ((my_up_role fh117 is_151 is_169 rfl).trans (rfl : h96 151 7 = h96 151 7))
          have c121 := ((my_up_role fh117 is_151 is_169 rfl).trans w102)
          exact w_vret gz_190_90 gm_190 (k1 h117 (gh117) (by omega) (by omega) (by omega) (by first | omega | (refine ⟨fun q => ?_, fun q => ?_⟩ <;> first | (rw [a168, k168] at q; omega) | (rw [a170, k170]; omega)) | (refine ⟨fun q => ?_, fun q => ?_, fun q => ?_⟩ <;> first | (exfalso; rw [a168, k168] at q; omega) | (rw [a169, k169]; omega) | (rw [a170, k170]; omega))) (by first | omega | (refine ⟨fun q => ?_, fun q => ?_⟩ <;> first | (rw [a168, k168] at q; omega) | (rw [a170, k170]; omega)) | (refine ⟨fun q => ?_, fun q => ?_, fun q => ?_⟩ <;> first | (exfalso; rw [a168, k168] at q; omega) | (rw [a169, k169]; omega) | (rw [a170, k170]; omega))) (by first | omega | (refine ⟨fun q => ?_, fun q => ?_⟩ <;> first | (rw [a168, k168] at q; omega) | (rw [a170, k170]; omega)) | (refine ⟨fun q => ?_, fun q => ?_, fun q => ?_⟩ <;> first | (exfalso; rw [a168, k168] at q; omega) | (rw [a169, k169]; omega) | (rw [a170, k170]; omega))) Tok_h117 Mq_h117)
      ·
        refine w_aload_n gz_190_49 rfl ?_
        refine w_getX (v := 155) gz_190_50 is_151 rd_10 rfl (by decide) rfl ?_
        refine w_aload_n gz_190_53 rfl ?_
        refine v_getI (j := 7) gz_190_54 rfl is_151 rd_10 rfl (fun v123 ev123 pv123 qv123 => ?_)
        have zv123 := ev123.trans ev84.symm
        refine w_lald gz_190_57 is_155 rd_54 (by omega) (by omega) (fun v124 ev124 pv124 => ?_)
        refine w_aload_n gz_190_58 rfl ?_
        refine w_getX (v := 170) gz_190_59 is_151 rd_10 rfl (by decide) rfl ?_
        refine w_iload_n gz_190_62 rfl ?_
        refine w_iald gz_190_63 is_170 rd_69 (by omega) (by omega) (fun v126 ev126 pv126 qv126 => ?_)
        have zv126 := ev126.trans ((my_fr.at frh60 is_170 rfl).trans (my_up_self fh52))
        refine w_i2l gz_190_64 ?_
        refine w_lcmpE gz_190_65 (fun v127 pv127 qv127 xv127 => ?_)
        refine w_ifne (t := 74) gz_190_66 rfl (fun u128 => ?_) (fun u128 => ?_)
        ·
          refine w_aload_n gz_190_74 rfl ?_
          refine w_getX (v := 169) gz_190_75 is_151 rd_10 rfl (by decide) rfl ?_
          refine w_iload_n gz_190_78 rfl ?_
          refine w_aload_n gz_190_79 rfl ?_
          refine w_aload_n gz_190_80 rfl ?_
          refine v_getI (j := 27) gz_190_81 rfl is_151 rd_10 rfl (fun v130 ev130 pv130 qv130 => ?_)
          have zv130 := ev130.trans ((my_fr.at frh60 is_151 rfl).trans ((my_up_role fh52 is_151 is_170 rfl).trans ((my_fr.at frh12 is_151 rfl).trans ev4.symm)))
          refine w_iconst gz_190_84 (by decide) ?_
          refine w_isub gz_190_85 ⟨by omega, by omega⟩ ?_
          have ce131 : h60 151 7 = v123 := ev123.symm
          have ce132 : h60 151 27 = v130 := ev130.symm
          refine w_inv (k := 0) (as := [(0, (v130 - 1))]) (r := [(0, x1), (2, 169)]) (x := 151) (ls0 := [(2, 151), (0, (v130 - 1))]) gz_190_86 gm_187 rfl is_151 rd_10 rfl rfl rfl rfl rfl (c_Model_takeNumber2_f0 (d := (d + 1)) (x1 := (v130 - 1)) (by omega) (by omega) (ev81.symm.trans (by omega)) Tok_h60t65 (fun h133 frh133 w134 w135 xp136 Tok_h133t137 => ?_) (fun h138 v139 frh138 w140 w141 w142 w143 w144 xp145 xp146 xp147 xp148 xp149 Tok_h138t150 => ?_))
          ·
            have gh133 : my_fr [(10, 7), (10, 8), (67, -1), (68, -1), (69, -1)] h h133 := my_fr.tr gh60 (frh133.mo rfl)
            have Mq_h133 : Mq h133 wv := Mq_ag (my_ag.fr frh133 rfl) Mq_h60
            have P6_h133 : h133 167 6 = h 167 6 := P6_ag (my_ag.fr frh133 rfl) P6_h60
            show wp l rho (d + 3) 190 89 [(2, 151), (0, x1)] [(0, 0), (0, x1), (2, 169)] h133 Q
            have hi151 : 0 ≤ 0 := by omega
            have hi152 : 0 ≤ 7 := by omega
            refine w_iast gz_190_89 is_169 rd_68 (by omega) (by omega) (by omega) (by omega) (fun h153 fh153 => ?_)
            have gh153 : my_fr [(10, 7), (10, 8), (67, -1), (68, -1), (69, -1)] h h153 := my_fr.up gh133 is_169 fh153 rfl
            have Mq_h153 : Mq h153 wv := Mq_u (a := 169) hwv (by decide) (by omega) fh153 Mq_h133
            have P6_h153 : h153 167 6 = h 167 6 := P6_ag (my_ag.up fh153 is_169 rfl) P6_h133
            have Tok_h153 : Tok h153 := Tok_ag (my_ag.up fh153 is_169 rfl) Tok_h133t137
            have k169 := my_up_self fh153
            have ce154 : h153 151 7 = h133 151 7 := ((my_up_role fh153 is_151 is_169 rfl).trans (rfl : h133 151 7 = h133 151 7))
            have ce155 : h153 151 27 = v130 := ((my_up_role fh153 is_151 is_169 rfl).trans ((my_fr.at frh133 is_151 rfl).trans ev130.symm))
            have a168 : ∀ j : Int, h153 168 j = h2 168 j := fun j => ((my_up_role fh153 is_168 is_169 rfl).trans ((my_fr.at frh133 is_168 rfl).trans ((my_fr.at frh60 is_168 rfl).trans ((my_up_role fh52 is_168 is_170 rfl).trans ((my_fr.at frh12 is_168 rfl).trans (rfl : h2 168 j = h2 168 j))))))
            have a170 : ∀ j : Int, h153 170 j = h52 170 j := fun j => ((my_up_role fh153 is_170 is_169 rfl).trans ((my_fr.at frh133 is_170 rfl).trans ((my_fr.at frh60 is_170 rfl).trans (rfl : h52 170 j = h52 170 j))))
            have a169 : ∀ j : Int, h153 169 j = h153 169 j := fun _ => rfl
            have c156 := ((my_up_role fh153 is_151 is_169 rfl).trans (rfl : h133 151 8 = h133 151 8))
            exact w_vret gz_190_90 gm_190 (k0 h153 (gh153) (by omega) (by omega) (by first | omega | (refine ⟨fun q => ?_, fun q => ?_⟩ <;> first | (rw [a168, k168] at q; omega) | (rw [a170, k170]; omega)) | (refine ⟨fun q => ?_, fun q => ?_, fun q => ?_⟩ <;> first | (exfalso; rw [a168, k168] at q; omega) | (rw [a169, k169]; omega) | (rw [a170, k170]; omega))) Tok_h153 Mq_h153)
          ·
            have gh138 : my_fr [(10, 7), (10, 8), (67, -1), (68, -1), (69, -1)] h h138 := my_fr.tr gh60 (frh138.mo rfl)
            have Mq_h138 : Mq h138 wv := Mq_ag (my_ag.fr frh138 rfl) Mq_h60
            have P6_h138 : h138 167 6 = h 167 6 := P6_ag (my_ag.fr frh138 rfl) P6_h60
            show wp l rho (d + 3) 190 89 [(2, 151), (0, x1)] [(0, v139), (0, x1), (2, 169)] h138 Q
            have hi157 : 0 ≤ v139 := by omega
            have hi158 : v139 ≤ 7 := by omega
            refine w_iast gz_190_89 is_169 rd_68 (by omega) (by omega) (by omega) (by omega) (fun h159 fh159 => ?_)
            have gh159 : my_fr [(10, 7), (10, 8), (67, -1), (68, -1), (69, -1)] h h159 := my_fr.up gh138 is_169 fh159 rfl
            have Mq_h159 : Mq h159 wv := Mq_u (a := 169) hwv (by decide) (by omega) fh159 Mq_h138
            have P6_h159 : h159 167 6 = h 167 6 := P6_ag (my_ag.up fh159 is_169 rfl) P6_h138
            have Tok_h159 : Tok h159 := Tok_ag (my_ag.up fh159 is_169 rfl) Tok_h138t150
            have k169 := my_up_self fh159
            have ce160 : h159 151 7 = (h138 151 7) := ((my_up_role fh159 is_151 is_169 rfl).trans (rfl : h138 151 7 = h138 151 7))
            have ce161 : h159 151 27 = v130 := ((my_up_role fh159 is_151 is_169 rfl).trans ((my_fr.at frh138 is_151 rfl).trans ev130.symm))
            have a168 : ∀ j : Int, h159 168 j = h2 168 j := fun j => ((my_up_role fh159 is_168 is_169 rfl).trans ((my_fr.at frh138 is_168 rfl).trans ((my_fr.at frh60 is_168 rfl).trans ((my_up_role fh52 is_168 is_170 rfl).trans ((my_fr.at frh12 is_168 rfl).trans (rfl : h2 168 j = h2 168 j))))))
            have a170 : ∀ j : Int, h159 170 j = h52 170 j := fun j => ((my_up_role fh159 is_170 is_169 rfl).trans ((my_fr.at frh138 is_170 rfl).trans ((my_fr.at frh60 is_170 rfl).trans (rfl : h52 170 j = h52 170 j))))
            have a169 : ∀ j : Int, h159 169 j = h159 169 j := fun _ => rfl
            have c162 := ((my_up_role fh159 is_151 is_169 rfl).trans (rfl : h138 151 7 = h138 151 7))
            have c163 := ((my_up_role fh159 is_151 is_169 rfl).trans w144)
            exact w_vret gz_190_90 gm_190 (k1 h159 (gh159) (by omega) (by omega) (by omega) (by first | omega | (refine ⟨fun q => ?_, fun q => ?_⟩ <;> first | (rw [a168, k168] at q; omega) | (rw [a170, k170]; omega)) | (refine ⟨fun q => ?_, fun q => ?_, fun q => ?_⟩ <;> first | (exfalso; rw [a168, k168] at q; omega) | (rw [a169, k169]; omega) | (rw [a170, k170]; omega))) (by first | omega | (refine ⟨fun q => ?_, fun q => ?_⟩ <;> first | (rw [a168, k168] at q; omega) | (rw [a170, k170]; omega)) | (refine ⟨fun q => ?_, fun q => ?_, fun q => ?_⟩ <;> first | (exfalso; rw [a168, k168] at q; omega) | (rw [a169, k169]; omega) | (rw [a170, k170]; omega))) (by first | omega | (refine ⟨fun q => ?_, fun q => ?_⟩ <;> first | (rw [a168, k168] at q; omega) | (rw [a170, k170]; omega)) | (refine ⟨fun q => ?_, fun q => ?_, fun q => ?_⟩ <;> first | (exfalso; rw [a168, k168] at q; omega) | (rw [a169, k169]; omega) | (rw [a170, k170]; omega))) Tok_h159 Mq_h159)
        ·
          refine w_aload_n gz_190_69 rfl ?_
          refine w_iconst gz_190_70 (by decide) ?_
          have ce164 : h60 151 7 = v123 := ev123.symm
          have ce165 : h60 151 27 = v4 := ((my_fr.at frh60 is_151 rfl).trans ((my_up_role fh52 is_151 is_170 rfl).trans ((my_fr.at frh12 is_151 rfl).trans ev4.symm)))
          refine w_inv (k := 0) (as := [(0, 3)]) (r := []) (x := 151) (ls0 := [(2, 151), (0, 3)]) gz_190_71 gm_178 rfl is_151 rd_10 rfl rfl rfl rfl rfl ?_
          refine w_aload_n gz_178_0 rfl ?_
          refine v_getI (j := 8) gz_178_1 rfl is_151 rd_10 rfl (fun v166 ev166 pv166 qv166 => ?_)
          have zv166 := ev166.trans ev81.symm
          refine w_ifne (t := 25) gz_178_4 rfl (fun u167 => by exfalso; omega) (fun u167 => ?_)
          refine w_aload_n gz_178_7 rfl ?_
          refine w_iload_n gz_178_8 rfl ?_
          refine w_bipush gz_178_9 (by decide) ?_
          refine w_aload_n gz_178_11 rfl ?_
          refine w_getX (v := 154) gz_178_12 is_151 rd_10 rfl (by decide) rfl ?_
          refine w_aload_n gz_178_15 rfl ?_
          refine v_getI (j := 7) gz_178_16 rfl is_151 rd_10 rfl (fun v169 ev169 pv169 qv169 => ?_)
          have zv169 := ev169.trans ev123.symm
          refine w_iald gz_178_19 is_154 rd_53 (by omega) (by omega) (fun v170 ev170 pv170 qv170 => ?_)
          refine w_imul gz_178_20 ⟨by omega, by omega⟩ ?_
          refine w_iadd gz_178_21 ⟨by omega, by omega⟩ ?_
          refine v_putI (j := 8) gz_178_22 rfl is_151 rd_10 rfl (by omega) (by omega) rfl (fun h171 fh171 => ?_)
          have gh171 : my_fr [(10, 7), (10, 8), (67, -1), (68, -1), (69, -1)] h h171 := my_fr.up gh60 is_151 fh171 rfl
          have Mq_h171 : Mq h171 wv := Mq_ag (my_ag.up fh171 is_151 rfl) Mq_h60
          have P6_h171 : h171 167 6 = h 167 6 := P6_ag (my_ag.up fh171 is_151 rfl) P6_h60
          have Tok_h171 : Tok h171 := Tok_ag (my_ag.up fh171 is_151 rfl) Tok_h60t65
          refine w_vret gz_178_25 gm_178 ?_
          show wp l rho (d + 3) 190 74 [(2, 151), (0, x1)] [] h171 Q
          refine w_aload_n gz_190_74 rfl ?_
          refine w_getX (v := 169) gz_190_75 is_151 rd_10 rfl (by decide) rfl ?_
          refine w_iload_n gz_190_78 rfl ?_
          refine w_aload_n gz_190_79 rfl ?_
          refine w_aload_n gz_190_80 rfl ?_
          refine v_getI (j := 27) gz_190_81 rfl is_151 rd_10 rfl (fun v173 ev173 pv173 qv173 => ?_)
          have zv173 := ev173.trans ((my_up_fld fh171 (by decide)).trans ((my_fr.at frh60 is_151 rfl).trans ((my_up_role fh52 is_151 is_170 rfl).trans ((my_fr.at frh12 is_151 rfl).trans ev4.symm))))
          refine w_iconst gz_190_84 (by decide) ?_
          refine w_isub gz_190_85 ⟨by omega, by omega⟩ ?_
          have ce174 : h171 151 7 = v169 := ((my_up_fld fh171 (by decide)).trans ev169.symm)
          have ce175 : h171 151 27 = v173 := ev173.symm
          refine w_inv (k := 0) (as := [(0, (v173 - 1))]) (r := [(0, x1), (2, 169)]) (x := 151) (ls0 := [(2, 151), (0, (v173 - 1))]) gz_190_86 gm_187 rfl is_151 rd_10 rfl rfl rfl rfl rfl (c_Model_takeNumber2_f1 (d := (d + 1)) (x1 := (v173 - 1)) (by omega) (by omega) ((3 + (16 * v170))) ((my_up_self fh171)) (by omega) (by omega) Tok_h171 (fun w176 w177 xp178 Tok_h171t179 => ?_))
          show wp l rho (d + 3) 190 89 [(2, 151), (0, x1)] [(0, 0), (0, x1), (2, 169)] h171 Q
          have hi180 : 0 ≤ 0 := by omega
          have hi181 : 0 ≤ 7 := by omega
          refine w_iast gz_190_89 is_169 rd_68 (by omega) (by omega) (by omega) (by omega) (fun h182 fh182 => ?_)
          have gh182 : my_fr [(10, 7), (10, 8), (67, -1), (68, -1), (69, -1)] h h182 := my_fr.up gh171 is_169 fh182 rfl
          have Mq_h182 : Mq h182 wv := Mq_u (a := 169) hwv (by decide) (by omega) fh182 Mq_h171
          have P6_h182 : h182 167 6 = h 167 6 := P6_ag (my_ag.up fh182 is_169 rfl) P6_h171
          have Tok_h182 : Tok h182 := Tok_ag (my_ag.up fh182 is_169 rfl) Tok_h171t179
          have k169 := my_up_self fh182
          have ce183 : h182 151 7 = v169 := ((my_up_role fh182 is_151 is_169 rfl).trans ((my_up_fld fh171 (by decide)).trans ev169.symm))
          have ce184 : h182 151 27 = v173 := ((my_up_role fh182 is_151 is_169 rfl).trans ev173.symm)
          have a168 : ∀ j : Int, h182 168 j = h2 168 j := fun j => ((my_up_role fh182 is_168 is_169 rfl).trans ((my_up_role fh171 is_168 is_151 rfl).trans ((my_fr.at frh60 is_168 rfl).trans ((my_up_role fh52 is_168 is_170 rfl).trans ((my_fr.at frh12 is_168 rfl).trans (rfl : h2 168 j = h2 168 j))))))
          have a170 : ∀ j : Int, h182 170 j = h52 170 j := fun j => ((my_up_role fh182 is_170 is_169 rfl).trans ((my_up_role fh171 is_170 is_151 rfl).trans ((my_fr.at frh60 is_170 rfl).trans (rfl : h52 170 j = h52 170 j))))
          have a169 : ∀ j : Int, h182 169 j = h182 169 j := fun _ => rfl
          have c185 := ((my_up_role fh182 is_151 is_169 rfl).trans (my_up_self fh171))
          exact w_vret gz_190_90 gm_190 (k0 h182 (gh182) (by omega) (by omega) (by first | omega | (refine ⟨fun q => ?_, fun q => ?_⟩ <;> first | (rw [a168, k168] at q; omega) | (rw [a170, k170]; omega)) | (refine ⟨fun q => ?_, fun q => ?_, fun q => ?_⟩ <;> first | (exfalso; rw [a168, k168] at q; omega) | (rw [a169, k169]; omega) | (rw [a170, k170]; omega))) Tok_h182 Mq_h182)
theorem c_Model_readOver_f0 {l : Launch} {rho : Nat → Int32} {d : Nat} {h : my_H} {Q : my_H → my_V → Prop} {x1 : Int} (a1 : 0 ≤ x1) (b1 : x1 ≤ 5) (cf : h 151 8 = 0) (n_Tok : Tok h) (n_Mw : Mw h) (n_Mw3 : Mw3 h) (h6 : h 167 6 = 0) (k0 : ∀ (h' : my_H), my_fr [(10, 7), (10, 8), (10, 27), (10, 32), (10, 33), (64, -1), (65, -1), (73, -1), (74, -1), (75, -1), (76, -1), (77, -1), (78, -1), (79, -1)] h h' → 1 ≤ h' 151 8 → h' 151 8 ≤ 16004 → Tok h' → Mw h' → Mw3 h' → Q h' (9, 0)) (k1 : ∀ (h' : my_H), my_fr [(10, 7), (10, 8), (10, 27), (10, 32), (10, 33), (64, -1), (65, -1), (73, -1), (74, -1), (75, -1), (76, -1), (77, -1), (78, -1), (79, -1)] h h' → 1 ≤ h' 151 7 → h' 151 7 ≤ 1001 → h' 151 8 = 0 → Mq h' x1 → S56 h h' → Tok h' → Mw h' → Mw3 h' → Q h' (9, 0)) : wp l rho (d + 3) 174 0 [(2, 151), (0, x1), (9, 0)] [] h Q := by
  refine v_know (x := 151) (j := 7) (b := 7) rfl is_151 rd_10 rfl (fun k151_7 ek151_7 pk151_7 qk151_7 => ?_)
  refine v_all is_167 rd_66 (fun a167 => ?_)
  refine w_aload_n gz_174_0 rfl ?_
  refine w_iconst gz_174_1 (by decide) ?_
  have ce1 : h 151 7 = k151_7 := ek151_7.symm
  refine w_inv (k := 0) (as := [(0, 0)]) (r := []) (x := 151) (ls0 := [(2, 151), (0, 0)]) gz_174_2 gm_175 rfl is_151 rd_10 rfl rfl rfl rfl rfl (c_Model_takeWord_f0 (d := d) (x1 := 0) (by omega) (by omega) (cf.trans (by omega)) n_Tok (fun h2 frh2 w3 w4 xp5 Tok_h2t6 => ?_) (fun h7 frh7 w8 w9 w10 xp11 Tok_h7t12 => ?_))
  ·
    have gh2 : my_fr [(10, 7), (10, 8), (10, 27), (10, 32), (10, 33), (64, -1), (65, -1), (73, -1), (74, -1), (75, -1), (76, -1), (77, -1), (78, -1), (79, -1)] h h2 := my_fr.tr my_fr.rf (frh2.mo rfl)
    have Mw_h2 : Mw h2 := Mw_ag (my_ag.fr frh2 rfl) n_Mw
    have Mw3_h2 : Mw3 h2 := Mw3_ag (my_ag.fr frh2 rfl) n_Mw3
    show wp l rho (d + 3) 174 5 [(2, 151), (0, x1), (9, 0)] [] h2 Q
    refine w_aload_n gz_174_5 rfl ?_
    refine w_iconst gz_174_6 (by decide) ?_
    refine w_inv (k := 0) (as := [(0, 1)]) (r := []) (x := 151) (ls0 := [(2, 151), (0, 1)]) gz_174_7 gm_177 rfl is_151 rd_10 rfl rfl rfl rfl rfl (c_Model_isWord_f1 (d := (d + 2)) (x1 := 1) (by omega) (by omega) ((h2 151 8)) ((rfl : h2 151 8 = h2 151 8)) (by omega) (by omega) (fun w13 w14 => ?_))
    show wp l rho (d + 3) 174 10 [(2, 151), (0, x1), (9, 0)] [(0, 0)] h2 Q
    refine w_istore_n (ls' := [(2, 151), (0, x1), (0, 0)]) gz_174_10 gm_174 rfl rfl rfl ?_
    refine w_aload_n gz_174_11 rfl ?_
    refine v_getI (j := 8) gz_174_12 rfl is_151 rd_10 rfl (fun v15 ev15 pv15 qv15 => ?_)
    have zv15 := ev15.trans (rfl : h2 151 8 = h2 151 8)
    refine w_ifne (t := 35) gz_174_15 rfl (fun u16 => ?_) (fun u16 => by exfalso; omega)
    refine w_aload_n gz_174_35 rfl ?_
    refine v_getI (j := 8) gz_174_36 rfl is_151 rd_10 rfl (fun v17 ev17 pv17 qv17 => ?_)
    have zv17 := ev17.trans ev15.symm
    refine w_ifle (t := 43) gz_174_39 rfl (fun u18 => by exfalso; omega) (fun u18 => ?_)
    have r165 : ∀ j : Int, h2 165 j = h 165 j := fun j => ((my_fr.at frh2 is_165 rfl).trans (rfl : h 165 j = h 165 j))
    have r166 : ∀ j : Int, h2 166 j = h 166 j := fun j => ((my_fr.at frh2 is_166 rfl).trans (rfl : h 166 j = h 166 j))
    have c19 := ev17.symm
    exact w_vret gz_174_42 gm_174 (k0 h2 (gh2) (by omega) (by omega) Tok_h2t6 Mw_h2 Mw3_h2)
  ·
    have gh7 : my_fr [(10, 7), (10, 8), (10, 27), (10, 32), (10, 33), (64, -1), (65, -1), (73, -1), (74, -1), (75, -1), (76, -1), (77, -1), (78, -1), (79, -1)] h h7 := my_fr.tr my_fr.rf (frh7.mo rfl)
    have Mw_h7 : Mw h7 := Mw_ag (my_ag.fr frh7 rfl) n_Mw
    have Mw3_h7 : Mw3 h7 := Mw3_ag (my_ag.fr frh7 rfl) n_Mw3
    show wp l rho (d + 3) 174 5 [(2, 151), (0, x1), (9, 0)] [] h7 Q
    refine w_aload_n gz_174_5 rfl ?_
    refine w_iconst gz_174_6 (by decide) ?_
    refine w_inv (k := 0) (as := [(0, 1)]) (r := []) (x := 151) (ls0 := [(2, 151), (0, 1)]) gz_174_7 gm_177 rfl is_151 rd_10 rfl rfl rfl rfl rfl (c_Model_isWord_f0 (d := (d + 2)) (x1 := 1) (by omega) (by omega) (w10.trans (by omega)) (fun w20 => ?_) (fun w21 xp22 xp23 xp24 => ?_))
    ·
      show wp l rho (d + 3) 174 10 [(2, 151), (0, x1), (9, 0)] [(0, 0)] h7 Q
      refine w_istore_n (ls' := [(2, 151), (0, x1), (0, 0)]) gz_174_10 gm_174 rfl rfl rfl ?_
      refine w_aload_n gz_174_11 rfl ?_
      refine v_getI (j := 8) gz_174_12 rfl is_151 rd_10 rfl (fun v25 ev25 pv25 qv25 => ?_)
      have zv25 := ev25.trans w10
      refine w_ifne (t := 35) gz_174_15 rfl (fun u26 => by exfalso; omega) (fun u26 => ?_)
      refine w_iload_n gz_174_18 rfl ?_
      refine w_ifne (t := 35) gz_174_19 rfl (fun u27 => by exfalso; omega) (fun u27 => ?_)
      refine w_aload_n gz_174_22 rfl ?_
      refine w_iconst gz_174_23 (by decide) ?_
      refine w_inv (k := 0) (as := [(0, 2)]) (r := []) (x := 151) (ls0 := [(2, 151), (0, 2)]) gz_174_24 gm_177 rfl is_151 rd_10 rfl rfl rfl rfl rfl (c_Model_isWord_f0 (d := (d + 2)) (x1 := 2) (by omega) (by omega) (ev25.symm.trans (by omega)) (fun w28 => ?_) (fun w29 xp30 xp31 xp32 => ?_))
      ·
        show wp l rho (d + 3) 174 27 [(2, 151), (0, x1), (0, 0)] [(0, 0)] h7 Q
        refine w_ifne (t := 35) gz_174_27 rfl (fun u33 => by exfalso; omega) (fun u33 => ?_)
        refine w_aload_n gz_174_30 rfl ?_
        refine w_iconst gz_174_31 (by decide) ?_
        refine w_inv (k := 0) (as := [(0, 1)]) (r := []) (x := 151) (ls0 := [(2, 151), (0, 1)]) gz_174_32 gm_178 rfl is_151 rd_10 rfl rfl rfl rfl rfl ?_
        refine w_aload_n gz_178_0 rfl ?_
        refine v_getI (j := 8) gz_178_1 rfl is_151 rd_10 rfl (fun v34 ev34 pv34 qv34 => ?_)
        have zv34 := ev34.trans ev25.symm
        refine w_ifne (t := 25) gz_178_4 rfl (fun u35 => by exfalso; omega) (fun u35 => ?_)
        refine w_aload_n gz_178_7 rfl ?_
        refine w_iload_n gz_178_8 rfl ?_
        refine w_bipush gz_178_9 (by decide) ?_
        refine w_aload_n gz_178_11 rfl ?_
        refine w_getX (v := 154) gz_178_12 is_151 rd_10 rfl (by decide) rfl ?_
        refine w_aload_n gz_178_15 rfl ?_
        refine v_getI (j := 7) gz_178_16 rfl is_151 rd_10 rfl (fun v37 ev37 pv37 qv37 => ?_)
        have zv37 := ev37.trans (rfl : h7 151 7 = h7 151 7)
        refine w_iald gz_178_19 is_154 rd_53 (by omega) (by omega) (fun v38 ev38 pv38 qv38 => ?_)
        refine w_imul gz_178_20 ⟨by omega, by omega⟩ ?_
        refine w_iadd gz_178_21 ⟨by omega, by omega⟩ ?_
        refine v_putI (j := 8) gz_178_22 rfl is_151 rd_10 rfl (by omega) (by omega) rfl (fun h39 fh39 => ?_)
        have gh39 : my_fr [(10, 7), (10, 8), (10, 27), (10, 32), (10, 33), (64, -1), (65, -1), (73, -1), (74, -1), (75, -1), (76, -1), (77, -1), (78, -1), (79, -1)] h h39 := my_fr.up gh7 is_151 fh39 rfl
        have Mw_h39 : Mw h39 := Mw_ag (my_ag.up fh39 is_151 rfl) Mw_h7
        have Mw3_h39 : Mw3 h39 := Mw3_ag (my_ag.up fh39 is_151 rfl) Mw3_h7
        have Tok_h39 : Tok h39 := Tok_ag (my_ag.up fh39 is_151 rfl) Tok_h7t12
        refine w_vret gz_178_25 gm_178 ?_
        show wp l rho (d + 3) 174 35 [(2, 151), (0, x1), (0, 0)] [] h39 Q
        refine w_aload_n gz_174_35 rfl ?_
        refine v_getI (j := 8) gz_174_36 rfl is_151 rd_10 rfl (fun v40 ev40 pv40 qv40 => ?_)
        have zv40 := ev40.trans (my_up_self fh39)
        refine w_ifle (t := 43) gz_174_39 rfl (fun u41 => by exfalso; omega) (fun u41 => ?_)
        have r165 : ∀ j : Int, h39 165 j = h 165 j := fun j => ((my_up_role fh39 is_165 is_151 rfl).trans ((my_fr.at frh7 is_165 rfl).trans (rfl : h 165 j = h 165 j)))
        have r166 : ∀ j : Int, h39 166 j = h 166 j := fun j => ((my_up_role fh39 is_166 is_151 rfl).trans ((my_fr.at frh7 is_166 rfl).trans (rfl : h 166 j = h 166 j)))
        have c42 := ev40.symm
        exact w_vret gz_174_42 gm_174 (k0 h39 (gh39) (by omega) (by omega) Tok_h39 Mw_h39 Mw3_h39)
      ·
        show wp l rho (d + 3) 174 27 [(2, 151), (0, x1), (0, 0)] [(0, 1)] h7 Q
        refine w_ifne (t := 35) gz_174_27 rfl (fun u43 => ?_) (fun u43 => by exfalso; omega)
        refine w_aload_n gz_174_35 rfl ?_
        refine v_getI (j := 8) gz_174_36 rfl is_151 rd_10 rfl (fun v44 ev44 pv44 qv44 => ?_)
        have zv44 := ev44.trans ev25.symm
        refine w_ifle (t := 43) gz_174_39 rfl (fun u45 => ?_) (fun u45 => by exfalso; omega)
        refine w_aload_n gz_174_43 rfl ?_
        refine w_dup gz_174_44 rfl ?_
        refine v_getI (j := 7) gz_174_45 rfl is_151 rd_10 rfl (fun v46 ev46 pv46 qv46 => ?_)
        have zv46 := ev46.trans (rfl : h7 151 7 = h7 151 7)
        refine w_iconst gz_174_48 (by decide) ?_
        refine w_iadd gz_174_49 ⟨by omega, by omega⟩ ?_
        have hi47 : 0 ≤ (v46 + 1) := by have q := Tok_at Tok_h7t12; omega
        have hi48 : (v46 + 1) ≤ 1001 := by have q := Tok_at Tok_h7t12; omega
        refine v_putI (j := 7) gz_174_50 rfl is_151 rd_10 rfl (by omega) (by omega) rfl (fun h49 fh49 => ?_)
        have gh49 : my_fr [(10, 7), (10, 8), (10, 27), (10, 32), (10, 33), (64, -1), (65, -1), (73, -1), (74, -1), (75, -1), (76, -1), (77, -1), (78, -1), (79, -1)] h h49 := my_fr.up gh7 is_151 fh49 rfl
        have Mw_h49 : Mw h49 := Mw_ag (my_ag.up fh49 is_151 rfl) Mw_h7
        have Mw3_h49 : Mw3 h49 := Mw3_ag (my_ag.up fh49 is_151 rfl) Mw3_h7
        have Tok_h49t50 : Tok h49 := Tok_inc Tok_h7t12 (by omega) (by omega) fh49
        have k7 := my_up_self fh49
        refine w_aload_n gz_174_53 rfl ?_
        refine w_getX (v := 153) gz_174_54 is_151 rd_10 rfl (by decide) rfl ?_
        refine w_aload_n gz_174_57 rfl ?_
        refine v_getI (j := 7) gz_174_58 rfl is_151 rd_10 rfl (fun v52 ev52 pv52 qv52 => ?_)
        have zv52 := ev52.trans (my_up_self fh49)
        refine w_iald gz_174_61 is_153 rd_52 (by omega) (by omega) (fun v53 ev53 pv53 qv53 => ?_)
        refine w_iconst gz_174_62 (by decide) ?_
        refine w_iceq (t := 74) gz_174_63 rfl (fun u54 => ?_) (fun u54 => ?_)
        ·
          refine w_aload_n gz_174_74 rfl ?_
          refine w_getX (v := 155) gz_174_75 is_151 rd_10 rfl (by decide) rfl ?_
          refine w_aload_n gz_174_78 rfl ?_
          refine v_getI (j := 7) gz_174_79 rfl is_151 rd_10 rfl (fun v56 ev56 pv56 qv56 => ?_)
          have zv56 := ev56.trans ev52.symm
          refine w_lald gz_174_82 is_155 rd_54 (by omega) (by omega) (fun v57 ev57 pv57 => ?_)
          refine w_iload_n gz_174_83 rfl ?_
          refine w_ifeq (t := 91) gz_174_84 rfl (fun u58 => ?_) (fun u58 => by exfalso; omega)
          refine w_iload_n gz_174_91 rfl ?_
          refine w_iconst gz_174_92 (by decide) ?_
          refine w_isub gz_174_93 ⟨by omega, by omega⟩ ?_
          refine w_i2l gz_174_94 ?_
          refine w_lcmpE gz_174_95 (fun v59 pv59 qv59 xv59 => ?_)
          refine w_ifle (t := 107) gz_174_96 rfl (fun u60 => ?_) (fun u60 => ?_)
          ·
            refine w_iload_n gz_174_107 rfl ?_
            refine w_ifeq (t := 132) gz_174_108 rfl (fun u61 => ?_) (fun u61 => by exfalso; omega)
            refine w_aload_n gz_174_132 rfl ?_
            refine w_getX (v := 164) gz_174_133 is_151 rd_10 rfl (by decide) rfl ?_
            refine w_aload_n gz_174_136 rfl ?_
            refine w_getX (v := 155) gz_174_137 is_151 rd_10 rfl (by decide) rfl ?_
            refine w_aload_n gz_174_140 rfl ?_
            refine v_getI (j := 7) gz_174_141 rfl is_151 rd_10 rfl (fun v64 ev64 pv64 qv64 => ?_)
            have zv64 := ev64.trans ev56.symm
            refine w_lald gz_174_144 is_155 rd_54 (by omega) (by omega) (fun v65 ev65 pv65 => ?_)
            have tb : 0 ≤ v65 ∧ v65 ≤ 999 := by
              have q := Tok_at Tok_h49t50
              subst_vars
              omega
            refine w_l2iE gz_174_145 (fun v66 pv66 qv66 xv66 => ?_)
            have f155 : ∀ j : Int, h49 155 j = h 155 j := fun j => ((my_up_role fh49 is_155 is_151 rfl).trans ((my_fr.at frh7 is_155 rfl).trans (rfl : h 155 j = h 155 j)))
            have f153 : ∀ j : Int, h49 153 j = h 153 j := fun j => ((my_up_role fh49 is_153 is_151 rfl).trans ((my_fr.at frh7 is_153 rfl).trans (rfl : h 153 j = h 153 j)))
            obtain ⟨va, ea⟩ : ∃ va : Int, va = h49 151 7 := ⟨_, rfl⟩
            have z155 : v66 = h 155 va := by rw [ea, ← f155]; subst_vars; omega
            have s153 : h 153 va = 2 := by rw [ea, ← f153]; subst_vars; omega
            have hi67 : 0 ≤ v66 := by subst_vars; omega
            have hi68 : v66 ≤ 5 := by subst_vars; omega
            refine w_bald gz_174_146 is_164 rd_63 (by omega) (by omega) (fun v69 ev69 pv69 qv69 => ?_)
            have f164 : ∀ j : Int, h49 164 j = h 164 j := fun j => ((my_up_role fh49 is_164 is_151 rfl).trans ((my_fr.at frh7 is_164 rfl).trans (rfl : h 164 j = h 164 j)))
            have cw : v69 = h 164 (h 155 va) := by rw [← z155, ← f164]; omega
            refine w_ifne (t := 155) gz_174_147 rfl (fun u70 => ?_) (fun u70 => ?_)
            ·
              refine w_aload_n gz_174_155 rfl ?_
              refine v_getI (j := 8) gz_174_156 rfl is_151 rd_10 rfl (fun v71 ev71 pv71 qv71 => ?_)
              have zv71 := ev71.trans ((my_up_fld fh49 (by decide)).trans ev44.symm)
              refine w_ifle (t := 163) gz_174_159 rfl (fun u72 => ?_) (fun u72 => by exfalso; omega)
              refine w_aload_n gz_174_163 rfl ?_
              refine w_getX (v := 165) gz_174_164 is_151 rd_10 rfl (by decide) rfl ?_
              refine w_bipush gz_174_167 (by decide) ?_
              refine w_iload_n gz_174_169 rfl ?_
              have n165 : ∀ j : Int, h49 165 j = h 165 j := fun j => ((my_up_role fh49 is_165 is_151 rfl).trans ((my_fr.at frh7 is_165 rfl).trans (rfl : h 165 j = h 165 j)))
              refine w_bast gz_174_170 is_165 rd_64 (by omega) (by omega) (by omega) (by omega) (fun h74 fh74 => ?_)
              have gh74 : my_fr [(10, 7), (10, 8), (10, 27), (10, 32), (10, 33), (64, -1), (65, -1), (73, -1), (74, -1), (75, -1), (76, -1), (77, -1), (78, -1), (79, -1)] h h74 := my_fr.up gh49 is_165 fh74 rfl
              have Tok_h74 : Tok h74 := Tok_ag (my_ag.up fh74 is_165 rfl) Tok_h49t50
              have Mw_h74t75 : Mw h74 := (Mw3_6 (by decide) fh74 Mw3_h49).mw
              have Mw3_h74t76 : Mw3 h74 := Mw3_6 (by decide) fh74 Mw3_h49
              have k165 := my_up_self fh74
              have u5 : ∀ k : Int, k ≤ 5 → h74 165 k = h 165 k := fun k a => by rw [my_up_ne fh74 (by omega)]; exact n165 k
              refine w_aload_n gz_174_171 rfl ?_
              refine w_getX (v := 166) gz_174_172 is_151 rd_10 rfl (by decide) rfl ?_
              refine w_bipush gz_174_175 (by decide) ?_
              refine w_aload_n gz_174_177 rfl ?_
              refine w_getX (v := 155) gz_174_178 is_151 rd_10 rfl (by decide) rfl ?_
              refine w_aload_n gz_174_181 rfl ?_
              refine v_getI (j := 7) gz_174_182 rfl is_151 rd_10 rfl (fun v79 ev79 pv79 qv79 => ?_)
              have zv79 := ev79.trans ((my_up_role fh74 is_151 is_165 rfl).trans ev64.symm)
              have ce80 : h74 151 7 = v79 := ev79.symm
              have i7 : v79 = va := by omega
              refine w_lald gz_174_185 is_155 rd_54 (by omega) (by omega) (fun v81 ev81 pv81 => ?_)
              have e155 : ∀ j : Int, h74 155 j = h 155 j := fun j => ((my_up_role fh74 is_155 is_165 rfl).trans ((my_up_role fh49 is_155 is_151 rfl).trans ((my_fr.at frh7 is_155 rfl).trans (rfl : h 155 j = h 155 j))))
              have zq : v81 = h 155 va := by rw [← i7, ← e155]; omega
              refine w_l2iE gz_174_186 (fun v82 pv82 qv82 xv82 => ?_)
              have n166 : ∀ j : Int, h74 166 j = h 166 j := fun j => ((my_up_role fh74 is_166 is_165 rfl).trans ((my_up_role fh49 is_166 is_151 rfl).trans ((my_fr.at frh7 is_166 rfl).trans (rfl : h 166 j = h 166 j))))
              have hi83 : 0 ≤ v82 := by omega
              have hi84 : v82 ≤ 5 := by omega
              refine w_iast gz_174_187 is_166 rd_65 (by omega) (by omega) (by omega) (by omega) (fun h85 fh85 => ?_)
              have gh85 : my_fr [(10, 7), (10, 8), (10, 27), (10, 32), (10, 33), (64, -1), (65, -1), (73, -1), (74, -1), (75, -1), (76, -1), (77, -1), (78, -1), (79, -1)] h h85 := my_fr.up gh74 is_166 fh85 rfl
              have Tok_h85 : Tok h85 := Tok_ag (my_ag.up fh85 is_166 rfl) Tok_h74
              have Mw_h85t86 : Mw h85 := (Mw3_6 (by decide) fh85 Mw3_h74t76).mw
              have Mw3_h85t87 : Mw3 h85 := Mw3_6 (by decide) fh85 Mw3_h74t76
              have k166 := my_up_self fh85
              have u6 : ∀ k : Int, k ≤ 5 → h85 166 k = h 166 k := fun k a => by rw [my_up_ne fh85 (by omega)]; exact n166 k
              refine w_aload_n gz_174_188 rfl ?_
              refine w_dup gz_174_189 rfl ?_
              refine v_getI (j := 7) gz_174_190 rfl is_151 rd_10 rfl (fun v88 ev88 pv88 qv88 => ?_)
              have zv88 := ev88.trans ((my_up_role fh85 is_151 is_166 rfl).trans ev79.symm)
              refine w_iconst gz_174_193 (by decide) ?_
              refine w_iadd gz_174_194 ⟨by omega, by omega⟩ ?_
              have ce89 : h85 151 7 = v88 := ev88.symm
              have g153 : ∀ j : Int, h85 153 j = h 153 j := fun j => ((my_up_role fh85 is_153 is_166 rfl).trans ((my_up_role fh74 is_153 is_165 rfl).trans ((my_up_role fh49 is_153 is_151 rfl).trans ((my_fr.at frh7 is_153 rfl).trans (rfl : h 153 j = h 153 j)))))
              have s2 : h85 153 (h85 151 7) = 2 := by rw [show h85 151 7 = va by omega, g153]; exact s153
              have hi90 : 0 ≤ (v88 + 1) := by have q := Tok_at Tok_h85; omega
              have hi91 : (v88 + 1) ≤ 1001 := by have q := Tok_at Tok_h85; omega
              refine v_putI (j := 7) gz_174_195 rfl is_151 rd_10 rfl (by omega) (by omega) rfl (fun h92 fh92 => ?_)
              have gh92 : my_fr [(10, 7), (10, 8), (10, 27), (10, 32), (10, 33), (64, -1), (65, -1), (73, -1), (74, -1), (75, -1), (76, -1), (77, -1), (78, -1), (79, -1)] h h92 := my_fr.up gh85 is_151 fh92 rfl
              have Mw_h92 : Mw h92 := Mw_ag (my_ag.up fh92 is_151 rfl) Mw_h85t86
              have Mw3_h92 : Mw3 h92 := Mw3_ag (my_ag.up fh92 is_151 rfl) Mw3_h85t87
              have Tok_h92t93 : Tok h92 := Tok_inc Tok_h85 (by omega) (by omega) fh92
              refine w_aload_n gz_174_198 rfl ?_
              refine w_bipush gz_174_199 (by decide) ?_
              have j165 : ∀ j : Int, h92 165 j = h74 165 j := fun j => ((my_up_role fh92 is_165 is_151 rfl).trans ((my_up_role fh85 is_165 is_166 rfl).trans (rfl : h74 165 j = h74 165 j)))
              have j166 : ∀ j : Int, h92 166 j = h85 166 j := fun j => ((my_up_role fh92 is_166 is_151 rfl).trans (rfl : h85 166 j = h85 166 j))
              have j157 : ∀ j : Int, h92 157 j = h 157 j := fun j => ((my_up_role fh92 is_157 is_151 rfl).trans ((my_up_role fh85 is_157 is_166 rfl).trans ((my_up_role fh74 is_157 is_165 rfl).trans ((my_up_role fh49 is_157 is_151 rfl).trans ((my_fr.at frh7 is_157 rfl).trans (rfl : h 157 j = h 157 j))))))
              have j164 : ∀ j : Int, h92 164 j = h 164 j := fun j => ((my_up_role fh92 is_164 is_151 rfl).trans ((my_up_role fh85 is_164 is_166 rfl).trans ((my_up_role fh74 is_164 is_165 rfl).trans ((my_up_role fh49 is_164 is_151 rfl).trans ((my_fr.at frh7 is_164 rfl).trans (rfl : h 164 j = h 164 j))))))
              have j167 : ∀ j : Int, h92 167 j = h 167 j := fun j => ((my_up_role fh92 is_167 is_151 rfl).trans ((my_up_role fh85 is_167 is_166 rfl).trans ((my_up_role fh74 is_167 is_165 rfl).trans ((my_up_role fh49 is_167 is_151 rfl).trans ((my_fr.at frh7 is_167 rfl).trans (rfl : h 167 j = h 167 j))))))
              have o5 : h92 165 6 = 0 := (j165 6).trans k165
              have o6 : h92 166 6 = h 155 va := (j166 6).trans (k166.trans (by omega))
              have o7 : h92 157 (h 155 va) = h 157 (h 155 va) := j157 _
              have o4 : h92 164 (h 155 va) = h 164 (h 155 va) := j164 _
              have o67 : h92 167 6 = 0 := by rw [j167]; exact h6
              have fo : (h92 165 6 = 0 ∨ h92 165 6 = 1) ∧ 0 ≤ h92 166 6 ∧ (h92 165 6 = 1 → h92 166 6 ≤ 2 ∧ 1 ≤ h92 157 (h92 166 6)) ∧ (h92 165 6 = 0 → h92 166 6 < x1 ∧ h92 164 (h92 166 6) = 1) := by rw [o5, o6, o7, o4]; omega
              have t67 : ∀ k : Int, 0 ≤ k → k ≤ 6 → 0 ≤ h92 167 k ∧ h92 167 k ≤ 6 := fun k a b => by rw [j167]; exact a167 k a (by omega)
              have m3 := Mw3_h92
              refine w_inv (k := 2) (as := [(0, 6)]) (r := []) (x := 151) (ls0 := [(2, 151), (0, 6), (9, 0), (9, 0)]) gz_174_201 gm_179 rfl is_151 rd_10 rfl rfl rfl rfl rfl (c_Model_findColumns_f0 (d := (d + 1)) (x1 := 6) (by omega) (by omega) (((my_up_fld fh92 (by decide)).trans ((my_up_role fh85 is_151 is_166 rfl).trans ((my_up_role fh74 is_151 is_165 rfl).trans ev71.symm))).trans (by omega)) Mw_h92 (Fp6 fo (by omega)) (fun _ => o67) (fun h94 frh94 w95 xp96 xp97 xp98 => ?_))
              have gh94 : my_fr [(10, 7), (10, 8), (10, 27), (10, 32), (10, 33), (64, -1), (65, -1), (73, -1), (74, -1), (75, -1), (76, -1), (77, -1), (78, -1), (79, -1)] h h94 := my_fr.tr gh92 (frh94.mo rfl)
              have Mw_h94 : Mw h94 := Mw_ag (my_ag.fr frh94 rfl) Mw_h92
              have Mw3_h94 : Mw3 h94 := Mw3_ag (my_ag.fr frh94 rfl) Mw3_h92
              have Tok_h94 : Tok h94 := Tok_ag (my_ag.fr frh94 rfl) Tok_h92t93
              show wp l rho (d + 3) 174 204 [(2, 151), (0, x1), (0, 0)] [] h94 Q
              have mr := Mq_new (w := x1) m3 xp96 (my_ag.fr frh94 rfl) fo o67 (by omega) t67
              refine w_aload_n gz_174_204 rfl ?_
              refine w_bipush gz_174_205 (by decide) ?_
              have ce99 : h94 151 7 = (v88 + 1) := ((my_fr.at frh94 is_151 rfl).trans (my_up_self fh92))
              refine w_inv (k := 0) (as := [(0, 59)]) (r := []) (x := 151) (ls0 := [(2, 151), (0, 59)]) gz_174_207 gm_183 rfl is_151 rd_10 rfl rfl rfl rfl rfl (c_Model_takeSign_f0 (d := (d + 1))  (((my_fr.at frh94 is_151 rfl).trans ((my_up_fld fh92 (by decide)).trans ((my_up_role fh85 is_151 is_166 rfl).trans ((my_up_role fh74 is_151 is_165 rfl).trans ev71.symm)))).trans (by omega)) Tok_h94 (fun h100 frh100 w101 w102 xp103 Tok_h100t104 => ?_) (fun h105 frh105 w106 w107 w108 xp109 Tok_h105t110 => ?_))
              ·
                have gh100 : my_fr [(10, 7), (10, 8), (10, 27), (10, 32), (10, 33), (64, -1), (65, -1), (73, -1), (74, -1), (75, -1), (76, -1), (77, -1), (78, -1), (79, -1)] h h100 := my_fr.tr gh94 (frh100.mo rfl)
                have Mw_h100 : Mw h100 := Mw_ag (my_ag.fr frh100 rfl) Mw_h94
                have Mw3_h100 : Mw3 h100 := Mw3_ag (my_ag.fr frh100 rfl) Mw3_h94
                show wp l rho (d + 3) 174 210 [(2, 151), (0, x1), (0, 0)] [] h100 Q
                have mr2 : Mq h100 x1 := Mq_ag (my_ag.fr frh100 rfl) mr
                have r165 : ∀ j : Int, h100 165 j = h74 165 j := fun j => ((my_fr.at frh100 is_165 rfl).trans ((my_fr.at frh94 is_165 rfl).trans ((my_up_role fh92 is_165 is_151 rfl).trans ((my_up_role fh85 is_165 is_166 rfl).trans (rfl : h74 165 j = h74 165 j)))))
                have r166 : ∀ j : Int, h100 166 j = h85 166 j := fun j => ((my_fr.at frh100 is_166 rfl).trans ((my_fr.at frh94 is_166 rfl).trans ((my_up_role fh92 is_166 is_151 rfl).trans (rfl : h85 166 j = h85 166 j))))
                have c111 := (rfl : h100 151 8 = h100 151 8)
                exact w_vret gz_174_210 gm_174 (k0 h100 (gh100) (by omega) (by omega) Tok_h100t104 Mw_h100 Mw3_h100)
              ·
                have gh105 : my_fr [(10, 7), (10, 8), (10, 27), (10, 32), (10, 33), (64, -1), (65, -1), (73, -1), (74, -1), (75, -1), (76, -1), (77, -1), (78, -1), (79, -1)] h h105 := my_fr.tr gh94 (frh105.mo rfl)
                have Mw_h105 : Mw h105 := Mw_ag (my_ag.fr frh105 rfl) Mw_h94
                have Mw3_h105 : Mw3 h105 := Mw3_ag (my_ag.fr frh105 rfl) Mw3_h94
                show wp l rho (d + 3) 174 210 [(2, 151), (0, x1), (0, 0)] [] h105 Q
                have mr2 : Mq h105 x1 := Mq_ag (my_ag.fr frh105 rfl) mr
                have r165 : ∀ j : Int, h105 165 j = h74 165 j := fun j => ((my_fr.at frh105 is_165 rfl).trans ((my_fr.at frh94 is_165 rfl).trans ((my_up_role fh92 is_165 is_151 rfl).trans ((my_up_role fh85 is_165 is_166 rfl).trans (rfl : h74 165 j = h74 165 j)))))
                have r166 : ∀ j : Int, h105 166 j = h85 166 j := fun j => ((my_fr.at frh105 is_166 rfl).trans ((my_fr.at frh94 is_166 rfl).trans ((my_up_role fh92 is_166 is_151 rfl).trans (rfl : h85 166 j = h85 166 j))))
                have c112 := (rfl : h105 151 7 = h105 151 7)
                have c113 := w108
                exact w_vret gz_174_210 gm_174 (k1 h105 (gh105) (by omega) (by omega) (by omega) (by first | exact mr2 | exact (fun k a => ⟨(r165 k).trans (u5 k a), (r166 k).trans (u6 k a)⟩) | omega) (by first | exact mr2 | exact (fun k a => ⟨(r165 k).trans (u5 k a), (r166 k).trans (u6 k a)⟩) | omega) Tok_h105t110 Mw_h105 Mw3_h105)
            ·
              refine w_aload_n gz_174_150 rfl ?_
              refine w_iconst gz_174_151 (by decide) ?_
              refine w_inv (k := 0) (as := [(0, 2)]) (r := []) (x := 151) (ls0 := [(2, 151), (0, 2)]) gz_174_152 gm_178 rfl is_151 rd_10 rfl rfl rfl rfl rfl ?_
              refine w_aload_n gz_178_0 rfl ?_
              refine v_getI (j := 8) gz_178_1 rfl is_151 rd_10 rfl (fun v114 ev114 pv114 qv114 => ?_)
              have zv114 := ev114.trans ((my_up_fld fh49 (by decide)).trans ev44.symm)
              refine w_ifne (t := 25) gz_178_4 rfl (fun u115 => by exfalso; omega) (fun u115 => ?_)
              refine w_aload_n gz_178_7 rfl ?_
              refine w_iload_n gz_178_8 rfl ?_
              refine w_bipush gz_178_9 (by decide) ?_
              refine w_aload_n gz_178_11 rfl ?_
              refine w_getX (v := 154) gz_178_12 is_151 rd_10 rfl (by decide) rfl ?_
              refine w_aload_n gz_178_15 rfl ?_
              refine v_getI (j := 7) gz_178_16 rfl is_151 rd_10 rfl (fun v117 ev117 pv117 qv117 => ?_)
              have zv117 := ev117.trans ev64.symm
              refine w_iald gz_178_19 is_154 rd_53 (by omega) (by omega) (fun v118 ev118 pv118 qv118 => ?_)
              refine w_imul gz_178_20 ⟨by omega, by omega⟩ ?_
              refine w_iadd gz_178_21 ⟨by omega, by omega⟩ ?_
              refine v_putI (j := 8) gz_178_22 rfl is_151 rd_10 rfl (by omega) (by omega) rfl (fun h119 fh119 => ?_)
              have gh119 : my_fr [(10, 7), (10, 8), (10, 27), (10, 32), (10, 33), (64, -1), (65, -1), (73, -1), (74, -1), (75, -1), (76, -1), (77, -1), (78, -1), (79, -1)] h h119 := my_fr.up gh49 is_151 fh119 rfl
              have Mw_h119 : Mw h119 := Mw_ag (my_ag.up fh119 is_151 rfl) Mw_h49
              have Mw3_h119 : Mw3 h119 := Mw3_ag (my_ag.up fh119 is_151 rfl) Mw3_h49
              have Tok_h119 : Tok h119 := Tok_ag (my_ag.up fh119 is_151 rfl) Tok_h49t50
              refine w_vret gz_178_25 gm_178 ?_
              show wp l rho (d + 3) 174 155 [(2, 151), (0, x1), (0, 0)] [] h119 Q
              refine w_aload_n gz_174_155 rfl ?_
              refine v_getI (j := 8) gz_174_156 rfl is_151 rd_10 rfl (fun v120 ev120 pv120 qv120 => ?_)
              have zv120 := ev120.trans (my_up_self fh119)
              refine w_ifle (t := 163) gz_174_159 rfl (fun u121 => by exfalso; omega) (fun u121 => ?_)
              have r165 : ∀ j : Int, h119 165 j = h 165 j := fun j => ((my_up_role fh119 is_165 is_151 rfl).trans ((my_up_role fh49 is_165 is_151 rfl).trans ((my_fr.at frh7 is_165 rfl).trans (rfl : h 165 j = h 165 j))))
              have r166 : ∀ j : Int, h119 166 j = h 166 j := fun j => ((my_up_role fh119 is_166 is_151 rfl).trans ((my_up_role fh49 is_166 is_151 rfl).trans ((my_fr.at frh7 is_166 rfl).trans (rfl : h 166 j = h 166 j))))
              have c122 := ev120.symm
              exact w_vret gz_174_162 gm_174 (k0 h119 (gh119) (by omega) (by omega) Tok_h119 Mw_h119 Mw3_h119)
          ·
            refine w_aload_n gz_174_99 rfl ?_
            refine w_iconst gz_174_100 (by decide) ?_
            refine w_inv (k := 0) (as := [(0, 4)]) (r := []) (x := 151) (ls0 := [(2, 151), (0, 4)]) gz_174_101 gm_178 rfl is_151 rd_10 rfl rfl rfl rfl rfl ?_
            refine w_aload_n gz_178_0 rfl ?_
            refine v_getI (j := 8) gz_178_1 rfl is_151 rd_10 rfl (fun v123 ev123 pv123 qv123 => ?_)
            have zv123 := ev123.trans ((my_up_fld fh49 (by decide)).trans ev44.symm)
            refine w_ifne (t := 25) gz_178_4 rfl (fun u124 => by exfalso; omega) (fun u124 => ?_)
            refine w_aload_n gz_178_7 rfl ?_
            refine w_iload_n gz_178_8 rfl ?_
            refine w_bipush gz_178_9 (by decide) ?_
            refine w_aload_n gz_178_11 rfl ?_
            refine w_getX (v := 154) gz_178_12 is_151 rd_10 rfl (by decide) rfl ?_
            refine w_aload_n gz_178_15 rfl ?_
            refine v_getI (j := 7) gz_178_16 rfl is_151 rd_10 rfl (fun v126 ev126 pv126 qv126 => ?_)
            have zv126 := ev126.trans ev56.symm
            refine w_iald gz_178_19 is_154 rd_53 (by omega) (by omega) (fun v127 ev127 pv127 qv127 => ?_)
            refine w_imul gz_178_20 ⟨by omega, by omega⟩ ?_
            refine w_iadd gz_178_21 ⟨by omega, by omega⟩ ?_
            refine v_putI (j := 8) gz_178_22 rfl is_151 rd_10 rfl (by omega) (by omega) rfl (fun h128 fh128 => ?_)
            have gh128 : my_fr [(10, 7), (10, 8), (10, 27), (10, 32), (10, 33), (64, -1), (65, -1), (73, -1), (74, -1), (75, -1), (76, -1), (77, -1), (78, -1), (79, -1)] h h128 := my_fr.up gh49 is_151 fh128 rfl
            have Mw_h128 : Mw h128 := Mw_ag (my_ag.up fh128 is_151 rfl) Mw_h49
            have Mw3_h128 : Mw3 h128 := Mw3_ag (my_ag.up fh128 is_151 rfl) Mw3_h49
            have Tok_h128 : Tok h128 := Tok_ag (my_ag.up fh128 is_151 rfl) Tok_h49t50
            refine w_vret gz_178_25 gm_178 ?_
            show wp l rho (d + 3) 174 104 [(2, 151), (0, x1), (0, 0)] [] h128 Q
            refine w_goto (t := 155) gz_174_104 rfl ?_
            refine w_aload_n gz_174_155 rfl ?_
            refine v_getI (j := 8) gz_174_156 rfl is_151 rd_10 rfl (fun v129 ev129 pv129 qv129 => ?_)
            have zv129 := ev129.trans (my_up_self fh128)
            refine w_ifle (t := 163) gz_174_159 rfl (fun u130 => by exfalso; omega) (fun u130 => ?_)
            have r165 : ∀ j : Int, h128 165 j = h 165 j := fun j => ((my_up_role fh128 is_165 is_151 rfl).trans ((my_up_role fh49 is_165 is_151 rfl).trans ((my_fr.at frh7 is_165 rfl).trans (rfl : h 165 j = h 165 j))))
            have r166 : ∀ j : Int, h128 166 j = h 166 j := fun j => ((my_up_role fh128 is_166 is_151 rfl).trans ((my_up_role fh49 is_166 is_151 rfl).trans ((my_fr.at frh7 is_166 rfl).trans (rfl : h 166 j = h 166 j))))
            have c131 := ev129.symm
            exact w_vret gz_174_162 gm_174 (k0 h128 (gh128) (by omega) (by omega) Tok_h128 Mw_h128 Mw3_h128)
        ·
          refine w_aload_n gz_174_66 rfl ?_
          refine w_iconst gz_174_67 (by decide) ?_
          refine w_inv (k := 0) (as := [(0, 1)]) (r := []) (x := 151) (ls0 := [(2, 151), (0, 1)]) gz_174_68 gm_178 rfl is_151 rd_10 rfl rfl rfl rfl rfl ?_
          refine w_aload_n gz_178_0 rfl ?_
          refine v_getI (j := 8) gz_178_1 rfl is_151 rd_10 rfl (fun v132 ev132 pv132 qv132 => ?_)
          have zv132 := ev132.trans ((my_up_fld fh49 (by decide)).trans ev44.symm)
          refine w_ifne (t := 25) gz_178_4 rfl (fun u133 => by exfalso; omega) (fun u133 => ?_)
          refine w_aload_n gz_178_7 rfl ?_
          refine w_iload_n gz_178_8 rfl ?_
          refine w_bipush gz_178_9 (by decide) ?_
          refine w_aload_n gz_178_11 rfl ?_
          refine w_getX (v := 154) gz_178_12 is_151 rd_10 rfl (by decide) rfl ?_
          refine w_aload_n gz_178_15 rfl ?_
          refine v_getI (j := 7) gz_178_16 rfl is_151 rd_10 rfl (fun v135 ev135 pv135 qv135 => ?_)
          have zv135 := ev135.trans ev52.symm
          refine w_iald gz_178_19 is_154 rd_53 (by omega) (by omega) (fun v136 ev136 pv136 qv136 => ?_)
          refine w_imul gz_178_20 ⟨by omega, by omega⟩ ?_
          refine w_iadd gz_178_21 ⟨by omega, by omega⟩ ?_
          refine v_putI (j := 8) gz_178_22 rfl is_151 rd_10 rfl (by omega) (by omega) rfl (fun h137 fh137 => ?_)
          have gh137 : my_fr [(10, 7), (10, 8), (10, 27), (10, 32), (10, 33), (64, -1), (65, -1), (73, -1), (74, -1), (75, -1), (76, -1), (77, -1), (78, -1), (79, -1)] h h137 := my_fr.up gh49 is_151 fh137 rfl
          have Mw_h137 : Mw h137 := Mw_ag (my_ag.up fh137 is_151 rfl) Mw_h49
          have Mw3_h137 : Mw3 h137 := Mw3_ag (my_ag.up fh137 is_151 rfl) Mw3_h49
          have Tok_h137 : Tok h137 := Tok_ag (my_ag.up fh137 is_151 rfl) Tok_h49t50
          refine w_vret gz_178_25 gm_178 ?_
          show wp l rho (d + 3) 174 71 [(2, 151), (0, x1), (0, 0)] [] h137 Q
          refine w_goto (t := 155) gz_174_71 rfl ?_
          refine w_aload_n gz_174_155 rfl ?_
          refine v_getI (j := 8) gz_174_156 rfl is_151 rd_10 rfl (fun v138 ev138 pv138 qv138 => ?_)
          have zv138 := ev138.trans (my_up_self fh137)
          refine w_ifle (t := 163) gz_174_159 rfl (fun u139 => by exfalso; omega) (fun u139 => ?_)
          have r165 : ∀ j : Int, h137 165 j = h 165 j := fun j => ((my_up_role fh137 is_165 is_151 rfl).trans ((my_up_role fh49 is_165 is_151 rfl).trans ((my_fr.at frh7 is_165 rfl).trans (rfl : h 165 j = h 165 j))))
          have r166 : ∀ j : Int, h137 166 j = h 166 j := fun j => ((my_up_role fh137 is_166 is_151 rfl).trans ((my_up_role fh49 is_166 is_151 rfl).trans ((my_fr.at frh7 is_166 rfl).trans (rfl : h 166 j = h 166 j))))
          have c140 := ev138.symm
          exact w_vret gz_174_162 gm_174 (k0 h137 (gh137) (by omega) (by omega) Tok_h137 Mw_h137 Mw3_h137)
    ·
      show wp l rho (d + 3) 174 10 [(2, 151), (0, x1), (9, 0)] [(0, 1)] h7 Q
      refine w_istore_n (ls' := [(2, 151), (0, x1), (0, 1)]) gz_174_10 gm_174 rfl rfl rfl ?_
      refine w_aload_n gz_174_11 rfl ?_
      refine v_getI (j := 8) gz_174_12 rfl is_151 rd_10 rfl (fun v141 ev141 pv141 qv141 => ?_)
      have zv141 := ev141.trans w10
      refine w_ifne (t := 35) gz_174_15 rfl (fun u142 => by exfalso; omega) (fun u142 => ?_)
      refine w_iload_n gz_174_18 rfl ?_
      refine w_ifne (t := 35) gz_174_19 rfl (fun u143 => ?_) (fun u143 => by exfalso; omega)
      refine w_aload_n gz_174_35 rfl ?_
      refine v_getI (j := 8) gz_174_36 rfl is_151 rd_10 rfl (fun v144 ev144 pv144 qv144 => ?_)
      have zv144 := ev144.trans ev141.symm
      refine w_ifle (t := 43) gz_174_39 rfl (fun u145 => ?_) (fun u145 => by exfalso; omega)
      refine w_aload_n gz_174_43 rfl ?_
      refine w_dup gz_174_44 rfl ?_
      refine v_getI (j := 7) gz_174_45 rfl is_151 rd_10 rfl (fun v146 ev146 pv146 qv146 => ?_)
      have zv146 := ev146.trans (rfl : h7 151 7 = h7 151 7)
      refine w_iconst gz_174_48 (by decide) ?_
      refine w_iadd gz_174_49 ⟨by omega, by omega⟩ ?_
      have hi147 : 0 ≤ (v146 + 1) := by have q := Tok_at Tok_h7t12; omega
      have hi148 : (v146 + 1) ≤ 1001 := by have q := Tok_at Tok_h7t12; omega
      refine v_putI (j := 7) gz_174_50 rfl is_151 rd_10 rfl (by omega) (by omega) rfl (fun h149 fh149 => ?_)
      have gh149 : my_fr [(10, 7), (10, 8), (10, 27), (10, 32), (10, 33), (64, -1), (65, -1), (73, -1), (74, -1), (75, -1), (76, -1), (77, -1), (78, -1), (79, -1)] h h149 := my_fr.up gh7 is_151 fh149 rfl
      have Mw_h149 : Mw h149 := Mw_ag (my_ag.up fh149 is_151 rfl) Mw_h7
      have Mw3_h149 : Mw3 h149 := Mw3_ag (my_ag.up fh149 is_151 rfl) Mw3_h7
      have Tok_h149t150 : Tok h149 := Tok_inc Tok_h7t12 (by omega) (by omega) fh149
      have k7 := my_up_self fh149
      refine w_aload_n gz_174_53 rfl ?_
      refine w_getX (v := 153) gz_174_54 is_151 rd_10 rfl (by decide) rfl ?_
      refine w_aload_n gz_174_57 rfl ?_
      refine v_getI (j := 7) gz_174_58 rfl is_151 rd_10 rfl (fun v152 ev152 pv152 qv152 => ?_)
      have zv152 := ev152.trans (my_up_self fh149)
      refine w_iald gz_174_61 is_153 rd_52 (by omega) (by omega) (fun v153 ev153 pv153 qv153 => ?_)
      refine w_iconst gz_174_62 (by decide) ?_
      refine w_iceq (t := 74) gz_174_63 rfl (fun u154 => ?_) (fun u154 => ?_)
      ·
        refine w_aload_n gz_174_74 rfl ?_
        refine w_getX (v := 155) gz_174_75 is_151 rd_10 rfl (by decide) rfl ?_
        refine w_aload_n gz_174_78 rfl ?_
        refine v_getI (j := 7) gz_174_79 rfl is_151 rd_10 rfl (fun v156 ev156 pv156 qv156 => ?_)
        have zv156 := ev156.trans ev152.symm
        refine w_lald gz_174_82 is_155 rd_54 (by omega) (by omega) (fun v157 ev157 pv157 => ?_)
        refine w_iload_n gz_174_83 rfl ?_
        refine w_ifeq (t := 91) gz_174_84 rfl (fun u158 => by exfalso; omega) (fun u158 => ?_)
        refine w_iconst gz_174_87 (by decide) ?_
        refine w_goto (t := 94) gz_174_88 rfl ?_
        refine w_i2l gz_174_94 ?_
        refine w_lcmpE gz_174_95 (fun v159 pv159 qv159 xv159 => ?_)
        refine w_ifle (t := 107) gz_174_96 rfl (fun u160 => ?_) (fun u160 => ?_)
        ·
          refine w_iload_n gz_174_107 rfl ?_
          refine w_ifeq (t := 132) gz_174_108 rfl (fun u161 => by exfalso; omega) (fun u161 => ?_)
          refine w_aload_n gz_174_111 rfl ?_
          refine w_getX (v := 157) gz_174_112 is_151 rd_10 rfl (by decide) rfl ?_
          refine w_aload_n gz_174_115 rfl ?_
          refine w_getX (v := 155) gz_174_116 is_151 rd_10 rfl (by decide) rfl ?_
          refine w_aload_n gz_174_119 rfl ?_
          refine v_getI (j := 7) gz_174_120 rfl is_151 rd_10 rfl (fun v164 ev164 pv164 qv164 => ?_)
          have zv164 := ev164.trans ev156.symm
          refine w_lald gz_174_123 is_155 rd_54 (by omega) (by omega) (fun v165 ev165 pv165 => ?_)
          have tb : 0 ≤ v165 ∧ v165 ≤ 999 := by
            have q := Tok_at Tok_h149t150
            subst_vars
            omega
          refine w_l2iE gz_174_124 (fun v166 pv166 qv166 xv166 => ?_)
          have f155 : ∀ j : Int, h149 155 j = h 155 j := fun j => ((my_up_role fh149 is_155 is_151 rfl).trans ((my_fr.at frh7 is_155 rfl).trans (rfl : h 155 j = h 155 j)))
          have f153 : ∀ j : Int, h149 153 j = h 153 j := fun j => ((my_up_role fh149 is_153 is_151 rfl).trans ((my_fr.at frh7 is_153 rfl).trans (rfl : h 153 j = h 153 j)))
          obtain ⟨va, ea⟩ : ∃ va : Int, va = h149 151 7 := ⟨_, rfl⟩
          have z155 : v166 = h 155 va := by rw [ea, ← f155]; subst_vars; omega
          have s153 : h 153 va = 2 := by rw [ea, ← f153]; subst_vars; omega
          have hi167 : 0 ≤ v166 := by subst_vars; omega
          have hi168 : v166 ≤ 2 := by subst_vars; omega
          refine w_iald gz_174_125 is_157 rd_56 (by omega) (by omega) (fun v169 ev169 pv169 qv169 => ?_)
          have f157 : ∀ j : Int, h149 157 j = h 157 j := fun j => ((my_up_role fh149 is_157 is_151 rfl).trans ((my_fr.at frh7 is_157 rfl).trans (rfl : h 157 j = h 157 j)))
          have cw : v169 = h 157 (h 155 va) := by rw [← z155, ← f157]; omega
          refine w_ifne (t := 155) gz_174_126 rfl (fun u170 => ?_) (fun u170 => ?_)
          ·
            refine w_aload_n gz_174_155 rfl ?_
            refine v_getI (j := 8) gz_174_156 rfl is_151 rd_10 rfl (fun v171 ev171 pv171 qv171 => ?_)
            have zv171 := ev171.trans ((my_up_fld fh149 (by decide)).trans ev144.symm)
            refine w_ifle (t := 163) gz_174_159 rfl (fun u172 => ?_) (fun u172 => by exfalso; omega)
            refine w_aload_n gz_174_163 rfl ?_
            refine w_getX (v := 165) gz_174_164 is_151 rd_10 rfl (by decide) rfl ?_
            refine w_bipush gz_174_167 (by decide) ?_
            refine w_iload_n gz_174_169 rfl ?_
            have n165 : ∀ j : Int, h149 165 j = h 165 j := fun j => ((my_up_role fh149 is_165 is_151 rfl).trans ((my_fr.at frh7 is_165 rfl).trans (rfl : h 165 j = h 165 j)))
            refine w_bast gz_174_170 is_165 rd_64 (by omega) (by omega) (by omega) (by omega) (fun h174 fh174 => ?_)
            have gh174 : my_fr [(10, 7), (10, 8), (10, 27), (10, 32), (10, 33), (64, -1), (65, -1), (73, -1), (74, -1), (75, -1), (76, -1), (77, -1), (78, -1), (79, -1)] h h174 := my_fr.up gh149 is_165 fh174 rfl
            have Tok_h174 : Tok h174 := Tok_ag (my_ag.up fh174 is_165 rfl) Tok_h149t150
            have Mw_h174t175 : Mw h174 := (Mw3_6 (by decide) fh174 Mw3_h149).mw
            have Mw3_h174t176 : Mw3 h174 := Mw3_6 (by decide) fh174 Mw3_h149
            have k165 := my_up_self fh174
            have u5 : ∀ k : Int, k ≤ 5 → h174 165 k = h 165 k := fun k a => by rw [my_up_ne fh174 (by omega)]; exact n165 k
            refine w_aload_n gz_174_171 rfl ?_
            refine w_getX (v := 166) gz_174_172 is_151 rd_10 rfl (by decide) rfl ?_
            refine w_bipush gz_174_175 (by decide) ?_
            refine w_aload_n gz_174_177 rfl ?_
            refine w_getX (v := 155) gz_174_178 is_151 rd_10 rfl (by decide) rfl ?_
            refine w_aload_n gz_174_181 rfl ?_
            refine v_getI (j := 7) gz_174_182 rfl is_151 rd_10 rfl (fun v179 ev179 pv179 qv179 => ?_)
            have zv179 := ev179.trans ((my_up_role fh174 is_151 is_165 rfl).trans ev164.symm)
            have ce180 : h174 151 7 = v179 := ev179.symm
            have i7 : v179 = va := by omega
            refine w_lald gz_174_185 is_155 rd_54 (by omega) (by omega) (fun v181 ev181 pv181 => ?_)
            have e155 : ∀ j : Int, h174 155 j = h 155 j := fun j => ((my_up_role fh174 is_155 is_165 rfl).trans ((my_up_role fh149 is_155 is_151 rfl).trans ((my_fr.at frh7 is_155 rfl).trans (rfl : h 155 j = h 155 j))))
            have zq : v181 = h 155 va := by rw [← i7, ← e155]; omega
            refine w_l2iE gz_174_186 (fun v182 pv182 qv182 xv182 => ?_)
            have n166 : ∀ j : Int, h174 166 j = h 166 j := fun j => ((my_up_role fh174 is_166 is_165 rfl).trans ((my_up_role fh149 is_166 is_151 rfl).trans ((my_fr.at frh7 is_166 rfl).trans (rfl : h 166 j = h 166 j))))
            have hi183 : 0 ≤ v182 := by omega
            have hi184 : v182 ≤ 5 := by omega
            refine w_iast gz_174_187 is_166 rd_65 (by omega) (by omega) (by omega) (by omega) (fun h185 fh185 => ?_)
            have gh185 : my_fr [(10, 7), (10, 8), (10, 27), (10, 32), (10, 33), (64, -1), (65, -1), (73, -1), (74, -1), (75, -1), (76, -1), (77, -1), (78, -1), (79, -1)] h h185 := my_fr.up gh174 is_166 fh185 rfl
            have Tok_h185 : Tok h185 := Tok_ag (my_ag.up fh185 is_166 rfl) Tok_h174
            have Mw_h185t186 : Mw h185 := (Mw3_6 (by decide) fh185 Mw3_h174t176).mw
            have Mw3_h185t187 : Mw3 h185 := Mw3_6 (by decide) fh185 Mw3_h174t176
            have k166 := my_up_self fh185
            have u6 : ∀ k : Int, k ≤ 5 → h185 166 k = h 166 k := fun k a => by rw [my_up_ne fh185 (by omega)]; exact n166 k
            refine w_aload_n gz_174_188 rfl ?_
            refine w_dup gz_174_189 rfl ?_
            refine v_getI (j := 7) gz_174_190 rfl is_151 rd_10 rfl (fun v188 ev188 pv188 qv188 => ?_)
            have zv188 := ev188.trans ((my_up_role fh185 is_151 is_166 rfl).trans ev179.symm)
            refine w_iconst gz_174_193 (by decide) ?_
            refine w_iadd gz_174_194 ⟨by omega, by omega⟩ ?_
            have ce189 : h185 151 7 = v188 := ev188.symm
            have g153 : ∀ j : Int, h185 153 j = h 153 j := fun j => ((my_up_role fh185 is_153 is_166 rfl).trans ((my_up_role fh174 is_153 is_165 rfl).trans ((my_up_role fh149 is_153 is_151 rfl).trans ((my_fr.at frh7 is_153 rfl).trans (rfl : h 153 j = h 153 j)))))
            have s2 : h185 153 (h185 151 7) = 2 := by rw [show h185 151 7 = va by omega, g153]; exact s153
            have hi190 : 0 ≤ (v188 + 1) := by have q := Tok_at Tok_h185; omega
            have hi191 : (v188 + 1) ≤ 1001 := by have q := Tok_at Tok_h185; omega
            refine v_putI (j := 7) gz_174_195 rfl is_151 rd_10 rfl (by omega) (by omega) rfl (fun h192 fh192 => ?_)
            have gh192 : my_fr [(10, 7), (10, 8), (10, 27), (10, 32), (10, 33), (64, -1), (65, -1), (73, -1), (74, -1), (75, -1), (76, -1), (77, -1), (78, -1), (79, -1)] h h192 := my_fr.up gh185 is_151 fh192 rfl
            have Mw_h192 : Mw h192 := Mw_ag (my_ag.up fh192 is_151 rfl) Mw_h185t186
            have Mw3_h192 : Mw3 h192 := Mw3_ag (my_ag.up fh192 is_151 rfl) Mw3_h185t187
            have Tok_h192t193 : Tok h192 := Tok_inc Tok_h185 (by omega) (by omega) fh192
            refine w_aload_n gz_174_198 rfl ?_
            refine w_bipush gz_174_199 (by decide) ?_
            have j165 : ∀ j : Int, h192 165 j = h174 165 j := fun j => ((my_up_role fh192 is_165 is_151 rfl).trans ((my_up_role fh185 is_165 is_166 rfl).trans (rfl : h174 165 j = h174 165 j)))
            have j166 : ∀ j : Int, h192 166 j = h185 166 j := fun j => ((my_up_role fh192 is_166 is_151 rfl).trans (rfl : h185 166 j = h185 166 j))
            have j157 : ∀ j : Int, h192 157 j = h 157 j := fun j => ((my_up_role fh192 is_157 is_151 rfl).trans ((my_up_role fh185 is_157 is_166 rfl).trans ((my_up_role fh174 is_157 is_165 rfl).trans ((my_up_role fh149 is_157 is_151 rfl).trans ((my_fr.at frh7 is_157 rfl).trans (rfl : h 157 j = h 157 j))))))
            have j164 : ∀ j : Int, h192 164 j = h 164 j := fun j => ((my_up_role fh192 is_164 is_151 rfl).trans ((my_up_role fh185 is_164 is_166 rfl).trans ((my_up_role fh174 is_164 is_165 rfl).trans ((my_up_role fh149 is_164 is_151 rfl).trans ((my_fr.at frh7 is_164 rfl).trans (rfl : h 164 j = h 164 j))))))
            have j167 : ∀ j : Int, h192 167 j = h 167 j := fun j => ((my_up_role fh192 is_167 is_151 rfl).trans ((my_up_role fh185 is_167 is_166 rfl).trans ((my_up_role fh174 is_167 is_165 rfl).trans ((my_up_role fh149 is_167 is_151 rfl).trans ((my_fr.at frh7 is_167 rfl).trans (rfl : h 167 j = h 167 j))))))
            have o5 : h192 165 6 = 1 := (j165 6).trans k165
            have o6 : h192 166 6 = h 155 va := (j166 6).trans (k166.trans (by omega))
            have o7 : h192 157 (h 155 va) = h 157 (h 155 va) := j157 _
            have o4 : h192 164 (h 155 va) = h 164 (h 155 va) := j164 _
            have o67 : h192 167 6 = 0 := by rw [j167]; exact h6
            have fo : (h192 165 6 = 0 ∨ h192 165 6 = 1) ∧ 0 ≤ h192 166 6 ∧ (h192 165 6 = 1 → h192 166 6 ≤ 2 ∧ 1 ≤ h192 157 (h192 166 6)) ∧ (h192 165 6 = 0 → h192 166 6 < x1 ∧ h192 164 (h192 166 6) = 1) := by rw [o5, o6, o7, o4]; omega
            have t67 : ∀ k : Int, 0 ≤ k → k ≤ 6 → 0 ≤ h192 167 k ∧ h192 167 k ≤ 6 := fun k a b => by rw [j167]; exact a167 k a (by omega)
            have m3 := Mw3_h192
            refine w_inv (k := 2) (as := [(0, 6)]) (r := []) (x := 151) (ls0 := [(2, 151), (0, 6), (9, 0), (9, 0)]) gz_174_201 gm_179 rfl is_151 rd_10 rfl rfl rfl rfl rfl (c_Model_findColumns_f0 (d := (d + 1)) (x1 := 6) (by omega) (by omega) (((my_up_fld fh192 (by decide)).trans ((my_up_role fh185 is_151 is_166 rfl).trans ((my_up_role fh174 is_151 is_165 rfl).trans ev171.symm))).trans (by omega)) Mw_h192 (Fp6 fo (by omega)) (fun _ => o67) (fun h194 frh194 w195 xp196 xp197 xp198 => ?_))
            have gh194 : my_fr [(10, 7), (10, 8), (10, 27), (10, 32), (10, 33), (64, -1), (65, -1), (73, -1), (74, -1), (75, -1), (76, -1), (77, -1), (78, -1), (79, -1)] h h194 := my_fr.tr gh192 (frh194.mo rfl)
            have Mw_h194 : Mw h194 := Mw_ag (my_ag.fr frh194 rfl) Mw_h192
            have Mw3_h194 : Mw3 h194 := Mw3_ag (my_ag.fr frh194 rfl) Mw3_h192
            have Tok_h194 : Tok h194 := Tok_ag (my_ag.fr frh194 rfl) Tok_h192t193
            show wp l rho (d + 3) 174 204 [(2, 151), (0, x1), (0, 1)] [] h194 Q
            have mr := Mq_new (w := x1) m3 xp196 (my_ag.fr frh194 rfl) fo o67 (by omega) t67
            refine w_aload_n gz_174_204 rfl ?_
            refine w_bipush gz_174_205 (by decide) ?_
            have ce199 : h194 151 7 = (v188 + 1) := ((my_fr.at frh194 is_151 rfl).trans (my_up_self fh192))
            refine w_inv (k := 0) (as := [(0, 59)]) (r := []) (x := 151) (ls0 := [(2, 151), (0, 59)]) gz_174_207 gm_183 rfl is_151 rd_10 rfl rfl rfl rfl rfl (c_Model_takeSign_f0 (d := (d + 1))  (((my_fr.at frh194 is_151 rfl).trans ((my_up_fld fh192 (by decide)).trans ((my_up_role fh185 is_151 is_166 rfl).trans ((my_up_role fh174 is_151 is_165 rfl).trans ev171.symm)))).trans (by omega)) Tok_h194 (fun h200 frh200 w201 w202 xp203 Tok_h200t204 => ?_) (fun h205 frh205 w206 w207 w208 xp209 Tok_h205t210 => ?_))
            ·
              have gh200 : my_fr [(10, 7), (10, 8), (10, 27), (10, 32), (10, 33), (64, -1), (65, -1), (73, -1), (74, -1), (75, -1), (76, -1), (77, -1), (78, -1), (79, -1)] h h200 := my_fr.tr gh194 (frh200.mo rfl)
              have Mw_h200 : Mw h200 := Mw_ag (my_ag.fr frh200 rfl) Mw_h194
              have Mw3_h200 : Mw3 h200 := Mw3_ag (my_ag.fr frh200 rfl) Mw3_h194
              show wp l rho (d + 3) 174 210 [(2, 151), (0, x1), (0, 1)] [] h200 Q
              have mr2 : Mq h200 x1 := Mq_ag (my_ag.fr frh200 rfl) mr
              have r165 : ∀ j : Int, h200 165 j = h174 165 j := fun j => ((my_fr.at frh200 is_165 rfl).trans ((my_fr.at frh194 is_165 rfl).trans ((my_up_role fh192 is_165 is_151 rfl).trans ((my_up_role fh185 is_165 is_166 rfl).trans (rfl : h174 165 j = h174 165 j)))))
              have r166 : ∀ j : Int, h200 166 j = h185 166 j := fun j => ((my_fr.at frh200 is_166 rfl).trans ((my_fr.at frh194 is_166 rfl).trans ((my_up_role fh192 is_166 is_151 rfl).trans (rfl : h185 166 j = h185 166 j))))
              have c211 := (rfl : h200 151 8 = h200 151 8)
              exact w_vret gz_174_210 gm_174 (k0 h200 (gh200) (by omega) (by omega) Tok_h200t204 Mw_h200 Mw3_h200)
            ·
              have gh205 : my_fr [(10, 7), (10, 8), (10, 27), (10, 32), (10, 33), (64, -1), (65, -1), (73, -1), (74, -1), (75, -1), (76, -1), (77, -1), (78, -1), (79, -1)] h h205 := my_fr.tr gh194 (frh205.mo rfl)
              have Mw_h205 : Mw h205 := Mw_ag (my_ag.fr frh205 rfl) Mw_h194
              have Mw3_h205 : Mw3 h205 := Mw3_ag (my_ag.fr frh205 rfl) Mw3_h194
              show wp l rho (d + 3) 174 210 [(2, 151), (0, x1), (0, 1)] [] h205 Q
              have mr2 : Mq h205 x1 := Mq_ag (my_ag.fr frh205 rfl) mr
              have r165 : ∀ j : Int, h205 165 j = h174 165 j := fun j => ((my_fr.at frh205 is_165 rfl).trans ((my_fr.at frh194 is_165 rfl).trans ((my_up_role fh192 is_165 is_151 rfl).trans ((my_up_role fh185 is_165 is_166 rfl).trans (rfl : h174 165 j = h174 165 j)))))
              have r166 : ∀ j : Int, h205 166 j = h185 166 j := fun j => ((my_fr.at frh205 is_166 rfl).trans ((my_fr.at frh194 is_166 rfl).trans ((my_up_role fh192 is_166 is_151 rfl).trans (rfl : h185 166 j = h185 166 j))))
              have c212 := (rfl : h205 151 7 = h205 151 7)
              have c213 := w208
              exact w_vret gz_174_210 gm_174 (k1 h205 (gh205) (by omega) (by omega) (by omega) (by first | exact mr2 | exact (fun k a => ⟨(r165 k).trans (u5 k a), (r166 k).trans (u6 k a)⟩) | omega) (by first | exact mr2 | exact (fun k a => ⟨(r165 k).trans (u5 k a), (r166 k).trans (u6 k a)⟩) | omega) Tok_h205t210 Mw_h205 Mw3_h205)
          ·
            refine w_goto (t := 150) gz_174_129 rfl ?_
            refine w_aload_n gz_174_150 rfl ?_
            refine w_iconst gz_174_151 (by decide) ?_
            refine w_inv (k := 0) (as := [(0, 2)]) (r := []) (x := 151) (ls0 := [(2, 151), (0, 2)]) gz_174_152 gm_178 rfl is_151 rd_10 rfl rfl rfl rfl rfl ?_
            refine w_aload_n gz_178_0 rfl ?_
            refine v_getI (j := 8) gz_178_1 rfl is_151 rd_10 rfl (fun v214 ev214 pv214 qv214 => ?_)
            have zv214 := ev214.trans ((my_up_fld fh149 (by decide)).trans ev144.symm)
            refine w_ifne (t := 25) gz_178_4 rfl (fun u215 => by exfalso; omega) (fun u215 => ?_)
            refine w_aload_n gz_178_7 rfl ?_
            refine w_iload_n gz_178_8 rfl ?_
            refine w_bipush gz_178_9 (by decide) ?_
            refine w_aload_n gz_178_11 rfl ?_
            refine w_getX (v := 154) gz_178_12 is_151 rd_10 rfl (by decide) rfl ?_
            refine w_aload_n gz_178_15 rfl ?_
            refine v_getI (j := 7) gz_178_16 rfl is_151 rd_10 rfl (fun v217 ev217 pv217 qv217 => ?_)
            have zv217 := ev217.trans ev164.symm
            refine w_iald gz_178_19 is_154 rd_53 (by omega) (by omega) (fun v218 ev218 pv218 qv218 => ?_)
            refine w_imul gz_178_20 ⟨by omega, by omega⟩ ?_
            refine w_iadd gz_178_21 ⟨by omega, by omega⟩ ?_
            refine v_putI (j := 8) gz_178_22 rfl is_151 rd_10 rfl (by omega) (by omega) rfl (fun h219 fh219 => ?_)
            have gh219 : my_fr [(10, 7), (10, 8), (10, 27), (10, 32), (10, 33), (64, -1), (65, -1), (73, -1), (74, -1), (75, -1), (76, -1), (77, -1), (78, -1), (79, -1)] h h219 := my_fr.up gh149 is_151 fh219 rfl
            have Mw_h219 : Mw h219 := Mw_ag (my_ag.up fh219 is_151 rfl) Mw_h149
            have Mw3_h219 : Mw3 h219 := Mw3_ag (my_ag.up fh219 is_151 rfl) Mw3_h149
            have Tok_h219 : Tok h219 := Tok_ag (my_ag.up fh219 is_151 rfl) Tok_h149t150
            refine w_vret gz_178_25 gm_178 ?_
            show wp l rho (d + 3) 174 155 [(2, 151), (0, x1), (0, 1)] [] h219 Q
            refine w_aload_n gz_174_155 rfl ?_
            refine v_getI (j := 8) gz_174_156 rfl is_151 rd_10 rfl (fun v220 ev220 pv220 qv220 => ?_)
            have zv220 := ev220.trans (my_up_self fh219)
            refine w_ifle (t := 163) gz_174_159 rfl (fun u221 => by exfalso; omega) (fun u221 => ?_)
            have r165 : ∀ j : Int, h219 165 j = h 165 j := fun j => ((my_up_role fh219 is_165 is_151 rfl).trans ((my_up_role fh149 is_165 is_151 rfl).trans ((my_fr.at frh7 is_165 rfl).trans (rfl : h 165 j = h 165 j))))
            have r166 : ∀ j : Int, h219 166 j = h 166 j := fun j => ((my_up_role fh219 is_166 is_151 rfl).trans ((my_up_role fh149 is_166 is_151 rfl).trans ((my_fr.at frh7 is_166 rfl).trans (rfl : h 166 j = h 166 j))))
            have c222 := ev220.symm
            exact w_vret gz_174_162 gm_174 (k0 h219 (gh219) (by omega) (by omega) Tok_h219 Mw_h219 Mw3_h219)
        ·
          refine w_aload_n gz_174_99 rfl ?_
          refine w_iconst gz_174_100 (by decide) ?_
          refine w_inv (k := 0) (as := [(0, 4)]) (r := []) (x := 151) (ls0 := [(2, 151), (0, 4)]) gz_174_101 gm_178 rfl is_151 rd_10 rfl rfl rfl rfl rfl ?_
          refine w_aload_n gz_178_0 rfl ?_
          refine v_getI (j := 8) gz_178_1 rfl is_151 rd_10 rfl (fun v223 ev223 pv223 qv223 => ?_)
          have zv223 := ev223.trans ((my_up_fld fh149 (by decide)).trans ev144.symm)
          refine w_ifne (t := 25) gz_178_4 rfl (fun u224 => by exfalso; omega) (fun u224 => ?_)
          refine w_aload_n gz_178_7 rfl ?_
          refine w_iload_n gz_178_8 rfl ?_
          refine w_bipush gz_178_9 (by decide) ?_
          refine w_aload_n gz_178_11 rfl ?_
          refine w_getX (v := 154) gz_178_12 is_151 rd_10 rfl (by decide) rfl ?_
          refine w_aload_n gz_178_15 rfl ?_
          refine v_getI (j := 7) gz_178_16 rfl is_151 rd_10 rfl (fun v226 ev226 pv226 qv226 => ?_)
          have zv226 := ev226.trans ev156.symm
          refine w_iald gz_178_19 is_154 rd_53 (by omega) (by omega) (fun v227 ev227 pv227 qv227 => ?_)
          refine w_imul gz_178_20 ⟨by omega, by omega⟩ ?_
          refine w_iadd gz_178_21 ⟨by omega, by omega⟩ ?_
          refine v_putI (j := 8) gz_178_22 rfl is_151 rd_10 rfl (by omega) (by omega) rfl (fun h228 fh228 => ?_)
          have gh228 : my_fr [(10, 7), (10, 8), (10, 27), (10, 32), (10, 33), (64, -1), (65, -1), (73, -1), (74, -1), (75, -1), (76, -1), (77, -1), (78, -1), (79, -1)] h h228 := my_fr.up gh149 is_151 fh228 rfl
          have Mw_h228 : Mw h228 := Mw_ag (my_ag.up fh228 is_151 rfl) Mw_h149
          have Mw3_h228 : Mw3 h228 := Mw3_ag (my_ag.up fh228 is_151 rfl) Mw3_h149
          have Tok_h228 : Tok h228 := Tok_ag (my_ag.up fh228 is_151 rfl) Tok_h149t150
          refine w_vret gz_178_25 gm_178 ?_
          show wp l rho (d + 3) 174 104 [(2, 151), (0, x1), (0, 1)] [] h228 Q
          refine w_goto (t := 155) gz_174_104 rfl ?_
          refine w_aload_n gz_174_155 rfl ?_
          refine v_getI (j := 8) gz_174_156 rfl is_151 rd_10 rfl (fun v229 ev229 pv229 qv229 => ?_)
          have zv229 := ev229.trans (my_up_self fh228)
          refine w_ifle (t := 163) gz_174_159 rfl (fun u230 => by exfalso; omega) (fun u230 => ?_)
          have r165 : ∀ j : Int, h228 165 j = h 165 j := fun j => ((my_up_role fh228 is_165 is_151 rfl).trans ((my_up_role fh149 is_165 is_151 rfl).trans ((my_fr.at frh7 is_165 rfl).trans (rfl : h 165 j = h 165 j))))
          have r166 : ∀ j : Int, h228 166 j = h 166 j := fun j => ((my_up_role fh228 is_166 is_151 rfl).trans ((my_up_role fh149 is_166 is_151 rfl).trans ((my_fr.at frh7 is_166 rfl).trans (rfl : h 166 j = h 166 j))))
          have c231 := ev229.symm
          exact w_vret gz_174_162 gm_174 (k0 h228 (gh228) (by omega) (by omega) Tok_h228 Mw_h228 Mw3_h228)
      ·
        refine w_aload_n gz_174_66 rfl ?_
        refine w_iconst gz_174_67 (by decide) ?_
        refine w_inv (k := 0) (as := [(0, 1)]) (r := []) (x := 151) (ls0 := [(2, 151), (0, 1)]) gz_174_68 gm_178 rfl is_151 rd_10 rfl rfl rfl rfl rfl ?_
        refine w_aload_n gz_178_0 rfl ?_
        refine v_getI (j := 8) gz_178_1 rfl is_151 rd_10 rfl (fun v232 ev232 pv232 qv232 => ?_)
        have zv232 := ev232.trans ((my_up_fld fh149 (by decide)).trans ev144.symm)
        refine w_ifne (t := 25) gz_178_4 rfl (fun u233 => by exfalso; omega) (fun u233 => ?_)
        refine w_aload_n gz_178_7 rfl ?_
        refine w_iload_n gz_178_8 rfl ?_
        refine w_bipush gz_178_9 (by decide) ?_
        refine w_aload_n gz_178_11 rfl ?_
        refine w_getX (v := 154) gz_178_12 is_151 rd_10 rfl (by decide) rfl ?_
        refine w_aload_n gz_178_15 rfl ?_
        refine v_getI (j := 7) gz_178_16 rfl is_151 rd_10 rfl (fun v235 ev235 pv235 qv235 => ?_)
        have zv235 := ev235.trans ev152.symm
        refine w_iald gz_178_19 is_154 rd_53 (by omega) (by omega) (fun v236 ev236 pv236 qv236 => ?_)
        refine w_imul gz_178_20 ⟨by omega, by omega⟩ ?_
        refine w_iadd gz_178_21 ⟨by omega, by omega⟩ ?_
        refine v_putI (j := 8) gz_178_22 rfl is_151 rd_10 rfl (by omega) (by omega) rfl (fun h237 fh237 => ?_)
        have gh237 : my_fr [(10, 7), (10, 8), (10, 27), (10, 32), (10, 33), (64, -1), (65, -1), (73, -1), (74, -1), (75, -1), (76, -1), (77, -1), (78, -1), (79, -1)] h h237 := my_fr.up gh149 is_151 fh237 rfl
        have Mw_h237 : Mw h237 := Mw_ag (my_ag.up fh237 is_151 rfl) Mw_h149
        have Mw3_h237 : Mw3 h237 := Mw3_ag (my_ag.up fh237 is_151 rfl) Mw3_h149
        have Tok_h237 : Tok h237 := Tok_ag (my_ag.up fh237 is_151 rfl) Tok_h149t150
        refine w_vret gz_178_25 gm_178 ?_
        show wp l rho (d + 3) 174 71 [(2, 151), (0, x1), (0, 1)] [] h237 Q
        refine w_goto (t := 155) gz_174_71 rfl ?_
        refine w_aload_n gz_174_155 rfl ?_
        refine v_getI (j := 8) gz_174_156 rfl is_151 rd_10 rfl (fun v238 ev238 pv238 qv238 => ?_)
        have zv238 := ev238.trans (my_up_self fh237)
        refine w_ifle (t := 163) gz_174_159 rfl (fun u239 => by exfalso; omega) (fun u239 => ?_)
        have r165 : ∀ j : Int, h237 165 j = h 165 j := fun j => ((my_up_role fh237 is_165 is_151 rfl).trans ((my_up_role fh149 is_165 is_151 rfl).trans ((my_fr.at frh7 is_165 rfl).trans (rfl : h 165 j = h 165 j))))
        have r166 : ∀ j : Int, h237 166 j = h 166 j := fun j => ((my_up_role fh237 is_166 is_151 rfl).trans ((my_up_role fh149 is_166 is_151 rfl).trans ((my_fr.at frh7 is_166 rfl).trans (rfl : h 166 j = h 166 j))))
        have c240 := ev238.symm
        exact w_vret gz_174_162 gm_174 (k0 h237 (gh237) (by omega) (by omega) Tok_h237 Mw_h237 Mw3_h237)
end MYNModel_readJoin_f0
