/-! contracts, printed by wip/gen/gy.py -/
section MYNModel_readSum7_f0
theorem c_Model_readSum7_f0 {l : Launch} {rho : Nat → Int32} {d : Nat} {h : my_H} {Q : my_H → my_V → Prop} {x1 : Int} {wv : Int} (a1 : 36 ≤ x1) (b1 : x1 ≤ 41) (cf : h 151 8 = 0) (hwv : wv ≤ 5) (hwv0 : 0 ≤ wv) (n_Tok : Tok h) (n_Mq : Mq h wv) (n_Wd9 : Wd9 h) (hp : x1 = 36 + h 167 6) (k0 : ∀ (h' : my_H), my_fr [(10, 7), (10, 8), (67, -1), (68, -1), (69, -1)] h h' → 1 ≤ h' 151 8 → h' 151 8 ≤ 16004 → h 151 7 ≤ h' 151 7 → sumM (sm h) (h 151 7) (h 151 27) (h' 151 8) (h' 151 7) → Ko h h' → Tok h' → Mq h' wv → Wd9 h' → Q h' (9, 0)) (k1 : ∀ (h' : my_H), my_fr [(10, 7), (10, 8), (67, -1), (68, -1), (69, -1)] h h' → 1 ≤ h' 151 7 → h' 151 7 ≤ 1001 → h' 151 8 = 0 → PaneOk h' x1 → Pk3 h' x1 (h' 151 27) → h 151 7 ≤ h' 151 7 → sumM (sm h) (h 151 7) (h 151 27) (h' 151 8) (h' 151 7) → h' 168 x1 = 5 → Ko h h' → (∃ a b : Int, SumV (sm h) (h 151 7) a b ∧ PmI x1 h h' 5 a b 0) → Tok h' → Mq h' wv → Wd9 h' → Q h' (9, 0)) : wp l rho (d + 3) 190 0 [(2, 151), (0, x1)] [] h Q := by
  refine v_know (x := 151) (j := 7) (b := 7) rfl is_151 rd_10 rfl (fun k151_7 ek151_7 pk151_7 qk151_7 => ?_)
  refine v_know (x := 151) (j := 27) (b := 27) rfl is_151 rd_10 rfl (fun k151_27 ek151_27 pk151_27 qk151_27 => ?_)
  refine w_aload_n gz_190_0 rfl ?_
  refine w_getX (v := 168) gz_190_1 is_151 rd_10 rfl (by decide) rfl ?_
  refine w_iload_n gz_190_4 rfl ?_
  refine w_iconst gz_190_5 (by decide) ?_
  refine w_iast gz_190_6 is_168 rd_67 (by omega) (by omega) (by omega) (by omega) (fun h2 fh2 => ?_)
  have gh2 : my_fr [(10, 7), (10, 8), (67, -1), (68, -1), (69, -1)] h h2 := my_fr.up my_fr.rf is_168 fh2 rfl
  have Tok_h2 : Tok h2 := Tok_ag (my_ag.up fh2 is_168 rfl) n_Tok
  have Mq_h2 : Mq h2 wv := Mq_u (a := 168) hwv (by decide) (by omega) fh2 n_Mq
  have Wd9_h2 : Wd9 h2 := Wd9_ag (my_ag.up fh2 is_168 rfl) n_Wd9
  have P6_h2 : h2 167 6 = h 167 6 := P6_ag (my_ag.up fh2 is_168 rfl) (rfl)
  have Ko_h2 : Ko h h2 := Ko_u (a := 168) hwv (by decide) (by omega) fh2 (Ko_rf)
  have Pz_h2 : Pz x1 h h2 := Pz_u (a := 168) hwv (by decide) (by omega) fh2 (Pz_rf)
  have k168 : h2 168 x1 = 5 := my_up_self fh2
  refine w_aload_n gz_190_7 rfl ?_
  refine w_getX (v := 170) gz_190_8 is_151 rd_10 rfl (by decide) rfl ?_
  refine w_iload_n gz_190_11 rfl ?_
  refine w_aload_n gz_190_12 rfl ?_
  refine w_aload_n gz_190_13 rfl ?_
  refine v_getI (j := 27) gz_190_14 rfl is_151 rd_10 rfl (fun v4 ev4 pv4 qv4 => ?_)
  have zv4 := ev4.trans ((my_up_role fh2 is_151 is_168 rfl).trans ek151_27.symm)
  refine w_iconst gz_190_17 (by decide) ?_
  refine w_isub gz_190_18 ⟨by omega, by omega⟩ ?_
  have ce5 : h2 151 7 = k151_7 := ((my_up_role fh2 is_151 is_168 rfl).trans ek151_7.symm)
  have ce6 : h2 151 27 = v4 := ev4.symm
  refine w_inv (k := 0) (as := [(0, (v4 - 1))]) (r := [(0, x1), (2, 170)]) (x := 151) (ls0 := [(2, 151), (0, (v4 - 1))]) gz_190_19 gm_187 rfl is_151 rd_10 rfl rfl rfl rfl rfl (c_Model_takeNumber9_f0 (d := (d + 1)) (x1 := (v4 - 1)) (by omega) (by omega) (((my_up_role fh2 is_151 is_168 rfl).trans cf).trans (by omega)) Tok_h2 (fun h7 frh7 w8 w9 xp10 xp11 Tok_h7t12 => ?_) (fun h13 v14 frh13 w15 w16 w17 w18 w19 xp20 xp21 xp22 xp23 xp24 xp25 xp26 xp27 Tok_h13t28 => ?_))
  ·
    have gh7 : my_fr [(10, 7), (10, 8), (67, -1), (68, -1), (69, -1)] h h7 := my_fr.tr gh2 (frh7.mo rfl)
    have Mq_h7 : Mq h7 wv := Mq_ag (my_ag.fr frh7 rfl) Mq_h2
    have Wd9_h7 : Wd9 h7 := Wd9_ag (my_ag.fr frh7 rfl) Wd9_h2
    have P6_h7 : h7 167 6 = h 167 6 := P6_ag (my_ag.fr frh7 rfl) P6_h2
    have Ko_h7 : Ko h h7 := Ko_ag (my_ag.fr frh7 rfl) Ko_h2
    have Pz_h7 : Pz x1 h h7 := Pz_ag (my_ag.fr frh7 rfl) Pz_h2
    show wp l rho (d + 3) 190 22 [(2, 151), (0, x1)] [(0, 0), (0, x1), (2, 170)] h7 Q
    have ps29 : h2 151 7 = h 151 7 := ((my_up_role fh2 is_151 is_168 rfl).trans (rfl : h 151 7 = h 151 7))
    rw [ps29] at xp10
    have tE30 : sm h2 = sm h := sm_eq (fun j => my_fr.at gh2 is_153 rfl) (fun j => my_fr.at gh2 is_154 rfl) (fun j => my_fr.at gh2 is_155 rfl)
    rw [tE30] at xp11
    rw [ps29] at xp11
    have hi31 : 0 ≤ 0 := by omega
    have hi32 : 0 ≤ 7 := by omega
    refine w_iast gz_190_22 is_170 rd_69 (by omega) (by omega) (by omega) (by omega) (fun h33 fh33 => ?_)
    have gh33 : my_fr [(10, 7), (10, 8), (67, -1), (68, -1), (69, -1)] h h33 := my_fr.up gh7 is_170 fh33 rfl
    have Mq_h33 : Mq h33 wv := Mq_u (a := 170) hwv (by decide) (by omega) fh33 Mq_h7
    have Wd9_h33 : Wd9 h33 := Wd9_ag (my_ag.up fh33 is_170 rfl) Wd9_h7
    have P6_h33 : h33 167 6 = h 167 6 := P6_ag (my_ag.up fh33 is_170 rfl) P6_h7
    have Ko_h33 : Ko h h33 := Ko_u (a := 170) hwv (by decide) (by omega) fh33 Ko_h7
    have Pz_h33 : Pz x1 h h33 := Pz_u (a := 170) hwv (by decide) (by omega) fh33 Pz_h7
    have Tok_h33 : Tok h33 := Tok_ag (my_ag.up fh33 is_170 rfl) Tok_h7t12
    have k170 := my_up_self fh33
    refine w_aload_n gz_190_23 rfl ?_
    refine w_bipush gz_190_24 (by decide) ?_
    have ce34 : h33 151 7 = h7 151 7 := ((my_up_role fh33 is_151 is_170 rfl).trans (rfl : h7 151 7 = h7 151 7))
    have ce35 : h33 151 27 = v4 := ((my_up_role fh33 is_151 is_170 rfl).trans ((my_fr.at frh7 is_151 rfl).trans ev4.symm))
    refine w_inv (k := 0) (as := [(0, 9)]) (r := []) (x := 151) (ls0 := [(2, 151), (0, 9)]) gz_190_26 gm_175 rfl is_151 rd_10 rfl rfl rfl rfl rfl (c_Model_takeWord9_f1 (d := d)  ((h7 151 8)) (((my_up_role fh33 is_151 is_170 rfl).trans (rfl : h7 151 8 = h7 151 8))) (by omega) (by omega) Tok_h33 Wd9_h33 (fun h36 frh36 w37 w38 xp39 xp40 Tok_h36t41 Wd9_h36t42 => ?_))
    have gh36 : my_fr [(10, 7), (10, 8), (67, -1), (68, -1), (69, -1)] h h36 := my_fr.tr gh33 (frh36.mo rfl)
    have Mq_h36 : Mq h36 wv := Mq_ag (my_ag.fr frh36 rfl) Mq_h33
    have Wd9_h36 : Wd9 h36 := Wd9_ag (my_ag.fr frh36 rfl) Wd9_h33
    have P6_h36 : h36 167 6 = h 167 6 := P6_ag (my_ag.fr frh36 rfl) P6_h33
    have Ko_h36 : Ko h h36 := Ko_ag (my_ag.fr frh36 rfl) Ko_h33
    have Pz_h36 : Pz x1 h h36 := Pz_ag (my_ag.fr frh36 rfl) Pz_h33
    show wp l rho (d + 3) 190 29 [(2, 151), (0, x1)] [] h36 Q
    have ps43 : h33 151 7 = ((h 151 7)) := ((my_up_role fh33 is_151 is_170 rfl).trans xp10)
    rw [ps43] at xp39
    rw [ps43] at xp40
    refine w_aload_n gz_190_29 rfl ?_
    refine v_getI (j := 8) gz_190_30 rfl is_151 rd_10 rfl (fun v44 ev44 pv44 qv44 => ?_)
    have zv44 := ev44.trans ((my_fr.at frh36 is_151 rfl).trans ((my_up_role fh33 is_151 is_170 rfl).trans (rfl : h7 151 8 = h7 151 8)))
    refine w_ifne (t := 74) gz_190_33 rfl (fun u45 => ?_) (fun u45 => by exfalso; omega)
    refine w_aload_n gz_190_74 rfl ?_
    refine w_getX (v := 169) gz_190_75 is_151 rd_10 rfl (by decide) rfl ?_
    refine w_iload_n gz_190_78 rfl ?_
    refine w_aload_n gz_190_79 rfl ?_
    refine w_aload_n gz_190_80 rfl ?_
    refine v_getI (j := 27) gz_190_81 rfl is_151 rd_10 rfl (fun v47 ev47 pv47 qv47 => ?_)
    have zv47 := ev47.trans ((my_fr.at frh36 is_151 rfl).trans ((my_up_role fh33 is_151 is_170 rfl).trans ((my_fr.at frh7 is_151 rfl).trans ev4.symm)))
    refine w_iconst gz_190_84 (by decide) ?_
    refine w_isub gz_190_85 ⟨by omega, by omega⟩ ?_
    have ce48 : h36 151 27 = v47 := ev47.symm
    refine w_inv (k := 0) (as := [(0, (v47 - 1))]) (r := [(0, x1), (2, 169)]) (x := 151) (ls0 := [(2, 151), (0, (v47 - 1))]) gz_190_86 gm_187 rfl is_151 rd_10 rfl rfl rfl rfl rfl (c_Model_takeNumber9_f1 (d := (d + 1)) (x1 := (v47 - 1)) (by omega) (by omega) (v44) (ev44.symm) (by omega) (by omega) Tok_h36t41 (fun w49 w50 xp51 Tok_h36t52 => ?_))
    show wp l rho (d + 3) 190 89 [(2, 151), (0, x1)] [(0, 0), (0, x1), (2, 169)] h36 Q
    have ps53 : h36 151 7 = ((((h 151 7)))) := xp40
    rw [ps53] at xp51
    have hi54 : 0 ≤ 0 := by omega
    have hi55 : 0 ≤ 7 := by omega
    refine w_iast gz_190_89 is_169 rd_68 (by omega) (by omega) (by omega) (by omega) (fun h56 fh56 => ?_)
    have gh56 : my_fr [(10, 7), (10, 8), (67, -1), (68, -1), (69, -1)] h h56 := my_fr.up gh36 is_169 fh56 rfl
    have Mq_h56 : Mq h56 wv := Mq_u (a := 169) hwv (by decide) (by omega) fh56 Mq_h36
    have Wd9_h56 : Wd9 h56 := Wd9_ag (my_ag.up fh56 is_169 rfl) Wd9_h36t42
    have P6_h56 : h56 167 6 = h 167 6 := P6_ag (my_ag.up fh56 is_169 rfl) P6_h36
    have Ko_h56 : Ko h h56 := Ko_u (a := 169) hwv (by decide) (by omega) fh56 Ko_h36
    have Pz_h56 : Pz x1 h h56 := Pz_u (a := 169) hwv (by decide) (by omega) fh56 Pz_h36
    have Tok_h56 : Tok h56 := Tok_ag (my_ag.up fh56 is_169 rfl) Tok_h36t52
    have k169 := my_up_self fh56
    have psR : h56 151 7 = ((((h 151 7)))) := ((my_up_role fh56 is_151 is_169 rfl).trans xp40)
    have npsR : sm h56 = sm h := sm_eq (fun j => my_fr.at gh56 is_153 rfl) (fun j => my_fr.at gh56 is_154 rfl) (fun j => my_fr.at gh56 is_155 rfl)
    have ce57 : h56 151 7 = h36 151 7 := ((my_up_role fh56 is_151 is_169 rfl).trans (rfl : h36 151 7 = h36 151 7))
    have ce58 : h56 151 27 = v47 := ((my_up_role fh56 is_151 is_169 rfl).trans ev47.symm)
    have a168 : ∀ j : Int, h56 168 j = h2 168 j := fun j => ((my_up_role fh56 is_168 is_169 rfl).trans ((my_fr.at frh36 is_168 rfl).trans ((my_up_role fh33 is_168 is_170 rfl).trans ((my_fr.at frh7 is_168 rfl).trans (rfl : h2 168 j = h2 168 j)))))
    have a170 : ∀ j : Int, h56 170 j = h33 170 j := fun j => ((my_up_role fh56 is_170 is_169 rfl).trans ((my_fr.at frh36 is_170 rfl).trans (rfl : h33 170 j = h33 170 j)))
    have a169 : ∀ j : Int, h56 169 j = h56 169 j := fun _ => rfl
    have c59 := ((my_up_role fh56 is_151 is_169 rfl).trans ev44.symm)
    exact w_vret gz_190_90 gm_190 (k0 h56 (gh56) (by omega) (by omega) (by first | exact ⟨_, _, ⟨rfl, rfl⟩, PmI_5 Pz_h56 (by rw [a168]; exact k168) (by rw [a170, k170]; omega) (by rw [a169, k169]; omega)⟩ | exact Ko_h56 | (rw [a168]; exact k168) | (unfold sumM; first | exact Or.inr (Or.inr ⟨by omega, by omega, Or.inr ⟨by omega, Or.inr ⟨by omega, Or.inr (Or.inr ⟨by omega, by omega, ⟨by omega, by omega⟩⟩)⟩⟩⟩) | exact Or.inr (Or.inr ⟨by omega, by omega, Or.inr ⟨by omega, Or.inr ⟨by omega, or_assoc.mp (Or.inl (by omega))⟩⟩⟩) | exact Or.inr (Or.inr ⟨by omega, by omega, Or.inr ⟨by omega, Or.inl ⟨by omega, by omega, by omega⟩⟩⟩) | exact Or.inr (Or.inr ⟨by omega, by omega, Or.inl ⟨by omega, by omega⟩⟩) | exact or_assoc.mp (Or.inl (by omega))) | omega | (refine ⟨fun q => ?_, fun q => ?_⟩ <;> first | (rw [a168, k168] at q; omega) | (rw [a170, k170]; omega)) | (refine ⟨fun q => ?_, fun q => ?_, fun q => ?_⟩ <;> first | (exfalso; rw [a168, k168] at q; omega) | (rw [a169, k169]; omega) | (rw [a170, k170]; omega)) | omega) (by first | exact ⟨_, _, ⟨rfl, rfl⟩, PmI_5 Pz_h56 (by rw [a168]; exact k168) (by rw [a170, k170]; omega) (by rw [a169, k169]; omega)⟩ | exact Ko_h56 | (rw [a168]; exact k168) | (unfold sumM; first | exact Or.inr (Or.inr ⟨by omega, by omega, Or.inr ⟨by omega, Or.inr ⟨by omega, Or.inr (Or.inr ⟨by omega, by omega, ⟨by omega, by omega⟩⟩)⟩⟩⟩) | exact Or.inr (Or.inr ⟨by omega, by omega, Or.inr ⟨by omega, Or.inr ⟨by omega, or_assoc.mp (Or.inl (by omega))⟩⟩⟩) | exact Or.inr (Or.inr ⟨by omega, by omega, Or.inr ⟨by omega, Or.inl ⟨by omega, by omega, by omega⟩⟩⟩) | exact Or.inr (Or.inr ⟨by omega, by omega, Or.inl ⟨by omega, by omega⟩⟩) | exact or_assoc.mp (Or.inl (by omega))) | omega | (refine ⟨fun q => ?_, fun q => ?_⟩ <;> first | (rw [a168, k168] at q; omega) | (rw [a170, k170]; omega)) | (refine ⟨fun q => ?_, fun q => ?_, fun q => ?_⟩ <;> first | (exfalso; rw [a168, k168] at q; omega) | (rw [a169, k169]; omega) | (rw [a170, k170]; omega)) | omega) (by first | exact ⟨_, _, ⟨rfl, rfl⟩, PmI_5 Pz_h56 (by rw [a168]; exact k168) (by rw [a170, k170]; omega) (by rw [a169, k169]; omega)⟩ | exact Ko_h56 | (rw [a168]; exact k168) | (unfold sumM; first | exact Or.inr (Or.inr ⟨by omega, by omega, Or.inr ⟨by omega, Or.inr ⟨by omega, Or.inr (Or.inr ⟨by omega, by omega, ⟨by omega, by omega⟩⟩)⟩⟩⟩) | exact Or.inr (Or.inr ⟨by omega, by omega, Or.inr ⟨by omega, Or.inr ⟨by omega, or_assoc.mp (Or.inl (by omega))⟩⟩⟩) | exact Or.inr (Or.inr ⟨by omega, by omega, Or.inr ⟨by omega, Or.inl ⟨by omega, by omega, by omega⟩⟩⟩) | exact Or.inr (Or.inr ⟨by omega, by omega, Or.inl ⟨by omega, by omega⟩⟩) | exact or_assoc.mp (Or.inl (by omega))) | omega | (refine ⟨fun q => ?_, fun q => ?_⟩ <;> first | (rw [a168, k168] at q; omega) | (rw [a170, k170]; omega)) | (refine ⟨fun q => ?_, fun q => ?_, fun q => ?_⟩ <;> first | (exfalso; rw [a168, k168] at q; omega) | (rw [a169, k169]; omega) | (rw [a170, k170]; omega)) | omega) Tok_h56 Mq_h56 Wd9_h56)
  ·
    have gh13 : my_fr [(10, 7), (10, 8), (67, -1), (68, -1), (69, -1)] h h13 := my_fr.tr gh2 (frh13.mo rfl)
    have Mq_h13 : Mq h13 wv := Mq_ag (my_ag.fr frh13 rfl) Mq_h2
    have Wd9_h13 : Wd9 h13 := Wd9_ag (my_ag.fr frh13 rfl) Wd9_h2
    have P6_h13 : h13 167 6 = h 167 6 := P6_ag (my_ag.fr frh13 rfl) P6_h2
    have Ko_h13 : Ko h h13 := Ko_ag (my_ag.fr frh13 rfl) Ko_h2
    have Pz_h13 : Pz x1 h h13 := Pz_ag (my_ag.fr frh13 rfl) Pz_h2
    show wp l rho (d + 3) 190 22 [(2, 151), (0, x1)] [(0, v14), (0, x1), (2, 170)] h13 Q
    have ps60 : h2 151 7 = h 151 7 := ((my_up_role fh2 is_151 is_168 rfl).trans (rfl : h 151 7 = h 151 7))
    rw [ps60] at xp22
    rw [ps60] at xp23
    rw [ps60] at xp24
    have tE61 : sm h2 = sm h := sm_eq (fun j => my_fr.at gh2 is_153 rfl) (fun j => my_fr.at gh2 is_154 rfl) (fun j => my_fr.at gh2 is_155 rfl)
    rw [tE61] at xp25
    rw [ps60] at xp25
    rw [tE61] at xp26
    rw [ps60] at xp26
    rw [tE61] at xp27
    rw [ps60] at xp27
    have hi62 : 0 ≤ v14 := by omega
    have hi63 : v14 ≤ 7 := by omega
    refine w_iast gz_190_22 is_170 rd_69 (by omega) (by omega) (by omega) (by omega) (fun h64 fh64 => ?_)
    have gh64 : my_fr [(10, 7), (10, 8), (67, -1), (68, -1), (69, -1)] h h64 := my_fr.up gh13 is_170 fh64 rfl
    have Mq_h64 : Mq h64 wv := Mq_u (a := 170) hwv (by decide) (by omega) fh64 Mq_h13
    have Wd9_h64 : Wd9 h64 := Wd9_ag (my_ag.up fh64 is_170 rfl) Wd9_h13
    have P6_h64 : h64 167 6 = h 167 6 := P6_ag (my_ag.up fh64 is_170 rfl) P6_h13
    have Ko_h64 : Ko h h64 := Ko_u (a := 170) hwv (by decide) (by omega) fh64 Ko_h13
    have Pz_h64 : Pz x1 h h64 := Pz_u (a := 170) hwv (by decide) (by omega) fh64 Pz_h13
    have Tok_h64 : Tok h64 := Tok_ag (my_ag.up fh64 is_170 rfl) Tok_h13t28
    have k170 := my_up_self fh64
    refine w_aload_n gz_190_23 rfl ?_
    refine w_bipush gz_190_24 (by decide) ?_
    have ce65 : h64 151 7 = (h13 151 7) := ((my_up_role fh64 is_151 is_170 rfl).trans (rfl : h13 151 7 = h13 151 7))
    have ce66 : h64 151 27 = v4 := ((my_up_role fh64 is_151 is_170 rfl).trans ((my_fr.at frh13 is_151 rfl).trans ev4.symm))
    refine w_inv (k := 0) (as := [(0, 9)]) (r := []) (x := 151) (ls0 := [(2, 151), (0, 9)]) gz_190_26 gm_175 rfl is_151 rd_10 rfl rfl rfl rfl rfl (c_Model_takeWord9_f0 (d := d) (x1 := 9) (by omega) (by omega) (((my_up_role fh64 is_151 is_170 rfl).trans w19).trans (by omega)) Tok_h64 Wd9_h64 (fun h67 frh67 w68 w69 xp70 xp71 xp72 Tok_h67t73 Wd9_h67t74 => ?_) (fun h75 frh75 w76 w77 w78 xp79 xp80 xp81 Tok_h75t82 Wd9_h75t83 => ?_))
    ·
      have gh67 : my_fr [(10, 7), (10, 8), (67, -1), (68, -1), (69, -1)] h h67 := my_fr.tr gh64 (frh67.mo rfl)
      have Mq_h67 : Mq h67 wv := Mq_ag (my_ag.fr frh67 rfl) Mq_h64
      have Wd9_h67 : Wd9 h67 := Wd9_ag (my_ag.fr frh67 rfl) Wd9_h64
      have P6_h67 : h67 167 6 = h 167 6 := P6_ag (my_ag.fr frh67 rfl) P6_h64
      have Ko_h67 : Ko h h67 := Ko_ag (my_ag.fr frh67 rfl) Ko_h64
      have Pz_h67 : Pz x1 h h67 := Pz_ag (my_ag.fr frh67 rfl) Pz_h64
      show wp l rho (d + 3) 190 29 [(2, 151), (0, x1)] [] h67 Q
      have ps84 : h64 151 7 = (sN (sm h) ((h 151 7))) := ((my_up_role fh64 is_151 is_170 rfl).trans xp25)
      rw [ps84] at xp70
      rw [show wm 9 = 99 from by decide] at xp71
      have tE85 : sm h64 = sm h := sm_eq (fun j => my_fr.at gh64 is_153 rfl) (fun j => my_fr.at gh64 is_154 rfl) (fun j => my_fr.at gh64 is_155 rfl)
      rw [tE85] at xp71
      rw [ps84] at xp71
      rw [tE85] at xp72
      rw [ps84] at xp72
      refine w_aload_n gz_190_29 rfl ?_
      refine v_getI (j := 8) gz_190_30 rfl is_151 rd_10 rfl (fun v86 ev86 pv86 qv86 => ?_)
      have zv86 := ev86.trans (rfl : h67 151 8 = h67 151 8)
      refine w_ifne (t := 74) gz_190_33 rfl (fun u87 => ?_) (fun u87 => by exfalso; omega)
      refine w_aload_n gz_190_74 rfl ?_
      refine w_getX (v := 169) gz_190_75 is_151 rd_10 rfl (by decide) rfl ?_
      refine w_iload_n gz_190_78 rfl ?_
      refine w_aload_n gz_190_79 rfl ?_
      refine w_aload_n gz_190_80 rfl ?_
      refine v_getI (j := 27) gz_190_81 rfl is_151 rd_10 rfl (fun v89 ev89 pv89 qv89 => ?_)
      have zv89 := ev89.trans ((my_fr.at frh67 is_151 rfl).trans ((my_up_role fh64 is_151 is_170 rfl).trans ((my_fr.at frh13 is_151 rfl).trans ev4.symm)))
      refine w_iconst gz_190_84 (by decide) ?_
      refine w_isub gz_190_85 ⟨by omega, by omega⟩ ?_
      have ce90 : h67 151 27 = v89 := ev89.symm
      refine w_inv (k := 0) (as := [(0, (v89 - 1))]) (r := [(0, x1), (2, 169)]) (x := 151) (ls0 := [(2, 151), (0, (v89 - 1))]) gz_190_86 gm_187 rfl is_151 rd_10 rfl rfl rfl rfl rfl (c_Model_takeNumber9_f1 (d := (d + 1)) (x1 := (v89 - 1)) (by omega) (by omega) (v86) (ev86.symm) (by omega) (by omega) Tok_h67t73 (fun w91 w92 xp93 Tok_h67t94 => ?_))
      show wp l rho (d + 3) 190 89 [(2, 151), (0, x1)] [(0, 0), (0, x1), (2, 169)] h67 Q
      have hi95 : 0 ≤ 0 := by omega
      have hi96 : 0 ≤ 7 := by omega
      refine w_iast gz_190_89 is_169 rd_68 (by omega) (by omega) (by omega) (by omega) (fun h97 fh97 => ?_)
      have gh97 : my_fr [(10, 7), (10, 8), (67, -1), (68, -1), (69, -1)] h h97 := my_fr.up gh67 is_169 fh97 rfl
      have Mq_h97 : Mq h97 wv := Mq_u (a := 169) hwv (by decide) (by omega) fh97 Mq_h67
      have Wd9_h97 : Wd9 h97 := Wd9_ag (my_ag.up fh97 is_169 rfl) Wd9_h67t74
      have P6_h97 : h97 167 6 = h 167 6 := P6_ag (my_ag.up fh97 is_169 rfl) P6_h67
      have Ko_h97 : Ko h h97 := Ko_u (a := 169) hwv (by decide) (by omega) fh97 Ko_h67
      have Pz_h97 : Pz x1 h h97 := Pz_u (a := 169) hwv (by decide) (by omega) fh97 Pz_h67
      have Tok_h97 : Tok h97 := Tok_ag (my_ag.up fh97 is_169 rfl) Tok_h67t94
      have k169 := my_up_self fh97
      have psR : h97 151 7 = h67 151 7 := ((my_up_role fh97 is_151 is_169 rfl).trans (rfl : h67 151 7 = h67 151 7))
      have npsR : sm h97 = sm h := sm_eq (fun j => my_fr.at gh97 is_153 rfl) (fun j => my_fr.at gh97 is_154 rfl) (fun j => my_fr.at gh97 is_155 rfl)
      have ce98 : h97 151 7 = h67 151 7 := ((my_up_role fh97 is_151 is_169 rfl).trans (rfl : h67 151 7 = h67 151 7))
      have ce99 : h97 151 27 = v89 := ((my_up_role fh97 is_151 is_169 rfl).trans ev89.symm)
      have a168 : ∀ j : Int, h97 168 j = h2 168 j := fun j => ((my_up_role fh97 is_168 is_169 rfl).trans ((my_fr.at frh67 is_168 rfl).trans ((my_up_role fh64 is_168 is_170 rfl).trans ((my_fr.at frh13 is_168 rfl).trans (rfl : h2 168 j = h2 168 j)))))
      have a170 : ∀ j : Int, h97 170 j = h64 170 j := fun j => ((my_up_role fh97 is_170 is_169 rfl).trans ((my_fr.at frh67 is_170 rfl).trans (rfl : h64 170 j = h64 170 j)))
      have a169 : ∀ j : Int, h97 169 j = h97 169 j := fun _ => rfl
      have c100 := ((my_up_role fh97 is_151 is_169 rfl).trans ev86.symm)
      exact w_vret gz_190_90 gm_190 (k0 h97 (gh97) (by omega) (by omega) (by first | exact ⟨_, _, ⟨rfl, rfl⟩, PmI_5 Pz_h97 (by rw [a168]; exact k168) (by rw [a170, k170]; omega) (by rw [a169, k169]; omega)⟩ | exact Ko_h97 | (rw [a168]; exact k168) | (unfold sumM; first | exact Or.inr (Or.inr ⟨by omega, by omega, Or.inr ⟨by omega, Or.inr ⟨by omega, Or.inr (Or.inr ⟨by omega, by omega, ⟨by omega, by omega⟩⟩)⟩⟩⟩) | exact Or.inr (Or.inr ⟨by omega, by omega, Or.inr ⟨by omega, Or.inr ⟨by omega, or_assoc.mp (Or.inl (by omega))⟩⟩⟩) | exact Or.inr (Or.inr ⟨by omega, by omega, Or.inr ⟨by omega, Or.inl ⟨by omega, by omega, by omega⟩⟩⟩) | exact Or.inr (Or.inr ⟨by omega, by omega, Or.inl ⟨by omega, by omega⟩⟩) | exact or_assoc.mp (Or.inl (by omega))) | omega | (refine ⟨fun q => ?_, fun q => ?_⟩ <;> first | (rw [a168, k168] at q; omega) | (rw [a170, k170]; omega)) | (refine ⟨fun q => ?_, fun q => ?_, fun q => ?_⟩ <;> first | (exfalso; rw [a168, k168] at q; omega) | (rw [a169, k169]; omega) | (rw [a170, k170]; omega)) | omega) (by first | exact ⟨_, _, ⟨rfl, rfl⟩, PmI_5 Pz_h97 (by rw [a168]; exact k168) (by rw [a170, k170]; omega) (by rw [a169, k169]; omega)⟩ | exact Ko_h97 | (rw [a168]; exact k168) | (unfold sumM; first | exact Or.inr (Or.inr ⟨by omega, by omega, Or.inr ⟨by omega, Or.inr ⟨by omega, Or.inr (Or.inr ⟨by omega, by omega, ⟨by omega, by omega⟩⟩)⟩⟩⟩) | exact Or.inr (Or.inr ⟨by omega, by omega, Or.inr ⟨by omega, Or.inr ⟨by omega, or_assoc.mp (Or.inl (by omega))⟩⟩⟩) | exact Or.inr (Or.inr ⟨by omega, by omega, Or.inr ⟨by omega, Or.inl ⟨by omega, by omega, by omega⟩⟩⟩) | exact Or.inr (Or.inr ⟨by omega, by omega, Or.inl ⟨by omega, by omega⟩⟩) | exact or_assoc.mp (Or.inl (by omega))) | omega | (refine ⟨fun q => ?_, fun q => ?_⟩ <;> first | (rw [a168, k168] at q; omega) | (rw [a170, k170]; omega)) | (refine ⟨fun q => ?_, fun q => ?_, fun q => ?_⟩ <;> first | (exfalso; rw [a168, k168] at q; omega) | (rw [a169, k169]; omega) | (rw [a170, k170]; omega)) | omega) (by first | exact ⟨_, _, ⟨rfl, rfl⟩, PmI_5 Pz_h97 (by rw [a168]; exact k168) (by rw [a170, k170]; omega) (by rw [a169, k169]; omega)⟩ | exact Ko_h97 | (rw [a168]; exact k168) | (unfold sumM; first | exact Or.inr (Or.inr ⟨by omega, by omega, Or.inr ⟨by omega, Or.inr ⟨by omega, Or.inr (Or.inr ⟨by omega, by omega, ⟨by omega, by omega⟩⟩)⟩⟩⟩) | exact Or.inr (Or.inr ⟨by omega, by omega, Or.inr ⟨by omega, Or.inr ⟨by omega, or_assoc.mp (Or.inl (by omega))⟩⟩⟩) | exact Or.inr (Or.inr ⟨by omega, by omega, Or.inr ⟨by omega, Or.inl ⟨by omega, by omega, by omega⟩⟩⟩) | exact Or.inr (Or.inr ⟨by omega, by omega, Or.inl ⟨by omega, by omega⟩⟩) | exact or_assoc.mp (Or.inl (by omega))) | omega | (refine ⟨fun q => ?_, fun q => ?_⟩ <;> first | (rw [a168, k168] at q; omega) | (rw [a170, k170]; omega)) | (refine ⟨fun q => ?_, fun q => ?_, fun q => ?_⟩ <;> first | (exfalso; rw [a168, k168] at q; omega) | (rw [a169, k169]; omega) | (rw [a170, k170]; omega)) | omega) Tok_h97 Mq_h97 Wd9_h97)
    ·
      have gh75 : my_fr [(10, 7), (10, 8), (67, -1), (68, -1), (69, -1)] h h75 := my_fr.tr gh64 (frh75.mo rfl)
      have Mq_h75 : Mq h75 wv := Mq_ag (my_ag.fr frh75 rfl) Mq_h64
      have Wd9_h75 : Wd9 h75 := Wd9_ag (my_ag.fr frh75 rfl) Wd9_h64
      have P6_h75 : h75 167 6 = h 167 6 := P6_ag (my_ag.fr frh75 rfl) P6_h64
      have Ko_h75 : Ko h h75 := Ko_ag (my_ag.fr frh75 rfl) Ko_h64
      have Pz_h75 : Pz x1 h h75 := Pz_ag (my_ag.fr frh75 rfl) Pz_h64
      show wp l rho (d + 3) 190 29 [(2, 151), (0, x1)] [] h75 Q
      have ps101 : h64 151 7 = (sN (sm h) ((h 151 7))) := ((my_up_role fh64 is_151 is_170 rfl).trans xp25)
      rw [ps101] at xp79
      have tE102 : sm h64 = sm h := sm_eq (fun j => my_fr.at gh64 is_153 rfl) (fun j => my_fr.at gh64 is_154 rfl) (fun j => my_fr.at gh64 is_155 rfl)
      rw [tE102] at xp80
      rw [ps101] at xp80
      rw [show wm 9 = 99 from by decide] at xp81
      rw [tE102] at xp81
      rw [ps101] at xp81
      refine w_aload_n gz_190_29 rfl ?_
      refine v_getI (j := 8) gz_190_30 rfl is_151 rd_10 rfl (fun v103 ev103 pv103 qv103 => ?_)
      have zv103 := ev103.trans w78
      refine w_ifne (t := 74) gz_190_33 rfl (fun u104 => by exfalso; omega) (fun u104 => ?_)
      refine w_aload_n gz_190_36 rfl ?_
      refine w_getX (v := 153) gz_190_37 is_151 rd_10 rfl (by decide) rfl ?_
      refine w_aload_n gz_190_40 rfl ?_
      refine v_getI (j := 7) gz_190_41 rfl is_151 rd_10 rfl (fun v106 ev106 pv106 qv106 => ?_)
      have zv106 := ev106.trans (rfl : h75 151 7 = h75 151 7)
      refine w_iald gz_190_44 is_153 rd_52 (by omega) (by omega) (fun v107 ev107 pv107 qv107 => ?_)
      have nz108a : h75 151 7 = (sN (sm h) (((sN (sm h) ((h 151 7)))))) := xp80
      have nz108 : (v107 ≠ 3 → sK (sm h) (sN (sm h) (((sN (sm h) ((h 151 7)))))) = v107) ∧ (v107 = 3 → sV (sm h) (sN (sm h) (((sN (sm h) ((h 151 7)))))) = 59 → sK (sm h) (sN (sm h) (((sN (sm h) ((h 151 7)))))) = 3) ∧ (v107 = 3 → sV (sm h) (sN (sm h) (((sN (sm h) ((h 151 7)))))) ≠ 59 → sK (sm h) (sN (sm h) (((sN (sm h) ((h 151 7)))))) = 4) := by
        have q := ev107.trans (my_fr.at (j := v106) gh75 is_153 rfl)
        rw [show (v106 : Int) = (sN (sm h) (((sN (sm h) ((h 151 7)))))) from by omega] at q
        exact sK_ld q
      refine w_iconst gz_190_45 (by decide) ?_
      refine w_icne (t := 74) gz_190_46 rfl (fun u109 => ?_) (fun u109 => ?_)
      ·
        refine w_aload_n gz_190_74 rfl ?_
        refine w_getX (v := 169) gz_190_75 is_151 rd_10 rfl (by decide) rfl ?_
        refine w_iload_n gz_190_78 rfl ?_
        refine w_aload_n gz_190_79 rfl ?_
        refine w_aload_n gz_190_80 rfl ?_
        refine v_getI (j := 27) gz_190_81 rfl is_151 rd_10 rfl (fun v111 ev111 pv111 qv111 => ?_)
        have zv111 := ev111.trans ((my_fr.at frh75 is_151 rfl).trans ((my_up_role fh64 is_151 is_170 rfl).trans ((my_fr.at frh13 is_151 rfl).trans ev4.symm)))
        refine w_iconst gz_190_84 (by decide) ?_
        refine w_isub gz_190_85 ⟨by omega, by omega⟩ ?_
        have ce112 : h75 151 7 = v106 := ev106.symm
        have ce113 : h75 151 27 = v111 := ev111.symm
        refine w_inv (k := 0) (as := [(0, (v111 - 1))]) (r := [(0, x1), (2, 169)]) (x := 151) (ls0 := [(2, 151), (0, (v111 - 1))]) gz_190_86 gm_187 rfl is_151 rd_10 rfl rfl rfl rfl rfl (c_Model_takeNumber9_f0 (d := (d + 1)) (x1 := (v111 - 1)) (by omega) (by omega) (ev103.symm.trans (by omega)) Tok_h75t82 (fun h114 frh114 w115 w116 xp117 xp118 Tok_h114t119 => ?_) (fun h120 v121 frh120 w122 w123 w124 w125 w126 xp127 xp128 xp129 xp130 xp131 xp132 xp133 xp134 Tok_h120t135 => ?_))
        ·
          have gh114 : my_fr [(10, 7), (10, 8), (67, -1), (68, -1), (69, -1)] h h114 := my_fr.tr gh75 (frh114.mo rfl)
          have Mq_h114 : Mq h114 wv := Mq_ag (my_ag.fr frh114 rfl) Mq_h75
          have Wd9_h114 : Wd9 h114 := Wd9_ag (my_ag.fr frh114 rfl) Wd9_h75t83
          have P6_h114 : h114 167 6 = h 167 6 := P6_ag (my_ag.fr frh114 rfl) P6_h75
          have Ko_h114 : Ko h h114 := Ko_ag (my_ag.fr frh114 rfl) Ko_h75
          have Pz_h114 : Pz x1 h h114 := Pz_ag (my_ag.fr frh114 rfl) Pz_h75
          show wp l rho (d + 3) 190 89 [(2, 151), (0, x1)] [(0, 0), (0, x1), (2, 169)] h114 Q
          have ps136 : h75 151 7 = (sN (sm h) (((sN (sm h) ((h 151 7)))))) := xp80
          rw [ps136] at xp117
          have tE137 : sm h75 = sm h := sm_eq (fun j => my_fr.at gh75 is_153 rfl) (fun j => my_fr.at gh75 is_154 rfl) (fun j => my_fr.at gh75 is_155 rfl)
          rw [tE137] at xp118
          rw [ps136] at xp118
          have hi138 : 0 ≤ 0 := by omega
          have hi139 : 0 ≤ 7 := by omega
          refine w_iast gz_190_89 is_169 rd_68 (by omega) (by omega) (by omega) (by omega) (fun h140 fh140 => ?_)
          have gh140 : my_fr [(10, 7), (10, 8), (67, -1), (68, -1), (69, -1)] h h140 := my_fr.up gh114 is_169 fh140 rfl
          have Mq_h140 : Mq h140 wv := Mq_u (a := 169) hwv (by decide) (by omega) fh140 Mq_h114
          have Wd9_h140 : Wd9 h140 := Wd9_ag (my_ag.up fh140 is_169 rfl) Wd9_h114
          have P6_h140 : h140 167 6 = h 167 6 := P6_ag (my_ag.up fh140 is_169 rfl) P6_h114
          have Ko_h140 : Ko h h140 := Ko_u (a := 169) hwv (by decide) (by omega) fh140 Ko_h114
          have Pz_h140 : Pz x1 h h140 := Pz_u (a := 169) hwv (by decide) (by omega) fh140 Pz_h114
          have Tok_h140 : Tok h140 := Tok_ag (my_ag.up fh140 is_169 rfl) Tok_h114t119
          have k169 := my_up_self fh140
          have psR : h140 151 7 = (((sN (sm h) (((sN (sm h) ((h 151 7)))))))) := ((my_up_role fh140 is_151 is_169 rfl).trans xp117)
          have npsR : sm h140 = sm h := sm_eq (fun j => my_fr.at gh140 is_153 rfl) (fun j => my_fr.at gh140 is_154 rfl) (fun j => my_fr.at gh140 is_155 rfl)
          have ce141 : h140 151 7 = h114 151 7 := ((my_up_role fh140 is_151 is_169 rfl).trans (rfl : h114 151 7 = h114 151 7))
          have ce142 : h140 151 27 = v111 := ((my_up_role fh140 is_151 is_169 rfl).trans ((my_fr.at frh114 is_151 rfl).trans ev111.symm))
          have a168 : ∀ j : Int, h140 168 j = h2 168 j := fun j => ((my_up_role fh140 is_168 is_169 rfl).trans ((my_fr.at frh114 is_168 rfl).trans ((my_fr.at frh75 is_168 rfl).trans ((my_up_role fh64 is_168 is_170 rfl).trans ((my_fr.at frh13 is_168 rfl).trans (rfl : h2 168 j = h2 168 j))))))
          have a170 : ∀ j : Int, h140 170 j = h64 170 j := fun j => ((my_up_role fh140 is_170 is_169 rfl).trans ((my_fr.at frh114 is_170 rfl).trans ((my_fr.at frh75 is_170 rfl).trans (rfl : h64 170 j = h64 170 j))))
          have a169 : ∀ j : Int, h140 169 j = h140 169 j := fun _ => rfl
          have c143 := ((my_up_role fh140 is_151 is_169 rfl).trans (rfl : h114 151 8 = h114 151 8))
          exact w_vret gz_190_90 gm_190 (k0 h140 (gh140) (by omega) (by omega) (by first | exact ⟨_, _, ⟨rfl, rfl⟩, PmI_5 Pz_h140 (by rw [a168]; exact k168) (by rw [a170, k170]; omega) (by rw [a169, k169]; omega)⟩ | exact Ko_h140 | (rw [a168]; exact k168) | (unfold sumM; first | exact Or.inr (Or.inr ⟨by omega, by omega, Or.inr ⟨by omega, Or.inr ⟨by omega, Or.inr (Or.inr ⟨by omega, by omega, ⟨by omega, by omega⟩⟩)⟩⟩⟩) | exact Or.inr (Or.inr ⟨by omega, by omega, Or.inr ⟨by omega, Or.inr ⟨by omega, or_assoc.mp (Or.inl (by omega))⟩⟩⟩) | exact Or.inr (Or.inr ⟨by omega, by omega, Or.inr ⟨by omega, Or.inl ⟨by omega, by omega, by omega⟩⟩⟩) | exact Or.inr (Or.inr ⟨by omega, by omega, Or.inl ⟨by omega, by omega⟩⟩) | exact or_assoc.mp (Or.inl (by omega))) | omega | (refine ⟨fun q => ?_, fun q => ?_⟩ <;> first | (rw [a168, k168] at q; omega) | (rw [a170, k170]; omega)) | (refine ⟨fun q => ?_, fun q => ?_, fun q => ?_⟩ <;> first | (exfalso; rw [a168, k168] at q; omega) | (rw [a169, k169]; omega) | (rw [a170, k170]; omega)) | omega) (by first | exact ⟨_, _, ⟨rfl, rfl⟩, PmI_5 Pz_h140 (by rw [a168]; exact k168) (by rw [a170, k170]; omega) (by rw [a169, k169]; omega)⟩ | exact Ko_h140 | (rw [a168]; exact k168) | (unfold sumM; first | exact Or.inr (Or.inr ⟨by omega, by omega, Or.inr ⟨by omega, Or.inr ⟨by omega, Or.inr (Or.inr ⟨by omega, by omega, ⟨by omega, by omega⟩⟩)⟩⟩⟩) | exact Or.inr (Or.inr ⟨by omega, by omega, Or.inr ⟨by omega, Or.inr ⟨by omega, or_assoc.mp (Or.inl (by omega))⟩⟩⟩) | exact Or.inr (Or.inr ⟨by omega, by omega, Or.inr ⟨by omega, Or.inl ⟨by omega, by omega, by omega⟩⟩⟩) | exact Or.inr (Or.inr ⟨by omega, by omega, Or.inl ⟨by omega, by omega⟩⟩) | exact or_assoc.mp (Or.inl (by omega))) | omega | (refine ⟨fun q => ?_, fun q => ?_⟩ <;> first | (rw [a168, k168] at q; omega) | (rw [a170, k170]; omega)) | (refine ⟨fun q => ?_, fun q => ?_, fun q => ?_⟩ <;> first | (exfalso; rw [a168, k168] at q; omega) | (rw [a169, k169]; omega) | (rw [a170, k170]; omega)) | omega) (by first | exact ⟨_, _, ⟨rfl, rfl⟩, PmI_5 Pz_h140 (by rw [a168]; exact k168) (by rw [a170, k170]; omega) (by rw [a169, k169]; omega)⟩ | exact Ko_h140 | (rw [a168]; exact k168) | (unfold sumM; first | exact Or.inr (Or.inr ⟨by omega, by omega, Or.inr ⟨by omega, Or.inr ⟨by omega, Or.inr (Or.inr ⟨by omega, by omega, ⟨by omega, by omega⟩⟩)⟩⟩⟩) | exact Or.inr (Or.inr ⟨by omega, by omega, Or.inr ⟨by omega, Or.inr ⟨by omega, or_assoc.mp (Or.inl (by omega))⟩⟩⟩) | exact Or.inr (Or.inr ⟨by omega, by omega, Or.inr ⟨by omega, Or.inl ⟨by omega, by omega, by omega⟩⟩⟩) | exact Or.inr (Or.inr ⟨by omega, by omega, Or.inl ⟨by omega, by omega⟩⟩) | exact or_assoc.mp (Or.inl (by omega))) | omega | (refine ⟨fun q => ?_, fun q => ?_⟩ <;> first | (rw [a168, k168] at q; omega) | (rw [a170, k170]; omega)) | (refine ⟨fun q => ?_, fun q => ?_, fun q => ?_⟩ <;> first | (exfalso; rw [a168, k168] at q; omega) | (rw [a169, k169]; omega) | (rw [a170, k170]; omega)) | omega) Tok_h140 Mq_h140 Wd9_h140)
        ·
          have gh120 : my_fr [(10, 7), (10, 8), (67, -1), (68, -1), (69, -1)] h h120 := my_fr.tr gh75 (frh120.mo rfl)
          have Mq_h120 : Mq h120 wv := Mq_ag (my_ag.fr frh120 rfl) Mq_h75
          have Wd9_h120 : Wd9 h120 := Wd9_ag (my_ag.fr frh120 rfl) Wd9_h75t83
          have P6_h120 : h120 167 6 = h 167 6 := P6_ag (my_ag.fr frh120 rfl) P6_h75
          have Ko_h120 : Ko h h120 := Ko_ag (my_ag.fr frh120 rfl) Ko_h75
          have Pz_h120 : Pz x1 h h120 := Pz_ag (my_ag.fr frh120 rfl) Pz_h75
          show wp l rho (d + 3) 190 89 [(2, 151), (0, x1)] [(0, v121), (0, x1), (2, 169)] h120 Q
          have ps144 : h75 151 7 = (sN (sm h) (((sN (sm h) ((h 151 7)))))) := xp80
          rw [ps144] at xp129
          rw [ps144] at xp130
          rw [ps144] at xp131
          have tE145 : sm h75 = sm h := sm_eq (fun j => my_fr.at gh75 is_153 rfl) (fun j => my_fr.at gh75 is_154 rfl) (fun j => my_fr.at gh75 is_155 rfl)
          rw [tE145] at xp132
          rw [ps144] at xp132
          rw [tE145] at xp133
          rw [ps144] at xp133
          rw [tE145] at xp134
          rw [ps144] at xp134
          have hi146 : 0 ≤ v121 := by omega
          have hi147 : v121 ≤ 7 := by omega
          refine w_iast gz_190_89 is_169 rd_68 (by omega) (by omega) (by omega) (by omega) (fun h148 fh148 => ?_)
          have gh148 : my_fr [(10, 7), (10, 8), (67, -1), (68, -1), (69, -1)] h h148 := my_fr.up gh120 is_169 fh148 rfl
          have Mq_h148 : Mq h148 wv := Mq_u (a := 169) hwv (by decide) (by omega) fh148 Mq_h120
          have Wd9_h148 : Wd9 h148 := Wd9_ag (my_ag.up fh148 is_169 rfl) Wd9_h120
          have P6_h148 : h148 167 6 = h 167 6 := P6_ag (my_ag.up fh148 is_169 rfl) P6_h120
          have Ko_h148 : Ko h h148 := Ko_u (a := 169) hwv (by decide) (by omega) fh148 Ko_h120
          have Pz_h148 : Pz x1 h h148 := Pz_u (a := 169) hwv (by decide) (by omega) fh148 Pz_h120
          have Tok_h148 : Tok h148 := Tok_ag (my_ag.up fh148 is_169 rfl) Tok_h120t135
          have k169 := my_up_self fh148
          have psR : h148 151 7 = (sN (sm h) (((sN (sm h) (((sN (sm h) ((h 151 7))))))))) := ((my_up_role fh148 is_151 is_169 rfl).trans xp132)
          have npsR : sm h148 = sm h := sm_eq (fun j => my_fr.at gh148 is_153 rfl) (fun j => my_fr.at gh148 is_154 rfl) (fun j => my_fr.at gh148 is_155 rfl)
          have ce149 : h148 151 7 = (h120 151 7) := ((my_up_role fh148 is_151 is_169 rfl).trans (rfl : h120 151 7 = h120 151 7))
          have ce150 : h148 151 27 = v111 := ((my_up_role fh148 is_151 is_169 rfl).trans ((my_fr.at frh120 is_151 rfl).trans ev111.symm))
          have a168 : ∀ j : Int, h148 168 j = h2 168 j := fun j => ((my_up_role fh148 is_168 is_169 rfl).trans ((my_fr.at frh120 is_168 rfl).trans ((my_fr.at frh75 is_168 rfl).trans ((my_up_role fh64 is_168 is_170 rfl).trans ((my_fr.at frh13 is_168 rfl).trans (rfl : h2 168 j = h2 168 j))))))
          have a170 : ∀ j : Int, h148 170 j = h64 170 j := fun j => ((my_up_role fh148 is_170 is_169 rfl).trans ((my_fr.at frh120 is_170 rfl).trans ((my_fr.at frh75 is_170 rfl).trans (rfl : h64 170 j = h64 170 j))))
          have a169 : ∀ j : Int, h148 169 j = h148 169 j := fun _ => rfl
          have c151 := ((my_up_role fh148 is_151 is_169 rfl).trans (rfl : h120 151 7 = h120 151 7))
          have c152 := ((my_up_role fh148 is_151 is_169 rfl).trans w126)
          exact w_vret gz_190_90 gm_190 (k1 h148 (gh148) (by omega) (by omega) (by omega) (by first | exact ⟨_, _, ⟨rfl, rfl⟩, PmI_5 Pz_h148 (by rw [a168]; exact k168) (by rw [a170, k170]; omega) (by rw [a169, k169]; omega)⟩ | exact Ko_h148 | (rw [a168]; exact k168) | (unfold sumM; first | exact Or.inr (Or.inr ⟨by omega, by omega, Or.inr ⟨by omega, Or.inr ⟨by omega, Or.inr (Or.inr ⟨by omega, by omega, ⟨by omega, by omega⟩⟩)⟩⟩⟩) | exact Or.inr (Or.inr ⟨by omega, by omega, Or.inr ⟨by omega, Or.inr ⟨by omega, or_assoc.mp (Or.inl (by omega))⟩⟩⟩) | exact Or.inr (Or.inr ⟨by omega, by omega, Or.inr ⟨by omega, Or.inl ⟨by omega, by omega, by omega⟩⟩⟩) | exact Or.inr (Or.inr ⟨by omega, by omega, Or.inl ⟨by omega, by omega⟩⟩) | exact or_assoc.mp (Or.inl (by omega))) | omega | (refine ⟨fun q => ?_, fun q => ?_⟩ <;> first | (rw [a168, k168] at q; omega) | (rw [a170, k170]; omega)) | (refine ⟨fun q => ?_, fun q => ?_, fun q => ?_⟩ <;> first | (exfalso; rw [a168, k168] at q; omega) | (rw [a169, k169]; omega) | (rw [a170, k170]; omega)) | omega) (by first | exact ⟨_, _, ⟨rfl, rfl⟩, PmI_5 Pz_h148 (by rw [a168]; exact k168) (by rw [a170, k170]; omega) (by rw [a169, k169]; omega)⟩ | exact Ko_h148 | (rw [a168]; exact k168) | (unfold sumM; first | exact Or.inr (Or.inr ⟨by omega, by omega, Or.inr ⟨by omega, Or.inr ⟨by omega, Or.inr (Or.inr ⟨by omega, by omega, ⟨by omega, by omega⟩⟩)⟩⟩⟩) | exact Or.inr (Or.inr ⟨by omega, by omega, Or.inr ⟨by omega, Or.inr ⟨by omega, or_assoc.mp (Or.inl (by omega))⟩⟩⟩) | exact Or.inr (Or.inr ⟨by omega, by omega, Or.inr ⟨by omega, Or.inl ⟨by omega, by omega, by omega⟩⟩⟩) | exact Or.inr (Or.inr ⟨by omega, by omega, Or.inl ⟨by omega, by omega⟩⟩) | exact or_assoc.mp (Or.inl (by omega))) | omega | (refine ⟨fun q => ?_, fun q => ?_⟩ <;> first | (rw [a168, k168] at q; omega) | (rw [a170, k170]; omega)) | (refine ⟨fun q => ?_, fun q => ?_, fun q => ?_⟩ <;> first | (exfalso; rw [a168, k168] at q; omega) | (rw [a169, k169]; omega) | (rw [a170, k170]; omega)) | omega) (by first | exact ⟨_, _, ⟨rfl, rfl⟩, PmI_5 Pz_h148 (by rw [a168]; exact k168) (by rw [a170, k170]; omega) (by rw [a169, k169]; omega)⟩ | exact Ko_h148 | (rw [a168]; exact k168) | (unfold sumM; first | exact Or.inr (Or.inr ⟨by omega, by omega, Or.inr ⟨by omega, Or.inr ⟨by omega, Or.inr (Or.inr ⟨by omega, by omega, ⟨by omega, by omega⟩⟩)⟩⟩⟩) | exact Or.inr (Or.inr ⟨by omega, by omega, Or.inr ⟨by omega, Or.inr ⟨by omega, or_assoc.mp (Or.inl (by omega))⟩⟩⟩) | exact Or.inr (Or.inr ⟨by omega, by omega, Or.inr ⟨by omega, Or.inl ⟨by omega, by omega, by omega⟩⟩⟩) | exact Or.inr (Or.inr ⟨by omega, by omega, Or.inl ⟨by omega, by omega⟩⟩) | exact or_assoc.mp (Or.inl (by omega))) | omega | (refine ⟨fun q => ?_, fun q => ?_⟩ <;> first | (rw [a168, k168] at q; omega) | (rw [a170, k170]; omega)) | (refine ⟨fun q => ?_, fun q => ?_, fun q => ?_⟩ <;> first | (exfalso; rw [a168, k168] at q; omega) | (rw [a169, k169]; omega) | (rw [a170, k170]; omega)) | omega) (by first | exact ⟨_, _, ⟨rfl, rfl⟩, PmI_5 Pz_h148 (by rw [a168]; exact k168) (by rw [a170, k170]; omega) (by rw [a169, k169]; omega)⟩ | exact Ko_h148 | (rw [a168]; exact k168) | (unfold sumM; first | exact Or.inr (Or.inr ⟨by omega, by omega, Or.inr ⟨by omega, Or.inr ⟨by omega, Or.inr (Or.inr ⟨by omega, by omega, ⟨by omega, by omega⟩⟩)⟩⟩⟩) | exact Or.inr (Or.inr ⟨by omega, by omega, Or.inr ⟨by omega, Or.inr ⟨by omega, or_assoc.mp (Or.inl (by omega))⟩⟩⟩) | exact Or.inr (Or.inr ⟨by omega, by omega, Or.inr ⟨by omega, Or.inl ⟨by omega, by omega, by omega⟩⟩⟩) | exact Or.inr (Or.inr ⟨by omega, by omega, Or.inl ⟨by omega, by omega⟩⟩) | exact or_assoc.mp (Or.inl (by omega))) | omega | (refine ⟨fun q => ?_, fun q => ?_⟩ <;> first | (rw [a168, k168] at q; omega) | (rw [a170, k170]; omega)) | (refine ⟨fun q => ?_, fun q => ?_, fun q => ?_⟩ <;> first | (exfalso; rw [a168, k168] at q; omega) | (rw [a169, k169]; omega) | (rw [a170, k170]; omega)) | omega) (by first | exact ⟨_, _, ⟨rfl, rfl⟩, PmI_5 Pz_h148 (by rw [a168]; exact k168) (by rw [a170, k170]; omega) (by rw [a169, k169]; omega)⟩ | exact Ko_h148 | (rw [a168]; exact k168) | (unfold sumM; first | exact Or.inr (Or.inr ⟨by omega, by omega, Or.inr ⟨by omega, Or.inr ⟨by omega, Or.inr (Or.inr ⟨by omega, by omega, ⟨by omega, by omega⟩⟩)⟩⟩⟩) | exact Or.inr (Or.inr ⟨by omega, by omega, Or.inr ⟨by omega, Or.inr ⟨by omega, or_assoc.mp (Or.inl (by omega))⟩⟩⟩) | exact Or.inr (Or.inr ⟨by omega, by omega, Or.inr ⟨by omega, Or.inl ⟨by omega, by omega, by omega⟩⟩⟩) | exact Or.inr (Or.inr ⟨by omega, by omega, Or.inl ⟨by omega, by omega⟩⟩) | exact or_assoc.mp (Or.inl (by omega))) | omega | (refine ⟨fun q => ?_, fun q => ?_⟩ <;> first | (rw [a168, k168] at q; omega) | (rw [a170, k170]; omega)) | (refine ⟨fun q => ?_, fun q => ?_, fun q => ?_⟩ <;> first | (exfalso; rw [a168, k168] at q; omega) | (rw [a169, k169]; omega) | (rw [a170, k170]; omega)) | omega) (by first | exact ⟨_, _, ⟨rfl, rfl⟩, PmI_5 Pz_h148 (by rw [a168]; exact k168) (by rw [a170, k170]; omega) (by rw [a169, k169]; omega)⟩ | exact Ko_h148 | (rw [a168]; exact k168) | (unfold sumM; first | exact Or.inr (Or.inr ⟨by omega, by omega, Or.inr ⟨by omega, Or.inr ⟨by omega, Or.inr (Or.inr ⟨by omega, by omega, ⟨by omega, by omega⟩⟩)⟩⟩⟩) | exact Or.inr (Or.inr ⟨by omega, by omega, Or.inr ⟨by omega, Or.inr ⟨by omega, or_assoc.mp (Or.inl (by omega))⟩⟩⟩) | exact Or.inr (Or.inr ⟨by omega, by omega, Or.inr ⟨by omega, Or.inl ⟨by omega, by omega, by omega⟩⟩⟩) | exact Or.inr (Or.inr ⟨by omega, by omega, Or.inl ⟨by omega, by omega⟩⟩) | exact or_assoc.mp (Or.inl (by omega))) | omega | (refine ⟨fun q => ?_, fun q => ?_⟩ <;> first | (rw [a168, k168] at q; omega) | (rw [a170, k170]; omega)) | (refine ⟨fun q => ?_, fun q => ?_, fun q => ?_⟩ <;> first | (exfalso; rw [a168, k168] at q; omega) | (rw [a169, k169]; omega) | (rw [a170, k170]; omega)) | omega) (by first | exact ⟨_, _, ⟨rfl, rfl⟩, PmI_5 Pz_h148 (by rw [a168]; exact k168) (by rw [a170, k170]; omega) (by rw [a169, k169]; omega)⟩ | exact Ko_h148 | (rw [a168]; exact k168) | (unfold sumM; first | exact Or.inr (Or.inr ⟨by omega, by omega, Or.inr ⟨by omega, Or.inr ⟨by omega, Or.inr (Or.inr ⟨by omega, by omega, ⟨by omega, by omega⟩⟩)⟩⟩⟩) | exact Or.inr (Or.inr ⟨by omega, by omega, Or.inr ⟨by omega, Or.inr ⟨by omega, or_assoc.mp (Or.inl (by omega))⟩⟩⟩) | exact Or.inr (Or.inr ⟨by omega, by omega, Or.inr ⟨by omega, Or.inl ⟨by omega, by omega, by omega⟩⟩⟩) | exact Or.inr (Or.inr ⟨by omega, by omega, Or.inl ⟨by omega, by omega⟩⟩) | exact or_assoc.mp (Or.inl (by omega))) | omega | (refine ⟨fun q => ?_, fun q => ?_⟩ <;> first | (rw [a168, k168] at q; omega) | (rw [a170, k170]; omega)) | (refine ⟨fun q => ?_, fun q => ?_, fun q => ?_⟩ <;> first | (exfalso; rw [a168, k168] at q; omega) | (rw [a169, k169]; omega) | (rw [a170, k170]; omega)) | omega) Tok_h148 Mq_h148 Wd9_h148)
      ·
        refine w_aload_n gz_190_49 rfl ?_
        refine w_getX (v := 155) gz_190_50 is_151 rd_10 rfl (by decide) rfl ?_
        refine w_aload_n gz_190_53 rfl ?_
        refine v_getI (j := 7) gz_190_54 rfl is_151 rd_10 rfl (fun v154 ev154 pv154 qv154 => ?_)
        have zv154 := ev154.trans ev106.symm
        refine w_lald gz_190_57 is_155 rd_54 (by omega) (by omega) (fun v155 ev155 pv155 => ?_)
        have nz156a : h75 151 7 = (sN (sm h) (((sN (sm h) ((h 151 7)))))) := xp80
        have nz156 : v155 = sV (sm h) (sN (sm h) (((sN (sm h) ((h 151 7)))))) := by
          have q := ev155.trans (my_fr.at (j := v154) gh75 is_155 rfl)
          rw [show (v154 : Int) = (sN (sm h) (((sN (sm h) ((h 151 7)))))) from by omega] at q
          exact q
        refine w_aload_n gz_190_58 rfl ?_
        refine w_getX (v := 170) gz_190_59 is_151 rd_10 rfl (by decide) rfl ?_
        refine w_iload_n gz_190_62 rfl ?_
        refine w_iald gz_190_63 is_170 rd_69 (by omega) (by omega) (fun v158 ev158 pv158 qv158 => ?_)
        have zv158 := ev158.trans ((my_fr.at frh75 is_170 rfl).trans (my_up_self fh64))
        refine w_i2l gz_190_64 ?_
        refine w_lcmpE gz_190_65 (fun v159 pv159 qv159 xv159 => ?_)
        refine w_ifne (t := 74) gz_190_66 rfl (fun u160 => ?_) (fun u160 => ?_)
        ·
          refine w_aload_n gz_190_74 rfl ?_
          refine w_getX (v := 169) gz_190_75 is_151 rd_10 rfl (by decide) rfl ?_
          refine w_iload_n gz_190_78 rfl ?_
          refine w_aload_n gz_190_79 rfl ?_
          refine w_aload_n gz_190_80 rfl ?_
          refine v_getI (j := 27) gz_190_81 rfl is_151 rd_10 rfl (fun v162 ev162 pv162 qv162 => ?_)
          have zv162 := ev162.trans ((my_fr.at frh75 is_151 rfl).trans ((my_up_role fh64 is_151 is_170 rfl).trans ((my_fr.at frh13 is_151 rfl).trans ev4.symm)))
          refine w_iconst gz_190_84 (by decide) ?_
          refine w_isub gz_190_85 ⟨by omega, by omega⟩ ?_
          have ce163 : h75 151 7 = v154 := ev154.symm
          have ce164 : h75 151 27 = v162 := ev162.symm
          refine w_inv (k := 0) (as := [(0, (v162 - 1))]) (r := [(0, x1), (2, 169)]) (x := 151) (ls0 := [(2, 151), (0, (v162 - 1))]) gz_190_86 gm_187 rfl is_151 rd_10 rfl rfl rfl rfl rfl (c_Model_takeNumber9_f0 (d := (d + 1)) (x1 := (v162 - 1)) (by omega) (by omega) (ev103.symm.trans (by omega)) Tok_h75t82 (fun h165 frh165 w166 w167 xp168 xp169 Tok_h165t170 => ?_) (fun h171 v172 frh171 w173 w174 w175 w176 w177 xp178 xp179 xp180 xp181 xp182 xp183 xp184 xp185 Tok_h171t186 => ?_))
          ·
            have gh165 : my_fr [(10, 7), (10, 8), (67, -1), (68, -1), (69, -1)] h h165 := my_fr.tr gh75 (frh165.mo rfl)
            have Mq_h165 : Mq h165 wv := Mq_ag (my_ag.fr frh165 rfl) Mq_h75
            have Wd9_h165 : Wd9 h165 := Wd9_ag (my_ag.fr frh165 rfl) Wd9_h75t83
            have P6_h165 : h165 167 6 = h 167 6 := P6_ag (my_ag.fr frh165 rfl) P6_h75
            have Ko_h165 : Ko h h165 := Ko_ag (my_ag.fr frh165 rfl) Ko_h75
            have Pz_h165 : Pz x1 h h165 := Pz_ag (my_ag.fr frh165 rfl) Pz_h75
            show wp l rho (d + 3) 190 89 [(2, 151), (0, x1)] [(0, 0), (0, x1), (2, 169)] h165 Q
            have ps187 : h75 151 7 = (sN (sm h) (((sN (sm h) ((h 151 7)))))) := xp80
            rw [ps187] at xp168
            have tE188 : sm h75 = sm h := sm_eq (fun j => my_fr.at gh75 is_153 rfl) (fun j => my_fr.at gh75 is_154 rfl) (fun j => my_fr.at gh75 is_155 rfl)
            rw [tE188] at xp169
            rw [ps187] at xp169
            have hi189 : 0 ≤ 0 := by omega
            have hi190 : 0 ≤ 7 := by omega
            refine w_iast gz_190_89 is_169 rd_68 (by omega) (by omega) (by omega) (by omega) (fun h191 fh191 => ?_)
            have gh191 : my_fr [(10, 7), (10, 8), (67, -1), (68, -1), (69, -1)] h h191 := my_fr.up gh165 is_169 fh191 rfl
            have Mq_h191 : Mq h191 wv := Mq_u (a := 169) hwv (by decide) (by omega) fh191 Mq_h165
            have Wd9_h191 : Wd9 h191 := Wd9_ag (my_ag.up fh191 is_169 rfl) Wd9_h165
            have P6_h191 : h191 167 6 = h 167 6 := P6_ag (my_ag.up fh191 is_169 rfl) P6_h165
            have Ko_h191 : Ko h h191 := Ko_u (a := 169) hwv (by decide) (by omega) fh191 Ko_h165
            have Pz_h191 : Pz x1 h h191 := Pz_u (a := 169) hwv (by decide) (by omega) fh191 Pz_h165
            have Tok_h191 : Tok h191 := Tok_ag (my_ag.up fh191 is_169 rfl) Tok_h165t170
            have k169 := my_up_self fh191
            have psR : h191 151 7 = (((sN (sm h) (((sN (sm h) ((h 151 7)))))))) := ((my_up_role fh191 is_151 is_169 rfl).trans xp168)
            have npsR : sm h191 = sm h := sm_eq (fun j => my_fr.at gh191 is_153 rfl) (fun j => my_fr.at gh191 is_154 rfl) (fun j => my_fr.at gh191 is_155 rfl)
            have ce192 : h191 151 7 = h165 151 7 := ((my_up_role fh191 is_151 is_169 rfl).trans (rfl : h165 151 7 = h165 151 7))
            have ce193 : h191 151 27 = v162 := ((my_up_role fh191 is_151 is_169 rfl).trans ((my_fr.at frh165 is_151 rfl).trans ev162.symm))
            have a168 : ∀ j : Int, h191 168 j = h2 168 j := fun j => ((my_up_role fh191 is_168 is_169 rfl).trans ((my_fr.at frh165 is_168 rfl).trans ((my_fr.at frh75 is_168 rfl).trans ((my_up_role fh64 is_168 is_170 rfl).trans ((my_fr.at frh13 is_168 rfl).trans (rfl : h2 168 j = h2 168 j))))))
            have a170 : ∀ j : Int, h191 170 j = h64 170 j := fun j => ((my_up_role fh191 is_170 is_169 rfl).trans ((my_fr.at frh165 is_170 rfl).trans ((my_fr.at frh75 is_170 rfl).trans (rfl : h64 170 j = h64 170 j))))
            have a169 : ∀ j : Int, h191 169 j = h191 169 j := fun _ => rfl
            have c194 := ((my_up_role fh191 is_151 is_169 rfl).trans (rfl : h165 151 8 = h165 151 8))
            exact w_vret gz_190_90 gm_190 (k0 h191 (gh191) (by omega) (by omega) (by first | exact ⟨_, _, ⟨rfl, rfl⟩, PmI_5 Pz_h191 (by rw [a168]; exact k168) (by rw [a170, k170]; omega) (by rw [a169, k169]; omega)⟩ | exact Ko_h191 | (rw [a168]; exact k168) | (unfold sumM; first | exact Or.inr (Or.inr ⟨by omega, by omega, Or.inr ⟨by omega, Or.inr ⟨by omega, Or.inr (Or.inr ⟨by omega, by omega, ⟨by omega, by omega⟩⟩)⟩⟩⟩) | exact Or.inr (Or.inr ⟨by omega, by omega, Or.inr ⟨by omega, Or.inr ⟨by omega, or_assoc.mp (Or.inl (by omega))⟩⟩⟩) | exact Or.inr (Or.inr ⟨by omega, by omega, Or.inr ⟨by omega, Or.inl ⟨by omega, by omega, by omega⟩⟩⟩) | exact Or.inr (Or.inr ⟨by omega, by omega, Or.inl ⟨by omega, by omega⟩⟩) | exact or_assoc.mp (Or.inl (by omega))) | omega | (refine ⟨fun q => ?_, fun q => ?_⟩ <;> first | (rw [a168, k168] at q; omega) | (rw [a170, k170]; omega)) | (refine ⟨fun q => ?_, fun q => ?_, fun q => ?_⟩ <;> first | (exfalso; rw [a168, k168] at q; omega) | (rw [a169, k169]; omega) | (rw [a170, k170]; omega)) | omega) (by first | exact ⟨_, _, ⟨rfl, rfl⟩, PmI_5 Pz_h191 (by rw [a168]; exact k168) (by rw [a170, k170]; omega) (by rw [a169, k169]; omega)⟩ | exact Ko_h191 | (rw [a168]; exact k168) | (unfold sumM; first | exact Or.inr (Or.inr ⟨by omega, by omega, Or.inr ⟨by omega, Or.inr ⟨by omega, Or.inr (Or.inr ⟨by omega, by omega, ⟨by omega, by omega⟩⟩)⟩⟩⟩) | exact Or.inr (Or.inr ⟨by omega, by omega, Or.inr ⟨by omega, Or.inr ⟨by omega, or_assoc.mp (Or.inl (by omega))⟩⟩⟩) | exact Or.inr (Or.inr ⟨by omega, by omega, Or.inr ⟨by omega, Or.inl ⟨by omega, by omega, by omega⟩⟩⟩) | exact Or.inr (Or.inr ⟨by omega, by omega, Or.inl ⟨by omega, by omega⟩⟩) | exact or_assoc.mp (Or.inl (by omega))) | omega | (refine ⟨fun q => ?_, fun q => ?_⟩ <;> first | (rw [a168, k168] at q; omega) | (rw [a170, k170]; omega)) | (refine ⟨fun q => ?_, fun q => ?_, fun q => ?_⟩ <;> first | (exfalso; rw [a168, k168] at q; omega) | (rw [a169, k169]; omega) | (rw [a170, k170]; omega)) | omega) (by first | exact ⟨_, _, ⟨rfl, rfl⟩, PmI_5 Pz_h191 (by rw [a168]; exact k168) (by rw [a170, k170]; omega) (by rw [a169, k169]; omega)⟩ | exact Ko_h191 | (rw [a168]; exact k168) | (unfold sumM; first | exact Or.inr (Or.inr ⟨by omega, by omega, Or.inr ⟨by omega, Or.inr ⟨by omega, Or.inr (Or.inr ⟨by omega, by omega, ⟨by omega, by omega⟩⟩)⟩⟩⟩) | exact Or.inr (Or.inr ⟨by omega, by omega, Or.inr ⟨by omega, Or.inr ⟨by omega, or_assoc.mp (Or.inl (by omega))⟩⟩⟩) | exact Or.inr (Or.inr ⟨by omega, by omega, Or.inr ⟨by omega, Or.inl ⟨by omega, by omega, by omega⟩⟩⟩) | exact Or.inr (Or.inr ⟨by omega, by omega, Or.inl ⟨by omega, by omega⟩⟩) | exact or_assoc.mp (Or.inl (by omega))) | omega | (refine ⟨fun q => ?_, fun q => ?_⟩ <;> first | (rw [a168, k168] at q; omega) | (rw [a170, k170]; omega)) | (refine ⟨fun q => ?_, fun q => ?_, fun q => ?_⟩ <;> first | (exfalso; rw [a168, k168] at q; omega) | (rw [a169, k169]; omega) | (rw [a170, k170]; omega)) | omega) Tok_h191 Mq_h191 Wd9_h191)
          ·
            have gh171 : my_fr [(10, 7), (10, 8), (67, -1), (68, -1), (69, -1)] h h171 := my_fr.tr gh75 (frh171.mo rfl)
            have Mq_h171 : Mq h171 wv := Mq_ag (my_ag.fr frh171 rfl) Mq_h75
            have Wd9_h171 : Wd9 h171 := Wd9_ag (my_ag.fr frh171 rfl) Wd9_h75t83
            have P6_h171 : h171 167 6 = h 167 6 := P6_ag (my_ag.fr frh171 rfl) P6_h75
            have Ko_h171 : Ko h h171 := Ko_ag (my_ag.fr frh171 rfl) Ko_h75
            have Pz_h171 : Pz x1 h h171 := Pz_ag (my_ag.fr frh171 rfl) Pz_h75
            show wp l rho (d + 3) 190 89 [(2, 151), (0, x1)] [(0, v172), (0, x1), (2, 169)] h171 Q
            have ps195 : h75 151 7 = (sN (sm h) (((sN (sm h) ((h 151 7)))))) := xp80
            rw [ps195] at xp180
            rw [ps195] at xp181
            rw [ps195] at xp182
            have tE196 : sm h75 = sm h := sm_eq (fun j => my_fr.at gh75 is_153 rfl) (fun j => my_fr.at gh75 is_154 rfl) (fun j => my_fr.at gh75 is_155 rfl)
            rw [tE196] at xp183
            rw [ps195] at xp183
            rw [tE196] at xp184
            rw [ps195] at xp184
            rw [tE196] at xp185
            rw [ps195] at xp185
            have hi197 : 0 ≤ v172 := by omega
            have hi198 : v172 ≤ 7 := by omega
            refine w_iast gz_190_89 is_169 rd_68 (by omega) (by omega) (by omega) (by omega) (fun h199 fh199 => ?_)
            have gh199 : my_fr [(10, 7), (10, 8), (67, -1), (68, -1), (69, -1)] h h199 := my_fr.up gh171 is_169 fh199 rfl
            have Mq_h199 : Mq h199 wv := Mq_u (a := 169) hwv (by decide) (by omega) fh199 Mq_h171
            have Wd9_h199 : Wd9 h199 := Wd9_ag (my_ag.up fh199 is_169 rfl) Wd9_h171
            have P6_h199 : h199 167 6 = h 167 6 := P6_ag (my_ag.up fh199 is_169 rfl) P6_h171
            have Ko_h199 : Ko h h199 := Ko_u (a := 169) hwv (by decide) (by omega) fh199 Ko_h171
            have Pz_h199 : Pz x1 h h199 := Pz_u (a := 169) hwv (by decide) (by omega) fh199 Pz_h171
            have Tok_h199 : Tok h199 := Tok_ag (my_ag.up fh199 is_169 rfl) Tok_h171t186
            have k169 := my_up_self fh199
            have psR : h199 151 7 = (sN (sm h) (((sN (sm h) (((sN (sm h) ((h 151 7))))))))) := ((my_up_role fh199 is_151 is_169 rfl).trans xp183)
            have npsR : sm h199 = sm h := sm_eq (fun j => my_fr.at gh199 is_153 rfl) (fun j => my_fr.at gh199 is_154 rfl) (fun j => my_fr.at gh199 is_155 rfl)
            have ce200 : h199 151 7 = (h171 151 7) := ((my_up_role fh199 is_151 is_169 rfl).trans (rfl : h171 151 7 = h171 151 7))
            have ce201 : h199 151 27 = v162 := ((my_up_role fh199 is_151 is_169 rfl).trans ((my_fr.at frh171 is_151 rfl).trans ev162.symm))
            have a168 : ∀ j : Int, h199 168 j = h2 168 j := fun j => ((my_up_role fh199 is_168 is_169 rfl).trans ((my_fr.at frh171 is_168 rfl).trans ((my_fr.at frh75 is_168 rfl).trans ((my_up_role fh64 is_168 is_170 rfl).trans ((my_fr.at frh13 is_168 rfl).trans (rfl : h2 168 j = h2 168 j))))))
            have a170 : ∀ j : Int, h199 170 j = h64 170 j := fun j => ((my_up_role fh199 is_170 is_169 rfl).trans ((my_fr.at frh171 is_170 rfl).trans ((my_fr.at frh75 is_170 rfl).trans (rfl : h64 170 j = h64 170 j))))
            have a169 : ∀ j : Int, h199 169 j = h199 169 j := fun _ => rfl
            have c202 := ((my_up_role fh199 is_151 is_169 rfl).trans (rfl : h171 151 7 = h171 151 7))
            have c203 := ((my_up_role fh199 is_151 is_169 rfl).trans w177)
            exact w_vret gz_190_90 gm_190 (k1 h199 (gh199) (by omega) (by omega) (by omega) (by first | exact ⟨_, _, ⟨rfl, rfl⟩, PmI_5 Pz_h199 (by rw [a168]; exact k168) (by rw [a170, k170]; omega) (by rw [a169, k169]; omega)⟩ | exact Ko_h199 | (rw [a168]; exact k168) | (unfold sumM; first | exact Or.inr (Or.inr ⟨by omega, by omega, Or.inr ⟨by omega, Or.inr ⟨by omega, Or.inr (Or.inr ⟨by omega, by omega, ⟨by omega, by omega⟩⟩)⟩⟩⟩) | exact Or.inr (Or.inr ⟨by omega, by omega, Or.inr ⟨by omega, Or.inr ⟨by omega, or_assoc.mp (Or.inl (by omega))⟩⟩⟩) | exact Or.inr (Or.inr ⟨by omega, by omega, Or.inr ⟨by omega, Or.inl ⟨by omega, by omega, by omega⟩⟩⟩) | exact Or.inr (Or.inr ⟨by omega, by omega, Or.inl ⟨by omega, by omega⟩⟩) | exact or_assoc.mp (Or.inl (by omega))) | omega | (refine ⟨fun q => ?_, fun q => ?_⟩ <;> first | (rw [a168, k168] at q; omega) | (rw [a170, k170]; omega)) | (refine ⟨fun q => ?_, fun q => ?_, fun q => ?_⟩ <;> first | (exfalso; rw [a168, k168] at q; omega) | (rw [a169, k169]; omega) | (rw [a170, k170]; omega)) | omega) (by first | exact ⟨_, _, ⟨rfl, rfl⟩, PmI_5 Pz_h199 (by rw [a168]; exact k168) (by rw [a170, k170]; omega) (by rw [a169, k169]; omega)⟩ | exact Ko_h199 | (rw [a168]; exact k168) | (unfold sumM; first | exact Or.inr (Or.inr ⟨by omega, by omega, Or.inr ⟨by omega, Or.inr ⟨by omega, Or.inr (Or.inr ⟨by omega, by omega, ⟨by omega, by omega⟩⟩)⟩⟩⟩) | exact Or.inr (Or.inr ⟨by omega, by omega, Or.inr ⟨by omega, Or.inr ⟨by omega, or_assoc.mp (Or.inl (by omega))⟩⟩⟩) | exact Or.inr (Or.inr ⟨by omega, by omega, Or.inr ⟨by omega, Or.inl ⟨by omega, by omega, by omega⟩⟩⟩) | exact Or.inr (Or.inr ⟨by omega, by omega, Or.inl ⟨by omega, by omega⟩⟩) | exact or_assoc.mp (Or.inl (by omega))) | omega | (refine ⟨fun q => ?_, fun q => ?_⟩ <;> first | (rw [a168, k168] at q; omega) | (rw [a170, k170]; omega)) | (refine ⟨fun q => ?_, fun q => ?_, fun q => ?_⟩ <;> first | (exfalso; rw [a168, k168] at q; omega) | (rw [a169, k169]; omega) | (rw [a170, k170]; omega)) | omega) (by first | exact ⟨_, _, ⟨rfl, rfl⟩, PmI_5 Pz_h199 (by rw [a168]; exact k168) (by rw [a170, k170]; omega) (by rw [a169, k169]; omega)⟩ | exact Ko_h199 | (rw [a168]; exact k168) | (unfold sumM; first | exact Or.inr (Or.inr ⟨by omega, by omega, Or.inr ⟨by omega, Or.inr ⟨by omega, Or.inr (Or.inr ⟨by omega, by omega, ⟨by omega, by omega⟩⟩)⟩⟩⟩) | exact Or.inr (Or.inr ⟨by omega, by omega, Or.inr ⟨by omega, Or.inr ⟨by omega, or_assoc.mp (Or.inl (by omega))⟩⟩⟩) | exact Or.inr (Or.inr ⟨by omega, by omega, Or.inr ⟨by omega, Or.inl ⟨by omega, by omega, by omega⟩⟩⟩) | exact Or.inr (Or.inr ⟨by omega, by omega, Or.inl ⟨by omega, by omega⟩⟩) | exact or_assoc.mp (Or.inl (by omega))) | omega | (refine ⟨fun q => ?_, fun q => ?_⟩ <;> first | (rw [a168, k168] at q; omega) | (rw [a170, k170]; omega)) | (refine ⟨fun q => ?_, fun q => ?_, fun q => ?_⟩ <;> first | (exfalso; rw [a168, k168] at q; omega) | (rw [a169, k169]; omega) | (rw [a170, k170]; omega)) | omega) (by first | exact ⟨_, _, ⟨rfl, rfl⟩, PmI_5 Pz_h199 (by rw [a168]; exact k168) (by rw [a170, k170]; omega) (by rw [a169, k169]; omega)⟩ | exact Ko_h199 | (rw [a168]; exact k168) | (unfold sumM; first | exact Or.inr (Or.inr ⟨by omega, by omega, Or.inr ⟨by omega, Or.inr ⟨by omega, Or.inr (Or.inr ⟨by omega, by omega, ⟨by omega, by omega⟩⟩)⟩⟩⟩) | exact Or.inr (Or.inr ⟨by omega, by omega, Or.inr ⟨by omega, Or.inr ⟨by omega, or_assoc.mp (Or.inl (by omega))⟩⟩⟩) | exact Or.inr (Or.inr ⟨by omega, by omega, Or.inr ⟨by omega, Or.inl ⟨by omega, by omega, by omega⟩⟩⟩) | exact Or.inr (Or.inr ⟨by omega, by omega, Or.inl ⟨by omega, by omega⟩⟩) | exact or_assoc.mp (Or.inl (by omega))) | omega | (refine ⟨fun q => ?_, fun q => ?_⟩ <;> first | (rw [a168, k168] at q; omega) | (rw [a170, k170]; omega)) | (refine ⟨fun q => ?_, fun q => ?_, fun q => ?_⟩ <;> first | (exfalso; rw [a168, k168] at q; omega) | (rw [a169, k169]; omega) | (rw [a170, k170]; omega)) | omega) (by first | exact ⟨_, _, ⟨rfl, rfl⟩, PmI_5 Pz_h199 (by rw [a168]; exact k168) (by rw [a170, k170]; omega) (by rw [a169, k169]; omega)⟩ | exact Ko_h199 | (rw [a168]; exact k168) | (unfold sumM; first | exact Or.inr (Or.inr ⟨by omega, by omega, Or.inr ⟨by omega, Or.inr ⟨by omega, Or.inr (Or.inr ⟨by omega, by omega, ⟨by omega, by omega⟩⟩)⟩⟩⟩) | exact Or.inr (Or.inr ⟨by omega, by omega, Or.inr ⟨by omega, Or.inr ⟨by omega, or_assoc.mp (Or.inl (by omega))⟩⟩⟩) | exact Or.inr (Or.inr ⟨by omega, by omega, Or.inr ⟨by omega, Or.inl ⟨by omega, by omega, by omega⟩⟩⟩) | exact Or.inr (Or.inr ⟨by omega, by omega, Or.inl ⟨by omega, by omega⟩⟩) | exact or_assoc.mp (Or.inl (by omega))) | omega | (refine ⟨fun q => ?_, fun q => ?_⟩ <;> first | (rw [a168, k168] at q; omega) | (rw [a170, k170]; omega)) | (refine ⟨fun q => ?_, fun q => ?_, fun q => ?_⟩ <;> first | (exfalso; rw [a168, k168] at q; omega) | (rw [a169, k169]; omega) | (rw [a170, k170]; omega)) | omega) (by first | exact ⟨_, _, ⟨rfl, rfl⟩, PmI_5 Pz_h199 (by rw [a168]; exact k168) (by rw [a170, k170]; omega) (by rw [a169, k169]; omega)⟩ | exact Ko_h199 | (rw [a168]; exact k168) | (unfold sumM; first | exact Or.inr (Or.inr ⟨by omega, by omega, Or.inr ⟨by omega, Or.inr ⟨by omega, Or.inr (Or.inr ⟨by omega, by omega, ⟨by omega, by omega⟩⟩)⟩⟩⟩) | exact Or.inr (Or.inr ⟨by omega, by omega, Or.inr ⟨by omega, Or.inr ⟨by omega, or_assoc.mp (Or.inl (by omega))⟩⟩⟩) | exact Or.inr (Or.inr ⟨by omega, by omega, Or.inr ⟨by omega, Or.inl ⟨by omega, by omega, by omega⟩⟩⟩) | exact Or.inr (Or.inr ⟨by omega, by omega, Or.inl ⟨by omega, by omega⟩⟩) | exact or_assoc.mp (Or.inl (by omega))) | omega | (refine ⟨fun q => ?_, fun q => ?_⟩ <;> first | (rw [a168, k168] at q; omega) | (rw [a170, k170]; omega)) | (refine ⟨fun q => ?_, fun q => ?_, fun q => ?_⟩ <;> first | (exfalso; rw [a168, k168] at q; omega) | (rw [a169, k169]; omega) | (rw [a170, k170]; omega)) | omega) (by first | exact ⟨_, _, ⟨rfl, rfl⟩, PmI_5 Pz_h199 (by rw [a168]; exact k168) (by rw [a170, k170]; omega) (by rw [a169, k169]; omega)⟩ | exact Ko_h199 | (rw [a168]; exact k168) | (unfold sumM; first | exact Or.inr (Or.inr ⟨by omega, by omega, Or.inr ⟨by omega, Or.inr ⟨by omega, Or.inr (Or.inr ⟨by omega, by omega, ⟨by omega, by omega⟩⟩)⟩⟩⟩) | exact Or.inr (Or.inr ⟨by omega, by omega, Or.inr ⟨by omega, Or.inr ⟨by omega, or_assoc.mp (Or.inl (by omega))⟩⟩⟩) | exact Or.inr (Or.inr ⟨by omega, by omega, Or.inr ⟨by omega, Or.inl ⟨by omega, by omega, by omega⟩⟩⟩) | exact Or.inr (Or.inr ⟨by omega, by omega, Or.inl ⟨by omega, by omega⟩⟩) | exact or_assoc.mp (Or.inl (by omega))) | omega | (refine ⟨fun q => ?_, fun q => ?_⟩ <;> first | (rw [a168, k168] at q; omega) | (rw [a170, k170]; omega)) | (refine ⟨fun q => ?_, fun q => ?_, fun q => ?_⟩ <;> first | (exfalso; rw [a168, k168] at q; omega) | (rw [a169, k169]; omega) | (rw [a170, k170]; omega)) | omega) Tok_h199 Mq_h199 Wd9_h199)
        ·
          refine w_aload_n gz_190_69 rfl ?_
          refine w_iconst gz_190_70 (by decide) ?_
          have ce204 : h75 151 7 = v154 := ev154.symm
          have ce205 : h75 151 27 = v4 := ((my_fr.at frh75 is_151 rfl).trans ((my_up_role fh64 is_151 is_170 rfl).trans ((my_fr.at frh13 is_151 rfl).trans ev4.symm)))
          refine w_inv (k := 0) (as := [(0, 3)]) (r := []) (x := 151) (ls0 := [(2, 151), (0, 3)]) gz_190_71 gm_178 rfl is_151 rd_10 rfl rfl rfl rfl rfl ?_
          refine w_aload_n gz_178_0 rfl ?_
          refine v_getI (j := 8) gz_178_1 rfl is_151 rd_10 rfl (fun v206 ev206 pv206 qv206 => ?_)
          have zv206 := ev206.trans ev103.symm
          refine w_ifne (t := 25) gz_178_4 rfl (fun u207 => by exfalso; omega) (fun u207 => ?_)
          refine w_aload_n gz_178_7 rfl ?_
          refine w_iload_n gz_178_8 rfl ?_
          refine w_bipush gz_178_9 (by decide) ?_
          refine w_aload_n gz_178_11 rfl ?_
          refine w_getX (v := 154) gz_178_12 is_151 rd_10 rfl (by decide) rfl ?_
          refine w_aload_n gz_178_15 rfl ?_
          refine v_getI (j := 7) gz_178_16 rfl is_151 rd_10 rfl (fun v209 ev209 pv209 qv209 => ?_)
          have zv209 := ev209.trans ev154.symm
          refine w_iald gz_178_19 is_154 rd_53 (by omega) (by omega) (fun v210 ev210 pv210 qv210 => ?_)
          have nz211a : h75 151 7 = (sN (sm h) (((sN (sm h) ((h 151 7)))))) := xp80
          have nz211 : v210 = sP (sm h) (sN (sm h) (((sN (sm h) ((h 151 7)))))) := by
            have q := ev210.trans (my_fr.at (j := v209) gh75 is_154 rfl)
            rw [show (v209 : Int) = (sN (sm h) (((sN (sm h) ((h 151 7)))))) from by omega] at q
            exact q
          refine w_imul gz_178_20 ⟨by omega, by omega⟩ ?_
          refine w_iadd gz_178_21 ⟨by omega, by omega⟩ ?_
          refine v_putI (j := 8) gz_178_22 rfl is_151 rd_10 rfl (by omega) (by omega) rfl (fun h212 fh212 => ?_)
          have gh212 : my_fr [(10, 7), (10, 8), (67, -1), (68, -1), (69, -1)] h h212 := my_fr.up gh75 is_151 fh212 rfl
          have Mq_h212 : Mq h212 wv := Mq_ag (my_ag.up fh212 is_151 rfl) Mq_h75
          have Wd9_h212 : Wd9 h212 := Wd9_ag (my_ag.up fh212 is_151 rfl) Wd9_h75t83
          have P6_h212 : h212 167 6 = h 167 6 := P6_ag (my_ag.up fh212 is_151 rfl) P6_h75
          have Ko_h212 : Ko h h212 := Ko_ag (my_ag.up fh212 is_151 rfl) Ko_h75
          have Pz_h212 : Pz x1 h h212 := Pz_ag (my_ag.up fh212 is_151 rfl) Pz_h75
          have Tok_h212 : Tok h212 := Tok_ag (my_ag.up fh212 is_151 rfl) Tok_h75t82
          refine w_vret gz_178_25 gm_178 ?_
          show wp l rho (d + 3) 190 74 [(2, 151), (0, x1)] [] h212 Q
          refine w_aload_n gz_190_74 rfl ?_
          refine w_getX (v := 169) gz_190_75 is_151 rd_10 rfl (by decide) rfl ?_
          refine w_iload_n gz_190_78 rfl ?_
          refine w_aload_n gz_190_79 rfl ?_
          refine w_aload_n gz_190_80 rfl ?_
          refine v_getI (j := 27) gz_190_81 rfl is_151 rd_10 rfl (fun v214 ev214 pv214 qv214 => ?_)
          have zv214 := ev214.trans ((my_up_fld fh212 (by decide)).trans ((my_fr.at frh75 is_151 rfl).trans ((my_up_role fh64 is_151 is_170 rfl).trans ((my_fr.at frh13 is_151 rfl).trans ev4.symm))))
          refine w_iconst gz_190_84 (by decide) ?_
          refine w_isub gz_190_85 ⟨by omega, by omega⟩ ?_
          have ce215 : h212 151 7 = v209 := ((my_up_fld fh212 (by decide)).trans ev209.symm)
          have ce216 : h212 151 27 = v214 := ev214.symm
          refine w_inv (k := 0) (as := [(0, (v214 - 1))]) (r := [(0, x1), (2, 169)]) (x := 151) (ls0 := [(2, 151), (0, (v214 - 1))]) gz_190_86 gm_187 rfl is_151 rd_10 rfl rfl rfl rfl rfl (c_Model_takeNumber9_f1 (d := (d + 1)) (x1 := (v214 - 1)) (by omega) (by omega) ((3 + (16 * v210))) ((my_up_self fh212)) (by omega) (by omega) Tok_h212 (fun w217 w218 xp219 Tok_h212t220 => ?_))
          show wp l rho (d + 3) 190 89 [(2, 151), (0, x1)] [(0, 0), (0, x1), (2, 169)] h212 Q
          have ps221 : h212 151 7 = (sN (sm h) (((sN (sm h) ((h 151 7)))))) := ((my_up_fld fh212 (by decide)).trans xp80)
          rw [ps221] at xp219
          have hi222 : 0 ≤ 0 := by omega
          have hi223 : 0 ≤ 7 := by omega
          refine w_iast gz_190_89 is_169 rd_68 (by omega) (by omega) (by omega) (by omega) (fun h224 fh224 => ?_)
          have gh224 : my_fr [(10, 7), (10, 8), (67, -1), (68, -1), (69, -1)] h h224 := my_fr.up gh212 is_169 fh224 rfl
          have Mq_h224 : Mq h224 wv := Mq_u (a := 169) hwv (by decide) (by omega) fh224 Mq_h212
          have Wd9_h224 : Wd9 h224 := Wd9_ag (my_ag.up fh224 is_169 rfl) Wd9_h212
          have P6_h224 : h224 167 6 = h 167 6 := P6_ag (my_ag.up fh224 is_169 rfl) P6_h212
          have Ko_h224 : Ko h h224 := Ko_u (a := 169) hwv (by decide) (by omega) fh224 Ko_h212
          have Pz_h224 : Pz x1 h h224 := Pz_u (a := 169) hwv (by decide) (by omega) fh224 Pz_h212
          have Tok_h224 : Tok h224 := Tok_ag (my_ag.up fh224 is_169 rfl) Tok_h212t220
          have k169 := my_up_self fh224
          have psR : h224 151 7 = (sN (sm h) (((sN (sm h) ((h 151 7)))))) := ((my_up_role fh224 is_151 is_169 rfl).trans ((my_up_fld fh212 (by decide)).trans xp80))
          have npsR : sm h224 = sm h := sm_eq (fun j => my_fr.at gh224 is_153 rfl) (fun j => my_fr.at gh224 is_154 rfl) (fun j => my_fr.at gh224 is_155 rfl)
          have ce225 : h224 151 7 = v209 := ((my_up_role fh224 is_151 is_169 rfl).trans ((my_up_fld fh212 (by decide)).trans ev209.symm))
          have ce226 : h224 151 27 = v214 := ((my_up_role fh224 is_151 is_169 rfl).trans ev214.symm)
          have a168 : ∀ j : Int, h224 168 j = h2 168 j := fun j => ((my_up_role fh224 is_168 is_169 rfl).trans ((my_up_role fh212 is_168 is_151 rfl).trans ((my_fr.at frh75 is_168 rfl).trans ((my_up_role fh64 is_168 is_170 rfl).trans ((my_fr.at frh13 is_168 rfl).trans (rfl : h2 168 j = h2 168 j))))))
          have a170 : ∀ j : Int, h224 170 j = h64 170 j := fun j => ((my_up_role fh224 is_170 is_169 rfl).trans ((my_up_role fh212 is_170 is_151 rfl).trans ((my_fr.at frh75 is_170 rfl).trans (rfl : h64 170 j = h64 170 j))))
          have a169 : ∀ j : Int, h224 169 j = h224 169 j := fun _ => rfl
          have c227 := ((my_up_role fh224 is_151 is_169 rfl).trans (my_up_self fh212))
          exact w_vret gz_190_90 gm_190 (k0 h224 (gh224) (by omega) (by omega) (by first | exact ⟨_, _, ⟨rfl, rfl⟩, PmI_5 Pz_h224 (by rw [a168]; exact k168) (by rw [a170, k170]; omega) (by rw [a169, k169]; omega)⟩ | exact Ko_h224 | (rw [a168]; exact k168) | (unfold sumM; first | exact Or.inr (Or.inr ⟨by omega, by omega, Or.inr ⟨by omega, Or.inr ⟨by omega, Or.inr (Or.inr ⟨by omega, by omega, ⟨by omega, by omega⟩⟩)⟩⟩⟩) | exact Or.inr (Or.inr ⟨by omega, by omega, Or.inr ⟨by omega, Or.inr ⟨by omega, or_assoc.mp (Or.inl (by omega))⟩⟩⟩) | exact Or.inr (Or.inr ⟨by omega, by omega, Or.inr ⟨by omega, Or.inl ⟨by omega, by omega, by omega⟩⟩⟩) | exact Or.inr (Or.inr ⟨by omega, by omega, Or.inl ⟨by omega, by omega⟩⟩) | exact or_assoc.mp (Or.inl (by omega))) | omega | (refine ⟨fun q => ?_, fun q => ?_⟩ <;> first | (rw [a168, k168] at q; omega) | (rw [a170, k170]; omega)) | (refine ⟨fun q => ?_, fun q => ?_, fun q => ?_⟩ <;> first | (exfalso; rw [a168, k168] at q; omega) | (rw [a169, k169]; omega) | (rw [a170, k170]; omega)) | omega) (by first | exact ⟨_, _, ⟨rfl, rfl⟩, PmI_5 Pz_h224 (by rw [a168]; exact k168) (by rw [a170, k170]; omega) (by rw [a169, k169]; omega)⟩ | exact Ko_h224 | (rw [a168]; exact k168) | (unfold sumM; first | exact Or.inr (Or.inr ⟨by omega, by omega, Or.inr ⟨by omega, Or.inr ⟨by omega, Or.inr (Or.inr ⟨by omega, by omega, ⟨by omega, by omega⟩⟩)⟩⟩⟩) | exact Or.inr (Or.inr ⟨by omega, by omega, Or.inr ⟨by omega, Or.inr ⟨by omega, or_assoc.mp (Or.inl (by omega))⟩⟩⟩) | exact Or.inr (Or.inr ⟨by omega, by omega, Or.inr ⟨by omega, Or.inl ⟨by omega, by omega, by omega⟩⟩⟩) | exact Or.inr (Or.inr ⟨by omega, by omega, Or.inl ⟨by omega, by omega⟩⟩) | exact or_assoc.mp (Or.inl (by omega))) | omega | (refine ⟨fun q => ?_, fun q => ?_⟩ <;> first | (rw [a168, k168] at q; omega) | (rw [a170, k170]; omega)) | (refine ⟨fun q => ?_, fun q => ?_, fun q => ?_⟩ <;> first | (exfalso; rw [a168, k168] at q; omega) | (rw [a169, k169]; omega) | (rw [a170, k170]; omega)) | omega) (by first | exact ⟨_, _, ⟨rfl, rfl⟩, PmI_5 Pz_h224 (by rw [a168]; exact k168) (by rw [a170, k170]; omega) (by rw [a169, k169]; omega)⟩ | exact Ko_h224 | (rw [a168]; exact k168) | (unfold sumM; first | exact Or.inr (Or.inr ⟨by omega, by omega, Or.inr ⟨by omega, Or.inr ⟨by omega, Or.inr (Or.inr ⟨by omega, by omega, ⟨by omega, by omega⟩⟩)⟩⟩⟩) | exact Or.inr (Or.inr ⟨by omega, by omega, Or.inr ⟨by omega, Or.inr ⟨by omega, or_assoc.mp (Or.inl (by omega))⟩⟩⟩) | exact Or.inr (Or.inr ⟨by omega, by omega, Or.inr ⟨by omega, Or.inl ⟨by omega, by omega, by omega⟩⟩⟩) | exact Or.inr (Or.inr ⟨by omega, by omega, Or.inl ⟨by omega, by omega⟩⟩) | exact or_assoc.mp (Or.inl (by omega))) | omega | (refine ⟨fun q => ?_, fun q => ?_⟩ <;> first | (rw [a168, k168] at q; omega) | (rw [a170, k170]; omega)) | (refine ⟨fun q => ?_, fun q => ?_, fun q => ?_⟩ <;> first | (exfalso; rw [a168, k168] at q; omega) | (rw [a169, k169]; omega) | (rw [a170, k170]; omega)) | omega) Tok_h224 Mq_h224 Wd9_h224)
theorem c_Reader_readFill7_f0 {l : Launch} {rho : Nat → Int32} {d : Nat} {h : my_H} {Q : my_H → my_V → Prop} (cf : h 82 9 = 0) (n_Ln : Ln h) (n_Al : Al h) (n_Cu : Cu h) (k0 : ∀ (h' : my_H), my_fr [(5, 5), (5, 6), (5, 7), (5, 8), (5, 9), (38, -1)] h h' → 1 ≤ h' 82 9 → h' 82 9 ≤ 16004 → fillR (cs h) (h 82 7) (h (h 82 2) 3) (h' 82 9) (h' 82 7) → LoZ h h' → Ln h' → Al h' → Cu h' → Q h' (9, 0)) (k1 : ∀ (h' : my_H), my_fr [(5, 5), (5, 6), (5, 7), (5, 8), (5, 9), (38, -1)] h h' → h' 82 9 = 0 → fillR (cs h) (h 82 7) (h (h 82 2) 3) (h' 82 9) (h' 82 7) → FlQ h h' (sV (cs h) (h 82 7)) (sV (cs h) (sN (cs h) (h 82 7))) → LoZ h h' → 0 ≤ sV (cs h) (sN (cs h) (h 82 7)) → Ln h' → Al h' → Cu h' → Q h' (9, 0)) : wp l rho (d + 3) 50 0 [(2, 82), (9, 0), (9, 0)] [] h Q := by
  have ck1 := Cu_s n_Cu
  have cv2 := Cu_v n_Cu
  refine w_aload_n gz_50_0 rfl ?_
  refine w_aload_n gz_50_1 rfl ?_
  refine v_getR (j := 2) gz_50_2 rfl is_82 rd_5 rfl (fun v3 ev3 tv3 => ?_)
  have ce4 : h 82 2 = v3 := ev3.symm
  have sE5 : v3 = h 82 2 := by first | assumption | omega
  refine v_getI (j := 3) gz_50_5 rfl tv3 rd_4 rfl (fun v5 ev5 pv5 qv5 => ?_)
  have c8 : v5 = h (h 82 2) 3 := by rw [← sE5]; omega
  refine w_inv (k := 1) (as := [(0, v5)]) (r := []) (x := 82) (ls0 := [(2, 82), (0, v5), (9, 0)]) gz_50_8 gm_51 rfl is_82 rd_5 rfl rfl rfl rfl rfl (c_Reader_takeNumber9_f0 (d := d) (x1 := v5) (by omega) (by omega) (cf.trans (by omega)) n_Al n_Cu (fun h6 frh6 w7 w8 xp9 Al_h6t10 Cu_h6t11 => ?_) (fun h12 v13 frh12 w14 w15 w16 w17 w18 xp19 xp20 xp21 Al_h12t22 Cu_h12t23 => ?_))
  ·
    have gh6 : my_fr [(5, 5), (5, 6), (5, 7), (5, 8), (5, 9), (38, -1)] h h6 := my_fr.tr my_fr.rf (frh6.mo rfl)
    have Ln_h6 : Ln h6 := Ln_ag (my_ag.fr frh6 rfl) n_Ln
    have AgZ_h6 : my_ag LzF h h6 := AgZ_ag (my_ag.fr frh6 rfl) (my_ag.rf : my_ag LzF h h)
    have LoZ_h6 : LoZ h h6 := LoZ_ag (my_ag.fr frh6 rfl) n_Ln (LoZ_rf)
    show wp l rho (d + 3) 50 11 [(2, 82), (9, 0), (9, 0)] [(0, (-1))] h6 Q
    refine w_istore_n (ls' := [(2, 82), (0, (-1)), (9, 0)]) gz_50_11 gm_50 rfl rfl rfl ?_
    refine w_aload_n gz_50_12 rfl ?_
    refine w_bipush gz_50_13 (by decide) ?_
    refine w_inv (k := 1) (as := [(0, 20)]) (r := []) (x := 82) (ls0 := [(2, 82), (0, 20), (9, 0)]) gz_50_15 gm_51 rfl is_82 rd_5 rfl rfl rfl rfl rfl (c_Reader_takeNumber9_f1 (d := d) (x1 := 20) (by omega) (by omega) ((h6 82 9)) ((rfl : h6 82 9 = h6 82 9)) (by omega) (by omega) Al_h6t10 Cu_h6t11 (fun w24 w25 Al_h6t26 Cu_h6t27 => ?_))
    show wp l rho (d + 3) 50 18 [(2, 82), (0, (-1)), (9, 0)] [(0, (-1))] h6 Q
    refine w_istore_n (ls' := [(2, 82), (0, (-1)), (0, (-1))]) gz_50_18 gm_50 rfl rfl rfl ?_
    refine w_aload_n gz_50_19 rfl ?_
    refine v_getI (j := 9) gz_50_20 rfl is_82 rd_5 rfl (fun v28 ev28 pv28 qv28 => ?_)
    have zv28 := ev28.trans (rfl : h6 82 9 = h6 82 9)
    refine w_ifne (t := 43) gz_50_23 rfl (fun u29 => ?_) (fun u29 => by exfalso; omega)
    have psR : h6 82 7 = h6 82 7 := (rfl : h6 82 7 = h6 82 7)
    have npsR : cs h6 = cs h := cs_eq (fun j => my_fr.at gh6 is_92 rfl) (my_fr.at gh6 is_82 rfl)
    have c30 := ev28.symm
    exact w_vret gz_50_43 gm_50 (k0 h6 (gh6) (by omega) (by omega) (by first | exact fq9 | exact LoZ_h6 | (unfold fillR; first | exact Or.inr (Or.inr ⟨by omega, by omega, Or.inr (Or.inr ⟨by omega, by omega, Or.inr ⟨by omega, by omega, by omega⟩⟩)⟩) | exact Or.inr (Or.inr ⟨by omega, by omega, Or.inr (Or.inr ⟨by omega, by omega, Or.inl ⟨by omega, by omega⟩⟩)⟩) | exact Or.inr (Or.inr ⟨by omega, by omega, or_assoc.mp (Or.inl (by omega))⟩) | exact or_assoc.mp (Or.inl (by omega))) | omega) (by first | exact fq9 | exact LoZ_h6 | (unfold fillR; first | exact Or.inr (Or.inr ⟨by omega, by omega, Or.inr (Or.inr ⟨by omega, by omega, Or.inr ⟨by omega, by omega, by omega⟩⟩)⟩) | exact Or.inr (Or.inr ⟨by omega, by omega, Or.inr (Or.inr ⟨by omega, by omega, Or.inl ⟨by omega, by omega⟩⟩)⟩) | exact Or.inr (Or.inr ⟨by omega, by omega, or_assoc.mp (Or.inl (by omega))⟩) | exact or_assoc.mp (Or.inl (by omega))) | omega) Ln_h6 Al_h6t26 Cu_h6t27)
  ·
    have gh12 : my_fr [(5, 5), (5, 6), (5, 7), (5, 8), (5, 9), (38, -1)] h h12 := my_fr.tr my_fr.rf (frh12.mo rfl)
    have Ln_h12 : Ln h12 := Ln_ag (my_ag.fr frh12 rfl) n_Ln
    have AgZ_h12 : my_ag LzF h h12 := AgZ_ag (my_ag.fr frh12 rfl) (my_ag.rf : my_ag LzF h h)
    have LoZ_h12 : LoZ h h12 := LoZ_ag (my_ag.fr frh12 rfl) n_Ln (LoZ_rf)
    show wp l rho (d + 3) 50 11 [(2, 82), (9, 0), (9, 0)] [(0, v13)] h12 Q
    have ck31 := Cu_s Cu_h12t23
    rw [show cs h12 = cs h from cs_eq (fun j => my_fr.at gh12 is_92 rfl) (my_fr.at gh12 is_82 rfl)] at ck31
    rw [show h12 82 7 = (sN (cs h) (h 82 7)) from xp19] at ck31
    have cv32 := Cu_v Cu_h12t23
    rw [show cs h12 = cs h from cs_eq (fun j => my_fr.at gh12 is_92 rfl) (my_fr.at gh12 is_82 rfl)] at cv32
    rw [show h12 82 7 = (sN (cs h) (h 82 7)) from xp19] at cv32
    refine w_istore_n (ls' := [(2, 82), (0, v13), (9, 0)]) gz_50_11 gm_50 rfl rfl rfl ?_
    refine w_aload_n gz_50_12 rfl ?_
    refine w_bipush gz_50_13 (by decide) ?_
    refine w_inv (k := 1) (as := [(0, 20)]) (r := []) (x := 82) (ls0 := [(2, 82), (0, 20), (9, 0)]) gz_50_15 gm_51 rfl is_82 rd_5 rfl rfl rfl rfl rfl (c_Reader_takeNumber9_f0 (d := d) (x1 := 20) (by omega) (by omega) (w18.trans (by omega)) Al_h12t22 Cu_h12t23 (fun h33 frh33 w34 w35 xp36 Al_h33t37 Cu_h33t38 => ?_) (fun h39 v40 frh39 w41 w42 w43 w44 w45 xp46 xp47 xp48 Al_h39t49 Cu_h39t50 => ?_))
    ·
      have gh33 : my_fr [(5, 5), (5, 6), (5, 7), (5, 8), (5, 9), (38, -1)] h h33 := my_fr.tr gh12 (frh33.mo rfl)
      have Ln_h33 : Ln h33 := Ln_ag (my_ag.fr frh33 rfl) Ln_h12
      have AgZ_h33 : my_ag LzF h h33 := AgZ_ag (my_ag.fr frh33 rfl) AgZ_h12
      have LoZ_h33 : LoZ h h33 := LoZ_ag (my_ag.fr frh33 rfl) Ln_h12 LoZ_h12
      show wp l rho (d + 3) 50 18 [(2, 82), (0, v13), (9, 0)] [(0, (-1))] h33 Q
      have tE51 : cs h12 = cs h := cs_eq (fun j => my_fr.at gh12 is_92 rfl) (my_fr.at gh12 is_82 rfl)
      rw [tE51] at xp36
      have ps52 : h12 82 7 = (sN (cs h) (h 82 7)) := xp19
      rw [ps52] at xp36
      refine w_istore_n (ls' := [(2, 82), (0, v13), (0, (-1))]) gz_50_18 gm_50 rfl rfl rfl ?_
      refine w_aload_n gz_50_19 rfl ?_
      refine v_getI (j := 9) gz_50_20 rfl is_82 rd_5 rfl (fun v53 ev53 pv53 qv53 => ?_)
      have zv53 := ev53.trans (rfl : h33 82 9 = h33 82 9)
      refine w_ifne (t := 43) gz_50_23 rfl (fun u54 => ?_) (fun u54 => by exfalso; omega)
      have psR : h33 82 7 = h33 82 7 := (rfl : h33 82 7 = h33 82 7)
      have npsR : cs h33 = cs h := cs_eq (fun j => my_fr.at gh33 is_92 rfl) (my_fr.at gh33 is_82 rfl)
      have c55 := ev53.symm
      exact w_vret gz_50_43 gm_50 (k0 h33 (gh33) (by omega) (by omega) (by first | exact fq9 | exact LoZ_h33 | (unfold fillR; first | exact Or.inr (Or.inr ⟨by omega, by omega, Or.inr (Or.inr ⟨by omega, by omega, Or.inr ⟨by omega, by omega, by omega⟩⟩)⟩) | exact Or.inr (Or.inr ⟨by omega, by omega, Or.inr (Or.inr ⟨by omega, by omega, Or.inl ⟨by omega, by omega⟩⟩)⟩) | exact Or.inr (Or.inr ⟨by omega, by omega, or_assoc.mp (Or.inl (by omega))⟩) | exact or_assoc.mp (Or.inl (by omega))) | omega) (by first | exact fq9 | exact LoZ_h33 | (unfold fillR; first | exact Or.inr (Or.inr ⟨by omega, by omega, Or.inr (Or.inr ⟨by omega, by omega, Or.inr ⟨by omega, by omega, by omega⟩⟩)⟩) | exact Or.inr (Or.inr ⟨by omega, by omega, Or.inr (Or.inr ⟨by omega, by omega, Or.inl ⟨by omega, by omega⟩⟩)⟩) | exact Or.inr (Or.inr ⟨by omega, by omega, or_assoc.mp (Or.inl (by omega))⟩) | exact or_assoc.mp (Or.inl (by omega))) | omega) Ln_h33 Al_h33t37 Cu_h33t38)
    ·
      have gh39 : my_fr [(5, 5), (5, 6), (5, 7), (5, 8), (5, 9), (38, -1)] h h39 := my_fr.tr gh12 (frh39.mo rfl)
      have Ln_h39 : Ln h39 := Ln_ag (my_ag.fr frh39 rfl) Ln_h12
      have AgZ_h39 : my_ag LzF h h39 := AgZ_ag (my_ag.fr frh39 rfl) AgZ_h12
      have LoZ_h39 : LoZ h h39 := LoZ_ag (my_ag.fr frh39 rfl) Ln_h12 LoZ_h12
      show wp l rho (d + 3) 50 18 [(2, 82), (0, v13), (9, 0)] [(0, v40)] h39 Q
      have tE56 : cs h12 = cs h := cs_eq (fun j => my_fr.at gh12 is_92 rfl) (my_fr.at gh12 is_82 rfl)
      rw [tE56] at xp46
      have ps57 : h12 82 7 = (sN (cs h) (h 82 7)) := xp19
      rw [ps57] at xp46
      rw [tE56] at xp47
      rw [ps57] at xp47
      rw [tE56] at xp48
      rw [ps57] at xp48
      have ck58 := Cu_s Cu_h39t50
      rw [show cs h39 = cs h from cs_eq (fun j => my_fr.at gh39 is_92 rfl) (my_fr.at gh39 is_82 rfl)] at ck58
      rw [show h39 82 7 = (sN (cs h) (((sN (cs h) (h 82 7))))) from xp46] at ck58
      have cv59 := Cu_v Cu_h39t50
      rw [show cs h39 = cs h from cs_eq (fun j => my_fr.at gh39 is_92 rfl) (my_fr.at gh39 is_82 rfl)] at cv59
      rw [show h39 82 7 = (sN (cs h) (((sN (cs h) (h 82 7))))) from xp46] at cv59
      refine w_istore_n (ls' := [(2, 82), (0, v13), (0, v40)]) gz_50_18 gm_50 rfl rfl rfl ?_
      refine w_aload_n gz_50_19 rfl ?_
      refine v_getI (j := 9) gz_50_20 rfl is_82 rd_5 rfl (fun v60 ev60 pv60 qv60 => ?_)
      have zv60 := ev60.trans w45
      refine w_ifne (t := 43) gz_50_23 rfl (fun u61 => by exfalso; omega) (fun u61 => ?_)
      refine w_aload_n gz_50_26 rfl ?_
      refine w_inv (k := 0) (as := []) (r := []) (x := 82) (ls0 := [(2, 82)]) gz_50_27 gm_47 rfl is_82 rd_5 rfl rfl rfl rfl rfl (c_Reader_endsHere9_f0 (d := d)  (ev60.symm.trans (by omega)) Al_h39t49 Cu_h39t50 (fun h62 frh62 w63 w64 xp65 xp66 Al_h62t67 Cu_h62t68 => ?_) (fun h69 frh69 w70 xp71 xp72 Al_h69t73 Cu_h69t74 => ?_))
      ·
        have gh62 : my_fr [(5, 5), (5, 6), (5, 7), (5, 8), (5, 9), (38, -1)] h h62 := my_fr.tr gh39 (frh62.mo rfl)
        have Ln_h62 : Ln h62 := Ln_ag (my_ag.fr frh62 rfl) Ln_h39
        have AgZ_h62 : my_ag LzF h h62 := AgZ_ag (my_ag.fr frh62 rfl) AgZ_h39
        have LoZ_h62 : LoZ h h62 := LoZ_ag (my_ag.fr frh62 rfl) Ln_h39 LoZ_h39
        show wp l rho (d + 3) 50 30 [(2, 82), (0, v13), (0, v40)] [(0, 0)] h62 Q
        have tE75 : cs h39 = cs h := cs_eq (fun j => my_fr.at gh39 is_92 rfl) (my_fr.at gh39 is_82 rfl)
        rw [tE75] at xp65
        have ps76 : h39 82 7 = (sN (cs h) (((sN (cs h) (h 82 7))))) := xp46
        rw [ps76] at xp65
        rw [ps76] at xp66
        refine w_ifeq (t := 43) gz_50_30 rfl (fun u77 => ?_) (fun u77 => by exfalso; omega)
        have psR : h62 82 7 = h62 82 7 := (rfl : h62 82 7 = h62 82 7)
        have npsR : cs h62 = cs h := cs_eq (fun j => my_fr.at gh62 is_92 rfl) (my_fr.at gh62 is_82 rfl)
        have c78 := (rfl : h62 82 9 = h62 82 9)
        exact w_vret gz_50_43 gm_50 (k0 h62 (gh62) (by omega) (by omega) (by first | exact fq9 | exact LoZ_h62 | (unfold fillR; first | exact Or.inr (Or.inr ⟨by omega, by omega, Or.inr (Or.inr ⟨by omega, by omega, Or.inr ⟨by omega, by omega, by omega⟩⟩)⟩) | exact Or.inr (Or.inr ⟨by omega, by omega, Or.inr (Or.inr ⟨by omega, by omega, Or.inl ⟨by omega, by omega⟩⟩)⟩) | exact Or.inr (Or.inr ⟨by omega, by omega, or_assoc.mp (Or.inl (by omega))⟩) | exact or_assoc.mp (Or.inl (by omega))) | omega) (by first | exact fq9 | exact LoZ_h62 | (unfold fillR; first | exact Or.inr (Or.inr ⟨by omega, by omega, Or.inr (Or.inr ⟨by omega, by omega, Or.inr ⟨by omega, by omega, by omega⟩⟩)⟩) | exact Or.inr (Or.inr ⟨by omega, by omega, Or.inr (Or.inr ⟨by omega, by omega, Or.inl ⟨by omega, by omega⟩⟩)⟩) | exact Or.inr (Or.inr ⟨by omega, by omega, or_assoc.mp (Or.inl (by omega))⟩) | exact or_assoc.mp (Or.inl (by omega))) | omega) Ln_h62 Al_h62t67 Cu_h62t68)
      ·
        have gh69 : my_fr [(5, 5), (5, 6), (5, 7), (5, 8), (5, 9), (38, -1)] h h69 := my_fr.tr gh39 (frh69.mo rfl)
        have Ln_h69 : Ln h69 := Ln_ag (my_ag.fr frh69 rfl) Ln_h39
        have AgZ_h69 : my_ag LzF h h69 := AgZ_ag (my_ag.fr frh69 rfl) AgZ_h39
        have LoZ_h69 : LoZ h h69 := LoZ_ag (my_ag.fr frh69 rfl) Ln_h39 LoZ_h39
        show wp l rho (d + 3) 50 30 [(2, 82), (0, v13), (0, v40)] [(0, 1)] h69 Q
        have tE79 : cs h39 = cs h := cs_eq (fun j => my_fr.at gh39 is_92 rfl) (my_fr.at gh39 is_82 rfl)
        rw [tE79] at xp71
        have ps80 : h39 82 7 = (sN (cs h) (((sN (cs h) (h 82 7))))) := xp46
        rw [ps80] at xp71
        rw [tE79] at xp72
        rw [ps80] at xp72
        have ck81 := Cu_s Cu_h69t74
        rw [show cs h69 = cs h from cs_eq (fun j => my_fr.at gh69 is_92 rfl) (my_fr.at gh69 is_82 rfl)] at ck81
        rw [show h69 82 7 = (sN (cs h) (((sN (cs h) (((sN (cs h) (h 82 7)))))))) from xp71] at ck81
        have cv82 := Cu_v Cu_h69t74
        rw [show cs h69 = cs h from cs_eq (fun j => my_fr.at gh69 is_92 rfl) (my_fr.at gh69 is_82 rfl)] at cv82
        rw [show h69 82 7 = (sN (cs h) (((sN (cs h) (((sN (cs h) (h 82 7)))))))) from xp71] at cv82
        refine w_ifeq (t := 43) gz_50_30 rfl (fun u83 => by exfalso; omega) (fun u83 => ?_)
        refine w_aload_n gz_50_33 rfl ?_
        refine v_getR (j := 2) gz_50_34 rfl is_82 rd_5 rfl (fun v84 ev84 tv84 => ?_)
        have zv84 : v3 = v84 := (ev84.trans ((my_fr.at frh69 is_82 rfl).trans ((my_fr.at frh39 is_82 rfl).trans ((my_fr.at frh12 is_82 rfl).trans ev3.symm)))).symm
        subst zv84
        have ce85 : h69 82 2 = v3 := ((my_fr.at frh69 is_82 rfl).trans ((my_fr.at frh39 is_82 rfl).trans ((my_fr.at frh12 is_82 rfl).trans ev3.symm)))
        have az9 := AgZ_h69
        have sE9 : v3 = h 82 2 := by first | assumption | omega
        have sE9b : v3 = h69 82 2 := by first | assumption | omega
        refine w_getX (v := (v3 + 7)) gz_50_37 tv3 rd_4 rfl (by decide) rfl ?_
        refine w_iload_n gz_50_40 rfl ?_
        refine w_iload_n gz_50_41 rfl ?_
        refine w_iast gz_50_42 (ix_4_7 tv3) rd_38 (by omega) (by omega) (by omega) (by omega) (fun h87 fh87 => ?_)
        have gh87 : my_fr [(5, 5), (5, 6), (5, 7), (5, 8), (5, 9), (38, -1)] h h87 := my_fr.up gh69 (ix_4_7 tv3) fh87 rfl
        have Ln_h87 : Ln h87 := Ln_ag (my_ag.up fh87 (ix_4_7 tv3) rfl) Ln_h69
        have Al_h87 : Al h87 := Al_ag (my_ag.up fh87 (ix_4_7 tv3) rfl) Al_h69t73
        have Cu_h87 : Cu h87 := Cu_ag (my_ag.up fh87 (ix_4_7 tv3) rfl) Cu_h69t74
        have fq9 : FlQ h h87 (sV (cs h) (h 82 7)) (sV (cs h) (sN (cs h) (h 82 7))) := by
          rw [show sV (cs h) (h 82 7) = v13 by omega, show sV (cs h) (sN (cs h) (h 82 7)) = v40 by omega]
          exact FlQ_mk az9 sE9 n_Ln.2.2.2.1 fh87
        have LoZ_h87t88 : LoZ h h87 := LoZ_up fh87 sE9b (by omega) (by omega) Ln_h69 LoZ_h69
        have psR : h87 82 7 = (sN (cs h) (((sN (cs h) (((sN (cs h) (h 82 7)))))))) := ((my_up_role fh87 is_82 (ix_4_7 tv3) rfl).trans xp71)
        have npsR : cs h87 = cs h := cs_eq (fun j => my_fr.at gh87 is_92 rfl) (my_fr.at gh87 is_82 rfl)
        have c89 := ((my_up_role fh87 is_82 (ix_4_7 tv3) rfl).trans w70)
        exact w_vret gz_50_43 gm_50 (k1 h87 (gh87) (by omega) (by first | exact fq9 | exact LoZ_h87t88 | (unfold fillR; first | exact Or.inr (Or.inr ⟨by omega, by omega, Or.inr (Or.inr ⟨by omega, by omega, Or.inr ⟨by omega, by omega, by omega⟩⟩)⟩) | exact Or.inr (Or.inr ⟨by omega, by omega, Or.inr (Or.inr ⟨by omega, by omega, Or.inl ⟨by omega, by omega⟩⟩)⟩) | exact Or.inr (Or.inr ⟨by omega, by omega, or_assoc.mp (Or.inl (by omega))⟩) | exact or_assoc.mp (Or.inl (by omega))) | omega) (by first | exact fq9 | exact LoZ_h87t88 | (unfold fillR; first | exact Or.inr (Or.inr ⟨by omega, by omega, Or.inr (Or.inr ⟨by omega, by omega, Or.inr ⟨by omega, by omega, by omega⟩⟩)⟩) | exact Or.inr (Or.inr ⟨by omega, by omega, Or.inr (Or.inr ⟨by omega, by omega, Or.inl ⟨by omega, by omega⟩⟩)⟩) | exact Or.inr (Or.inr ⟨by omega, by omega, or_assoc.mp (Or.inl (by omega))⟩) | exact or_assoc.mp (Or.inl (by omega))) | omega) (by first | exact fq9 | exact LoZ_h87t88 | (unfold fillR; first | exact Or.inr (Or.inr ⟨by omega, by omega, Or.inr (Or.inr ⟨by omega, by omega, Or.inr ⟨by omega, by omega, by omega⟩⟩)⟩) | exact Or.inr (Or.inr ⟨by omega, by omega, Or.inr (Or.inr ⟨by omega, by omega, Or.inl ⟨by omega, by omega⟩⟩)⟩) | exact Or.inr (Or.inr ⟨by omega, by omega, or_assoc.mp (Or.inl (by omega))⟩) | exact or_assoc.mp (Or.inl (by omega))) | omega) (by first | exact fq9 | exact LoZ_h87t88 | (unfold fillR; first | exact Or.inr (Or.inr ⟨by omega, by omega, Or.inr (Or.inr ⟨by omega, by omega, Or.inr ⟨by omega, by omega, by omega⟩⟩)⟩) | exact Or.inr (Or.inr ⟨by omega, by omega, Or.inr (Or.inr ⟨by omega, by omega, Or.inl ⟨by omega, by omega⟩⟩)⟩) | exact Or.inr (Or.inr ⟨by omega, by omega, or_assoc.mp (Or.inl (by omega))⟩) | exact or_assoc.mp (Or.inl (by omega))) | omega) Ln_h87 Al_h87 Cu_h87)
end MYNModel_readSum7_f0
