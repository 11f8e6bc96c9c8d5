/-! contracts, printed by wip/gen/gy.py -/
section MYNModel_readSum9_f0
theorem c_Model_readSum9_f0 {l : Launch} {rho : Nat → Int32} {d : Nat} {h : my_H} {Q : my_H → my_V → Prop} {x1 : Int} {wv : Int} (a1 : 36 ≤ x1) (b1 : x1 ≤ 41) (cf : h 151 8 = 0) (hwv : wv ≤ 5) (hwv0 : 0 ≤ wv) (n_Tok : Tok h) (n_Mq : Mq h wv) (n_Wd9 : Wd9 h) (hp : x1 = 36 + h 167 6) (k0 : ∀ (h' : my_H), my_fr [(10, 7), (10, 8), (67, -1), (68, -1), (69, -1)] h h' → 1 ≤ h' 151 8 → h' 151 8 ≤ 16004 → h 151 7 ≤ h' 151 7 → sumM (sm h) (h 151 7) (h 151 27) (h' 151 8) (h' 151 7) → Ko h h' → Tok h' → Mq h' wv → Wd9 h' → Q h' (9, 0)) (k1 : ∀ (h' : my_H), my_fr [(10, 7), (10, 8), (67, -1), (68, -1), (69, -1)] h h' → 1 ≤ h' 151 7 → h' 151 7 ≤ 1001 → h' 151 8 = 0 → PaneOk h' x1 → Pk3 h' x1 (h' 151 27) → h 151 7 ≤ h' 151 7 → sumM (sm h) (h 151 7) (h 151 27) (h' 151 8) (h' 151 7) → h' 168 x1 = 5 → Ko h h' → Tok h' → Mq h' wv → Wd9 h' → Q h' (9, 0)) : wp l rho (d + 3) 190 0 [(2, 151), (0, x1)] [] h Q := by
  refine v_know (x := 151) (j := 7) (b := 7) rfl is_151 rd_10 rfl (fun k151_7 ek151_7 pk151_7 qk151_7 => ?_)
  refine v_know (x := 151) (j := 27) (b := 27) rfl is_151 rd_10 rfl (fun k151_27 ek151_27 pk151_27 qk151_27 => ?_)
  refine w_aload_n gz_190_0 rfl ?_
  refine w_getX (v := 168) gz_190_1 is_151 rd_10 rfl (by decide) rfl ?_
  refine w_iload_n gz_190_4 rfl ?_
  refine w_iconst gz_190_5 (by decide) ?_
  refine w_iast gz_190_6 is_168 rd_67 (by omega) (by omega) (by omega) (by omega) (fun h2 fh2 => ?_)
  have gh2 : my_fr [(10, 7), (10, 8), (67, -1), (68, -1), (69, -1)] h h2 := my_fr.up my_fr.rf is_168 fh2 rfl
  have Tok_h2 : Tok h2 := Tok_ag (my_ag.up fh2 is_168 rfl) n_Tok
  have Mq_h2 : Mq h2 wv := Mq_u (a := 168) hwv (by decide) (by omega) fh2 n_Mq
  have Wd9_h2 : Wd9 h2 := Wd9_ag (my_ag.up fh2 is_168 rfl) n_Wd9
  have P6_h2 : h2 167 6 = h 167 6 := P6_ag (my_ag.up fh2 is_168 rfl) (rfl)
  have Ko_h2 : Ko h h2 := Ko_u (a := 168) hwv (by decide) (by omega) fh2 (Ko_rf)
  have k168 : h2 168 x1 = 5 := my_up_self fh2
  refine w_aload_n gz_190_7 rfl ?_
  refine w_getX (v := 170) gz_190_8 is_151 rd_10 rfl (by decide) rfl ?_
  refine w_iload_n gz_190_11 rfl ?_
  refine w_aload_n gz_190_12 rfl ?_
  refine w_aload_n gz_190_13 rfl ?_
  refine v_getI (j := 27) gz_190_14 rfl is_151 rd_10 rfl (fun v4 ev4 pv4 qv4 => ?_)
  have zv4 := ev4.trans ((my_up_role fh2 is_151 is_168 rfl).trans ek151_27.symm)
  refine w_iconst gz_190_17 (by decide) ?_
  refine w_isub gz_190_18 ⟨by omega, by omega⟩ ?_
  have ce5 : h2 151 7 = k151_7 := ((my_up_role fh2 is_151 is_168 rfl).trans ek151_7.symm)
  have ce6 : h2 151 27 = v4 := ev4.symm
  refine w_inv (k := 0) (as := [(0, (v4 - 1))]) (r := [(0, x1), (2, 170)]) (x := 151) (ls0 := [(2, 151), (0, (v4 - 1))]) gz_190_19 gm_187 rfl is_151 rd_10 rfl rfl rfl rfl rfl (c_Model_takeNumber9_f0 (d := (d + 1)) (x1 := (v4 - 1)) (by omega) (by omega) (((my_up_role fh2 is_151 is_168 rfl).trans cf).trans (by omega)) Tok_h2 (fun h7 frh7 w8 w9 xp10 xp11 Tok_h7t12 => ?_) (fun h13 v14 frh13 w15 w16 w17 w18 w19 xp20 xp21 xp22 xp23 xp24 xp25 xp26 xp27 Tok_h13t28 => ?_))
  ·
    have gh7 : my_fr [(10, 7), (10, 8), (67, -1), (68, -1), (69, -1)] h h7 := my_fr.tr gh2 (frh7.mo rfl)
    have Mq_h7 : Mq h7 wv := Mq_ag (my_ag.fr frh7 rfl) Mq_h2
    have Wd9_h7 : Wd9 h7 := Wd9_ag (my_ag.fr frh7 rfl) Wd9_h2
    have P6_h7 : h7 167 6 = h 167 6 := P6_ag (my_ag.fr frh7 rfl) P6_h2
    have Ko_h7 : Ko h h7 := Ko_ag (my_ag.fr frh7 rfl) Ko_h2
    show wp l rho (d + 3) 190 22 [(2, 151), (0, x1)] [(0, 0), (0, x1), (2, 170)] h7 Q
    have ps29 : h2 151 7 = h 151 7 := ((my_up_role fh2 is_151 is_168 rfl).trans (rfl : h 151 7 = h 151 7))
    rw [ps29] at xp10
    have tE30 : sm h2 = sm h := sm_eq (fun j => my_fr.at gh2 is_153 rfl) (fun j => my_fr.at gh2 is_154 rfl) (fun j => my_fr.at gh2 is_155 rfl)
    rw [tE30] at xp11
    rw [ps29] at xp11
    have hi31 : 0 ≤ 0 := by omega
    have hi32 : 0 ≤ 7 := by omega
    refine w_iast gz_190_22 is_170 rd_69 (by omega) (by omega) (by omega) (by omega) (fun h33 fh33 => ?_)
    have gh33 : my_fr [(10, 7), (10, 8), (67, -1), (68, -1), (69, -1)] h h33 := my_fr.up gh7 is_170 fh33 rfl
    have Mq_h33 : Mq h33 wv := Mq_u (a := 170) hwv (by decide) (by omega) fh33 Mq_h7
    have Wd9_h33 : Wd9 h33 := Wd9_ag (my_ag.up fh33 is_170 rfl) Wd9_h7
    have P6_h33 : h33 167 6 = h 167 6 := P6_ag (my_ag.up fh33 is_170 rfl) P6_h7
    have Ko_h33 : Ko h h33 := Ko_u (a := 170) hwv (by decide) (by omega) fh33 Ko_h7
    have Tok_h33 : Tok h33 := Tok_ag (my_ag.up fh33 is_170 rfl) Tok_h7t12
    have k170 := my_up_self fh33
    refine w_aload_n gz_190_23 rfl ?_
    refine w_bipush gz_190_24 (by decide) ?_
    have ce34 : h33 151 7 = h7 151 7 := ((my_up_role fh33 is_151 is_170 rfl).trans (rfl : h7 151 7 = h7 151 7))
    have ce35 : h33 151 27 = v4 := ((my_up_role fh33 is_151 is_170 rfl).trans ((my_fr.at frh7 is_151 rfl).trans ev4.symm))
    refine w_inv (k := 0) (as := [(0, 9)]) (r := []) (x := 151) (ls0 := [(2, 151), (0, 9)]) gz_190_26 gm_175 rfl is_151 rd_10 rfl rfl rfl rfl rfl (c_Model_takeWord9_f1 (d := d)  ((h7 151 8)) (((my_up_role fh33 is_151 is_170 rfl).trans (rfl : h7 151 8 = h7 151 8))) (by omega) (by omega) Tok_h33 Wd9_h33 (fun h36 frh36 w37 w38 xp39 xp40 Tok_h36t41 Wd9_h36t42 => ?_))
    have gh36 : my_fr [(10, 7), (10, 8), (67, -1), (68, -1), (69, -1)] h h36 := my_fr.tr gh33 (frh36.mo rfl)
    have Mq_h36 : Mq h36 wv := Mq_ag (my_ag.fr frh36 rfl) Mq_h33
    have Wd9_h36 : Wd9 h36 := Wd9_ag (my_ag.fr frh36 rfl) Wd9_h33
    have P6_h36 : h36 167 6 = h 167 6 := P6_ag (my_ag.fr frh36 rfl) P6_h33
    have Ko_h36 : Ko h h36 := Ko_ag (my_ag.fr frh36 rfl) Ko_h33
    show wp l rho (d + 3) 190 29 [(2, 151), (0, x1)] [] h36 Q
    have ps43 : h33 151 7 = ((h 151 7)) := ((my_up_role fh33 is_151 is_170 rfl).trans xp10)
    rw [ps43] at xp39
    rw [ps43] at xp40
    refine w_aload_n gz_190_29 rfl ?_
    refine v_getI (j := 8) gz_190_30 rfl is_151 rd_10 rfl (fun v44 ev44 pv44 qv44 => ?_)
    have zv44 := ev44.trans ((my_fr.at frh36 is_151 rfl).trans ((my_up_role fh33 is_151 is_170 rfl).trans (rfl : h7 151 8 = h7 151 8)))
    refine w_ifne (t := 74) gz_190_33 rfl (fun u45 => ?_) (fun u45 => by exfalso; omega)
    refine w_aload_n gz_190_74 rfl ?_
    refine w_getX (v := 169) gz_190_75 is_151 rd_10 rfl (by decide) rfl ?_
    refine w_iload_n gz_190_78 rfl ?_
    refine w_aload_n gz_190_79 rfl ?_
    refine w_aload_n gz_190_80 rfl ?_
    refine v_getI (j := 27) gz_190_81 rfl is_151 rd_10 rfl (fun v47 ev47 pv47 qv47 => ?_)
    have zv47 := ev47.trans ((my_fr.at frh36 is_151 rfl).trans ((my_up_role fh33 is_151 is_170 rfl).trans ((my_fr.at frh7 is_151 rfl).trans ev4.symm)))
    refine w_iconst gz_190_84 (by decide) ?_
    refine w_isub gz_190_85 ⟨by omega, by omega⟩ ?_
    have ce48 : h36 151 27 = v47 := ev47.symm
    refine w_inv (k := 0) (as := [(0, (v47 - 1))]) (r := [(0, x1), (2, 169)]) (x := 151) (ls0 := [(2, 151), (0, (v47 - 1))]) gz_190_86 gm_187 rfl is_151 rd_10 rfl rfl rfl rfl rfl (c_Model_takeNumber9_f1 (d := (d + 1)) (x1 := (v47 - 1)) (by omega) (by omega) (v44) (ev44.symm) (by omega) (by omega) Tok_h36t41 (fun w49 w50 xp51 Tok_h36t52 => ?_))
    show wp l rho (d + 3) 190 89 [(2, 151), (0, x1)] [(0, 0), (0, x1), (2, 169)] h36 Q
    have ps53 : h36 151 7 = ((((h 151 7)))) := xp40
    rw [ps53] at xp51
    have hi54 : 0 ≤ 0 := by omega
    have hi55 : 0 ≤ 7 := by omega
    refine w_iast gz_190_89 is_169 rd_68 (by omega) (by omega) (by omega) (by omega) (fun h56 fh56 => ?_)
    have gh56 : my_fr [(10, 7), (10, 8), (67, -1), (68, -1), (69, -1)] h h56 := my_fr.up gh36 is_169 fh56 rfl
    have Mq_h56 : Mq h56 wv := Mq_u (a := 169) hwv (by decide) (by omega) fh56 Mq_h36
    have Wd9_h56 : Wd9 h56 := Wd9_ag (my_ag.up fh56 is_169 rfl) Wd9_h36t42
    have P6_h56 : h56 167 6 = h 167 6 := P6_ag (my_ag.up fh56 is_169 rfl) P6_h36
    have Ko_h56 : Ko h h56 := Ko_u (a := 169) hwv (by decide) (by omega) fh56 Ko_h36
    have Tok_h56 : Tok h56 := Tok_ag (my_ag.up fh56 is_169 rfl) Tok_h36t52
    have k169 := my_up_self fh56
    have psR : h56 151 7 = ((((h 151 7)))) := ((my_up_role fh56 is_151 is_169 rfl).trans xp40)
    have npsR : sm h56 = sm h := sm_eq (fun j => my_fr.at gh56 is_153 rfl) (fun j => my_fr.at gh56 is_154 rfl) (fun j => my_fr.at gh56 is_155 rfl)
    have ce57 : h56 151 7 = h36 151 7 := ((my_up_role fh56 is_151 is_169 rfl).trans (rfl : h36 151 7 = h36 151 7))
    have ce58 : h56 151 27 = v47 := ((my_up_role fh56 is_151 is_169 rfl).trans ev47.symm)
    have a168 : ∀ j : Int, h56 168 j = h2 168 j := fun j => ((my_up_role fh56 is_168 is_169 rfl).trans ((my_fr.at frh36 is_168 rfl).trans ((my_up_role fh33 is_168 is_170 rfl).trans ((my_fr.at frh7 is_168 rfl).trans (rfl : h2 168 j = h2 168 j)))))
    have a170 : ∀ j : Int, h56 170 j = h33 170 j := fun j => ((my_up_role fh56 is_170 is_169 rfl).trans ((my_fr.at frh36 is_170 rfl).trans (rfl : h33 170 j = h33 170 j)))
    have a169 : ∀ j : Int, h56 169 j = h56 169 j := fun _ => rfl
    have c59 := ((my_up_role fh56 is_151 is_169 rfl).trans ev44.symm)
    exact w_vret gz_190_90 gm_190 (k0 h56 (gh56) (by omega) (by omega) (by first | exact Ko_h56 | (rw [a168]; exact k168) | (unfold sumM; first | exact Or.inr (Or.inr ⟨by omega, by omega, Or.inr ⟨by omega, Or.inr ⟨by omega, Or.inr (Or.inr ⟨by omega, by omega, ⟨by omega, by omega⟩⟩)⟩⟩⟩) | exact Or.inr (Or.inr ⟨by omega, by omega, Or.inr ⟨by omega, Or.inr ⟨by omega, or_assoc.mp (Or.inl (by omega))⟩⟩⟩) | exact Or.inr (Or.inr ⟨by omega, by omega, Or.inr ⟨by omega, Or.inl ⟨by omega, by omega, by omega⟩⟩⟩) | exact Or.inr (Or.inr ⟨by omega, by omega, Or.inl ⟨by omega, by omega⟩⟩) | exact or_assoc.mp (Or.inl (by omega))) | omega | (refine ⟨fun q => ?_, fun q => ?_⟩ <;> first | (rw [a168, k168] at q; omega) | (rw [a170, k170]; omega)) | (refine ⟨fun q => ?_, fun q => ?_, fun q => ?_⟩ <;> first | (exfalso; rw [a168, k168] at q; omega) | (rw [a169, k169]; omega) | (rw [a170, k170]; omega)) | omega) (by first | exact Ko_h56 | (rw [a168]; exact k168) | (unfold sumM; first | exact Or.inr (Or.inr ⟨by omega, by omega, Or.inr ⟨by omega, Or.inr ⟨by omega, Or.inr (Or.inr ⟨by omega, by omega, ⟨by omega, by omega⟩⟩)⟩⟩⟩) | exact Or.inr (Or.inr ⟨by omega, by omega, Or.inr ⟨by omega, Or.inr ⟨by omega, or_assoc.mp (Or.inl (by omega))⟩⟩⟩) | exact Or.inr (Or.inr ⟨by omega, by omega, Or.inr ⟨by omega, Or.inl ⟨by omega, by omega, by omega⟩⟩⟩) | exact Or.inr (Or.inr ⟨by omega, by omega, Or.inl ⟨by omega, by omega⟩⟩) | exact or_assoc.mp (Or.inl (by omega))) | omega | (refine ⟨fun q => ?_, fun q => ?_⟩ <;> first | (rw [a168, k168] at q; omega) | (rw [a170, k170]; omega)) | (refine ⟨fun q => ?_, fun q => ?_, fun q => ?_⟩ <;> first | (exfalso; rw [a168, k168] at q; omega) | (rw [a169, k169]; omega) | (rw [a170, k170]; omega)) | omega) (by first | exact Ko_h56 | (rw [a168]; exact k168) | (unfold sumM; first | exact Or.inr (Or.inr ⟨by omega, by omega, Or.inr ⟨by omega, Or.inr ⟨by omega, Or.inr (Or.inr ⟨by omega, by omega, ⟨by omega, by omega⟩⟩)⟩⟩⟩) | exact Or.inr (Or.inr ⟨by omega, by omega, Or.inr ⟨by omega, Or.inr ⟨by omega, or_assoc.mp (Or.inl (by omega))⟩⟩⟩) | exact Or.inr (Or.inr ⟨by omega, by omega, Or.inr ⟨by omega, Or.inl ⟨by omega, by omega, by omega⟩⟩⟩) | exact Or.inr (Or.inr ⟨by omega, by omega, Or.inl ⟨by omega, by omega⟩⟩) | exact or_assoc.mp (Or.inl (by omega))) | omega | (refine ⟨fun q => ?_, fun q => ?_⟩ <;> first | (rw [a168, k168] at q; omega) | (rw [a170, k170]; omega)) | (refine ⟨fun q => ?_, fun q => ?_, fun q => ?_⟩ <;> first | (exfalso; rw [a168, k168] at q; omega) | (rw [a169, k169]; omega) | (rw [a170, k170]; omega)) | omega) Tok_h56 Mq_h56 Wd9_h56)
  ·
    have gh13 : my_fr [(10, 7), (10, 8), (67, -1), (68, -1), (69, -1)] h h13 := my_fr.tr gh2 (frh13.mo rfl)
    have Mq_h13 : Mq h13 wv := Mq_ag (my_ag.fr frh13 rfl) Mq_h2
    have Wd9_h13 : Wd9 h13 := Wd9_ag (my_ag.fr frh13 rfl) Wd9_h2
    have P6_h13 : h13 167 6 = h 167 6 := P6_ag (my_ag.fr frh13 rfl) P6_h2
    have Ko_h13 : Ko h h13 := Ko_ag (my_ag.fr frh13 rfl) Ko_h2
    show wp l rho (d + 3) 190 22 [(2, 151), (0, x1)] [(0, v14), (0, x1), (2, 170)] h13 Q
    have ps60 : h2 151 7 = h 151 7 := ((my_up_role fh2 is_151 is_168 rfl).trans (rfl : h 151 7 = h 151 7))
    rw [ps60] at xp22
    rw [ps60] at xp23
    rw [ps60] at xp24
    have tE61 : sm h2 = sm h := sm_eq (fun j => my_fr.at gh2 is_153 rfl) (fun j => my_fr.at gh2 is_154 rfl) (fun j => my_fr.at gh2 is_155 rfl)
    rw [tE61] at xp25
    rw [ps60] at xp25
    rw [tE61] at xp26
    rw [ps60] at xp26
    rw [tE61] at xp27
    rw [ps60] at xp27
    have hi62 : 0 ≤ v14 := by omega
    have hi63 : v14 ≤ 7 := by omega
    refine w_iast gz_190_22 is_170 rd_69 (by omega) (by omega) (by omega) (by omega) (fun h64 fh64 => ?_)
    have gh64 : my_fr [(10, 7), (10, 8), (67, -1), (68, -1), (69, -1)] h h64 := my_fr.up gh13 is_170 fh64 rfl
    have Mq_h64 : Mq h64 wv := Mq_u (a := 170) hwv (by decide) (by omega) fh64 Mq_h13
    have Wd9_h64 : Wd9 h64 := Wd9_ag (my_ag.up fh64 is_170 rfl) Wd9_h13
    have P6_h64 : h64 167 6 = h 167 6 := P6_ag (my_ag.up fh64 is_170 rfl) P6_h13
    have Ko_h64 : Ko h h64 := Ko_u (a := 170) hwv (by decide) (by omega) fh64 Ko_h13
    have Tok_h64 : Tok h64 := Tok_ag (my_ag.up fh64 is_170 rfl) Tok_h13t28
    have k170 := my_up_self fh64
    refine w_aload_n gz_190_23 rfl ?_
    refine w_bipush gz_190_24 (by decide) ?_
    have ce65 : h64 151 7 = (h13 151 7) := ((my_up_role fh64 is_151 is_170 rfl).trans (rfl : h13 151 7 = h13 151 7))
    have ce66 : h64 151 27 = v4 := ((my_up_role fh64 is_151 is_170 rfl).trans ((my_fr.at frh13 is_151 rfl).trans ev4.symm))
    refine w_inv (k := 0) (as := [(0, 9)]) (r := []) (x := 151) (ls0 := [(2, 151), (0, 9)]) gz_190_26 gm_175 rfl is_151 rd_10 rfl rfl rfl rfl rfl (c_Model_takeWord9_f0 (d := d) (x1 := 9) (by omega) (by omega) (((my_up_role fh64 is_151 is_170 rfl).trans w19).trans (by omega)) Tok_h64 Wd9_h64 (fun h67 frh67 w68 w69 xp70 xp71 xp72 Tok_h67t73 Wd9_h67t74 => ?_) (fun h75 frh75 w76 w77 w78 xp79 xp80 xp81 Tok_h75t82 Wd9_h75t83 => ?_))
    ·
      have gh67 : my_fr [(10, 7), (10, 8), (67, -1), (68, -1), (69, -1)] h h67 := my_fr.tr gh64 (frh67.mo rfl)
      have Mq_h67 : Mq h67 wv := Mq_ag (my_ag.fr frh67 rfl) Mq_h64
      have Wd9_h67 : Wd9 h67 := Wd9_ag (my_ag.fr frh67 rfl) Wd9_h64
      have P6_h67 : h67 167 6 = h 167 6 := P6_ag (my_ag.fr frh67 rfl) P6_h64
      have Ko_h67 : Ko h h67 := Ko_ag (my_ag.fr frh67 rfl) Ko_h64
      show wp l rho (d + 3) 190 29 [(2, 151), (0, x1)] [] h67 Q
      have ps84 : h64 151 7 = (sN (sm h) ((h 151 7))) := ((my_up_role fh64 is_151 is_170 rfl).trans xp25)
      rw [ps84] at xp70
      rw [show wm 9 = 99 from by decide] at xp71
      have tE85 : sm h64 = sm h := sm_eq (fun j => my_fr.at gh64 is_153 rfl) (fun j => my_fr.at gh64 is_154 rfl) (fun j => my_fr.at gh64 is_155 rfl)
      rw [tE85] at xp71
      rw [ps84] at xp71
      rw [tE85] at xp72
      rw [ps84] at xp72
      refine w_aload_n gz_190_29 rfl ?_
      refine v_getI (j := 8) gz_190_30 rfl is_151 rd_10 rfl (fun v86 ev86 pv86 qv86 => ?_)
      have zv86 := ev86.trans (rfl : h67 151 8 = h67 151 8)
      refine w_ifne (t := 74) gz_190_33 rfl (fun u87 => ?_) (fun u87 => by exfalso; omega)
      refine w_aload_n gz_190_74 rfl ?_
      refine w_getX (v := 169) gz_190_75 is_151 rd_10 rfl (by decide) rfl ?_
      refine w_iload_n gz_190_78 rfl ?_
      refine w_aload_n gz_190_79 rfl ?_
      refine w_aload_n gz_190_80 rfl ?_
      refine v_getI (j := 27) gz_190_81 rfl is_151 rd_10 rfl (fun v89 ev89 pv89 qv89 => ?_)
      have zv89 := ev89.trans ((my_fr.at frh67 is_151 rfl).trans ((my_up_role fh64 is_151 is_170 rfl).trans ((my_fr.at frh13 is_151 rfl).trans ev4.symm)))
      refine w_iconst gz_190_84 (by decide) ?_
      refine w_isub gz_190_85 ⟨by omega, by omega⟩ ?_
      have ce90 : h67 151 27 = v89 := ev89.symm
      refine w_inv (k := 0) (as := [(0, (v89 - 1))]) (r := [(0, x1), (2, 169)]) (x := 151) (ls0 := [(2, 151), (0, (v89 - 1))]) gz_190_86 gm_187 rfl is_151 rd_10 rfl rfl rfl rfl rfl (c_Model_takeNumber9_f1 (d := (d + 1)) (x1 := (v89 - 1)) (by omega) (by omega) (v86) (ev86.symm) (by omega) (by omega) Tok_h67t73 (fun w91 w92 xp93 Tok_h67t94 => ?_))
      show wp l rho (d + 3) 190 89 [(2, 151), (0, x1)] [(0, 0), (0, x1), (2, 169)] h67 Q
      have hi95 : 0 ≤ 0 := by omega
      have hi96 : 0 ≤ 7 := by omega
      refine w_iast gz_190_89 is_169 rd_68 (by omega) (by omega) (by omega) (by omega) (fun h97 fh97 => ?_)
      have gh97 : my_fr [(10, 7), (10, 8), (67, -1), (68, -1), (69, -1)] h h97 := my_fr.up gh67 is_169 fh97 rfl
      have Mq_h97 : Mq h97 wv := Mq_u (a := 169) hwv (by decide) (by omega) fh97 Mq_h67
      have Wd9_h97 : Wd9 h97 := Wd9_ag (my_ag.up fh97 is_169 rfl) Wd9_h67t74
      have P6_h97 : h97 167 6 = h 167 6 := P6_ag (my_ag.up fh97 is_169 rfl) P6_h67
      have Ko_h97 : Ko h h97 := Ko_u (a := 169) hwv (by decide) (by omega) fh97 Ko_h67
      have Tok_h97 : Tok h97 := Tok_ag (my_ag.up fh97 is_169 rfl) Tok_h67t94
      have k169 := my_up_self fh97
      have psR : h97 151 7 = h67 151 7 := ((my_up_role fh97 is_151 is_169 rfl).trans (rfl : h67 151 7 = h67 151 7))
      have npsR : sm h97 = sm h := sm_eq (fun j => my_fr.at gh97 is_153 rfl) (fun j => my_fr.at gh97 is_154 rfl) (fun j => my_fr.at gh97 is_155 rfl)
      have ce98 : h97 151 7 = h67 151 7 := ((my_up_role fh97 is_151 is_169 rfl).trans (rfl : h67 151 7 = h67 151 7))
      have ce99 : h97 151 27 = v89 := ((my_up_role fh97 is_151 is_169 rfl).trans ev89.symm)
      have a168 : ∀ j : Int, h97 168 j = h2 168 j := fun j => ((my_up_role fh97 is_168 is_169 rfl).trans ((my_fr.at frh67 is_168 rfl).trans ((my_up_role fh64 is_168 is_170 rfl).trans ((my_fr.at frh13 is_168 rfl).trans (rfl : h2 168 j = h2 168 j)))))
      have a170 : ∀ j : Int, h97 170 j = h64 170 j := fun j => ((my_up_role fh97 is_170 is_169 rfl).trans ((my_fr.at frh67 is_170 rfl).trans (rfl : h64 170 j = h64 170 j)))
      have a169 : ∀ j : Int, h97 169 j = h97 169 j := fun _ => rfl
      have c100 := ((my_up_role fh97 is_151 is_169 rfl).trans ev86.symm)
      exact w_vret gz_190_90 gm_190 (k0 h97 (gh97) (by omega) (by omega) (by first | exact Ko_h97 | (rw [a168]; exact k168) | (unfold sumM; first | exact Or.inr (Or.inr ⟨by omega, by omega, Or.inr ⟨by omega, Or.inr ⟨by omega, Or.inr (Or.inr ⟨by omega, by omega, ⟨by omega, by omega⟩⟩)⟩⟩⟩) | exact Or.inr (Or.inr ⟨by omega, by omega, Or.inr ⟨by omega, Or.inr ⟨by omega, or_assoc.mp (Or.inl (by omega))⟩⟩⟩) | exact Or.inr (Or.inr ⟨by omega, by omega, Or.inr ⟨by omega, Or.inl ⟨by omega, by omega, by omega⟩⟩⟩) | exact Or.inr (Or.inr ⟨by omega, by omega, Or.inl ⟨by omega, by omega⟩⟩) | exact or_assoc.mp (Or.inl (by omega))) | omega | (refine ⟨fun q => ?_, fun q => ?_⟩ <;> first | (rw [a168, k168] at q; omega) | (rw [a170, k170]; omega)) | (refine ⟨fun q => ?_, fun q => ?_, fun q => ?_⟩ <;> first | (exfalso; rw [a168, k168] at q; omega) | (rw [a169, k169]; omega) | (rw [a170, k170]; omega)) | omega) (by first | exact Ko_h97 | (rw [a168]; exact k168) | (unfold sumM; first | exact Or.inr (Or.inr ⟨by omega, by omega, Or.inr ⟨by omega, Or.inr ⟨by omega, Or.inr (Or.inr ⟨by omega, by omega, ⟨by omega, by omega⟩⟩)⟩⟩⟩) | exact Or.inr (Or.inr ⟨by omega, by omega, Or.inr ⟨by omega, Or.inr ⟨by omega, or_assoc.mp (Or.inl (by omega))⟩⟩⟩) | exact Or.inr (Or.inr ⟨by omega, by omega, Or.inr ⟨by omega, Or.inl ⟨by omega, by omega, by omega⟩⟩⟩) | exact Or.inr (Or.inr ⟨by omega, by omega, Or.inl ⟨by omega, by omega⟩⟩) | exact or_assoc.mp (Or.inl (by omega))) | omega | (refine ⟨fun q => ?_, fun q => ?_⟩ <;> first | (rw [a168, k168] at q; omega) | (rw [a170, k170]; omega)) | (refine ⟨fun q => ?_, fun q => ?_, fun q => ?_⟩ <;> first | (exfalso; rw [a168, k168] at q; omega) | (rw [a169, k169]; omega) | (rw [a170, k170]; omega)) | omega) (by first | exact Ko_h97 | (rw [a168]; exact k168) | (unfold sumM; first | exact Or.inr (Or.inr ⟨by omega, by omega, Or.inr ⟨by omega, Or.inr ⟨by omega, Or.inr (Or.inr ⟨by omega, by omega, ⟨by omega, by omega⟩⟩)⟩⟩⟩) | exact Or.inr (Or.inr ⟨by omega, by omega, Or.inr ⟨by omega, Or.inr ⟨by omega, or_assoc.mp (Or.inl (by omega))⟩⟩⟩) | exact Or.inr (Or.inr ⟨by omega, by omega, Or.inr ⟨by omega, Or.inl ⟨by omega, by omega, by omega⟩⟩⟩) | exact Or.inr (Or.inr ⟨by omega, by omega, Or.inl ⟨by omega, by omega⟩⟩) | exact or_assoc.mp (Or.inl (by omega))) | omega | (refine ⟨fun q => ?_, fun q => ?_⟩ <;> first | (rw [a168, k168] at q; omega) | (rw [a170, k170]; omega)) | (refine ⟨fun q => ?_, fun q => ?_, fun q => ?_⟩ <;> first | (exfalso; rw [a168, k168] at q; omega) | (rw [a169, k169]; omega) | (rw [a170, k170]; omega)) | omega) Tok_h97 Mq_h97 Wd9_h97)
    ·
      have gh75 : my_fr [(10, 7), (10, 8), (67, -1), (68, -1), (69, -1)] h h75 := my_fr.tr gh64 (frh75.mo rfl)
      have Mq_h75 : Mq h75 wv := Mq_ag (my_ag.fr frh75 rfl) Mq_h64
      have Wd9_h75 : Wd9 h75 := Wd9_ag (my_ag.fr frh75 rfl) Wd9_h64
      have P6_h75 : h75 167 6 = h 167 6 := P6_ag (my_ag.fr frh75 rfl) P6_h64
      have Ko_h75 : Ko h h75 := Ko_ag (my_ag.fr frh75 rfl) Ko_h64
      show wp l rho (d + 3) 190 29 [(2, 151), (0, x1)] [] h75 Q
      have ps101 : h64 151 7 = (sN (sm h) ((h 151 7))) := ((my_up_role fh64 is_151 is_170 rfl).trans xp25)
      rw [ps101] at xp79
      have tE102 : sm h64 = sm h := sm_eq (fun j => my_fr.at gh64 is_153 rfl) (fun j => my_fr.at gh64 is_154 rfl) (fun j => my_fr.at gh64 is_155 rfl)
      rw [tE102] at xp80
      rw [ps101] at xp80
      rw [show wm 9 = 99 from by decide] at xp81
      rw [tE102] at xp81
      rw [ps101] at xp81
      refine w_aload_n gz_190_29 rfl ?_
      refine v_getI (j := 8) gz_190_30 rfl is_151 rd_10 rfl (fun v103 ev103 pv103 qv103 => ?_)
      have zv103 := ev103.trans w78
      refine w_ifne (t := 74) gz_190_33 rfl (fun u104 => by exfalso; omega) (fun u104 => ?_)
      refine w_aload_n gz_190_36 rfl ?_
      refine w_getX (v := 153) gz_190_37 is_151 rd_10 rfl (by decide) rfl ?_
      refine w_aload_n gz_190_40 rfl ?_
      refine v_getI (j := 7) gz_190_41 rfl is_151 rd_10 rfl (fun v106 ev106 pv106 qv106 => ?_)
      have zv106 := ev106.trans (rfl : h75 151 7 = h75 151 7)
      refine w_iald gz_190_44 is_153 rd_52 (by omega) (by omega) (fun v107 ev107 pv107 qv107 => ?_)
      have nz108a : h75 151 7 = (sN (sm h) (((sN (sm h) ((h 151 7)))))) := xp80
      have nz108 : (v107 ≠ 3 → sK (sm h) (sN (sm h) (((sN (sm h) ((h 151 7)))))) = v107) ∧ (v107 = 3 → sV (sm h) (sN (sm h) (((sN (sm h) ((h 151 7)))))) = 59 → sK (sm h) (sN (sm h) (((sN (sm h) ((h 151 7)))))) = 3) ∧ (v107 = 3 → sV (sm h) (sN (sm h) (((sN (sm h) ((h 151 7)))))) ≠ 59 → sK (sm h) (sN (sm h) (((sN (sm h) ((h 151 7)))))) = 4) := by
        have q := ev107.trans (my_fr.at (j := v106) gh75 is_153 rfl)
        rw [show (v106 : Int) = (sN (sm h) (((sN (sm h) ((h 151 7)))))) from by omega] at q
        exact sK_ld q
      refine w_iconst gz_190_45 (by decide) ?_
      refine w_icne (t := 74) gz_190_46 rfl (fun u109 => ?_) (fun u109 => ?_)
      ·
        refine w_aload_n gz_190_74 rfl ?_
        refine w_getX (v := 169) gz_190_75 is_151 rd_10 rfl (by decide) rfl ?_
        refine w_iload_n gz_190_78 rfl ?_
        refine w_aload_n gz_190_79 rfl ?_
        refine w_aload_n gz_190_80 rfl ?_
        refine v_getI (j := 27) gz_190_81 rfl is_151 rd_10 rfl (fun v111 ev111 pv111 qv111 => ?_)
        have zv111 := ev111.trans ((my_fr.at frh75 is_151 rfl).trans ((my_up_role fh64 is_151 is_170 rfl).trans ((my_fr.at frh13 is_151 rfl).trans ev4.symm)))
        refine w_iconst gz_190_84 (by decide) ?_
        refine w_isub gz_190_85 ⟨by omega, by omega⟩ ?_
        have ce112 : h75 151 7 = v106 := ev106.symm
        have ce113 : h75 151 27 = v111 := ev111.symm
        refine w_inv (k := 0) (as := [(0, (v111 - 1))]) (r := [(0, x1), (2, 169)]) (x := 151) (ls0 := [(2, 151), (0, (v111 - 1))]) gz_190_86 gm_187 rfl is_151 rd_10 rfl rfl rfl rfl rfl (c_Model_takeNumber9_f0 (d := (d + 1)) (x1 := (v111 - 1)) (by omega) (by omega) (ev103.symm.trans (by omega)) Tok_h75t82 (fun h114 frh114 w115 w116 xp117 xp118 Tok_h114t119 => ?_) (fun h120 v121 frh120 w122 w123 w124 w125 w126 xp127 xp128 xp129 xp130 xp131 xp132 xp133 xp134 Tok_h120t135 => ?_))
        ·
          have gh114 : my_fr [(10, 7), (10, 8), (67, -1), (68, -1), (69, -1)] h h114 := my_fr.tr gh75 (frh114.mo rfl)
          have Mq_h114 : Mq h114 wv := Mq_ag (my_ag.fr frh114 rfl) Mq_h75
          have Wd9_h114 : Wd9 h114 := Wd9_ag (my_ag.fr frh114 rfl) Wd9_h75t83
          have P6_h114 : h114 167 6 = h 167 6 := P6_ag (my_ag.fr frh114 rfl) P6_h75
          have Ko_h114 : Ko h h114 := Ko_ag (my_ag.fr frh114 rfl) Ko_h75
          show wp l rho (d + 3) 190 89 [(2, 151), (0, x1)] [(0, 0), (0, x1), (2, 169)] h114 Q
          have ps136 : h75 151 7 = (sN (sm h) (((sN (sm h) ((h 151 7)))))) := xp80
          rw [ps136] at xp117
          have tE137 : sm h75 = sm h := sm_eq (fun j => my_fr.at gh75 is_153 rfl) (fun j => my_fr.at gh75 is_154 rfl) (fun j => my_fr.at gh75 is_155 rfl)
          rw [tE137] at xp118
          rw [ps136] at xp118
          have hi138 : 0 ≤ 0 := by omega
          have hi139 : 0 ≤ 7 := by omega
          refine w_iast gz_190_89 is_169 rd_68 (by omega) (by omega) (by omega) (by omega) (fun h140 fh140 => ?_)
          have gh140 : my_fr [(10, 7), (10, 8), (67, -1), (68, -1), (69, -1)] h h140 := my_fr.up gh114 is_169 fh140 rfl
          have Mq_h140 : Mq h140 wv := Mq_u (a := 169) hwv (by decide) (by omega) fh140 Mq_h114
          have Wd9_h140 : Wd9 h140 := Wd9_ag (my_ag.up fh140 is_169 rfl) Wd9_h114
          have P6_h140 : h140 167 6 = h 167 6 := P6_ag (my_ag.up fh140 is_169 rfl) P6_h114
          have Ko_h140 : Ko h h140 := Ko_u (a := 169) hwv (by decide) (by omega) fh140 Ko_h114
          have Tok_h140 : Tok h140 := Tok_ag (my_ag.up fh140 is_169 rfl) Tok_h114t119
          have k169 := my_up_self fh140
          have psR : h140 151 7 = (((sN (sm h) (((sN (sm h) ((h 151 7)))))))) := ((my_up_role fh140 is_151 is_169 rfl).trans xp117)
          have npsR : sm h140 = sm h := sm_eq (fun j => my_fr.at gh140 is_153 rfl) (fun j => my_fr.at gh140 is_154 rfl) (fun j => my_fr.at gh140 is_155 rfl)
          have ce141 : h140 151 7 = h114 151 7 := ((my_up_role fh140 is_151 is_169 rfl).trans (rfl : h114 151 7 = h114 151 7))
          have ce142 : h140 151 27 = v111 := ((my_up_role fh140 is_151 is_169 rfl).trans ((my_fr.at frh114 is_151 rfl).trans ev111.symm))
          have a168 : ∀ j : Int, h140 168 j = h2 168 j := fun j => ((my_up_role fh140 is_168 is_169 rfl).trans ((my_fr.at frh114 is_168 rfl).trans ((my_fr.at frh75 is_168 rfl).trans ((my_up_role fh64 is_168 is_170 rfl).trans ((my_fr.at frh13 is_168 rfl).trans (rfl : h2 168 j = h2 168 j))))))
          have a170 : ∀ j : Int, h140 170 j = h64 170 j := fun j => ((my_up_role fh140 is_170 is_169 rfl).trans ((my_fr.at frh114 is_170 rfl).trans ((my_fr.at frh75 is_170 rfl).trans (rfl : h64 170 j = h64 170 j))))
          have a169 : ∀ j : Int, h140 169 j = h140 169 j := fun _ => rfl
          have c143 := ((my_up_role fh140 is_151 is_169 rfl).trans (rfl : h114 151 8 = h114 151 8))
          exact w_vret gz_190_90 gm_190 (k0 h140 (gh140) (by omega) (by omega) (by first | exact Ko_h140 | (rw [a168]; exact k168) | (unfold sumM; first | exact Or.inr (Or.inr ⟨by omega, by omega, Or.inr ⟨by omega, Or.inr ⟨by omega, Or.inr (Or.inr ⟨by omega, by omega, ⟨by omega, by omega⟩⟩)⟩⟩⟩) | exact Or.inr (Or.inr ⟨by omega, by omega, Or.inr ⟨by omega, Or.inr ⟨by omega, or_assoc.mp (Or.inl (by omega))⟩⟩⟩) | exact Or.inr (Or.inr ⟨by omega, by omega, Or.inr ⟨by omega, Or.inl ⟨by omega, by omega, by omega⟩⟩⟩) | exact Or.inr (Or.inr ⟨by omega, by omega, Or.inl ⟨by omega, by omega⟩⟩) | exact or_assoc.mp (Or.inl (by omega))) | omega | (refine ⟨fun q => ?_, fun q => ?_⟩ <;> first | (rw [a168, k168] at q; omega) | (rw [a170, k170]; omega)) | (refine ⟨fun q => ?_, fun q => ?_, fun q => ?_⟩ <;> first | (exfalso; rw [a168, k168] at q; omega) | (rw [a169, k169]; omega) | (rw [a170, k170]; omega)) | omega) (by first | exact Ko_h140 | (rw [a168]; exact k168) | (unfold sumM; first | exact Or.inr (Or.inr ⟨by omega, by omega, Or.inr ⟨by omega, Or.inr ⟨by omega, Or.inr (Or.inr ⟨by omega, by omega, ⟨by omega, by omega⟩⟩)⟩⟩⟩) | exact Or.inr (Or.inr ⟨by omega, by omega, Or.inr ⟨by omega, Or.inr ⟨by omega, or_assoc.mp (Or.inl (by omega))⟩⟩⟩) | exact Or.inr (Or.inr ⟨by omega, by omega, Or.inr ⟨by omega, Or.inl ⟨by omega, by omega, by omega⟩⟩⟩) | exact Or.inr (Or.inr ⟨by omega, by omega, Or.inl ⟨by omega, by omega⟩⟩) | exact or_assoc.mp (Or.inl (by omega))) | omega | (refine ⟨fun q => ?_, fun q => ?_⟩ <;> first | (rw [a168, k168] at q; omega) | (rw [a170, k170]; omega)) | (refine ⟨fun q => ?_, fun q => ?_, fun q => ?_⟩ <;> first | (exfalso; rw [a168, k168] at q; omega) | (rw [a169, k169]; omega) | (rw [a170, k170]; omega)) | omega) (by first | exact Ko_h140 | (rw [a168]; exact k168) | (unfold sumM; first | exact Or.inr (Or.inr ⟨by omega, by omega, Or.inr ⟨by omega, Or.inr ⟨by omega, Or.inr (Or.inr ⟨by omega, by omega, ⟨by omega, by omega⟩⟩)⟩⟩⟩) | exact Or.inr (Or.inr ⟨by omega, by omega, Or.inr ⟨by omega, Or.inr ⟨by omega, or_assoc.mp (Or.inl (by omega))⟩⟩⟩) | exact Or.inr (Or.inr ⟨by omega, by omega, Or.inr ⟨by omega, Or.inl ⟨by omega, by omega, by omega⟩⟩⟩) | exact Or.inr (Or.inr ⟨by omega, by omega, Or.inl ⟨by omega, by omega⟩⟩) | exact or_assoc.mp (Or.inl (by omega))) | omega | (refine ⟨fun q => ?_, fun q => ?_⟩ <;> first | (rw [a168, k168] at q; omega) | (rw [a170, k170]; omega)) | (refine ⟨fun q => ?_, fun q => ?_, fun q => ?_⟩ <;> first | (exfalso; rw [a168, k168] at q; omega) | (rw [a169, k169]; omega) | (rw [a170, k170]; omega)) | omega) Tok_h140 Mq_h140 Wd9_h140)
        ·
          have gh120 : my_fr [(10, 7), (10, 8), (67, -1), (68, -1), (69, -1)] h h120 := my_fr.tr gh75 (frh120.mo rfl)
          have Mq_h120 : Mq h120 wv := Mq_ag (my_ag.fr frh120 rfl) Mq_h75
          have Wd9_h120 : Wd9 h120 := Wd9_ag (my_ag.fr frh120 rfl) Wd9_h75t83
          have P6_h120 : h120 167 6 = h 167 6 := P6_ag (my_ag.fr frh120 rfl) P6_h75
          have Ko_h120 : Ko h h120 := Ko_ag (my_ag.fr frh120 rfl) Ko_h75
          show wp l rho (d + 3) 190 89 [(2, 151), (0, x1)] [(0, v121), (0, x1), (2, 169)] h120 Q
          have ps144 : h75 151 7 = (sN (sm h) (((sN (sm h) ((h 151 7)))))) := xp80
          rw [ps144] at xp129
          rw [ps144] at xp130
          rw [ps144] at xp131
          have tE145 : sm h75 = sm h := sm_eq (fun j => my_fr.at gh75 is_153 rfl) (fun j => my_fr.at gh75 is_154 rfl) (fun j => my_fr.at gh75 is_155 rfl)
          rw [tE145] at xp132
          rw [ps144] at xp132
          rw [tE145] at xp133
          rw [ps144] at xp133
          rw [tE145] at xp134
          rw [ps144] at xp134
          have hi146 : 0 ≤ v121 := by omega
          have hi147 : v121 ≤ 7 := by omega
          refine w_iast gz_190_89 is_169 rd_68 (by omega) (by omega) (by omega) (by omega) (fun h148 fh148 => ?_)
          have gh148 : my_fr [(10, 7), (10, 8), (67, -1), (68, -1), (69, -1)] h h148 := my_fr.up gh120 is_169 fh148 rfl
          have Mq_h148 : Mq h148 wv := Mq_u (a := 169) hwv (by decide) (by omega) fh148 Mq_h120
          have Wd9_h148 : Wd9 h148 := Wd9_ag (my_ag.up fh148 is_169 rfl) Wd9_h120
          have P6_h148 : h148 167 6 = h 167 6 := P6_ag (my_ag.up fh148 is_169 rfl) P6_h120
          have Ko_h148 : Ko h h148 := Ko_u (a := 169) hwv (by decide) (by omega) fh148 Ko_h120
          have Tok_h148 : Tok h148 := Tok_ag (my_ag.up fh148 is_169 rfl) Tok_h120t135
          have k169 := my_up_self fh148
          have psR : h148 151 7 = (sN (sm h) (((sN (sm h) (((sN (sm h) ((h 151 7))))))))) := ((my_up_role fh148 is_151 is_169 rfl).trans xp132)
          have npsR : sm h148 = sm h := sm_eq (fun j => my_fr.at gh148 is_153 rfl) (fun j => my_fr.at gh148 is_154 rfl) (fun j => my_fr.at gh148 is_155 rfl)
          have ce149 : h148 151 7 = (h120 151 7) := ((my_up_role fh148 is_151 is_169 rfl).trans (rfl : h120 151 7 = h120 151 7))
          have ce150 : h148 151 27 = v111 := ((my_up_role fh148 is_151 is_169 rfl).trans ((my_fr.at frh120 is_151 rfl).trans ev111.symm))
          have a168 : ∀ j : Int, h148 168 j = h2 168 j := fun j => ((my_up_role fh148 is_168 is_169 rfl).trans ((my_fr.at frh120 is_168 rfl).trans ((my_fr.at frh75 is_168 rfl).trans ((my_up_role fh64 is_168 is_170 rfl).trans ((my_fr.at frh13 is_168 rfl).trans (rfl : h2 168 j = h2 168 j))))))
          have a170 : ∀ j : Int, h148 170 j = h64 170 j := fun j => ((my_up_role fh148 is_170 is_169 rfl).trans ((my_fr.at frh120 is_170 rfl).trans ((my_fr.at frh75 is_170 rfl).trans (rfl : h64 170 j = h64 170 j))))
          have a169 : ∀ j : Int, h148 169 j = h148 169 j := fun _ => rfl
          have c151 := ((my_up_role fh148 is_151 is_169 rfl).trans (rfl : h120 151 7 = h120 151 7))
          have c152 := ((my_up_role fh148 is_151 is_169 rfl).trans w126)
          exact w_vret gz_190_90 gm_190 (k1 h148 (gh148) (by omega) (by omega) (by omega) (by first | exact Ko_h148 | (rw [a168]; exact k168) | (unfold sumM; first | exact Or.inr (Or.inr ⟨by omega, by omega, Or.inr ⟨by omega, Or.inr ⟨by omega, Or.inr (Or.inr ⟨by omega, by omega, ⟨by omega, by omega⟩⟩)⟩⟩⟩) | exact Or.inr (Or.inr ⟨by omega, by omega, Or.inr ⟨by omega, Or.inr ⟨by omega, or_assoc.mp (Or.inl (by omega))⟩⟩⟩) | exact Or.inr (Or.inr ⟨by omega, by omega, Or.inr ⟨by omega, Or.inl ⟨by omega, by omega, by omega⟩⟩⟩) | exact Or.inr (Or.inr ⟨by omega, by omega, Or.inl ⟨by omega, by omega⟩⟩) | exact or_assoc.mp (Or.inl (by omega))) | omega | (refine ⟨fun q => ?_, fun q => ?_⟩ <;> first | (rw [a168, k168] at q; omega) | (rw [a170, k170]; omega)) | (refine ⟨fun q => ?_, fun q => ?_, fun q => ?_⟩ <;> first | (exfalso; rw [a168, k168] at q; omega) | (rw [a169, k169]; omega) | (rw [a170, k170]; omega)) | omega) (by first | exact Ko_h148 | (rw [a168]; exact k168) | (unfold sumM; first | exact Or.inr (Or.inr ⟨by omega, by omega, Or.inr ⟨by omega, Or.inr ⟨by omega, Or.inr (Or.inr ⟨by omega, by omega, ⟨by omega, by omega⟩⟩)⟩⟩⟩) | exact Or.inr (Or.inr ⟨by omega, by omega, Or.inr ⟨by omega, Or.inr ⟨by omega, or_assoc.mp (Or.inl (by omega))⟩⟩⟩) | exact Or.inr (Or.inr ⟨by omega, by omega, Or.inr ⟨by omega, Or.inl ⟨by omega, by omega, by omega⟩⟩⟩) | exact Or.inr (Or.inr ⟨by omega, by omega, Or.inl ⟨by omega, by omega⟩⟩) | exact or_assoc.mp (Or.inl (by omega))) | omega | (refine ⟨fun q => ?_, fun q => ?_⟩ <;> first | (rw [a168, k168] at q; omega) | (rw [a170, k170]; omega)) | (refine ⟨fun q => ?_, fun q => ?_, fun q => ?_⟩ <;> first | (exfalso; rw [a168, k168] at q; omega) | (rw [a169, k169]; omega) | (rw [a170, k170]; omega)) | omega) (by first | exact Ko_h148 | (rw [a168]; exact k168) | (unfold sumM; first | exact Or.inr (Or.inr ⟨by omega, by omega, Or.inr ⟨by omega, Or.inr ⟨by omega, Or.inr (Or.inr ⟨by omega, by omega, ⟨by omega, by omega⟩⟩)⟩⟩⟩) | exact Or.inr (Or.inr ⟨by omega, by omega, Or.inr ⟨by omega, Or.inr ⟨by omega, or_assoc.mp (Or.inl (by omega))⟩⟩⟩) | exact Or.inr (Or.inr ⟨by omega, by omega, Or.inr ⟨by omega, Or.inl ⟨by omega, by omega, by omega⟩⟩⟩) | exact Or.inr (Or.inr ⟨by omega, by omega, Or.inl ⟨by omega, by omega⟩⟩) | exact or_assoc.mp (Or.inl (by omega))) | omega | (refine ⟨fun q => ?_, fun q => ?_⟩ <;> first | (rw [a168, k168] at q; omega) | (rw [a170, k170]; omega)) | (refine ⟨fun q => ?_, fun q => ?_, fun q => ?_⟩ <;> first | (exfalso; rw [a168, k168] at q; omega) | (rw [a169, k169]; omega) | (rw [a170, k170]; omega)) | omega) (by first | exact Ko_h148 | (rw [a168]; exact k168) | (unfold sumM; first | exact Or.inr (Or.inr ⟨by omega, by omega, Or.inr ⟨by omega, Or.inr ⟨by omega, Or.inr (Or.inr ⟨by omega, by omega, ⟨by omega, by omega⟩⟩)⟩⟩⟩) | exact Or.inr (Or.inr ⟨by omega, by omega, Or.inr ⟨by omega, Or.inr ⟨by omega, or_assoc.mp (Or.inl (by omega))⟩⟩⟩) | exact Or.inr (Or.inr ⟨by omega, by omega, Or.inr ⟨by omega, Or.inl ⟨by omega, by omega, by omega⟩⟩⟩) | exact Or.inr (Or.inr ⟨by omega, by omega, Or.inl ⟨by omega, by omega⟩⟩) | exact or_assoc.mp (Or.inl (by omega))) | omega | (refine ⟨fun q => ?_, fun q => ?_⟩ <;> first | (rw [a168, k168] at q; omega) | (rw [a170, k170]; omega)) | (refine ⟨fun q => ?_, fun q => ?_, fun q => ?_⟩ <;> first | (exfalso; rw [a168, k168] at q; omega) | (rw [a169, k169]; omega) | (rw [a170, k170]; omega)) | omega) (by first | exact Ko_h148 | (rw [a168]; exact k168) | (unfold sumM; first | exact Or.inr (Or.inr ⟨by omega, by omega, Or.inr ⟨by omega, Or.inr ⟨by omega, Or.inr (Or.inr ⟨by omega, by omega, ⟨by omega, by omega⟩⟩)⟩⟩⟩) | exact Or.inr (Or.inr ⟨by omega, by omega, Or.inr ⟨by omega, Or.inr ⟨by omega, or_assoc.mp (Or.inl (by omega))⟩⟩⟩) | exact Or.inr (Or.inr ⟨by omega, by omega, Or.inr ⟨by omega, Or.inl ⟨by omega, by omega, by omega⟩⟩⟩) | exact Or.inr (Or.inr ⟨by omega, by omega, Or.inl ⟨by omega, by omega⟩⟩) | exact or_assoc.mp (Or.inl (by omega))) | omega | (refine ⟨fun q => ?_, fun q => ?_⟩ <;> first | (rw [a168, k168] at q; omega) | (rw [a170, k170]; omega)) | (refine ⟨fun q => ?_, fun q => ?_, fun q => ?_⟩ <;> first | (exfalso; rw [a168, k168] at q; omega) | (rw [a169, k169]; omega) | (rw [a170, k170]; omega)) | omega) (by first | exact Ko_h148 | (rw [a168]; exact k168) | (unfold sumM; first | exact Or.inr (Or.inr ⟨by omega, by omega, Or.inr ⟨by omega, Or.inr ⟨by omega, Or.inr (Or.inr ⟨by omega, by omega, ⟨by omega, by omega⟩⟩)⟩⟩⟩) | exact Or.inr (Or.inr ⟨by omega, by omega, Or.inr ⟨by omega, Or.inr ⟨by omega, or_assoc.mp (Or.inl (by omega))⟩⟩⟩) | exact Or.inr (Or.inr ⟨by omega, by omega, Or.inr ⟨by omega, Or.inl ⟨by omega, by omega, by omega⟩⟩⟩) | exact Or.inr (Or.inr ⟨by omega, by omega, Or.inl ⟨by omega, by omega⟩⟩) | exact or_assoc.mp (Or.inl (by omega))) | omega | (refine ⟨fun q => ?_, fun q => ?_⟩ <;> first | (rw [a168, k168] at q; omega) | (rw [a170, k170]; omega)) | (refine ⟨fun q => ?_, fun q => ?_, fun q => ?_⟩ <;> first | (exfalso; rw [a168, k168] at q; omega) | (rw [a169, k169]; omega) | (rw [a170, k170]; omega)) | omega) Tok_h148 Mq_h148 Wd9_h148)
      ·
        refine w_aload_n gz_190_49 rfl ?_
        refine w_getX (v := 155) gz_190_50 is_151 rd_10 rfl (by decide) rfl ?_
        refine w_aload_n gz_190_53 rfl ?_
        refine v_getI (j := 7) gz_190_54 rfl is_151 rd_10 rfl (fun v154 ev154 pv154 qv154 => ?_)
        have zv154 := ev154.trans ev106.symm
        refine w_lald gz_190_57 is_155 rd_54 (by omega) (by omega) (fun v155 ev155 pv155 => ?_)
        have nz156a : h75 151 7 = (sN (sm h) (((sN (sm h) ((h 151 7)))))) := xp80
        have nz156 : v155 = sV (sm h) (sN (sm h) (((sN (sm h) ((h 151 7)))))) := by
          have q := ev155.trans (my_fr.at (j := v154) gh75 is_155 rfl)
          rw [show (v154 : Int) = (sN (sm h) (((sN (sm h) ((h 151 7)))))) from by omega] at q
          exact q
        refine w_aload_n gz_190_58 rfl ?_
        refine w_getX (v := 170) gz_190_59 is_151 rd_10 rfl (by decide) rfl ?_
        refine w_iload_n gz_190_62 rfl ?_
        refine w_iald gz_190_63 is_170 rd_69 (by omega) (by omega) (fun v158 ev158 pv158 qv158 => ?_)
        have zv158 := ev158.trans ((my_fr.at frh75 is_170 rfl).trans (my_up_self fh64))
        refine w_i2l gz_190_64 ?_
        refine w_lcmpE gz_190_65 (fun v159 pv159 qv159 xv159 => ?_)
        refine w_ifne (t := 74) gz_190_66 rfl (fun u160 => ?_) (fun u160 => ?_)
        ·
          refine w_aload_n gz_190_74 rfl ?_
          refine w_getX (v := 169) gz_190_75 is_151 rd_10 rfl (by decide) rfl ?_
          refine w_iload_n gz_190_78 rfl ?_
          refine w_aload_n gz_190_79 rfl ?_
          refine w_aload_n gz_190_80 rfl ?_
          refine v_getI (j := 27) gz_190_81 rfl is_151 rd_10 rfl (fun v162 ev162 pv162 qv162 => ?_)
          have zv162 := ev162.trans ((my_fr.at frh75 is_151 rfl).trans ((my_up_role fh64 is_151 is_170 rfl).trans ((my_fr.at frh13 is_151 rfl).trans ev4.symm)))
          refine w_iconst gz_190_84 (by decide) ?_
          refine w_isub gz_190_85 ⟨by omega, by omega⟩ ?_
          have ce163 : h75 151 7 = v154 := ev154.symm
          have ce164 : h75 151 27 = v162 := ev162.symm
          refine w_inv (k := 0) (as := [(0, (v162 - 1))]) (r := [(0, x1), (2, 169)]) (x := 151) (ls0 := [(2, 151), (0, (v162 - 1))]) gz_190_86 gm_187 rfl is_151 rd_10 rfl rfl rfl rfl rfl (c_Model_takeNumber9_f0 (d := (d + 1)) (x1 := (v162 - 1)) (by omega) (by omega) (ev103.symm.trans (by omega)) Tok_h75t82 (fun h165 frh165 w166 w167 xp168 xp169 Tok_h165t170 => ?_) (fun h171 v172 frh171 w173 w174 w175 w176 w177 xp178 xp179 xp180 xp181 xp182 xp183 xp184 xp185 Tok_h171t186 => ?_))
          ·
            have gh165 : my_fr [(10, 7), (10, 8), (67, -1), (68, -1), (69, -1)] h h165 := my_fr.tr gh75 (frh165.mo rfl)
            have Mq_h165 : Mq h165 wv := Mq_ag (my_ag.fr frh165 rfl) Mq_h75
            have Wd9_h165 : Wd9 h165 := Wd9_ag (my_ag.fr frh165 rfl) Wd9_h75t83
            have P6_h165 : h165 167 6 = h 167 6 := P6_ag (my_ag.fr frh165 rfl) P6_h75
            have Ko_h165 : Ko h h165 := Ko_ag (my_ag.fr frh165 rfl) Ko_h75
            show wp l rho (d + 3) 190 89 [(2, 151), (0, x1)] [(0, 0), (0, x1), (2, 169)] h165 Q
            have ps187 : h75 151 7 = (sN (sm h) (((sN (sm h) ((h 151 7)))))) := xp80
            rw [ps187] at xp168
            have tE188 : sm h75 = sm h := sm_eq (fun j => my_fr.at gh75 is_153 rfl) (fun j => my_fr.at gh75 is_154 rfl) (fun j => my_fr.at gh75 is_155 rfl)
            rw [tE188] at xp169
            rw [ps187] at xp169
            have hi189 : 0 ≤ 0 := by omega
            have hi190 : 0 ≤ 7 := by omega
            refine w_iast gz_190_89 is_169 rd_68 (by omega) (by omega) (by omega) (by omega) (fun h191 fh191 => ?_)
            have gh191 : my_fr [(10, 7), (10, 8), (67, -1), (68, -1), (69, -1)] h h191 := my_fr.up gh165 is_169 fh191 rfl
            have Mq_h191 : Mq h191 wv := Mq_u (a := 169) hwv (by decide) (by omega) fh191 Mq_h165
            have Wd9_h191 : Wd9 h191 := Wd9_ag (my_ag.up fh191 is_169 rfl) Wd9_h165
            have P6_h191 : h191 167 6 = h 167 6 := P6_ag (my_ag.up fh191 is_169 rfl) P6_h165
            have Ko_h191 : Ko h h191 := Ko_u (a := 169) hwv (by decide) (by omega) fh191 Ko_h165
            have Tok_h191 : Tok h191 := Tok_ag (my_ag.up fh191 is_169 rfl) Tok_h165t170
            have k169 := my_up_self fh191
            have psR : h191 151 7 = (((sN (sm h) (((sN (sm h) ((h 151 7)))))))) := ((my_up_role fh191 is_151 is_169 rfl).trans xp168)
            have npsR : sm h191 = sm h := sm_eq (fun j => my_fr.at gh191 is_153 rfl) (fun j => my_fr.at gh191 is_154 rfl) (fun j => my_fr.at gh191 is_155 rfl)
            have ce192 : h191 151 7 = h165 151 7 := ((my_up_role fh191 is_151 is_169 rfl).trans (rfl : h165 151 7 = h165 151 7))
            have ce193 : h191 151 27 = v162 := ((my_up_role fh191 is_151 is_169 rfl).trans ((my_fr.at frh165 is_151 rfl).trans ev162.symm))
            have a168 : ∀ j : Int, h191 168 j = h2 168 j := fun j => ((my_up_role fh191 is_168 is_169 rfl).trans ((my_fr.at frh165 is_168 rfl).trans ((my_fr.at frh75 is_168 rfl).trans ((my_up_role fh64 is_168 is_170 rfl).trans ((my_fr.at frh13 is_168 rfl).trans (rfl : h2 168 j = h2 168 j))))))
            have a170 : ∀ j : Int, h191 170 j = h64 170 j := fun j => ((my_up_role fh191 is_170 is_169 rfl).trans ((my_fr.at frh165 is_170 rfl).trans ((my_fr.at frh75 is_170 rfl).trans (rfl : h64 170 j = h64 170 j))))
            have a169 : ∀ j : Int, h191 169 j = h191 169 j := fun _ => rfl
            have c194 := ((my_up_role fh191 is_151 is_169 rfl).trans (rfl : h165 151 8 = h165 151 8))
            exact w_vret gz_190_90 gm_190 (k0 h191 (gh191) (by omega) (by omega) (by first | exact Ko_h191 | (rw [a168]; exact k168) | (unfold sumM; first | exact Or.inr (Or.inr ⟨by omega, by omega, Or.inr ⟨by omega, Or.inr ⟨by omega, Or.inr (Or.inr ⟨by omega, by omega, ⟨by omega, by omega⟩⟩)⟩⟩⟩) | exact Or.inr (Or.inr ⟨by omega, by omega, Or.inr ⟨by omega, Or.inr ⟨by omega, or_assoc.mp (Or.inl (by omega))⟩⟩⟩) | exact Or.inr (Or.inr ⟨by omega, by omega, Or.inr ⟨by omega, Or.inl ⟨by omega, by omega, by omega⟩⟩⟩) | exact Or.inr (Or.inr ⟨by omega, by omega, Or.inl ⟨by omega, by omega⟩⟩) | exact or_assoc.mp (Or.inl (by omega))) | omega | (refine ⟨fun q => ?_, fun q => ?_⟩ <;> first | (rw [a168, k168] at q; omega) | (rw [a170, k170]; omega)) | (refine ⟨fun q => ?_, fun q => ?_, fun q => ?_⟩ <;> first | (exfalso; rw [a168, k168] at q; omega) | (rw [a169, k169]; omega) | (rw [a170, k170]; omega)) | omega) (by first | exact Ko_h191 | (rw [a168]; exact k168) | (unfold sumM; first | exact Or.inr (Or.inr ⟨by omega, by omega, Or.inr ⟨by omega, Or.inr ⟨by omega, Or.inr (Or.inr ⟨by omega, by omega, ⟨by omega, by omega⟩⟩)⟩⟩⟩) | exact Or.inr (Or.inr ⟨by omega, by omega, Or.inr ⟨by omega, Or.inr ⟨by omega, or_assoc.mp (Or.inl (by omega))⟩⟩⟩) | exact Or.inr (Or.inr ⟨by omega, by omega, Or.inr ⟨by omega, Or.inl ⟨by omega, by omega, by omega⟩⟩⟩) | exact Or.inr (Or.inr ⟨by omega, by omega, Or.inl ⟨by omega, by omega⟩⟩) | exact or_assoc.mp (Or.inl (by omega))) | omega | (refine ⟨fun q => ?_, fun q => ?_⟩ <;> first | (rw [a168, k168] at q; omega) | (rw [a170, k170]; omega)) | (refine ⟨fun q => ?_, fun q => ?_, fun q => ?_⟩ <;> first | (exfalso; rw [a168, k168] at q; omega) | (rw [a169, k169]; omega) | (rw [a170, k170]; omega)) | omega) (by first | exact Ko_h191 | (rw [a168]; exact k168) | (unfold sumM; first | exact Or.inr (Or.inr ⟨by omega, by omega, Or.inr ⟨by omega, Or.inr ⟨by omega, Or.inr (Or.inr ⟨by omega, by omega, ⟨by omega, by omega⟩⟩)⟩⟩⟩) | exact Or.inr (Or.inr ⟨by omega, by omega, Or.inr ⟨by omega, Or.inr ⟨by omega, or_assoc.mp (Or.inl (by omega))⟩⟩⟩) | exact Or.inr (Or.inr ⟨by omega, by omega, Or.inr ⟨by omega, Or.inl ⟨by omega, by omega, by omega⟩⟩⟩) | exact Or.inr (Or.inr ⟨by omega, by omega, Or.inl ⟨by omega, by omega⟩⟩) | exact or_assoc.mp (Or.inl (by omega))) | omega | (refine ⟨fun q => ?_, fun q => ?_⟩ <;> first | (rw [a168, k168] at q; omega) | (rw [a170, k170]; omega)) | (refine ⟨fun q => ?_, fun q => ?_, fun q => ?_⟩ <;> first | (exfalso; rw [a168, k168] at q; omega) | (rw [a169, k169]; omega) | (rw [a170, k170]; omega)) | omega) Tok_h191 Mq_h191 Wd9_h191)
          ·
            have gh171 : my_fr [(10, 7), (10, 8), (67, -1), (68, -1), (69, -1)] h h171 := my_fr.tr gh75 (frh171.mo rfl)
            have Mq_h171 : Mq h171 wv := Mq_ag (my_ag.fr frh171 rfl) Mq_h75
            have Wd9_h171 : Wd9 h171 := Wd9_ag (my_ag.fr frh171 rfl) Wd9_h75t83
            have P6_h171 : h171 167 6 = h 167 6 := P6_ag (my_ag.fr frh171 rfl) P6_h75
            have Ko_h171 : Ko h h171 := Ko_ag (my_ag.fr frh171 rfl) Ko_h75
            show wp l rho (d + 3) 190 89 [(2, 151), (0, x1)] [(0, v172), (0, x1), (2, 169)] h171 Q
            have ps195 : h75 151 7 = (sN (sm h) (((sN (sm h) ((h 151 7)))))) := xp80
            rw [ps195] at xp180
            rw [ps195] at xp181
            rw [ps195] at xp182
            have tE196 : sm h75 = sm h := sm_eq (fun j => my_fr.at gh75 is_153 rfl) (fun j => my_fr.at gh75 is_154 rfl) (fun j => my_fr.at gh75 is_155 rfl)
            rw [tE196] at xp183
            rw [ps195] at xp183
            rw [tE196] at xp184
            rw [ps195] at xp184
            rw [tE196] at xp185
            rw [ps195] at xp185
            have hi197 : 0 ≤ v172 := by omega
            have hi198 : v172 ≤ 7 := by omega
            refine w_iast gz_190_89 is_169 rd_68 (by omega) (by omega) (by omega) (by omega) (fun h199 fh199 => ?_)
            have gh199 : my_fr [(10, 7), (10, 8), (67, -1), (68, -1), (69, -1)] h h199 := my_fr.up gh171 is_169 fh199 rfl
            have Mq_h199 : Mq h199 wv := Mq_u (a := 169) hwv (by decide) (by omega) fh199 Mq_h171
            have Wd9_h199 : Wd9 h199 := Wd9_ag (my_ag.up fh199 is_169 rfl) Wd9_h171
            have P6_h199 : h199 167 6 = h 167 6 := P6_ag (my_ag.up fh199 is_169 rfl) P6_h171
            have Ko_h199 : Ko h h199 := Ko_u (a := 169) hwv (by decide) (by omega) fh199 Ko_h171
            have Tok_h199 : Tok h199 := Tok_ag (my_ag.up fh199 is_169 rfl) Tok_h171t186
            have k169 := my_up_self fh199
            have psR : h199 151 7 = (sN (sm h) (((sN (sm h) (((sN (sm h) ((h 151 7))))))))) := ((my_up_role fh199 is_151 is_169 rfl).trans xp183)
            have npsR : sm h199 = sm h := sm_eq (fun j => my_fr.at gh199 is_153 rfl) (fun j => my_fr.at gh199 is_154 rfl) (fun j => my_fr.at gh199 is_155 rfl)
            have ce200 : h199 151 7 = (h171 151 7) := ((my_up_role fh199 is_151 is_169 rfl).trans (rfl : h171 151 7 = h171 151 7))
            have ce201 : h199 151 27 = v162 := ((my_up_role fh199 is_151 is_169 rfl).trans ((my_fr.at frh171 is_151 rfl).trans ev162.symm))
            have a168 : ∀ j : Int, h199 168 j = h2 168 j := fun j => ((my_up_role fh199 is_168 is_169 rfl).trans ((my_fr.at frh171 is_168 rfl).trans ((my_fr.at frh75 is_168 rfl).trans ((my_up_role fh64 is_168 is_170 rfl).trans ((my_fr.at frh13 is_168 rfl).trans (rfl : h2 168 j = h2 168 j))))))
            have a170 : ∀ j : Int, h199 170 j = h64 170 j := fun j => ((my_up_role fh199 is_170 is_169 rfl).trans ((my_fr.at frh171 is_170 rfl).trans ((my_fr.at frh75 is_170 rfl).trans (rfl : h64 170 j = h64 170 j))))
            have a169 : ∀ j : Int, h199 169 j = h199 169 j := fun _ => rfl
            have c202 := ((my_up_role fh199 is_151 is_169 rfl).trans (rfl : h171 151 7 = h171 151 7))
            have c203 := ((my_up_role fh199 is_151 is_169 rfl).trans w177)
            exact w_vret gz_190_90 gm_190 (k1 h199 (gh199) (by omega) (by omega) (by omega) (by first | exact Ko_h199 | (rw [a168]; exact k168) | (unfold sumM; first | exact Or.inr (Or.inr ⟨by omega, by omega, Or.inr ⟨by omega, Or.inr ⟨by omega, Or.inr (Or.inr ⟨by omega, by omega, ⟨by omega, by omega⟩⟩)⟩⟩⟩) | exact Or.inr (Or.inr ⟨by omega, by omega, Or.inr ⟨by omega, Or.inr ⟨by omega, or_assoc.mp (Or.inl (by omega))⟩⟩⟩) | exact Or.inr (Or.inr ⟨by omega, by omega, Or.inr ⟨by omega, Or.inl ⟨by omega, by omega, by omega⟩⟩⟩) | exact Or.inr (Or.inr ⟨by omega, by omega, Or.inl ⟨by omega, by omega⟩⟩) | exact or_assoc.mp (Or.inl (by omega))) | omega | (refine ⟨fun q => ?_, fun q => ?_⟩ <;> first | (rw [a168, k168] at q; omega) | (rw [a170, k170]; omega)) | (refine ⟨fun q => ?_, fun q => ?_, fun q => ?_⟩ <;> first | (exfalso; rw [a168, k168] at q; omega) | (rw [a169, k169]; omega) | (rw [a170, k170]; omega)) | omega) (by first | exact Ko_h199 | (rw [a168]; exact k168) | (unfold sumM; first | exact Or.inr (Or.inr ⟨by omega, by omega, Or.inr ⟨by omega, Or.inr ⟨by omega, Or.inr (Or.inr ⟨by omega, by omega, ⟨by omega, by omega⟩⟩)⟩⟩⟩) | exact Or.inr (Or.inr ⟨by omega, by omega, Or.inr ⟨by omega, Or.inr ⟨by omega, or_assoc.mp (Or.inl (by omega))⟩⟩⟩) | exact Or.inr (Or.inr ⟨by omega, by omega, Or.inr ⟨by omega, Or.inl ⟨by omega, by omega, by omega⟩⟩⟩) | exact Or.inr (Or.inr ⟨by omega, by omega, Or.inl ⟨by omega, by omega⟩⟩) | exact or_assoc.mp (Or.inl (by omega))) | omega | (refine ⟨fun q => ?_, fun q => ?_⟩ <;> first | (rw [a168, k168] at q; omega) | (rw [a170, k170]; omega)) | (refine ⟨fun q => ?_, fun q => ?_, fun q => ?_⟩ <;> first | (exfalso; rw [a168, k168] at q; omega) | (rw [a169, k169]; omega) | (rw [a170, k170]; omega)) | omega) (by first | exact Ko_h199 | (rw [a168]; exact k168) | (unfold sumM; first | exact Or.inr (Or.inr ⟨by omega, by omega, Or.inr ⟨by omega, Or.inr ⟨by omega, Or.inr (Or.inr ⟨by omega, by omega, ⟨by omega, by omega⟩⟩)⟩⟩⟩) | exact Or.inr (Or.inr ⟨by omega, by omega, Or.inr ⟨by omega, Or.inr ⟨by omega, or_assoc.mp (Or.inl (by omega))⟩⟩⟩) | exact Or.inr (Or.inr ⟨by omega, by omega, Or.inr ⟨by omega, Or.inl ⟨by omega, by omega, by omega⟩⟩⟩) | exact Or.inr (Or.inr ⟨by omega, by omega, Or.inl ⟨by omega, by omega⟩⟩) | exact or_assoc.mp (Or.inl (by omega))) | omega | (refine ⟨fun q => ?_, fun q => ?_⟩ <;> first | (rw [a168, k168] at q; omega) | (rw [a170, k170]; omega)) | (refine ⟨fun q => ?_, fun q => ?_, fun q => ?_⟩ <;> first | (exfalso; rw [a168, k168] at q; omega) | (rw [a169, k169]; omega) | (rw [a170, k170]; omega)) | omega) (by first | exact Ko_h199 | (rw [a168]; exact k168) | (unfold sumM; first | exact Or.inr (Or.inr ⟨by omega, by omega, Or.inr ⟨by omega, Or.inr ⟨by omega, Or.inr (Or.inr ⟨by omega, by omega, ⟨by omega, by omega⟩⟩)⟩⟩⟩) | exact Or.inr (Or.inr ⟨by omega, by omega, Or.inr ⟨by omega, Or.inr ⟨by omega, or_assoc.mp (Or.inl (by omega))⟩⟩⟩) | exact Or.inr (Or.inr ⟨by omega, by omega, Or.inr ⟨by omega, Or.inl ⟨by omega, by omega, by omega⟩⟩⟩) | exact Or.inr (Or.inr ⟨by omega, by omega, Or.inl ⟨by omega, by omega⟩⟩) | exact or_assoc.mp (Or.inl (by omega))) | omega | (refine ⟨fun q => ?_, fun q => ?_⟩ <;> first | (rw [a168, k168] at q; omega) | (rw [a170, k170]; omega)) | (refine ⟨fun q => ?_, fun q => ?_, fun q => ?_⟩ <;> first | (exfalso; rw [a168, k168] at q; omega) | (rw [a169, k169]; omega) | (rw [a170, k170]; omega)) | omega) (by first | exact Ko_h199 | (rw [a168]; exact k168) | (unfold sumM; first | exact Or.inr (Or.inr ⟨by omega, by omega, Or.inr ⟨by omega, Or.inr ⟨by omega, Or.inr (Or.inr ⟨by omega, by omega, ⟨by omega, by omega⟩⟩)⟩⟩⟩) | exact Or.inr (Or.inr ⟨by omega, by omega, Or.inr ⟨by omega, Or.inr ⟨by omega, or_assoc.mp (Or.inl (by omega))⟩⟩⟩) | exact Or.inr (Or.inr ⟨by omega, by omega, Or.inr ⟨by omega, Or.inl ⟨by omega, by omega, by omega⟩⟩⟩) | exact Or.inr (Or.inr ⟨by omega, by omega, Or.inl ⟨by omega, by omega⟩⟩) | exact or_assoc.mp (Or.inl (by omega))) | omega | (refine ⟨fun q => ?_, fun q => ?_⟩ <;> first | (rw [a168, k168] at q; omega) | (rw [a170, k170]; omega)) | (refine ⟨fun q => ?_, fun q => ?_, fun q => ?_⟩ <;> first | (exfalso; rw [a168, k168] at q; omega) | (rw [a169, k169]; omega) | (rw [a170, k170]; omega)) | omega) (by first | exact Ko_h199 | (rw [a168]; exact k168) | (unfold sumM; first | exact Or.inr (Or.inr ⟨by omega, by omega, Or.inr ⟨by omega, Or.inr ⟨by omega, Or.inr (Or.inr ⟨by omega, by omega, ⟨by omega, by omega⟩⟩)⟩⟩⟩) | exact Or.inr (Or.inr ⟨by omega, by omega, Or.inr ⟨by omega, Or.inr ⟨by omega, or_assoc.mp (Or.inl (by omega))⟩⟩⟩) | exact Or.inr (Or.inr ⟨by omega, by omega, Or.inr ⟨by omega, Or.inl ⟨by omega, by omega, by omega⟩⟩⟩) | exact Or.inr (Or.inr ⟨by omega, by omega, Or.inl ⟨by omega, by omega⟩⟩) | exact or_assoc.mp (Or.inl (by omega))) | omega | (refine ⟨fun q => ?_, fun q => ?_⟩ <;> first | (rw [a168, k168] at q; omega) | (rw [a170, k170]; omega)) | (refine ⟨fun q => ?_, fun q => ?_, fun q => ?_⟩ <;> first | (exfalso; rw [a168, k168] at q; omega) | (rw [a169, k169]; omega) | (rw [a170, k170]; omega)) | omega) Tok_h199 Mq_h199 Wd9_h199)
        ·
          refine w_aload_n gz_190_69 rfl ?_
          refine w_iconst gz_190_70 (by decide) ?_
          have ce204 : h75 151 7 = v154 := ev154.symm
          have ce205 : h75 151 27 = v4 := ((my_fr.at frh75 is_151 rfl).trans ((my_up_role fh64 is_151 is_170 rfl).trans ((my_fr.at frh13 is_151 rfl).trans ev4.symm)))
          refine w_inv (k := 0) (as := [(0, 3)]) (r := []) (x := 151) (ls0 := [(2, 151), (0, 3)]) gz_190_71 gm_178 rfl is_151 rd_10 rfl rfl rfl rfl rfl ?_
          refine w_aload_n gz_178_0 rfl ?_
          refine v_getI (j := 8) gz_178_1 rfl is_151 rd_10 rfl (fun v206 ev206 pv206 qv206 => ?_)
          have zv206 := ev206.trans ev103.symm
          refine w_ifne (t := 25) gz_178_4 rfl (fun u207 => by exfalso; omega) (fun u207 => ?_)
          refine w_aload_n gz_178_7 rfl ?_
          refine w_iload_n gz_178_8 rfl ?_
          refine w_bipush gz_178_9 (by decide) ?_
          refine w_aload_n gz_178_11 rfl ?_
          refine w_getX (v := 154) gz_178_12 is_151 rd_10 rfl (by decide) rfl ?_
          refine w_aload_n gz_178_15 rfl ?_
          refine v_getI (j := 7) gz_178_16 rfl is_151 rd_10 rfl (fun v209 ev209 pv209 qv209 => ?_)
          have zv209 := ev209.trans ev154.symm
          refine w_iald gz_178_19 is_154 rd_53 (by omega) (by omega) (fun v210 ev210 pv210 qv210 => ?_)
          have nz211a : h75 151 7 = (sN (sm h) (((sN (sm h) ((h 151 7)))))) := xp80
          have nz211 : v210 = sP (sm h) (sN (sm h) (((sN (sm h) ((h 151 7)))))) := by
            have q := ev210.trans (my_fr.at (j := v209) gh75 is_154 rfl)
            rw [show (v209 : Int) = (sN (sm h) (((sN (sm h) ((h 151 7)))))) from by omega] at q
            exact q
          refine w_imul gz_178_20 ⟨by omega, by omega⟩ ?_
          refine w_iadd gz_178_21 ⟨by omega, by omega⟩ ?_
          refine v_putI (j := 8) gz_178_22 rfl is_151 rd_10 rfl (by omega) (by omega) rfl (fun h212 fh212 => ?_)
          have gh212 : my_fr [(10, 7), (10, 8), (67, -1), (68, -1), (69, -1)] h h212 := my_fr.up gh75 is_151 fh212 rfl
          have Mq_h212 : Mq h212 wv := Mq_ag (my_ag.up fh212 is_151 rfl) Mq_h75
          have Wd9_h212 : Wd9 h212 := Wd9_ag (my_ag.up fh212 is_151 rfl) Wd9_h75t83
          have P6_h212 : h212 167 6 = h 167 6 := P6_ag (my_ag.up fh212 is_151 rfl) P6_h75
          have Ko_h212 : Ko h h212 := Ko_ag (my_ag.up fh212 is_151 rfl) Ko_h75
          have Tok_h212 : Tok h212 := Tok_ag (my_ag.up fh212 is_151 rfl) Tok_h75t82
          refine w_vret gz_178_25 gm_178 ?_
          show wp l rho (d + 3) 190 74 [(2, 151), (0, x1)] [] h212 Q
          refine w_aload_n gz_190_74 rfl ?_
          refine w_getX (v := 169) gz_190_75 is_151 rd_10 rfl (by decide) rfl ?_
          refine w_iload_n gz_190_78 rfl ?_
          refine w_aload_n gz_190_79 rfl ?_
          refine w_aload_n gz_190_80 rfl ?_
          refine v_getI (j := 27) gz_190_81 rfl is_151 rd_10 rfl (fun v214 ev214 pv214 qv214 => ?_)
          have zv214 := ev214.trans ((my_up_fld fh212 (by decide)).trans ((my_fr.at frh75 is_151 rfl).trans ((my_up_role fh64 is_151 is_170 rfl).trans ((my_fr.at frh13 is_151 rfl).trans ev4.symm))))
          refine w_iconst gz_190_84 (by decide) ?_
          refine w_isub gz_190_85 ⟨by omega, by omega⟩ ?_
          have ce215 : h212 151 7 = v209 := ((my_up_fld fh212 (by decide)).trans ev209.symm)
          have ce216 : h212 151 27 = v214 := ev214.symm
          refine w_inv (k := 0) (as := [(0, (v214 - 1))]) (r := [(0, x1), (2, 169)]) (x := 151) (ls0 := [(2, 151), (0, (v214 - 1))]) gz_190_86 gm_187 rfl is_151 rd_10 rfl rfl rfl rfl rfl (c_Model_takeNumber9_f1 (d := (d + 1)) (x1 := (v214 - 1)) (by omega) (by omega) ((3 + (16 * v210))) ((my_up_self fh212)) (by omega) (by omega) Tok_h212 (fun w217 w218 xp219 Tok_h212t220 => ?_))
          show wp l rho (d + 3) 190 89 [(2, 151), (0, x1)] [(0, 0), (0, x1), (2, 169)] h212 Q
          have ps221 : h212 151 7 = (sN (sm h) (((sN (sm h) ((h 151 7)))))) := ((my_up_fld fh212 (by decide)).trans xp80)
          rw [ps221] at xp219
          have hi222 : 0 ≤ 0 := by omega
          have hi223 : 0 ≤ 7 := by omega
          refine w_iast gz_190_89 is_169 rd_68 (by omega) (by omega) (by omega) (by omega) (fun h224 fh224 => ?_)
          have gh224 : my_fr [(10, 7), (10, 8), (67, -1), (68, -1), (69, -1)] h h224 := my_fr.up gh212 is_169 fh224 rfl
          have Mq_h224 : Mq h224 wv := Mq_u (a := 169) hwv (by decide) (by omega) fh224 Mq_h212
          have Wd9_h224 : Wd9 h224 := Wd9_ag (my_ag.up fh224 is_169 rfl) Wd9_h212
          have P6_h224 : h224 167 6 = h 167 6 := P6_ag (my_ag.up fh224 is_169 rfl) P6_h212
          have Ko_h224 : Ko h h224 := Ko_u (a := 169) hwv (by decide) (by omega) fh224 Ko_h212
          have Tok_h224 : Tok h224 := Tok_ag (my_ag.up fh224 is_169 rfl) Tok_h212t220
          have k169 := my_up_self fh224
          have psR : h224 151 7 = (sN (sm h) (((sN (sm h) ((h 151 7)))))) := ((my_up_role fh224 is_151 is_169 rfl).trans ((my_up_fld fh212 (by decide)).trans xp80))
          have npsR : sm h224 = sm h := sm_eq (fun j => my_fr.at gh224 is_153 rfl) (fun j => my_fr.at gh224 is_154 rfl) (fun j => my_fr.at gh224 is_155 rfl)
          have ce225 : h224 151 7 = v209 := ((my_up_role fh224 is_151 is_169 rfl).trans ((my_up_fld fh212 (by decide)).trans ev209.symm))
          have ce226 : h224 151 27 = v214 := ((my_up_role fh224 is_151 is_169 rfl).trans ev214.symm)
          have a168 : ∀ j : Int, h224 168 j = h2 168 j := fun j => ((my_up_role fh224 is_168 is_169 rfl).trans ((my_up_role fh212 is_168 is_151 rfl).trans ((my_fr.at frh75 is_168 rfl).trans ((my_up_role fh64 is_168 is_170 rfl).trans ((my_fr.at frh13 is_168 rfl).trans (rfl : h2 168 j = h2 168 j))))))
          have a170 : ∀ j : Int, h224 170 j = h64 170 j := fun j => ((my_up_role fh224 is_170 is_169 rfl).trans ((my_up_role fh212 is_170 is_151 rfl).trans ((my_fr.at frh75 is_170 rfl).trans (rfl : h64 170 j = h64 170 j))))
          have a169 : ∀ j : Int, h224 169 j = h224 169 j := fun _ => rfl
          have c227 := ((my_up_role fh224 is_151 is_169 rfl).trans (my_up_self fh212))
          exact w_vret gz_190_90 gm_190 (k0 h224 (gh224) (by omega) (by omega) (by first | exact Ko_h224 | (rw [a168]; exact k168) | (unfold sumM; first | exact Or.inr (Or.inr ⟨by omega, by omega, Or.inr ⟨by omega, Or.inr ⟨by omega, Or.inr (Or.inr ⟨by omega, by omega, ⟨by omega, by omega⟩⟩)⟩⟩⟩) | exact Or.inr (Or.inr ⟨by omega, by omega, Or.inr ⟨by omega, Or.inr ⟨by omega, or_assoc.mp (Or.inl (by omega))⟩⟩⟩) | exact Or.inr (Or.inr ⟨by omega, by omega, Or.inr ⟨by omega, Or.inl ⟨by omega, by omega, by omega⟩⟩⟩) | exact Or.inr (Or.inr ⟨by omega, by omega, Or.inl ⟨by omega, by omega⟩⟩) | exact or_assoc.mp (Or.inl (by omega))) | omega | (refine ⟨fun q => ?_, fun q => ?_⟩ <;> first | (rw [a168, k168] at q; omega) | (rw [a170, k170]; omega)) | (refine ⟨fun q => ?_, fun q => ?_, fun q => ?_⟩ <;> first | (exfalso; rw [a168, k168] at q; omega) | (rw [a169, k169]; omega) | (rw [a170, k170]; omega)) | omega) (by first | exact Ko_h224 | (rw [a168]; exact k168) | (unfold sumM; first | exact Or.inr (Or.inr ⟨by omega, by omega, Or.inr ⟨by omega, Or.inr ⟨by omega, Or.inr (Or.inr ⟨by omega, by omega, ⟨by omega, by omega⟩⟩)⟩⟩⟩) | exact Or.inr (Or.inr ⟨by omega, by omega, Or.inr ⟨by omega, Or.inr ⟨by omega, or_assoc.mp (Or.inl (by omega))⟩⟩⟩) | exact Or.inr (Or.inr ⟨by omega, by omega, Or.inr ⟨by omega, Or.inl ⟨by omega, by omega, by omega⟩⟩⟩) | exact Or.inr (Or.inr ⟨by omega, by omega, Or.inl ⟨by omega, by omega⟩⟩) | exact or_assoc.mp (Or.inl (by omega))) | omega | (refine ⟨fun q => ?_, fun q => ?_⟩ <;> first | (rw [a168, k168] at q; omega) | (rw [a170, k170]; omega)) | (refine ⟨fun q => ?_, fun q => ?_, fun q => ?_⟩ <;> first | (exfalso; rw [a168, k168] at q; omega) | (rw [a169, k169]; omega) | (rw [a170, k170]; omega)) | omega) (by first | exact Ko_h224 | (rw [a168]; exact k168) | (unfold sumM; first | exact Or.inr (Or.inr ⟨by omega, by omega, Or.inr ⟨by omega, Or.inr ⟨by omega, Or.inr (Or.inr ⟨by omega, by omega, ⟨by omega, by omega⟩⟩)⟩⟩⟩) | exact Or.inr (Or.inr ⟨by omega, by omega, Or.inr ⟨by omega, Or.inr ⟨by omega, or_assoc.mp (Or.inl (by omega))⟩⟩⟩) | exact Or.inr (Or.inr ⟨by omega, by omega, Or.inr ⟨by omega, Or.inl ⟨by omega, by omega, by omega⟩⟩⟩) | exact Or.inr (Or.inr ⟨by omega, by omega, Or.inl ⟨by omega, by omega⟩⟩) | exact or_assoc.mp (Or.inl (by omega))) | omega | (refine ⟨fun q => ?_, fun q => ?_⟩ <;> first | (rw [a168, k168] at q; omega) | (rw [a170, k170]; omega)) | (refine ⟨fun q => ?_, fun q => ?_, fun q => ?_⟩ <;> first | (exfalso; rw [a168, k168] at q; omega) | (rw [a169, k169]; omega) | (rw [a170, k170]; omega)) | omega) Tok_h224 Mq_h224 Wd9_h224)
theorem c_Reader_takeWord9_f0 {l : Launch} {rho : Nat → Int32} {d : Nat} {h : my_H} {Q : my_H → my_V → Prop} {x1 : Int} (s1 : 1 ≤ x1 ∧ x1 ≤ 12) (cf : h 82 9 = 0) (n_Al : Al h) (n_Cu : Cu h) (k0 : ∀ (h' : my_H), my_fr [(5, 5), (5, 6), (5, 7), (5, 8), (5, 9)] h h' → 1 ≤ h' 82 9 → h' 82 9 ≤ 16001 → sW (cs h) (h 82 7) ≠ wc x1 → h' 82 9 = 1 + 16 * h 82 7 → Al h' → Cu h' → Q h' (0, 0)) (k1 : ∀ (h' : my_H), my_fr [(5, 5), (5, 6), (5, 7), (5, 8), (5, 9)] h h' → h' 82 9 = 0 → h' 82 7 = sN (cs h) (h 82 7) → sW (cs h) (h 82 7) = wc x1 → Al h' → Cu h' → Q h' (0, 1)) : wp l rho (d + 5) 40 0 [(2, 82), (3, x1)] [] h Q := by
  have ck1 := Cu_s n_Cu
  refine w_aload_n gz_40_0 rfl ?_
  refine w_aload3_n gz_40_1 rfl ?_
  refine w_inv (k := 1) (as := [(3, x1)]) (r := []) (x := 82) (ls0 := [(2, 82), (3, x1), (9, 0)]) gz_40_2 gm_41 rfl is_82 rd_5 rfl rfl rfl rfl rfl (c_Reader_isWord9_f0 (d := d) (x1 := x1) s1 (cf.trans (by omega)) n_Cu (fun w2 xp3 => ?_) (fun w4 w5 xp6 => ?_))
  ·
    show wp l rho (d + 5) 40 5 [(2, 82), (3, x1)] [(0, 0)] h Q
    refine w_ifne (t := 15) gz_40_5 rfl (fun u7 => by exfalso; omega) (fun u7 => ?_)
    refine w_aload_n gz_40_8 rfl ?_
    refine w_iconst gz_40_9 (by decide) ?_
    refine w_inv (k := 0) (as := [(0, 1)]) (r := []) (x := 82) (ls0 := [(2, 82), (0, 1)]) gz_40_10 gm_42 rfl is_82 rd_5 rfl rfl rfl rfl rfl ?_
    refine w_aload_n gz_42_0 rfl ?_
    refine v_getI (j := 9) gz_42_1 rfl is_82 rd_5 rfl (fun v8 ev8 pv8 qv8 => ?_)
    have zv8 := ev8.trans cf
    refine w_ifne (t := 20) gz_42_4 rfl (fun u9 => by exfalso; omega) (fun u9 => ?_)
    refine w_aload_n gz_42_7 rfl ?_
    refine w_iload_n gz_42_8 rfl ?_
    refine w_bipush gz_42_9 (by decide) ?_
    refine w_aload_n gz_42_11 rfl ?_
    refine v_getI (j := 7) gz_42_12 rfl is_82 rd_5 rfl (fun v10 ev10 pv10 qv10 => ?_)
    refine w_imul gz_42_15 ⟨by omega, by omega⟩ ?_
    refine w_iadd gz_42_16 ⟨by omega, by omega⟩ ?_
    refine v_putI (j := 9) gz_42_17 rfl is_82 rd_5 rfl (by omega) (by omega) rfl (fun h11 fh11 => ?_)
    have gh11 : my_fr [(5, 5), (5, 6), (5, 7), (5, 8), (5, 9)] h h11 := my_fr.up my_fr.rf is_82 fh11 rfl
    have Al_h11 : Al h11 := Al_ag (my_ag.up fh11 is_82 rfl) n_Al
    have Cu_h11 : Cu h11 := Cu_ag (my_ag.up fh11 is_82 rfl) n_Cu
    refine w_vret gz_42_20 gm_42 ?_
    show wp l rho (d + 5) 40 13 [(2, 82), (3, x1)] [] h11 Q
    refine w_iconst gz_40_13 (by decide) ?_
    have psR : h11 82 7 = h 82 7 := ((my_up_fld fh11 (by decide)).trans (rfl : h 82 7 = h 82 7))
    have npsR : cs h11 = cs h := cs_eq (fun j => my_fr.at gh11 is_92 rfl) (my_fr.at gh11 is_82 rfl)
    have c12 := (my_up_self fh11)
    exact w_bret gz_40_14 gm_40 (by omega) (by omega) (k0 h11 (gh11) (by omega) (by omega) (by first | assumption | omega | (subst_vars; omega) | omega) (by first | assumption | omega | (subst_vars; omega) | omega) Al_h11 Cu_h11)
  ·
    show wp l rho (d + 5) 40 5 [(2, 82), (3, x1)] [(0, 1)] h Q
    refine w_ifne (t := 15) gz_40_5 rfl (fun u13 => ?_) (fun u13 => by exfalso; omega)
    refine w_aload_n gz_40_15 rfl ?_
    refine w_inv (k := 2) (as := []) (r := []) (x := 82) (ls0 := [(2, 82), (9, 0), (9, 0)]) gz_40_16 gm_37 rfl is_82 rd_5 rfl rfl rfl rfl rfl (c_Reader_nextToken9_f0 (d := (d + 3))  (cf.trans (by omega)) n_Al (fun h14 frh14 w15 w16 w17 xp18 xp19 Al_h14t20 Cu_h14t21 => ?_))
    have gh14 : my_fr [(5, 5), (5, 6), (5, 7), (5, 8), (5, 9)] h h14 := my_fr.tr my_fr.rf (frh14.mo rfl)
    show wp l rho (d + 5) 40 19 [(2, 82), (3, x1)] [] h14 Q
    have xc22 := xp18 n_Cu
    have ck23 := Cu_s Cu_h14t21
    rw [show cs h14 = cs h from cs_eq (fun j => my_fr.at gh14 is_92 rfl) (my_fr.at gh14 is_82 rfl)] at ck23
    rw [show h14 82 7 = (sN (cs h) (h 82 7)) from xc22] at ck23
    refine w_iconst gz_40_19 (by decide) ?_
    have psR : h14 82 7 = (sN (cs h) (h 82 7)) := xc22
    have npsR : cs h14 = cs h := cs_eq (fun j => my_fr.at gh14 is_92 rfl) (my_fr.at gh14 is_82 rfl)
    have c24 := ((my_fr.at frh14 is_82 rfl).trans cf)
    exact w_bret gz_40_20 gm_40 (by omega) (by omega) (k1 h14 (gh14) (by omega) (by first | assumption | omega | (subst_vars; omega) | omega) (by first | assumption | omega | (subst_vars; omega) | omega) Al_h14t20 Cu_h14t21)
theorem c_Reader_endPart9_f0 {l : Launch} {rho : Nat → Int32} {d : Nat} {h : my_H} {Q : my_H → my_V → Prop} (cf : h 82 9 = 0) (n_Al : Al h) (n_Cu : Cu h) (k0 : ∀ (h' : my_H), my_fr [(5, 5), (5, 6), (5, 7), (5, 8), (5, 9)] h h' → 1 ≤ h' 82 9 → h' 82 9 ≤ 16001 → sK (cs h) (sN (cs h) (h 82 7)) ≠ 3 → h' 82 9 = 1 + 16 * sN (cs h) (h 82 7) → Al h' → Cu h' → Q h' (9, 0)) (k1 : ∀ (h' : my_H), my_fr [(5, 5), (5, 6), (5, 7), (5, 8), (5, 9)] h h' → h' 82 9 = 0 → h' 82 7 = sN (cs h) (sN (cs h) (h 82 7)) → sK (cs h) (sN (cs h) (h 82 7)) = 3 → Al h' → Cu h' → Q h' (9, 0)) : wp l rho (d + 3) 46 0 [(2, 82)] [] h Q := by
  have ck1 := Cu_s n_Cu
  refine w_aload_n gz_46_0 rfl ?_
  refine w_inv (k := 2) (as := []) (r := []) (x := 82) (ls0 := [(2, 82), (9, 0), (9, 0)]) gz_46_1 gm_37 rfl is_82 rd_5 rfl rfl rfl rfl rfl (c_Reader_nextToken9_f0 (d := (d + 1))  (cf.trans (by omega)) n_Al (fun h2 frh2 w3 w4 w5 xp6 xp7 Al_h2t8 Cu_h2t9 => ?_))
  have gh2 : my_fr [(5, 5), (5, 6), (5, 7), (5, 8), (5, 9)] h h2 := my_fr.tr my_fr.rf (frh2.mo rfl)
  show wp l rho (d + 3) 46 4 [(2, 82)] [] h2 Q
  have xc10 := xp6 n_Cu
  have ck11 := Cu_s Cu_h2t9
  rw [show cs h2 = cs h from cs_eq (fun j => my_fr.at gh2 is_92 rfl) (my_fr.at gh2 is_82 rfl)] at ck11
  rw [show h2 82 7 = (sN (cs h) (h 82 7)) from xc10] at ck11
  refine w_aload_n gz_46_4 rfl ?_
  refine w_inv (k := 0) (as := []) (r := []) (x := 82) (ls0 := [(2, 82)]) gz_46_5 gm_47 rfl is_82 rd_5 rfl rfl rfl rfl rfl (c_Reader_endsHere9_f0 (d := d)  (((my_fr.at frh2 is_82 rfl).trans cf).trans (by omega)) Al_h2t8 Cu_h2t9 (fun h12 frh12 w13 w14 xp15 xp16 Al_h12t17 Cu_h12t18 => ?_) (fun h19 frh19 w20 xp21 xp22 Al_h19t23 Cu_h19t24 => ?_))
  ·
    have gh12 : my_fr [(5, 5), (5, 6), (5, 7), (5, 8), (5, 9)] h h12 := my_fr.tr gh2 (frh12.mo rfl)
    show wp l rho (d + 3) 46 8 [(2, 82)] [(0, 0)] h12 Q
    have tE25 : cs h2 = cs h := cs_eq (fun j => my_fr.at gh2 is_92 rfl) (my_fr.at gh2 is_82 rfl)
    rw [tE25] at xp15
    have ps26 : h2 82 7 = (sN (cs h) (h 82 7)) := xc10
    rw [ps26] at xp15
    rw [ps26] at xp16
    refine w_pop gz_46_8 rfl ?_
    have psR : h12 82 7 = h12 82 7 := (rfl : h12 82 7 = h12 82 7)
    have npsR : cs h12 = cs h := cs_eq (fun j => my_fr.at gh12 is_92 rfl) (my_fr.at gh12 is_82 rfl)
    have c27 := (rfl : h12 82 9 = h12 82 9)
    exact w_vret gz_46_9 gm_46 (k0 h12 (gh12) (by omega) (by omega) (by first | assumption | omega | (subst_vars; omega) | omega) (by first | assumption | omega | (subst_vars; omega) | omega) Al_h12t17 Cu_h12t18)
  ·
    have gh19 : my_fr [(5, 5), (5, 6), (5, 7), (5, 8), (5, 9)] h h19 := my_fr.tr gh2 (frh19.mo rfl)
    show wp l rho (d + 3) 46 8 [(2, 82)] [(0, 1)] h19 Q
    have tE28 : cs h2 = cs h := cs_eq (fun j => my_fr.at gh2 is_92 rfl) (my_fr.at gh2 is_82 rfl)
    rw [tE28] at xp21
    have ps29 : h2 82 7 = (sN (cs h) (h 82 7)) := xc10
    rw [ps29] at xp21
    rw [tE28] at xp22
    rw [ps29] at xp22
    have ck30 := Cu_s Cu_h19t24
    rw [show cs h19 = cs h from cs_eq (fun j => my_fr.at gh19 is_92 rfl) (my_fr.at gh19 is_82 rfl)] at ck30
    rw [show h19 82 7 = (sN (cs h) (((sN (cs h) (h 82 7))))) from xp21] at ck30
    refine w_pop gz_46_8 rfl ?_
    have psR : h19 82 7 = (sN (cs h) (((sN (cs h) (h 82 7))))) := xp21
    have npsR : cs h19 = cs h := cs_eq (fun j => my_fr.at gh19 is_92 rfl) (my_fr.at gh19 is_82 rfl)
    have c31 := w20
    exact w_vret gz_46_9 gm_46 (k1 h19 (gh19) (by omega) (by first | assumption | omega | (subst_vars; omega) | omega) (by first | assumption | omega | (subst_vars; omega) | omega) Al_h19t23 Cu_h19t24)
theorem c_Reader_readFill9_f0 {l : Launch} {rho : Nat → Int32} {d : Nat} {h : my_H} {Q : my_H → my_V → Prop} (cf : h 82 9 = 0) (n_Al : Al h) (n_Cu : Cu h) (k0 : ∀ (h' : my_H), my_fr [(5, 5), (5, 6), (5, 7), (5, 8), (5, 9), (38, -1)] h h' → 1 ≤ h' 82 9 → h' 82 9 ≤ 16004 → fillR (cs h) (h 82 7) (h (h 82 2) 3) (h' 82 9) (h' 82 7) → Al h' → Cu h' → Q h' (9, 0)) (k1 : ∀ (h' : my_H), my_fr [(5, 5), (5, 6), (5, 7), (5, 8), (5, 9), (38, -1)] h h' → h' 82 9 = 0 → fillR (cs h) (h 82 7) (h (h 82 2) 3) (h' 82 9) (h' 82 7) → Al h' → Cu h' → Q h' (9, 0)) : wp l rho (d + 3) 50 0 [(2, 82), (9, 0), (9, 0)] [] h Q := by
  have ck1 := Cu_s n_Cu
  refine w_aload_n gz_50_0 rfl ?_
  refine w_aload_n gz_50_1 rfl ?_
  refine v_getR (j := 2) gz_50_2 rfl is_82 rd_5 rfl (fun v2 ev2 tv2 => ?_)
  have ce3 : h 82 2 = v2 := ev2.symm
  have sE5 : v2 = h 82 2 := by first | assumption | omega
  refine v_getI (j := 3) gz_50_5 rfl tv2 rd_4 rfl (fun v4 ev4 pv4 qv4 => ?_)
  have c8 : v4 = h (h 82 2) 3 := by rw [← sE5]; omega
  refine w_inv (k := 1) (as := [(0, v4)]) (r := []) (x := 82) (ls0 := [(2, 82), (0, v4), (9, 0)]) gz_50_8 gm_51 rfl is_82 rd_5 rfl rfl rfl rfl rfl (c_Reader_takeNumber9_f0 (d := d) (x1 := v4) (by omega) (by omega) (cf.trans (by omega)) n_Al n_Cu (fun h5 frh5 w6 w7 xp8 Al_h5t9 Cu_h5t10 => ?_) (fun h11 v12 frh11 w13 w14 w15 w16 w17 xp18 xp19 xp20 Al_h11t21 Cu_h11t22 => ?_))
  ·
    have gh5 : my_fr [(5, 5), (5, 6), (5, 7), (5, 8), (5, 9), (38, -1)] h h5 := my_fr.tr my_fr.rf (frh5.mo rfl)
    show wp l rho (d + 3) 50 11 [(2, 82), (9, 0), (9, 0)] [(0, (-1))] h5 Q
    refine w_istore_n (ls' := [(2, 82), (0, (-1)), (9, 0)]) gz_50_11 gm_50 rfl rfl rfl ?_
    refine w_aload_n gz_50_12 rfl ?_
    refine w_bipush gz_50_13 (by decide) ?_
    refine w_inv (k := 1) (as := [(0, 20)]) (r := []) (x := 82) (ls0 := [(2, 82), (0, 20), (9, 0)]) gz_50_15 gm_51 rfl is_82 rd_5 rfl rfl rfl rfl rfl (c_Reader_takeNumber9_f1 (d := d) (x1 := 20) (by omega) (by omega) ((h5 82 9)) ((rfl : h5 82 9 = h5 82 9)) (by omega) (by omega) Al_h5t9 Cu_h5t10 (fun w23 w24 Al_h5t25 Cu_h5t26 => ?_))
    show wp l rho (d + 3) 50 18 [(2, 82), (0, (-1)), (9, 0)] [(0, (-1))] h5 Q
    refine w_istore_n (ls' := [(2, 82), (0, (-1)), (0, (-1))]) gz_50_18 gm_50 rfl rfl rfl ?_
    refine w_aload_n gz_50_19 rfl ?_
    refine v_getI (j := 9) gz_50_20 rfl is_82 rd_5 rfl (fun v27 ev27 pv27 qv27 => ?_)
    have zv27 := ev27.trans (rfl : h5 82 9 = h5 82 9)
    refine w_ifne (t := 43) gz_50_23 rfl (fun u28 => ?_) (fun u28 => by exfalso; omega)
    have psR : h5 82 7 = h5 82 7 := (rfl : h5 82 7 = h5 82 7)
    have npsR : cs h5 = cs h := cs_eq (fun j => my_fr.at gh5 is_92 rfl) (my_fr.at gh5 is_82 rfl)
    have c29 := ev27.symm
    exact w_vret gz_50_43 gm_50 (k0 h5 (gh5) (by omega) (by omega) (by first | (unfold fillR; first | exact Or.inr (Or.inr ⟨by omega, by omega, Or.inr (Or.inr ⟨by omega, by omega, Or.inr ⟨by omega, by omega, by omega⟩⟩)⟩) | exact Or.inr (Or.inr ⟨by omega, by omega, Or.inr (Or.inr ⟨by omega, by omega, Or.inl ⟨by omega, by omega⟩⟩)⟩) | exact Or.inr (Or.inr ⟨by omega, by omega, or_assoc.mp (Or.inl (by omega))⟩) | exact or_assoc.mp (Or.inl (by omega))) | omega) Al_h5t25 Cu_h5t26)
  ·
    have gh11 : my_fr [(5, 5), (5, 6), (5, 7), (5, 8), (5, 9), (38, -1)] h h11 := my_fr.tr my_fr.rf (frh11.mo rfl)
    show wp l rho (d + 3) 50 11 [(2, 82), (9, 0), (9, 0)] [(0, v12)] h11 Q
    have ck30 := Cu_s Cu_h11t22
    rw [show cs h11 = cs h from cs_eq (fun j => my_fr.at gh11 is_92 rfl) (my_fr.at gh11 is_82 rfl)] at ck30
    rw [show h11 82 7 = (sN (cs h) (h 82 7)) from xp18] at ck30
    refine w_istore_n (ls' := [(2, 82), (0, v12), (9, 0)]) gz_50_11 gm_50 rfl rfl rfl ?_
    refine w_aload_n gz_50_12 rfl ?_
    refine w_bipush gz_50_13 (by decide) ?_
    refine w_inv (k := 1) (as := [(0, 20)]) (r := []) (x := 82) (ls0 := [(2, 82), (0, 20), (9, 0)]) gz_50_15 gm_51 rfl is_82 rd_5 rfl rfl rfl rfl rfl (c_Reader_takeNumber9_f0 (d := d) (x1 := 20) (by omega) (by omega) (w17.trans (by omega)) Al_h11t21 Cu_h11t22 (fun h31 frh31 w32 w33 xp34 Al_h31t35 Cu_h31t36 => ?_) (fun h37 v38 frh37 w39 w40 w41 w42 w43 xp44 xp45 xp46 Al_h37t47 Cu_h37t48 => ?_))
    ·
      have gh31 : my_fr [(5, 5), (5, 6), (5, 7), (5, 8), (5, 9), (38, -1)] h h31 := my_fr.tr gh11 (frh31.mo rfl)
      show wp l rho (d + 3) 50 18 [(2, 82), (0, v12), (9, 0)] [(0, (-1))] h31 Q
      have tE49 : cs h11 = cs h := cs_eq (fun j => my_fr.at gh11 is_92 rfl) (my_fr.at gh11 is_82 rfl)
      rw [tE49] at xp34
      have ps50 : h11 82 7 = (sN (cs h) (h 82 7)) := xp18
      rw [ps50] at xp34
      refine w_istore_n (ls' := [(2, 82), (0, v12), (0, (-1))]) gz_50_18 gm_50 rfl rfl rfl ?_
      refine w_aload_n gz_50_19 rfl ?_
      refine v_getI (j := 9) gz_50_20 rfl is_82 rd_5 rfl (fun v51 ev51 pv51 qv51 => ?_)
      have zv51 := ev51.trans (rfl : h31 82 9 = h31 82 9)
      refine w_ifne (t := 43) gz_50_23 rfl (fun u52 => ?_) (fun u52 => by exfalso; omega)
      have psR : h31 82 7 = h31 82 7 := (rfl : h31 82 7 = h31 82 7)
      have npsR : cs h31 = cs h := cs_eq (fun j => my_fr.at gh31 is_92 rfl) (my_fr.at gh31 is_82 rfl)
      have c53 := ev51.symm
      exact w_vret gz_50_43 gm_50 (k0 h31 (gh31) (by omega) (by omega) (by first | (unfold fillR; first | exact Or.inr (Or.inr ⟨by omega, by omega, Or.inr (Or.inr ⟨by omega, by omega, Or.inr ⟨by omega, by omega, by omega⟩⟩)⟩) | exact Or.inr (Or.inr ⟨by omega, by omega, Or.inr (Or.inr ⟨by omega, by omega, Or.inl ⟨by omega, by omega⟩⟩)⟩) | exact Or.inr (Or.inr ⟨by omega, by omega, or_assoc.mp (Or.inl (by omega))⟩) | exact or_assoc.mp (Or.inl (by omega))) | omega) Al_h31t35 Cu_h31t36)
    ·
      have gh37 : my_fr [(5, 5), (5, 6), (5, 7), (5, 8), (5, 9), (38, -1)] h h37 := my_fr.tr gh11 (frh37.mo rfl)
      show wp l rho (d + 3) 50 18 [(2, 82), (0, v12), (9, 0)] [(0, v38)] h37 Q
      have tE54 : cs h11 = cs h := cs_eq (fun j => my_fr.at gh11 is_92 rfl) (my_fr.at gh11 is_82 rfl)
      rw [tE54] at xp44
      have ps55 : h11 82 7 = (sN (cs h) (h 82 7)) := xp18
      rw [ps55] at xp44
      rw [tE54] at xp45
      rw [ps55] at xp45
      rw [tE54] at xp46
      rw [ps55] at xp46
      have ck56 := Cu_s Cu_h37t48
      rw [show cs h37 = cs h from cs_eq (fun j => my_fr.at gh37 is_92 rfl) (my_fr.at gh37 is_82 rfl)] at ck56
      rw [show h37 82 7 = (sN (cs h) (((sN (cs h) (h 82 7))))) from xp44] at ck56
      refine w_istore_n (ls' := [(2, 82), (0, v12), (0, v38)]) gz_50_18 gm_50 rfl rfl rfl ?_
      refine w_aload_n gz_50_19 rfl ?_
      refine v_getI (j := 9) gz_50_20 rfl is_82 rd_5 rfl (fun v57 ev57 pv57 qv57 => ?_)
      have zv57 := ev57.trans w43
      refine w_ifne (t := 43) gz_50_23 rfl (fun u58 => by exfalso; omega) (fun u58 => ?_)
      refine w_aload_n gz_50_26 rfl ?_
      refine w_inv (k := 0) (as := []) (r := []) (x := 82) (ls0 := [(2, 82)]) gz_50_27 gm_47 rfl is_82 rd_5 rfl rfl rfl rfl rfl (c_Reader_endsHere9_f0 (d := d)  (ev57.symm.trans (by omega)) Al_h37t47 Cu_h37t48 (fun h59 frh59 w60 w61 xp62 xp63 Al_h59t64 Cu_h59t65 => ?_) (fun h66 frh66 w67 xp68 xp69 Al_h66t70 Cu_h66t71 => ?_))
      ·
        have gh59 : my_fr [(5, 5), (5, 6), (5, 7), (5, 8), (5, 9), (38, -1)] h h59 := my_fr.tr gh37 (frh59.mo rfl)
        show wp l rho (d + 3) 50 30 [(2, 82), (0, v12), (0, v38)] [(0, 0)] h59 Q
        have tE72 : cs h37 = cs h := cs_eq (fun j => my_fr.at gh37 is_92 rfl) (my_fr.at gh37 is_82 rfl)
        rw [tE72] at xp62
        have ps73 : h37 82 7 = (sN (cs h) (((sN (cs h) (h 82 7))))) := xp44
        rw [ps73] at xp62
        rw [ps73] at xp63
        refine w_ifeq (t := 43) gz_50_30 rfl (fun u74 => ?_) (fun u74 => by exfalso; omega)
        have psR : h59 82 7 = h59 82 7 := (rfl : h59 82 7 = h59 82 7)
        have npsR : cs h59 = cs h := cs_eq (fun j => my_fr.at gh59 is_92 rfl) (my_fr.at gh59 is_82 rfl)
        have c75 := (rfl : h59 82 9 = h59 82 9)
        exact w_vret gz_50_43 gm_50 (k0 h59 (gh59) (by omega) (by omega) (by first | (unfold fillR; first | exact Or.inr (Or.inr ⟨by omega, by omega, Or.inr (Or.inr ⟨by omega, by omega, Or.inr ⟨by omega, by omega, by omega⟩⟩)⟩) | exact Or.inr (Or.inr ⟨by omega, by omega, Or.inr (Or.inr ⟨by omega, by omega, Or.inl ⟨by omega, by omega⟩⟩)⟩) | exact Or.inr (Or.inr ⟨by omega, by omega, or_assoc.mp (Or.inl (by omega))⟩) | exact or_assoc.mp (Or.inl (by omega))) | omega) Al_h59t64 Cu_h59t65)
      ·
        have gh66 : my_fr [(5, 5), (5, 6), (5, 7), (5, 8), (5, 9), (38, -1)] h h66 := my_fr.tr gh37 (frh66.mo rfl)
        show wp l rho (d + 3) 50 30 [(2, 82), (0, v12), (0, v38)] [(0, 1)] h66 Q
        have tE76 : cs h37 = cs h := cs_eq (fun j => my_fr.at gh37 is_92 rfl) (my_fr.at gh37 is_82 rfl)
        rw [tE76] at xp68
        have ps77 : h37 82 7 = (sN (cs h) (((sN (cs h) (h 82 7))))) := xp44
        rw [ps77] at xp68
        rw [tE76] at xp69
        rw [ps77] at xp69
        have ck78 := Cu_s Cu_h66t71
        rw [show cs h66 = cs h from cs_eq (fun j => my_fr.at gh66 is_92 rfl) (my_fr.at gh66 is_82 rfl)] at ck78
        rw [show h66 82 7 = (sN (cs h) (((sN (cs h) (((sN (cs h) (h 82 7)))))))) from xp68] at ck78
        refine w_ifeq (t := 43) gz_50_30 rfl (fun u79 => by exfalso; omega) (fun u79 => ?_)
        refine w_aload_n gz_50_33 rfl ?_
        refine v_getR (j := 2) gz_50_34 rfl is_82 rd_5 rfl (fun v80 ev80 tv80 => ?_)
        have zv80 : v2 = v80 := (ev80.trans ((my_fr.at frh66 is_82 rfl).trans ((my_fr.at frh37 is_82 rfl).trans ((my_fr.at frh11 is_82 rfl).trans ev2.symm)))).symm
        subst zv80
        refine w_getX (v := (v2 + 7)) gz_50_37 tv2 rd_4 rfl (by decide) rfl ?_
        refine w_iload_n gz_50_40 rfl ?_
        refine w_iload_n gz_50_41 rfl ?_
        refine w_iast gz_50_42 (ix_4_7 tv2) rd_38 (by omega) (by omega) (by omega) (by omega) (fun h82 fh82 => ?_)
        have gh82 : my_fr [(5, 5), (5, 6), (5, 7), (5, 8), (5, 9), (38, -1)] h h82 := my_fr.up gh66 (ix_4_7 tv2) fh82 rfl
        have Al_h82 : Al h82 := Al_ag (my_ag.up fh82 (ix_4_7 tv2) rfl) Al_h66t70
        have Cu_h82 : Cu h82 := Cu_ag (my_ag.up fh82 (ix_4_7 tv2) rfl) Cu_h66t71
        have psR : h82 82 7 = (sN (cs h) (((sN (cs h) (((sN (cs h) (h 82 7)))))))) := ((my_up_role fh82 is_82 (ix_4_7 tv2) rfl).trans xp68)
        have npsR : cs h82 = cs h := cs_eq (fun j => my_fr.at gh82 is_92 rfl) (my_fr.at gh82 is_82 rfl)
        have c83 := ((my_up_role fh82 is_82 (ix_4_7 tv2) rfl).trans w67)
        exact w_vret gz_50_43 gm_50 (k1 h82 (gh82) (by omega) (by first | (unfold fillR; first | exact Or.inr (Or.inr ⟨by omega, by omega, Or.inr (Or.inr ⟨by omega, by omega, Or.inr ⟨by omega, by omega, by omega⟩⟩)⟩) | exact Or.inr (Or.inr ⟨by omega, by omega, Or.inr (Or.inr ⟨by omega, by omega, Or.inl ⟨by omega, by omega⟩⟩)⟩) | exact Or.inr (Or.inr ⟨by omega, by omega, or_assoc.mp (Or.inl (by omega))⟩) | exact or_assoc.mp (Or.inl (by omega))) | omega) Al_h82 Cu_h82)
end MYNModel_readSum9_f0
