/-! contracts, printed by wip/gen/gy.py -/
section MYNModel_readSum9_f0
theorem c_Model_readSum9_f0 {l : Launch} {rho : Nat → Int32} {d : Nat} {h : my_H} {Q : my_H → my_V → Prop} {x1 : Int} {wv : Int} (a1 : 36 ≤ x1) (b1 : x1 ≤ 41) (cf : h 151 8 = 0) (hwv : wv ≤ 5) (hwv0 : 0 ≤ wv) (n_Tok : Tok h) (n_Mq : Mq h wv) (n_Wd9 : Wd9 h) (hp : x1 = 36 + h 167 6) (k0 : ∀ (h' : my_H), my_fr [(10, 7), (10, 8), (67, -1), (68, -1), (69, -1)] h h' → 1 ≤ h' 151 8 → h' 151 8 ≤ 16004 → h 151 7 ≤ h' 151 7 → sumM (sm h) (h 151 7) (h 151 27) (h' 151 8) (h' 151 7) → Ko h h' → Tok h' → Mq h' wv → Wd9 h' → Q h' (9, 0)) (k1 : ∀ (h' : my_H), my_fr [(10, 7), (10, 8), (67, -1), (68, -1), (69, -1)] h h' → 1 ≤ h' 151 7 → h' 151 7 ≤ 1001 → h' 151 8 = 0 → PaneOk h' x1 → Pk3 h' x1 (h' 151 27) → h 151 7 ≤ h' 151 7 → sumM (sm h) (h 151 7) (h 151 27) (h' 151 8) (h' 151 7) → h' 168 x1 = 5 → Ko h h' → Tok h' → Mq h' wv → Wd9 h' → Q h' (9, 0)) : wp l rho (d + 3) 190 0 [(2, 151), (0, x1)] [] h Q := by
  refine v_know (x := 151) (j := 7) (b := 7) rfl is_151 rd_10 rfl (fun k151_7 ek151_7 pk151_7 qk151_7 => ?_)
  refine v_know (x := 151) (j := 27) (b := 27) rfl is_151 rd_10 rfl (fun k151_27 ek151_27 pk151_27 qk151_27 => ?_)
  refine w_aload_n gz_190_0 rfl ?_
  refine w_getX (v := 168) gz_190_1 is_151 rd_10 rfl (by decide) rfl ?_
  refine w_iload_n gz_190_4 rfl ?_
  refine w_iconst gz_190_5 (by decide) ?_
  refine w_iast gz_190_6 is_168 rd_67 (by omega) (by omega) (by omega) (by omega) (fun h2 fh2 => ?_)
  have gh2 : my_fr [(10, 7), (10, 8), (67, -1), (68, -1), (69, -1)] h h2 := my_fr.up my_fr.rf is_168 fh2 rfl
  have Tok_h2 : Tok h2 := Tok_ag (my_ag.up fh2 is_168 rfl) n_Tok
  have Mq_h2 : Mq h2 wv := Mq_u (a := 168) hwv (by decide) (by omega) fh2 n_Mq
  have Wd9_h2 : Wd9 h2 := Wd9_ag (my_ag.up fh2 is_168 rfl) n_Wd9
  have P6_h2 : h2 167 6 = h 167 6 := P6_ag (my_ag.up fh2 is_168 rfl) (rfl)
  have Ko_h2 : Ko h h2 := Ko_u (a := 168) hwv (by decide) (by omega) fh2 (Ko_rf)
  have k168 : h2 168 x1 = 5 := my_up_self fh2
  refine w_aload_n gz_190_7 rfl ?_
  refine w_getX (v := 170) gz_190_8 is_151 rd_10 rfl (by decide) rfl ?_
  refine w_iload_n gz_190_11 rfl ?_
  refine w_aload_n gz_190_12 rfl ?_
  refine w_aload_n gz_190_13 rfl ?_
  refine v_getI (j := 27) gz_190_14 rfl is_151 rd_10 rfl (fun v4 ev4 pv4 qv4 => ?_)
  have zv4 := ev4.trans ((my_up_role fh2 is_151 is_168 rfl).trans ek151_27.symm)
  refine w_iconst gz_190_17 (by decide) ?_
  refine w_isub gz_190_18 ⟨by omega, by omega⟩ ?_
  have ce5 : h2 151 7 = k151_7 := ((my_up_role fh2 is_151 is_168 rfl).trans ek151_7.symm)
  have ce6 : h2 151 27 = v4 := ev4.symm
  refine w_inv (k := 0) (as := [(0, (v4 - 1))]) (r := [(0, x1), (2, 170)]) (x := 151) (ls0 := [(2, 151), (0, (v4 - 1))]) gz_190_19 gm_187 rfl is_151 rd_10 rfl rfl rfl rfl rfl (c_Model_takeNumber9_f0 (d := (d + 1)) (x1 := (v4 - 1)) (by omega) (by omega) (((my_up_role fh2 is_151 is_168 rfl).trans cf).trans (by omega)) Tok_h2 (fun h7 frh7 w8 w9 xp10 xp11 Tok_h7t12 => ?_) (fun h13 v14 frh13 w15 w16 w17 w18 w19 xp20 xp21 xp22 xp23 xp24 xp25 xp26 xp27 Tok_h13t28 => ?_))
  ·
    have gh7 : my_fr [(10, 7), (10, 8), (67, -1), (68, -1), (69, -1)] h h7 := my_fr.tr gh2 (frh7.mo rfl)
    have Mq_h7 : Mq h7 wv := Mq_ag (my_ag.fr frh7 rfl) Mq_h2
    have Wd9_h7 : Wd9 h7 := Wd9_ag (my_ag.fr frh7 rfl) Wd9_h2
    have P6_h7 : h7 167 6 = h 167 6 := P6_ag (my_ag.fr frh7 rfl) P6_h2
    have Ko_h7 : Ko h h7 := Ko_ag (my_ag.fr frh7 rfl) Ko_h2
    show wp l rho (d + 3) 190 22 [(2, 151), (0, x1)] [(0, 0), (0, x1), (2, 170)] h7 Q
    have ps29 : h2 151 7 = h 151 7 := ((my_up_role fh2 is_151 is_168 rfl).trans (rfl : h 151 7 = h 151 7))
    rw [ps29] at xp10
    have tE30 : sm h2 = sm h := sm_eq (fun j => my_fr.at gh2 is_153 rfl) (fun j => my_fr.at gh2 is_154 rfl) (fun j => my_fr.at gh2 is_155 rfl)
    rw [tE30] at xp11
    rw [ps29] at xp11
    have hi31 : 0 ≤ 0 := by omega
    have hi32 : 0 ≤ 7 := by omega
    refine w_iast gz_190_22 is_170 rd_69 (by omega) (by omega) (by omega) (by omega) (fun h33 fh33 => ?_)
    have gh33 : my_fr [(10, 7), (10, 8), (67, -1), (68, -1), (69, -1)] h h33 := my_fr.up gh7 is_170 fh33 rfl
    have Mq_h33 : Mq h33 wv := Mq_u (a := 170) hwv (by decide) (by omega) fh33 Mq_h7
    have Wd9_h33 : Wd9 h33 := Wd9_ag (my_ag.up fh33 is_170 rfl) Wd9_h7
    have P6_h33 : h33 167 6 = h 167 6 := P6_ag (my_ag.up fh33 is_170 rfl) P6_h7
    have Ko_h33 : Ko h h33 := Ko_u (a := 170) hwv (by decide) (by omega) fh33 Ko_h7
    have Tok_h33 : Tok h33 := Tok_ag (my_ag.up fh33 is_170 rfl) Tok_h7t12
    have k170 := my_up_self fh33
    refine w_aload_n gz_190_23 rfl ?_
    refine w_bipush gz_190_24 (by decide) ?_
    have ce34 : h33 151 7 = h7 151 7 := ((my_up_role fh33 is_151 is_170 rfl).trans (rfl : h7 151 7 = h7 151 7))
    have ce35 : h33 151 27 = v4 := ((my_up_role fh33 is_151 is_170 rfl).trans ((my_fr.at frh7 is_151 rfl).trans ev4.symm))
    refine w_inv (k := 0) (as := [(0, 9)]) (r := []) (x := 151) (ls0 := [(2, 151), (0, 9)]) gz_190_26 gm_175 rfl is_151 rd_10 rfl rfl rfl rfl rfl (c_Model_takeWord9_f1 (d := d)  ((h7 151 8)) (((my_up_role fh33 is_151 is_170 rfl).trans (rfl : h7 151 8 = h7 151 8))) (by omega) (by omega) Tok_h33 Wd9_h33 (fun h36 frh36 w37 w38 xp39 xp40 Tok_h36t41 Wd9_h36t42 => ?_))
    have gh36 : my_fr [(10, 7), (10, 8), (67, -1), (68, -1), (69, -1)] h h36 := my_fr.tr gh33 (frh36.mo rfl)
    have Mq_h36 : Mq h36 wv := Mq_ag (my_ag.fr frh36 rfl) Mq_h33
    have Wd9_h36 : Wd9 h36 := Wd9_ag (my_ag.fr frh36 rfl) Wd9_h33
    have P6_h36 : h36 167 6 = h 167 6 := P6_ag (my_ag.fr frh36 rfl) P6_h33
    have Ko_h36 : Ko h h36 := Ko_ag (my_ag.fr frh36 rfl) Ko_h33
    show wp l rho (d + 3) 190 29 [(2, 151), (0, x1)] [] h36 Q
    have ps43 : h33 151 7 = ((h 151 7)) := ((my_up_role fh33 is_151 is_170 rfl).trans xp10)
    rw [ps43] at xp39
    rw [ps43] at xp40
    refine w_aload_n gz_190_29 rfl ?_
    refine v_getI (j := 8) gz_190_30 rfl is_151 rd_10 rfl (fun v44 ev44 pv44 qv44 => ?_)
    have zv44 := ev44.trans ((my_fr.at frh36 is_151 rfl).trans ((my_up_role fh33 is_151 is_170 rfl).trans (rfl : h7 151 8 = h7 151 8)))
    refine w_ifne (t := 74) gz_190_33 rfl (fun u45 => ?_) (fun u45 => by exfalso; omega)
    refine w_aload_n gz_190_74 rfl ?_
    refine w_getX (v := 169) gz_190_75 is_151 rd_10 rfl (by decide) rfl ?_
    refine w_iload_n gz_190_78 rfl ?_
    refine w_aload_n gz_190_79 rfl ?_
    refine w_aload_n gz_190_80 rfl ?_
    refine v_getI (j := 27) gz_190_81 rfl is_151 rd_10 rfl (fun v47 ev47 pv47 qv47 => ?_)
    have zv47 := ev47.trans ((my_fr.at frh36 is_151 rfl).trans ((my_up_role fh33 is_151 is_170 rfl).trans ((my_fr.at frh7 is_151 rfl).trans ev4.symm)))
    refine w_iconst gz_190_84 (by decide) ?_
    refine w_isub gz_190_85 ⟨by omega, by omega⟩ ?_
    have ce48 : h36 151 27 = v47 := ev47.symm
    refine w_inv (k := 0) (as := [(0, (v47 - 1))]) (r := [(0, x1), (2, 169)]) (x := 151) (ls0 := [(2, 151), (0, (v47 - 1))]) gz_190_86 gm_187 rfl is_151 rd_10 rfl rfl rfl rfl rfl (c_Model_takeNumber9_f1 (d := (d + 1)) (x1 := (v47 - 1)) (by omega) (by omega) (v44) (ev44.symm) (by omega) (by omega) Tok_h36t41 (fun w49 w50 xp51 Tok_h36t52 => ?_))
    show wp l rho (d + 3) 190 89 [(2, 151), (0, x1)] [(0, 0), (0, x1), (2, 169)] h36 Q
    have ps53 : h36 151 7 = ((((h 151 7)))) := xp40
    rw [ps53] at xp51
    have hi54 : 0 ≤ 0 := by omega
    have hi55 : 0 ≤ 7 := by omega
    refine w_iast gz_190_89 is_169 rd_68 (by omega) (by omega) (by omega) (by omega) (fun h56 fh56 => ?_)
    have gh56 : my_fr [(10, 7), (10, 8), (67, -1), (68, -1), (69, -1)] h h56 := my_fr.up gh36 is_169 fh56 rfl
    have Mq_h56 : Mq h56 wv := Mq_u (a := 169) hwv (by decide) (by omega) fh56 Mq_h36
    have Wd9_h56 : Wd9 h56 := Wd9_ag (my_ag.up fh56 is_169 rfl) Wd9_h36t42
    have P6_h56 : h56 167 6 = h 167 6 := P6_ag (my_ag.up fh56 is_169 rfl) P6_h36
    have Ko_h56 : Ko h h56 := Ko_u (a := 169) hwv (by decide) (by omega) fh56 Ko_h36
    have Tok_h56 : Tok h56 := Tok_ag (my_ag.up fh56 is_169 rfl) Tok_h36t52
    have k169 := my_up_self fh56
    have psR : h56 151 7 = ((((h 151 7)))) := ((my_up_role fh56 is_151 is_169 rfl).trans xp40)
    have npsR : sm h56 = sm h := sm_eq (fun j => my_fr.at gh56 is_153 rfl) (fun j => my_fr.at gh56 is_154 rfl) (fun j => my_fr.at gh56 is_155 rfl)
    have ce57 : h56 151 7 = h36 151 7 := ((my_up_role fh56 is_151 is_169 rfl).trans (rfl : h36 151 7 = h36 151 7))
    have ce58 : h56 151 27 = v47 := ((my_up_role fh56 is_151 is_169 rfl).trans ev47.symm)
    have a168 : ∀ j : Int, h56 168 j = h2 168 j := fun j => ((my_up_role fh56 is_168 is_169 rfl).trans ((my_fr.at frh36 is_168 rfl).trans ((my_up_role fh33 is_168 is_170 rfl).trans ((my_fr.at frh7 is_168 rfl).trans (rfl : h2 168 j = h2 168 j)))))
    have a170 : ∀ j : Int, h56 170 j = h33 170 j := fun j => ((my_up_role fh56 is_170 is_169 rfl).trans ((my_fr.at frh36 is_170 rfl).trans (rfl : h33 170 j = h33 170 j)))
    have a169 : ∀ j : Int, h56 169 j = h56 169 j := fun _ => rfl
    have c59 := ((my_up_role fh56 is_151 is_169 rfl).trans ev44.symm)
    exact w_vret gz_190_90 gm_190 (k0 h56 (gh56) (by omega) (by omega) (by first | exact Ko_h56 | (rw [a168]; exact k168) | (unfold sumM; first | exact Or.inr (Or.inr ⟨by omega, by omega, Or.inr ⟨by omega, Or.inr ⟨by omega, Or.inr (Or.inr ⟨by omega, by omega, ⟨by omega, by omega⟩⟩)⟩⟩⟩) | exact Or.inr (Or.inr ⟨by omega, by omega, Or.inr ⟨by omega, Or.inr ⟨by omega, Or.inr (Or.inl ⟨by omega, by omega, by omega⟩)⟩⟩⟩) | exact Or.inr (Or.inr ⟨by omega, by omega, Or.inr ⟨by omega, Or.inr ⟨by omega, Or.inl ⟨by omega, by omega⟩⟩⟩⟩) | exact Or.inr (Or.inr ⟨by omega, by omega, Or.inr ⟨by omega, Or.inl ⟨by omega, by omega, by omega⟩⟩⟩) | exact Or.inr (Or.inr ⟨by omega, by omega, Or.inl ⟨by omega, by omega⟩⟩) | exact Or.inr (Or.inl ⟨by omega, by omega, by omega⟩) | exact Or.inl ⟨by omega, by omega⟩) | omega | (refine ⟨fun q => ?_, fun q => ?_⟩ <;> first | (rw [a168, k168] at q; omega) | (rw [a170, k170]; omega)) | (refine ⟨fun q => ?_, fun q => ?_, fun q => ?_⟩ <;> first | (exfalso; rw [a168, k168] at q; omega) | (rw [a169, k169]; omega) | (rw [a170, k170]; omega)) | omega) (by first | exact Ko_h56 | (rw [a168]; exact k168) | (unfold sumM; first | exact Or.inr (Or.inr ⟨by omega, by omega, Or.inr ⟨by omega, Or.inr ⟨by omega, Or.inr (Or.inr ⟨by omega, by omega, ⟨by omega, by omega⟩⟩)⟩⟩⟩) | exact Or.inr (Or.inr ⟨by omega, by omega, Or.inr ⟨by omega, Or.inr ⟨by omega, Or.inr (Or.inl ⟨by omega, by omega, by omega⟩)⟩⟩⟩) | exact Or.inr (Or.inr ⟨by omega, by omega, Or.inr ⟨by omega, Or.inr ⟨by omega, Or.inl ⟨by omega, by omega⟩⟩⟩⟩) | exact Or.inr (Or.inr ⟨by omega, by omega, Or.inr ⟨by omega, Or.inl ⟨by omega, by omega, by omega⟩⟩⟩) | exact Or.inr (Or.inr ⟨by omega, by omega, Or.inl ⟨by omega, by omega⟩⟩) | exact Or.inr (Or.inl ⟨by omega, by omega, by omega⟩) | exact Or.inl ⟨by omega, by omega⟩) | omega | (refine ⟨fun q => ?_, fun q => ?_⟩ <;> first | (rw [a168, k168] at q; omega) | (rw [a170, k170]; omega)) | (refine ⟨fun q => ?_, fun q => ?_, fun q => ?_⟩ <;> first | (exfalso; rw [a168, k168] at q; omega) | (rw [a169, k169]; omega) | (rw [a170, k170]; omega)) | omega) (by first | exact Ko_h56 | (rw [a168]; exact k168) | (unfold sumM; first | exact Or.inr (Or.inr ⟨by omega, by omega, Or.inr ⟨by omega, Or.inr ⟨by omega, Or.inr (Or.inr ⟨by omega, by omega, ⟨by omega, by omega⟩⟩)⟩⟩⟩) | exact Or.inr (Or.inr ⟨by omega, by omega, Or.inr ⟨by omega, Or.inr ⟨by omega, Or.inr (Or.inl ⟨by omega, by omega, by omega⟩)⟩⟩⟩) | exact Or.inr (Or.inr ⟨by omega, by omega, Or.inr ⟨by omega, Or.inr ⟨by omega, Or.inl ⟨by omega, by omega⟩⟩⟩⟩) | exact Or.inr (Or.inr ⟨by omega, by omega, Or.inr ⟨by omega, Or.inl ⟨by omega, by omega, by omega⟩⟩⟩) | exact Or.inr (Or.inr ⟨by omega, by omega, Or.inl ⟨by omega, by omega⟩⟩) | exact Or.inr (Or.inl ⟨by omega, by omega, by omega⟩) | exact Or.inl ⟨by omega, by omega⟩) | omega | (refine ⟨fun q => ?_, fun q => ?_⟩ <;> first | (rw [a168, k168] at q; omega) | (rw [a170, k170]; omega)) | (refine ⟨fun q => ?_, fun q => ?_, fun q => ?_⟩ <;> first | (exfalso; rw [a168, k168] at q; omega) | (rw [a169, k169]; omega) | (rw [a170, k170]; omega)) | omega) Tok_h56 Mq_h56 Wd9_h56)
  ·
    have gh13 : my_fr [(10, 7), (10, 8), (67, -1), (68, -1), (69, -1)] h h13 := my_fr.tr gh2 (frh13.mo rfl)
    have Mq_h13 : Mq h13 wv := Mq_ag (my_ag.fr frh13 rfl) Mq_h2
    have Wd9_h13 : Wd9 h13 := Wd9_ag (my_ag.fr frh13 rfl) Wd9_h2
    have P6_h13 : h13 167 6 = h 167 6 := P6_ag (my_ag.fr frh13 rfl) P6_h2
    have Ko_h13 : Ko h h13 := Ko_ag (my_ag.fr frh13 rfl) Ko_h2
    show wp l rho (d + 3) 190 22 [(2, 151), (0, x1)] [(0, v14), (0, x1), (2, 170)] h13 Q
    have ps60 : h2 151 7 = h 151 7 := ((my_up_role fh2 is_151 is_168 rfl).trans (rfl : h 151 7 = h 151 7))
    rw [ps60] at xp22
    rw [ps60] at xp23
    rw [ps60] at xp24
    have tE61 : sm h2 = sm h := sm_eq (fun j => my_fr.at gh2 is_153 rfl) (fun j => my_fr.at gh2 is_154 rfl) (fun j => my_fr.at gh2 is_155 rfl)
    rw [tE61] at xp25
    rw [ps60] at xp25
    rw [tE61] at xp26
    rw [ps60] at xp26
    rw [tE61] at xp27
    rw [ps60] at xp27
    have hi62 : 0 ≤ v14 := by omega
    have hi63 : v14 ≤ 7 := by omega
    refine w_iast gz_190_22 is_170 rd_69 (by omega) (by omega) (by omega) (by omega) (fun h64 fh64 => ?_)
    have gh64 : my_fr [(10, 7), (10, 8), (67, -1), (68, -1), (69, -1)] h h64 := my_fr.up gh13 is_170 fh64 rfl
    have Mq_h64 : Mq h64 wv := Mq_u (a := 170) hwv (by decide) (by omega) fh64 Mq_h13
    have Wd9_h64 : Wd9 h64 := Wd9_ag (my_ag.up fh64 is_170 rfl) Wd9_h13
    have P6_h64 : h64 167 6 = h 167 6 := P6_ag (my_ag.up fh64 is_170 rfl) P6_h13
    have Ko_h64 : Ko h h64 := Ko_u (a := 170) hwv (by decide) (by omega) fh64 Ko_h13
    have Tok_h64 : Tok h64 := Tok_ag (my_ag.up fh64 is_170 rfl) Tok_h13t28
    have k170 := my_up_self fh64
    refine w_aload_n gz_190_23 rfl ?_
    refine w_bipush gz_190_24 (by decide) ?_
    have ce65 : h64 151 7 = (h13 151 7) := ((my_up_role fh64 is_151 is_170 rfl).trans (rfl : h13 151 7 = h13 151 7))
    have ce66 : h64 151 27 = v4 := ((my_up_role fh64 is_151 is_170 rfl).trans ((my_fr.at frh13 is_151 rfl).trans ev4.symm))
    refine w_inv (k := 0) (as := [(0, 9)]) (r := []) (x := 151) (ls0 := [(2, 151), (0, 9)]) gz_190_26 gm_175 rfl is_151 rd_10 rfl rfl rfl rfl rfl (c_Model_takeWord9_f0 (d := d) (x1 := 9) (by omega) (by omega) (((my_up_role fh64 is_151 is_170 rfl).trans w19).trans (by omega)) Tok_h64 Wd9_h64 (fun h67 frh67 w68 w69 xp70 xp71 xp72 Tok_h67t73 Wd9_h67t74 => ?_) (fun h75 frh75 w76 w77 w78 xp79 xp80 xp81 Tok_h75t82 Wd9_h75t83 => ?_))
    ·
      have gh67 : my_fr [(10, 7), (10, 8), (67, -1), (68, -1), (69, -1)] h h67 := my_fr.tr gh64 (frh67.mo rfl)
      have Mq_h67 : Mq h67 wv := Mq_ag (my_ag.fr frh67 rfl) Mq_h64
      have Wd9_h67 : Wd9 h67 := Wd9_ag (my_ag.fr frh67 rfl) Wd9_h64
      have P6_h67 : h67 167 6 = h 167 6 := P6_ag (my_ag.fr frh67 rfl) P6_h64
      have Ko_h67 : Ko h h67 := Ko_ag (my_ag.fr frh67 rfl) Ko_h64
      show wp l rho (d + 3) 190 29 [(2, 151), (0, x1)] [] h67 Q
      have ps84 : h64 151 7 = (sN (sm h) ((h 151 7))) := ((my_up_role fh64 is_151 is_170 rfl).trans xp25)
      rw [ps84] at xp70
      rw [show wm 9 = 99 from by decide] at xp71
      have tE85 : sm h64 = sm h := sm_eq (fun j => my_fr.at gh64 is_153 rfl) (fun j => my_fr.at gh64 is_154 rfl) (fun j => my_fr.at gh64 is_155 rfl)
      rw [tE85] at xp71
      rw [ps84] at xp71
      rw [tE85] at xp72
      rw [ps84] at xp72
      refine w_aload_n gz_190_29 rfl ?_
      refine v_getI (j := 8) gz_190_30 rfl is_151 rd_10 rfl (fun v86 ev86 pv86 qv86 => ?_)
      have zv86 := ev86.trans (rfl : h67 151 8 = h67 151 8)
      refine w_ifne (t := 74) gz_190_33 rfl (fun u87 => ?_) (fun u87 => by exfalso; omega)
      refine w_aload_n gz_190_74 rfl ?_
      refine w_getX (v := 169) gz_190_75 is_151 rd_10 rfl (by decide) rfl ?_
      refine w_iload_n gz_190_78 rfl ?_
      refine w_aload_n gz_190_79 rfl ?_
      refine w_aload_n gz_190_80 rfl ?_
      refine v_getI (j := 27) gz_190_81 rfl is_151 rd_10 rfl (fun v89 ev89 pv89 qv89 => ?_)
      have zv89 := ev89.trans ((my_fr.at frh67 is_151 rfl).trans ((my_up_role fh64 is_151 is_170 rfl).trans ((my_fr.at frh13 is_151 rfl).trans ev4.symm)))
      refine w_iconst gz_190_84 (by decide) ?_
      refine w_isub gz_190_85 ⟨by omega, by omega⟩ ?_
      have ce90 : h67 151 27 = v89 := ev89.symm
      refine w_inv (k := 0) (as := [(0, (v89 - 1))]) (r := [(0, x1), (2, 169)]) (x := 151) (ls0 := [(2, 151), (0, (v89 - 1))]) gz_190_86 gm_187 rfl is_151 rd_10 rfl rfl rfl rfl rfl (c_Model_takeNumber9_f1 (d := (d + 1)) (x1 := (v89 - 1)) (by omega) (by omega) (v86) (ev86.symm) (by omega) (by omega) Tok_h67t73 (fun w91 w92 xp93 Tok_h67t94 => ?_))
      show wp l rho (d + 3) 190 89 [(2, 151), (0, x1)] [(0, 0), (0, x1), (2, 169)] h67 Q
      have hi95 : 0 ≤ 0 := by omega
      have hi96 : 0 ≤ 7 := by omega
      refine w_iast gz_190_89 is_169 rd_68 (by omega) (by omega) (by omega) (by omega) (fun h97 fh97 => ?_)
      have gh97 : my_fr [(10, 7), (10, 8), (67, -1), (68, -1), (69, -1)] h h97 := my_fr.up gh67 is_169 fh97 rfl
      have Mq_h97 : Mq h97 wv := Mq_u (a := 169) hwv (by decide) (by omega) fh97 Mq_h67
      have Wd9_h97 : Wd9 h97 := Wd9_ag (my_ag.up fh97 is_169 rfl) Wd9_h67t74
      have P6_h97 : h97 167 6 = h 167 6 := P6_ag (my_ag.up fh97 is_169 rfl) P6_h67
      have Ko_h97 : Ko h h97 := Ko_u (a := 169) hwv (by decide) (by omega) fh97 Ko_h67
      have Tok_h97 : Tok h97 := Tok_ag (my_ag.up fh97 is_169 rfl) Tok_h67t94
      have k169 := my_up_self fh97
      have psR : h97 151 7 = h67 151 7 := ((my_up_role fh97 is_151 is_169 rfl).trans (rfl : h67 151 7 = h67 151 7))
      have npsR : sm h97 = sm h := sm_eq (fun j => my_fr.at gh97 is_153 rfl) (fun j => my_fr.at gh97 is_154 rfl) (fun j => my_fr.at gh97 is_155 rfl)
      have ce98 : h97 151 7 = h67 151 7 := ((my_up_role fh97 is_151 is_169 rfl).trans (rfl : h67 151 7 = h67 151 7))
      have ce99 : h97 151 27 = v89 := ((my_up_role fh97 is_151 is_169 rfl).trans ev89.symm)
      have a168 : ∀ j : Int, h97 168 j = h2 168 j := fun j => ((my_up_role fh97 is_168 is_169 rfl).trans ((my_fr.at frh67 is_168 rfl).trans ((my_up_role fh64 is_168 is_170 rfl).trans ((my_fr.at frh13 is_168 rfl).trans (rfl : h2 168 j = h2 168 j)))))
      have a170 : ∀ j : Int, h97 170 j = h64 170 j := fun j => ((my_up_role fh97 is_170 is_169 rfl).trans ((my_fr.at frh67 is_170 rfl).trans (rfl : h64 170 j = h64 170 j)))
      have a169 : ∀ j : Int, h97 169 j = h97 169 j := fun _ => rfl
      have c100 := ((my_up_role fh97 is_151 is_169 rfl).trans ev86.symm)
      exact w_vret gz_190_90 gm_190 (k0 h97 (gh97) (by omega) (by omega) (by first | exact Ko_h97 | (rw [a168]; exact k168) | (unfold sumM; first | exact Or.inr (Or.inr ⟨by omega, by omega, Or.inr ⟨by omega, Or.inr ⟨by omega, Or.inr (Or.inr ⟨by omega, by omega, ⟨by omega, by omega⟩⟩)⟩⟩⟩) | exact Or.inr (Or.inr ⟨by omega, by omega, Or.inr ⟨by omega, Or.inr ⟨by omega, Or.inr (Or.inl ⟨by omega, by omega, by omega⟩)⟩⟩⟩) | exact Or.inr (Or.inr ⟨by omega, by omega, Or.inr ⟨by omega, Or.inr ⟨by omega, Or.inl ⟨by omega, by omega⟩⟩⟩⟩) | exact Or.inr (Or.inr ⟨by omega, by omega, Or.inr ⟨by omega, Or.inl ⟨by omega, by omega, by omega⟩⟩⟩) | exact Or.inr (Or.inr ⟨by omega, by omega, Or.inl ⟨by omega, by omega⟩⟩) | exact Or.inr (Or.inl ⟨by omega, by omega, by omega⟩) | exact Or.inl ⟨by omega, by omega⟩) | omega | (refine ⟨fun q => ?_, fun q => ?_⟩ <;> first | (rw [a168, k168] at q; omega) | (rw [a170, k170]; omega)) | (refine ⟨fun q => ?_, fun q => ?_, fun q => ?_⟩ <;> first | (exfalso; rw [a168, k168] at q; omega) | (rw [a169, k169]; omega) | (rw [a170, k170]; omega)) | omega) (by first | exact Ko_h97 | (rw [a168]; exact k168) | (unfold sumM; first | exact Or.inr (Or.inr ⟨by omega, by omega, Or.inr ⟨by omega, Or.inr ⟨by omega, Or.inr (Or.inr ⟨by omega, by omega, ⟨by omega, by omega⟩⟩)⟩⟩⟩) | exact Or.inr (Or.inr ⟨by omega, by omega, Or.inr ⟨by omega, Or.inr ⟨by omega, Or.inr (Or.inl ⟨by omega, by omega, by omega⟩)⟩⟩⟩) | exact Or.inr (Or.inr ⟨by omega, by omega, Or.inr ⟨by omega, Or.inr ⟨by omega, Or.inl ⟨by omega, by omega⟩⟩⟩⟩) | exact Or.inr (Or.inr ⟨by omega, by omega, Or.inr ⟨by omega, Or.inl ⟨by omega, by omega, by omega⟩⟩⟩) | exact Or.inr (Or.inr ⟨by omega, by omega, Or.inl ⟨by omega, by omega⟩⟩) | exact Or.inr (Or.inl ⟨by omega, by omega, by omega⟩) | exact Or.inl ⟨by omega, by omega⟩) | omega | (refine ⟨fun q => ?_, fun q => ?_⟩ <;> first | (rw [a168, k168] at q; omega) | (rw [a170, k170]; omega)) | (refine ⟨fun q => ?_, fun q => ?_, fun q => ?_⟩ <;> first | (exfalso; rw [a168, k168] at q; omega) | (rw [a169, k169]; omega) | (rw [a170, k170]; omega)) | omega) (by first | exact Ko_h97 | (rw [a168]; exact k168) | (unfold sumM; first | exact Or.inr (Or.inr ⟨by omega, by omega, Or.inr ⟨by omega, Or.inr ⟨by omega, Or.inr (Or.inr ⟨by omega, by omega, ⟨by omega, by omega⟩⟩)⟩⟩⟩) | exact Or.inr (Or.inr ⟨by omega, by omega, Or.inr ⟨by omega, Or.inr ⟨by omega, Or.inr (Or.inl ⟨by omega, by omega, by omega⟩)⟩⟩⟩) | exact Or.inr (Or.inr ⟨by omega, by omega, Or.inr ⟨by omega, Or.inr ⟨by omega, Or.inl ⟨by omega, by omega⟩⟩⟩⟩) | exact Or.inr (Or.inr ⟨by omega, by omega, Or.inr ⟨by omega, Or.inl ⟨by omega, by omega, by omega⟩⟩⟩) | exact Or.inr (Or.inr ⟨by omega, by omega, Or.inl ⟨by omega, by omega⟩⟩) | exact Or.inr (Or.inl ⟨by omega, by omega, by omega⟩) | exact Or.inl ⟨by omega, by omega⟩) | omega | (refine ⟨fun q => ?_, fun q => ?_⟩ <;> first | (rw [a168, k168] at q; omega) | (rw [a170, k170]; omega)) | (refine ⟨fun q => ?_, fun q => ?_, fun q => ?_⟩ <;> first | (exfalso; rw [a168, k168] at q; omega) | (rw [a169, k169]; omega) | (rw [a170, k170]; omega)) | omega) Tok_h97 Mq_h97 Wd9_h97)
    ·
      have gh75 : my_fr [(10, 7), (10, 8), (67, -1), (68, -1), (69, -1)] h h75 := my_fr.tr gh64 (frh75.mo rfl)
      have Mq_h75 : Mq h75 wv := Mq_ag (my_ag.fr frh75 rfl) Mq_h64
      have Wd9_h75 : Wd9 h75 := Wd9_ag (my_ag.fr frh75 rfl) Wd9_h64
      have P6_h75 : h75 167 6 = h 167 6 := P6_ag (my_ag.fr frh75 rfl) P6_h64
      have Ko_h75 : Ko h h75 := Ko_ag (my_ag.fr frh75 rfl) Ko_h64
      show wp l rho (d + 3) 190 29 [(2, 151), (0, x1)] [] h75 Q
      have ps101 : h64 151 7 = (sN (sm h) ((h 151 7))) := ((my_up_role fh64 is_151 is_170 rfl).trans xp25)
      rw [ps101] at xp79
      have tE102 : sm h64 = sm h := sm_eq (fun j => my_fr.at gh64 is_153 rfl) (fun j => my_fr.at gh64 is_154 rfl) (fun j => my_fr.at gh64 is_155 rfl)
      rw [tE102] at xp80
      rw [ps101] at xp80
      rw [show wm 9 = 99 from by decide] at xp81
      rw [tE102] at xp81
      rw [ps101] at xp81
      refine w_aload_n gz_190_29 rfl ?_
      refine v_getI (j := 8) gz_190_30 rfl is_151 rd_10 rfl (fun v103 ev103 pv103 qv103 => ?_)
      have zv103 := ev103.trans w78
      refine w_ifne (t := 74) gz_190_33 rfl (fun u104 => by exfalso; omega) (fun u104 => ?_)
      refine w_aload_n gz_190_36 rfl ?_
      refine w_getX (v := 153) gz_190_37 is_151 rd_10 rfl (by decide) rfl ?_
      refine w_aload_n gz_190_40 rfl ?_
      refine v_getI (j := 7) gz_190_41 rfl is_151 rd_10 rfl (fun v106 ev106 pv106 qv106 => ?_)
      have zv106 := ev106.trans (rfl : h75 151 7 = h75 151 7)
      refine w_iald gz_190_44 is_153 rd_52 (by omega) (by omega) (fun v107 ev107 pv107 qv107 => ?_)
      have nz108a : h75 151 7 = (sN (sm h) (((sN (sm h) ((h 151 7)))))) := xp80
      have nz108 : (v107 ≠ 3 → sK (sm h) (sN (sm h) (((sN (sm h) ((h 151 7)))))) = v107) ∧ (v107 = 3 → sV (sm h) (sN (sm h) (((sN (sm h) ((h 151 7)))))) = 59 → sK (sm h) (sN (sm h) (((sN (sm h) ((h 151 7)))))) = 3) ∧ (v107 = 3 → sV (sm h) (sN (sm h) (((sN (sm h) ((h 151 7)))))) ≠ 59 → sK (sm h) (sN (sm h) (((sN (sm h) ((h 151 7)))))) = 4) := by
        have q := ev107.trans (my_fr.at (j := v106) gh75 is_153 rfl)
        rw [show (v106 : Int) = (sN (sm h) (((sN (sm h) ((h 151 7)))))) from by omega] at q
        exact sK_ld q
      refine w_iconst gz_190_45 (by decide) ?_
      refine w_icne (t := 74) gz_190_46 rfl (fun u109 => ?_) (fun u109 => ?_)
      ·
        refine w_aload_n gz_190_74 rfl ?_
        refine w_getX (v := 169) gz_190_75 is_151 rd_10 rfl (by decide) rfl ?_
        refine w_iload_n gz_190_78 rfl ?_
        refine w_aload_n gz_190_79 rfl ?_
        refine w_aload_n gz_190_80 rfl ?_
        refine v_getI (j := 27) gz_190_81 rfl is_151 rd_10 rfl (fun v111 ev111 pv111 qv111 => ?_)
        have zv111 := ev111.trans ((my_fr.at frh75 is_151 rfl).trans ((my_up_role fh64 is_151 is_170 rfl).trans ((my_fr.at frh13 is_151 rfl).trans ev4.symm)))
        refine w_iconst gz_190_84 (by decide) ?_
        refine w_isub gz_190_85 ⟨by omega, by omega⟩ ?_
        have ce112 : h75 151 7 = v106 := ev106.symm
        have ce113 : h75 151 27 = v111 := ev111.symm
        refine w_inv (k := 0) (as := [(0, (v111 - 1))]) (r := [(0, x1), (2, 169)]) (x := 151) (ls0 := [(2, 151), (0, (v111 - 1))]) gz_190_86 gm_187 rfl is_151 rd_10 rfl rfl rfl rfl rfl (c_Model_takeNumber9_f0 (d := (d + 1)) (x1 := (v111 - 1)) (by omega) (by omega) (ev103.symm.trans (by omega)) Tok_h75t82 (fun h114 frh114 w115 w116 xp117 xp118 Tok_h114t119 => ?_) (fun h120 v121 frh120 w122 w123 w124 w125 w126 xp127 xp128 xp129 xp130 xp131 xp132 xp133 xp134 Tok_h120t135 => ?_))
        ·
          have gh114 : my_fr [(10, 7), (10, 8), (67, -1), (68, -1), (69, -1)] h h114 := my_fr.tr gh75 (frh114.mo rfl)
          have Mq_h114 : Mq h114 wv := Mq_ag (my_ag.fr frh114 rfl) Mq_h75
          have Wd9_h114 : Wd9 h114 := Wd9_ag (my_ag.fr frh114 rfl) Wd9_h75t83
          have P6_h114 : h114 167 6 = h 167 6 := P6_ag (my_ag.fr frh114 rfl) P6_h75
          have Ko_h114 : Ko h h114 := Ko_ag (my_ag.fr frh114 rfl) Ko_h75
          show wp l rho (d + 3) 190 89 [(2, 151), (0, x1)] [(0, 0), (0, x1), (2, 169)] h114 Q
          have ps136 : h75 151 7 = (sN (sm h) (((sN (sm h) ((h 151 7)))))) := xp80
          rw [ps136] at xp117
          have tE137 : sm h75 = sm h := sm_eq (fun j => my_fr.at gh75 is_153 rfl) (fun j => my_fr.at gh75 is_154 rfl) (fun j => my_fr.at gh75 is_155 rfl)
          rw [tE137] at xp118
          rw [ps136] at xp118
          have hi138 : 0 ≤ 0 := by omega
          have hi139 : 0 ≤ 7 := by omega
          refine w_iast gz_190_89 is_169 rd_68 (by omega) (by omega) (by omega) (by omega) (fun h140 fh140 => ?_)
          have gh140 : my_fr [(10, 7), (10, 8), (67, -1), (68, -1), (69, -1)] h h140 := my_fr.up gh114 is_169 fh140 rfl
          have Mq_h140 : Mq h140 wv := Mq_u (a := 169) hwv (by decide) (by omega) fh140 Mq_h114
          have Wd9_h140 : Wd9 h140 := Wd9_ag (my_ag.up fh140 is_169 rfl) Wd9_h114
          have P6_h140 : h140 167 6 = h 167 6 := P6_ag (my_ag.up fh140 is_169 rfl) P6_h114
          have Ko_h140 : Ko h h140 := Ko_u (a := 169) hwv (by decide) (by omega) fh140 Ko_h114
          have Tok_h140 : Tok h140 := Tok_ag (my_ag.up fh140 is_169 rfl) Tok_h114t119
          have k169 := my_up_self fh140
          have psR : h140 151 7 = (((sN (sm h) (((sN (sm h) ((h 151 7)))))))) := ((my_up_role fh140 is_151 is_169 rfl).trans xp117)
          have npsR : sm h140 = sm h := sm_eq (fun j => my_fr.at gh140 is_153 rfl) (fun j => my_fr.at gh140 is_154 rfl) (fun j => my_fr.at gh140 is_155 rfl)
          have ce141 : h140 151 7 = h114 151 7 := ((my_up_role fh140 is_151 is_169 rfl).trans (rfl : h114 151 7 = h114 151 7))
          have ce142 : h140 151 27 = v111 := ((my_up_role fh140 is_151 is_169 rfl).trans ((my_fr.at frh114 is_151 rfl).trans ev111.symm))
          have a168 : ∀ j : Int, h140 168 j = h2 168 j := fun j => ((my_up_role fh140 is_168 is_169 rfl).trans ((my_fr.at frh114 is_168 rfl).trans ((my_fr.at frh75 is_168 rfl).trans ((my_up_role fh64 is_168 is_170 rfl).trans ((my_fr.at frh13 is_168 rfl).trans (rfl : h2 168 j = h2 168 j))))))
          have a170 : ∀ j : Int, h140 170 j = h64 170 j := fun j => ((my_up_role fh140 is_170 is_169 rfl).trans ((my_fr.at frh114 is_170 rfl).trans ((my_fr.at frh75 is_170 rfl).trans (rfl : h64 170 j = h64 170 j))))
          have a169 : ∀ j : Int, h140 169 j = h140 169 j := fun _ => rfl
          have c143 := ((my_up_role fh140 is_151 is_169 rfl).trans (rfl : h114 151 8 = h114 151 8))
          exact w_vret gz_190_90 gm_190 (k0 h140 (gh140) (by omega) (by omega) (by first | exact Ko_h140 | (rw [a168]; exact k168) | (unfold sumM; first | exact Or.inr (Or.inr ⟨by omega, by omega, Or.inr ⟨by omega, Or.inr ⟨by omega, Or.inr (Or.inr ⟨by omega, by omega, ⟨by omega, by omega⟩⟩)⟩⟩⟩) | exact Or.inr (Or.inr ⟨by omega, by omega, Or.inr ⟨by omega, Or.inr ⟨by omega, Or.inr (Or.inl ⟨by omega, by omega, by omega⟩)⟩⟩⟩) | exact Or.inr (Or.inr ⟨by omega, by omega, Or.inr ⟨by omega, Or.inr ⟨by omega, Or.inl ⟨by omega, by omega⟩⟩⟩⟩) | exact Or.inr (Or.inr ⟨by omega, by omega, Or.inr ⟨by omega, Or.inl ⟨by omega, by omega, by omega⟩⟩⟩) | exact Or.inr (Or.inr ⟨by omega, by omega, Or.inl ⟨by omega, by omega⟩⟩) | exact Or.inr (Or.inl ⟨by omega, by omega, by omega⟩) | exact Or.inl ⟨by omega, by omega⟩) | omega | (refine ⟨fun q => ?_, fun q => ?_⟩ <;> first | (rw [a168, k168] at q; omega) | (rw [a170, k170]; omega)) | (refine ⟨fun q => ?_, fun q => ?_, fun q => ?_⟩ <;> first | (exfalso; rw [a168, k168] at q; omega) | (rw [a169, k169]; omega) | (rw [a170, k170]; omega)) | omega) (by first | exact Ko_h140 | (rw [a168]; exact k168) | (unfold sumM; first | exact Or.inr (Or.inr ⟨by omega, by omega, Or.inr ⟨by omega, Or.inr ⟨by omega, Or.inr (Or.inr ⟨by omega, by omega, ⟨by omega, by omega⟩⟩)⟩⟩⟩) | exact Or.inr (Or.inr ⟨by omega, by omega, Or.inr ⟨by omega, Or.inr ⟨by omega, Or.inr (Or.inl ⟨by omega, by omega, by omega⟩)⟩⟩⟩) | exact Or.inr (Or.inr ⟨by omega, by omega, Or.inr ⟨by omega, Or.inr ⟨by omega, Or.inl ⟨by omega, by omega⟩⟩⟩⟩) | exact Or.inr (Or.inr ⟨by omega, by omega, Or.inr ⟨by omega, Or.inl ⟨by omega, by omega, by omega⟩⟩⟩) | exact Or.inr (Or.inr ⟨by omega, by omega, Or.inl ⟨by omega, by omega⟩⟩) | exact Or.inr (Or.inl ⟨by omega, by omega, by omega⟩) | exact Or.inl ⟨by omega, by omega⟩) | omega | (refine ⟨fun q => ?_, fun q => ?_⟩ <;> first | (rw [a168, k168] at q; omega) | (rw [a170, k170]; omega)) | (refine ⟨fun q => ?_, fun q => ?_, fun q => ?_⟩ <;> first | (exfalso; rw [a168, k168] at q; omega) | (rw [a169, k169]; omega) | (rw [a170, k170]; omega)) | omega) (by first | exact Ko_h140 | (rw [a168]; exact k168) | (unfold sumM; first | exact Or.inr (Or.inr ⟨by omega, by omega, Or.inr ⟨by omega, Or.inr ⟨by omega, Or.inr (Or.inr ⟨by omega, by omega, ⟨by omega, by omega⟩⟩)⟩⟩⟩) | exact Or.inr (Or.inr ⟨by omega, by omega, Or.inr ⟨by omega, Or.inr ⟨by omega, Or.inr (Or.inl ⟨by omega, by omega, by omega⟩)⟩⟩⟩) | exact Or.inr (Or.inr ⟨by omega, by omega, Or.inr ⟨by omega, Or.inr ⟨by omega, Or.inl ⟨by omega, by omega⟩⟩⟩⟩) | exact Or.inr (Or.inr ⟨by omega, by omega, Or.inr ⟨by omega, Or.inl ⟨by omega, by omega, by omega⟩⟩⟩) | exact Or.inr (Or.inr ⟨by omega, by omega, Or.inl ⟨by omega, by omega⟩⟩) | exact Or.inr (Or.inl ⟨by omega, by omega, by omega⟩) | exact Or.inl ⟨by omega, by omega⟩) | omega | (refine ⟨fun q => ?_, fun q => ?_⟩ <;> first | (rw [a168, k168] at q; omega) | (rw [a170, k170]; omega)) | (refine ⟨fun q => ?_, fun q => ?_, fun q => ?_⟩ <;> first | (exfalso; rw [a168, k168] at q; omega) | (rw [a169, k169]; omega) | (rw [a170, k170]; omega)) | omega) Tok_h140 Mq_h140 Wd9_h140)
        ·
          have gh120 : my_fr [(10, 7), (10, 8), (67, -1), (68, -1), (69, -1)] h h120 := my_fr.tr gh75 (frh120.mo rfl)
          have Mq_h120 : Mq h120 wv := Mq_ag (my_ag.fr frh120 rfl) Mq_h75
          have Wd9_h120 : Wd9 h120 := Wd9_ag (my_ag.fr frh120 rfl) Wd9_h75t83
          have P6_h120 : h120 167 6 = h 167 6 := P6_ag (my_ag.fr frh120 rfl) P6_h75
          have Ko_h120 : Ko h h120 := Ko_ag (my_ag.fr frh120 rfl) Ko_h75
          show wp l rho (d + 3) 190 89 [(2, 151), (0, x1)] [(0, v121), (0, x1), (2, 169)] h120 Q
          have ps144 : h75 151 7 = (sN (sm h) (((sN (sm h) ((h 151 7)))))) := xp80
          rw [ps144] at xp129
          rw [ps144] at xp130
          rw [ps144] at xp131
          have tE145 : sm h75 = sm h := sm_eq (fun j => my_fr.at gh75 is_153 rfl) (fun j => my_fr.at gh75 is_154 rfl) (fun j => my_fr.at gh75 is_155 rfl)
          rw [tE145] at xp132
          rw [ps144] at xp132
          rw [tE145] at xp133
          rw [ps144] at xp133
          rw [tE145] at xp134
          rw [ps144] at xp134
          have hi146 : 0 ≤ v121 := by omega
          have hi147 : v121 ≤ 7 := by omega
          refine w_iast gz_190_89 is_169 rd_68 (by omega) (by omega) (by omega) (by omega) (fun h148 fh148 => ?_)
          have gh148 : my_fr [(10, 7), (10, 8), (67, -1), (68, -1), (69, -1)] h h148 := my_fr.up gh120 is_169 fh148 rfl
          have Mq_h148 : Mq h148 wv := Mq_u (a := 169) hwv (by decide) (by omega) fh148 Mq_h120
          have Wd9_h148 : Wd9 h148 := Wd9_ag (my_ag.up fh148 is_169 rfl) Wd9_h120
          have P6_h148 : h148 167 6 = h 167 6 := P6_ag (my_ag.up fh148 is_169 rfl) P6_h120
          have Ko_h148 : Ko h h148 := Ko_u (a := 169) hwv (by decide) (by omega) fh148 Ko_h120
          have Tok_h148 : Tok h148 := Tok_ag (my_ag.up fh148 is_169 rfl) Tok_h120t135
          have k169 := my_up_self fh148
          have psR : h148 151 7 = (sN (sm h) (((sN (sm h) (((sN (sm h) ((h 151 7))))))))) := ((my_up_role fh148 is_151 is_169 rfl).trans xp132)
          have npsR : sm h148 = sm h := sm_eq (fun j => my_fr.at gh148 is_153 rfl) (fun j => my_fr.at gh148 is_154 rfl) (fun j => my_fr.at gh148 is_155 rfl)
          have ce149 : h148 151 7 = (h120 151 7) := ((my_up_role fh148 is_151 is_169 rfl).trans (rfl : h120 151 7 = h120 151 7))
          have ce150 : h148 151 27 = v111 := ((my_up_role fh148 is_151 is_169 rfl).trans ((my_fr.at frh120 is_151 rfl).trans ev111.symm))
          have a168 : ∀ j : Int, h148 168 j = h2 168 j := fun j => ((my_up_role fh148 is_168 is_169 rfl).trans ((my_fr.at frh120 is_168 rfl).trans ((my_fr.at frh75 is_168 rfl).trans ((my_up_role fh64 is_168 is_170 rfl).trans ((my_fr.at frh13 is_168 rfl).trans (rfl : h2 168 j = h2 168 j))))))
          have a170 : ∀ j : Int, h148 170 j = h64 170 j := fun j => ((my_up_role fh148 is_170 is_169 rfl).trans ((my_fr.at frh120 is_170 rfl).trans ((my_fr.at frh75 is_170 rfl).trans (rfl : h64 170 j = h64 170 j))))
          have a169 : ∀ j : Int, h148 169 j = h148 169 j := fun _ => rfl
          have c151 := ((my_up_role fh148 is_151 is_169 rfl).trans (rfl : h120 151 7 = h120 151 7))
          have c152 := ((my_up_role fh148 is_151 is_169 rfl).trans w126)
          exact w_vret gz_190_90 gm_190 (k1 h148 (gh148) (by omega) (by omega) (by omega) (by first | exact Ko_h148 | (rw [a168]; exact k168) | (unfold sumM; first | exact Or.inr (Or.inr ⟨by omega, by omega, Or.inr ⟨by omega, Or.inr ⟨by omega, Or.inr (Or.inr ⟨by omega, by omega, ⟨by omega, by omega⟩⟩)⟩⟩⟩) | exact Or.inr (Or.inr ⟨by omega, by omega, Or.inr ⟨by omega, Or.inr ⟨by omega, Or.inr (Or.inl ⟨by omega, by omega, by omega⟩)⟩⟩⟩) | exact Or.inr (Or.inr ⟨by omega, by omega, Or.inr ⟨by omega, Or.inr ⟨by omega, Or.inl ⟨by omega, by omega⟩⟩⟩⟩) | exact Or.inr (Or.inr ⟨by omega, by omega, Or.inr ⟨by omega, Or.inl ⟨by omega, by omega, by omega⟩⟩⟩) | exact Or.inr (Or.inr ⟨by omega, by omega, Or.inl ⟨by omega, by omega⟩⟩) | exact Or.inr (Or.inl ⟨by omega, by omega, by omega⟩) | exact Or.inl ⟨by omega, by omega⟩) | omega | (refine ⟨fun q => ?_, fun q => ?_⟩ <;> first | (rw [a168, k168] at q; omega) | (rw [a170, k170]; omega)) | (refine ⟨fun q => ?_, fun q => ?_, fun q => ?_⟩ <;> first | (exfalso; rw [a168, k168] at q; omega) | (rw [a169, k169]; omega) | (rw [a170, k170]; omega)) | omega) (by first | exact Ko_h148 | (rw [a168]; exact k168) | (unfold sumM; first | exact Or.inr (Or.inr ⟨by omega, by omega, Or.inr ⟨by omega, Or.inr ⟨by omega, Or.inr (Or.inr ⟨by omega, by omega, ⟨by omega, by omega⟩⟩)⟩⟩⟩) | exact Or.inr (Or.inr ⟨by omega, by omega, Or.inr ⟨by omega, Or.inr ⟨by omega, Or.inr (Or.inl ⟨by omega, by omega, by omega⟩)⟩⟩⟩) | exact Or.inr (Or.inr ⟨by omega, by omega, Or.inr ⟨by omega, Or.inr ⟨by omega, Or.inl ⟨by omega, by omega⟩⟩⟩⟩) | exact Or.inr (Or.inr ⟨by omega, by omega, Or.inr ⟨by omega, Or.inl ⟨by omega, by omega, by omega⟩⟩⟩) | exact Or.inr (Or.inr ⟨by omega, by omega, Or.inl ⟨by omega, by omega⟩⟩) | exact Or.inr (Or.inl ⟨by omega, by omega, by omega⟩) | exact Or.inl ⟨by omega, by omega⟩) | omega | (refine ⟨fun q => ?_, fun q => ?_⟩ <;> first | (rw [a168, k168] at q; omega) | (rw [a170, k170]; omega)) | (refine ⟨fun q => ?_, fun q => ?_, fun q => ?_⟩ <;> first | (exfalso; rw [a168, k168] at q; omega) | (rw [a169, k169]; omega) | (rw [a170, k170]; omega)) | omega) (by first | exact Ko_h148 | (rw [a168]; exact k168) | (unfold sumM; first | exact Or.inr (Or.inr ⟨by omega, by omega, Or.inr ⟨by omega, Or.inr ⟨by omega, Or.inr (Or.inr ⟨by omega, by omega, ⟨by omega, by omega⟩⟩)⟩⟩⟩) | exact Or.inr (Or.inr ⟨by omega, by omega, Or.inr ⟨by omega, Or.inr ⟨by omega, Or.inr (Or.inl ⟨by omega, by omega, by omega⟩)⟩⟩⟩) | exact Or.inr (Or.inr ⟨by omega, by omega, Or.inr ⟨by omega, Or.inr ⟨by omega, Or.inl ⟨by omega, by omega⟩⟩⟩⟩) | exact Or.inr (Or.inr ⟨by omega, by omega, Or.inr ⟨by omega, Or.inl ⟨by omega, by omega, by omega⟩⟩⟩) | exact Or.inr (Or.inr ⟨by omega, by omega, Or.inl ⟨by omega, by omega⟩⟩) | exact Or.inr (Or.inl ⟨by omega, by omega, by omega⟩) | exact Or.inl ⟨by omega, by omega⟩) | omega | (refine ⟨fun q => ?_, fun q => ?_⟩ <;> first | (rw [a168, k168] at q; omega) | (rw [a170, k170]; omega)) | (refine ⟨fun q => ?_, fun q => ?_, fun q => ?_⟩ <;> first | (exfalso; rw [a168, k168] at q; omega) | (rw [a169, k169]; omega) | (rw [a170, k170]; omega)) | omega) (by first | exact Ko_h148 | (rw [a168]; exact k168) | (unfold sumM; first | exact Or.inr (Or.inr ⟨by omega, by omega, Or.inr ⟨by omega, Or.inr ⟨by omega, Or.inr (Or.inr ⟨by omega, by omega, ⟨by omega, by omega⟩⟩)⟩⟩⟩) | exact Or.inr (Or.inr ⟨by omega, by omega, Or.inr ⟨by omega, Or.inr ⟨by omega, Or.inr (Or.inl ⟨by omega, by omega, by omega⟩)⟩⟩⟩) | exact Or.inr (Or.inr ⟨by omega, by omega, Or.inr ⟨by omega, Or.inr ⟨by omega, Or.inl ⟨by omega, by omega⟩⟩⟩⟩) | exact Or.inr (Or.inr ⟨by omega, by omega, Or.inr ⟨by omega, Or.inl ⟨by omega, by omega, by omega⟩⟩⟩) | exact Or.inr (Or.inr ⟨by omega, by omega, Or.inl ⟨by omega, by omega⟩⟩) | exact Or.inr (Or.inl ⟨by omega, by omega, by omega⟩) | exact Or.inl ⟨by omega, by omega⟩) | omega | (refine ⟨fun q => ?_, fun q => ?_⟩ <;> first | (rw [a168, k168] at q; omega) | (rw [a170, k170]; omega)) | (refine ⟨fun q => ?_, fun q => ?_, fun q => ?_⟩ <;> first | (exfalso; rw [a168, k168] at q; omega) | (rw [a169, k169]; omega) | (rw [a170, k170]; omega)) | omega) (by first | exact Ko_h148 | (rw [a168]; exact k168) | (unfold sumM; first | exact Or.inr (Or.inr ⟨by omega, by omega, Or.inr ⟨by omega, Or.inr ⟨by omega, Or.inr (Or.inr ⟨by omega, by omega, ⟨by omega, by omega⟩⟩)⟩⟩⟩) | exact Or.inr (Or.inr ⟨by omega, by omega, Or.inr ⟨by omega, Or.inr ⟨by omega, Or.inr (Or.inl ⟨by omega, by omega, by omega⟩)⟩⟩⟩) | exact Or.inr (Or.inr ⟨by omega, by omega, Or.inr ⟨by omega, Or.inr ⟨by omega, Or.inl ⟨by omega, by omega⟩⟩⟩⟩) | exact Or.inr (Or.inr ⟨by omega, by omega, Or.inr ⟨by omega, Or.inl ⟨by omega, by omega, by omega⟩⟩⟩) | exact Or.inr (Or.inr ⟨by omega, by omega, Or.inl ⟨by omega, by omega⟩⟩) | exact Or.inr (Or.inl ⟨by omega, by omega, by omega⟩) | exact Or.inl ⟨by omega, by omega⟩) | omega | (refine ⟨fun q => ?_, fun q => ?_⟩ <;> first | (rw [a168, k168] at q; omega) | (rw [a170, k170]; omega)) | (refine ⟨fun q => ?_, fun q => ?_, fun q => ?_⟩ <;> first | (exfalso; rw [a168, k168] at q; omega) | (rw [a169, k169]; omega) | (rw [a170, k170]; omega)) | omega) (by first | exact Ko_h148 | (rw [a168]; exact k168) | (unfold sumM; first | exact Or.inr (Or.inr ⟨by omega, by omega, Or.inr ⟨by omega, Or.inr ⟨by omega, Or.inr (Or.inr ⟨by omega, by omega, ⟨by omega, by omega⟩⟩)⟩⟩⟩) | exact Or.inr (Or.inr ⟨by omega, by omega, Or.inr ⟨by omega, Or.inr ⟨by omega, Or.inr (Or.inl ⟨by omega, by omega, by omega⟩)⟩⟩⟩) | exact Or.inr (Or.inr ⟨by omega, by omega, Or.inr ⟨by omega, Or.inr ⟨by omega, Or.inl ⟨by omega, by omega⟩⟩⟩⟩) | exact Or.inr (Or.inr ⟨by omega, by omega, Or.inr ⟨by omega, Or.inl ⟨by omega, by omega, by omega⟩⟩⟩) | exact Or.inr (Or.inr ⟨by omega, by omega, Or.inl ⟨by omega, by omega⟩⟩) | exact Or.inr (Or.inl ⟨by omega, by omega, by omega⟩) | exact Or.inl ⟨by omega, by omega⟩) | omega | (refine ⟨fun q => ?_, fun q => ?_⟩ <;> first | (rw [a168, k168] at q; omega) | (rw [a170, k170]; omega)) | (refine ⟨fun q => ?_, fun q => ?_, fun q => ?_⟩ <;> first | (exfalso; rw [a168, k168] at q; omega) | (rw [a169, k169]; omega) | (rw [a170, k170]; omega)) | omega) Tok_h148 Mq_h148 Wd9_h148)
      ·
        refine w_aload_n gz_190_49 rfl ?_
        refine w_getX (v := 155) gz_190_50 is_151 rd_10 rfl (by decide) rfl ?_
        refine w_aload_n gz_190_53 rfl ?_
        refine v_getI (j := 7) gz_190_54 rfl is_151 rd_10 rfl (fun v154 ev154 pv154 qv154 => ?_)
        have zv154 := ev154.trans ev106.symm
        refine w_lald gz_190_57 is_155 rd_54 (by omega) (by omega) (fun v155 ev155 pv155 => ?_)
        have nz156a : h75 151 7 = (sN (sm h) (((sN (sm h) ((h 151 7)))))) := xp80
        have nz156 : v155 = sV (sm h) (sN (sm h) (((sN (sm h) ((h 151 7)))))) := by
          have q := ev155.trans (my_fr.at (j := v154) gh75 is_155 rfl)
          rw [show (v154 : Int) = (sN (sm h) (((sN (sm h) ((h 151 7)))))) from by omega] at q
          exact q
        refine w_aload_n gz_190_58 rfl ?_
        refine w_getX (v := 170) gz_190_59 is_151 rd_10 rfl (by decide) rfl ?_
        refine w_iload_n gz_190_62 rfl ?_
        refine w_iald gz_190_63 is_170 rd_69 (by omega) (by omega) (fun v158 ev158 pv158 qv158 => ?_)
        have zv158 := ev158.trans ((my_fr.at frh75 is_170 rfl).trans (my_up_self fh64))
        refine w_i2l gz_190_64 ?_
        refine w_lcmpE gz_190_65 (fun v159 pv159 qv159 xv159 => ?_)
        refine w_ifne (t := 74) gz_190_66 rfl (fun u160 => ?_) (fun u160 => ?_)
        ·
          refine w_aload_n gz_190_74 rfl ?_
          refine w_getX (v := 169) gz_190_75 is_151 rd_10 rfl (by decide) rfl ?_
          refine w_iload_n gz_190_78 rfl ?_
          refine w_aload_n gz_190_79 rfl ?_
          refine w_aload_n gz_190_80 rfl ?_
          refine v_getI (j := 27) gz_190_81 rfl is_151 rd_10 rfl (fun v162 ev162 pv162 qv162 => ?_)
          have zv162 := ev162.trans ((my_fr.at frh75 is_151 rfl).trans ((my_up_role fh64 is_151 is_170 rfl).trans ((my_fr.at frh13 is_151 rfl).trans ev4.symm)))
          refine w_iconst gz_190_84 (by decide) ?_
          refine w_isub gz_190_85 ⟨by omega, by omega⟩ ?_
          have ce163 : h75 151 7 = v154 := ev154.symm
          have ce164 : h75 151 27 = v162 := ev162.symm
          refine w_inv (k := 0) (as := [(0, (v162 - 1))]) (r := [(0, x1), (2, 169)]) (x := 151) (ls0 := [(2, 151), (0, (v162 - 1))]) gz_190_86 gm_187 rfl is_151 rd_10 rfl rfl rfl rfl rfl (c_Model_takeNumber9_f0 (d := (d + 1)) (x1 := (v162 - 1)) (by omega) (by omega) (ev103.symm.trans (by omega)) Tok_h75t82 (fun h165 frh165 w166 w167 xp168 xp169 Tok_h165t170 => ?_) (fun h171 v172 frh171 w173 w174 w175 w176 w177 xp178 xp179 xp180 xp181 xp182 xp183 xp184 xp185 Tok_h171t186 => ?_))
          ·
            have gh165 : my_fr [(10, 7), (10, 8), (67, -1), (68, -1), (69, -1)] h h165 := my_fr.tr gh75 (frh165.mo rfl)
            have Mq_h165 : Mq h165 wv := Mq_ag (my_ag.fr frh165 rfl) Mq_h75
            have Wd9_h165 : Wd9 h165 := Wd9_ag (my_ag.fr frh165 rfl) Wd9_h75t83
            have P6_h165 : h165 167 6 = h 167 6 := P6_ag (my_ag.fr frh165 rfl) P6_h75
            have Ko_h165 : Ko h h165 := Ko_ag (my_ag.fr frh165 rfl) Ko_h75
            show wp l rho (d + 3) 190 89 [(2, 151), (0, x1)] [(0, 0), (0, x1), (2, 169)] h165 Q
            have ps187 : h75 151 7 = (sN (sm h) (((sN (sm h) ((h 151 7)))))) := xp80
            rw [ps187] at xp168
            have tE188 : sm h75 = sm h := sm_eq (fun j => my_fr.at gh75 is_153 rfl) (fun j => my_fr.at gh75 is_154 rfl) (fun j => my_fr.at gh75 is_155 rfl)
            rw [tE188] at xp169
            rw [ps187] at xp169
            have hi189 : 0 ≤ 0 := by omega
            have hi190 : 0 ≤ 7 := by omega
            refine w_iast gz_190_89 is_169 rd_68 (by omega) (by omega) (by omega) (by omega) (fun h191 fh191 => ?_)
            have gh191 : my_fr [(10, 7), (10, 8), (67, -1), (68, -1), (69, -1)] h h191 := my_fr.up gh165 is_169 fh191 rfl
            have Mq_h191 : Mq h191 wv := Mq_u (a := 169) hwv (by decide) (by omega) fh191 Mq_h165
            have Wd9_h191 : Wd9 h191 := Wd9_ag (my_ag.up fh191 is_169 rfl) Wd9_h165
            have P6_h191 : h191 167 6 = h 167 6 := P6_ag (my_ag.up fh191 is_169 rfl) P6_h165
            have Ko_h191 : Ko h h191 := Ko_u (a := 169) hwv (by decide) (by omega) fh191 Ko_h165
            have Tok_h191 : Tok h191 := Tok_ag (my_ag.up fh191 is_169 rfl) Tok_h165t170
            have k169 := my_up_self fh191
            have psR : h191 151 7 = (((sN (sm h) (((sN (sm h) ((h 151 7)))))))) := ((my_up_role fh191 is_151 is_169 rfl).trans xp168)
            have npsR : sm h191 = sm h := sm_eq (fun j => my_fr.at gh191 is_153 rfl) (fun j => my_fr.at gh191 is_154 rfl) (fun j => my_fr.at gh191 is_155 rfl)
            have ce192 : h191 151 7 = h165 151 7 := ((my_up_role fh191 is_151 is_169 rfl).trans (rfl : h165 151 7 = h165 151 7))
            have ce193 : h191 151 27 = v162 := ((my_up_role fh191 is_151 is_169 rfl).trans ((my_fr.at frh165 is_151 rfl).trans ev162.symm))
            have a168 : ∀ j : Int, h191 168 j = h2 168 j := fun j => ((my_up_role fh191 is_168 is_169 rfl).trans ((my_fr.at frh165 is_168 rfl).trans ((my_fr.at frh75 is_168 rfl).trans ((my_up_role fh64 is_168 is_170 rfl).trans ((my_fr.at frh13 is_168 rfl).trans (rfl : h2 168 j = h2 168 j))))))
            have a170 : ∀ j : Int, h191 170 j = h64 170 j := fun j => ((my_up_role fh191 is_170 is_169 rfl).trans ((my_fr.at frh165 is_170 rfl).trans ((my_fr.at frh75 is_170 rfl).trans (rfl : h64 170 j = h64 170 j))))
            have a169 : ∀ j : Int, h191 169 j = h191 169 j := fun _ => rfl
            have c194 := ((my_up_role fh191 is_151 is_169 rfl).trans (rfl : h165 151 8 = h165 151 8))
            exact w_vret gz_190_90 gm_190 (k0 h191 (gh191) (by omega) (by omega) (by first | exact Ko_h191 | (rw [a168]; exact k168) | (unfold sumM; first | exact Or.inr (Or.inr ⟨by omega, by omega, Or.inr ⟨by omega, Or.inr ⟨by omega, Or.inr (Or.inr ⟨by omega, by omega, ⟨by omega, by omega⟩⟩)⟩⟩⟩) | exact Or.inr (Or.inr ⟨by omega, by omega, Or.inr ⟨by omega, Or.inr ⟨by omega, Or.inr (Or.inl ⟨by omega, by omega, by omega⟩)⟩⟩⟩) | exact Or.inr (Or.inr ⟨by omega, by omega, Or.inr ⟨by omega, Or.inr ⟨by omega, Or.inl ⟨by omega, by omega⟩⟩⟩⟩) | exact Or.inr (Or.inr ⟨by omega, by omega, Or.inr ⟨by omega, Or.inl ⟨by omega, by omega, by omega⟩⟩⟩) | exact Or.inr (Or.inr ⟨by omega, by omega, Or.inl ⟨by omega, by omega⟩⟩) | exact Or.inr (Or.inl ⟨by omega, by omega, by omega⟩) | exact Or.inl ⟨by omega, by omega⟩) | omega | (refine ⟨fun q => ?_, fun q => ?_⟩ <;> first | (rw [a168, k168] at q; omega) | (rw [a170, k170]; omega)) | (refine ⟨fun q => ?_, fun q => ?_, fun q => ?_⟩ <;> first | (exfalso; rw [a168, k168] at q; omega) | (rw [a169, k169]; omega) | (rw [a170, k170]; omega)) | omega) (by first | exact Ko_h191 | (rw [a168]; exact k168) | (unfold sumM; first | exact Or.inr (Or.inr ⟨by omega, by omega, Or.inr ⟨by omega, Or.inr ⟨by omega, Or.inr (Or.inr ⟨by omega, by omega, ⟨by omega, by omega⟩⟩)⟩⟩⟩) | exact Or.inr (Or.inr ⟨by omega, by omega, Or.inr ⟨by omega, Or.inr ⟨by omega, Or.inr (Or.inl ⟨by omega, by omega, by omega⟩)⟩⟩⟩) | exact Or.inr (Or.inr ⟨by omega, by omega, Or.inr ⟨by omega, Or.inr ⟨by omega, Or.inl ⟨by omega, by omega⟩⟩⟩⟩) | exact Or.inr (Or.inr ⟨by omega, by omega, Or.inr ⟨by omega, Or.inl ⟨by omega, by omega, by omega⟩⟩⟩) | exact Or.inr (Or.inr ⟨by omega, by omega, Or.inl ⟨by omega, by omega⟩⟩) | exact Or.inr (Or.inl ⟨by omega, by omega, by omega⟩) | exact Or.inl ⟨by omega, by omega⟩) | omega | (refine ⟨fun q => ?_, fun q => ?_⟩ <;> first | (rw [a168, k168] at q; omega) | (rw [a170, k170]; omega)) | (refine ⟨fun q => ?_, fun q => ?_, fun q => ?_⟩ <;> first | (exfalso; rw [a168, k168] at q; omega) | (rw [a169, k169]; omega) | (rw [a170, k170]; omega)) | omega) (by first | exact Ko_h191 | (rw [a168]; exact k168) | (unfold sumM; first | exact Or.inr (Or.inr ⟨by omega, by omega, Or.inr ⟨by omega, Or.inr ⟨by omega, Or.inr (Or.inr ⟨by omega, by omega, ⟨by omega, by omega⟩⟩)⟩⟩⟩) | exact Or.inr (Or.inr ⟨by omega, by omega, Or.inr ⟨by omega, Or.inr ⟨by omega, Or.inr (Or.inl ⟨by omega, by omega, by omega⟩)⟩⟩⟩) | exact Or.inr (Or.inr ⟨by omega, by omega, Or.inr ⟨by omega, Or.inr ⟨by omega, Or.inl ⟨by omega, by omega⟩⟩⟩⟩) | exact Or.inr (Or.inr ⟨by omega, by omega, Or.inr ⟨by omega, Or.inl ⟨by omega, by omega, by omega⟩⟩⟩) | exact Or.inr (Or.inr ⟨by omega, by omega, Or.inl ⟨by omega, by omega⟩⟩) | exact Or.inr (Or.inl ⟨by omega, by omega, by omega⟩) | exact Or.inl ⟨by omega, by omega⟩) | omega | (refine ⟨fun q => ?_, fun q => ?_⟩ <;> first | (rw [a168, k168] at q; omega) | (rw [a170, k170]; omega)) | (refine ⟨fun q => ?_, fun q => ?_, fun q => ?_⟩ <;> first | (exfalso; rw [a168, k168] at q; omega) | (rw [a169, k169]; omega) | (rw [a170, k170]; omega)) | omega) Tok_h191 Mq_h191 Wd9_h191)
          ·
            have gh171 : my_fr [(10, 7), (10, 8), (67, -1), (68, -1), (69, -1)] h h171 := my_fr.tr gh75 (frh171.mo rfl)
            have Mq_h171 : Mq h171 wv := Mq_ag (my_ag.fr frh171 rfl) Mq_h75
            have Wd9_h171 : Wd9 h171 := Wd9_ag (my_ag.fr frh171 rfl) Wd9_h75t83
            have P6_h171 : h171 167 6 = h 167 6 := P6_ag (my_ag.fr frh171 rfl) P6_h75
            have Ko_h171 : Ko h h171 := Ko_ag (my_ag.fr frh171 rfl) Ko_h75
            show wp l rho (d + 3) 190 89 [(2, 151), (0, x1)] [(0, v172), (0, x1), (2, 169)] h171 Q
            have ps195 : h75 151 7 = (sN (sm h) (((sN (sm h) ((h 151 7)))))) := xp80
            rw [ps195] at xp180
            rw [ps195] at xp181
            rw [ps195] at xp182
            have tE196 : sm h75 = sm h := sm_eq (fun j => my_fr.at gh75 is_153 rfl) (fun j => my_fr.at gh75 is_154 rfl) (fun j => my_fr.at gh75 is_155 rfl)
            rw [tE196] at xp183
            rw [ps195] at xp183
            rw [tE196] at xp184
            rw [ps195] at xp184
            rw [tE196] at xp185
            rw [ps195] at xp185
            have hi197 : 0 ≤ v172 := by omega
            have hi198 : v172 ≤ 7 := by omega
            refine w_iast gz_190_89 is_169 rd_68 (by omega) (by omega) (by omega) (by omega) (fun h199 fh199 => ?_)
            have gh199 : my_fr [(10, 7), (10, 8), (67, -1), (68, -1), (69, -1)] h h199 := my_fr.up gh171 is_169 fh199 rfl
            have Mq_h199 : Mq h199 wv := Mq_u (a := 169) hwv (by decide) (by omega) fh199 Mq_h171
            have Wd9_h199 : Wd9 h199 := Wd9_ag (my_ag.up fh199 is_169 rfl) Wd9_h171
            have P6_h199 : h199 167 6 = h 167 6 := P6_ag (my_ag.up fh199 is_169 rfl) P6_h171
            have Ko_h199 : Ko h h199 := Ko_u (a := 169) hwv (by decide) (by omega) fh199 Ko_h171
            have Tok_h199 : Tok h199 := Tok_ag (my_ag.up fh199 is_169 rfl) Tok_h171t186
            have k169 := my_up_self fh199
            have psR : h199 151 7 = (sN (sm h) (((sN (sm h) (((sN (sm h) ((h 151 7))))))))) := ((my_up_role fh199 is_151 is_169 rfl).trans xp183)
            have npsR : sm h199 = sm h := sm_eq (fun j => my_fr.at gh199 is_153 rfl) (fun j => my_fr.at gh199 is_154 rfl) (fun j => my_fr.at gh199 is_155 rfl)
            have ce200 : h199 151 7 = (h171 151 7) := ((my_up_role fh199 is_151 is_169 rfl).trans (rfl : h171 151 7 = h171 151 7))
            have ce201 : h199 151 27 = v162 := ((my_up_role fh199 is_151 is_169 rfl).trans ((my_fr.at frh171 is_151 rfl).trans ev162.symm))
            have a168 : ∀ j : Int, h199 168 j = h2 168 j := fun j => ((my_up_role fh199 is_168 is_169 rfl).trans ((my_fr.at frh171 is_168 rfl).trans ((my_fr.at frh75 is_168 rfl).trans ((my_up_role fh64 is_168 is_170 rfl).trans ((my_fr.at frh13 is_168 rfl).trans (rfl : h2 168 j = h2 168 j))))))
            have a170 : ∀ j : Int, h199 170 j = h64 170 j := fun j => ((my_up_role fh199 is_170 is_169 rfl).trans ((my_fr.at frh171 is_170 rfl).trans ((my_fr.at frh75 is_170 rfl).trans (rfl : h64 170 j = h64 170 j))))
            have a169 : ∀ j : Int, h199 169 j = h199 169 j := fun _ => rfl
            have c202 := ((my_up_role fh199 is_151 is_169 rfl).trans (rfl : h171 151 7 = h171 151 7))
            have c203 := ((my_up_role fh199 is_151 is_169 rfl).trans w177)
            exact w_vret gz_190_90 gm_190 (k1 h199 (gh199) (by omega) (by omega) (by omega) (by first | exact Ko_h199 | (rw [a168]; exact k168) | (unfold sumM; first | exact Or.inr (Or.inr ⟨by omega, by omega, Or.inr ⟨by omega, Or.inr ⟨by omega, Or.inr (Or.inr ⟨by omega, by omega, ⟨by omega, by omega⟩⟩)⟩⟩⟩) | exact Or.inr (Or.inr ⟨by omega, by omega, Or.inr ⟨by omega, Or.inr ⟨by omega, Or.inr (Or.inl ⟨by omega, by omega, by omega⟩)⟩⟩⟩) | exact Or.inr (Or.inr ⟨by omega, by omega, Or.inr ⟨by omega, Or.inr ⟨by omega, Or.inl ⟨by omega, by omega⟩⟩⟩⟩) | exact Or.inr (Or.inr ⟨by omega, by omega, Or.inr ⟨by omega, Or.inl ⟨by omega, by omega, by omega⟩⟩⟩) | exact Or.inr (Or.inr ⟨by omega, by omega, Or.inl ⟨by omega, by omega⟩⟩) | exact Or.inr (Or.inl ⟨by omega, by omega, by omega⟩) | exact Or.inl ⟨by omega, by omega⟩) | omega | (refine ⟨fun q => ?_, fun q => ?_⟩ <;> first | (rw [a168, k168] at q; omega) | (rw [a170, k170]; omega)) | (refine ⟨fun q => ?_, fun q => ?_, fun q => ?_⟩ <;> first | (exfalso; rw [a168, k168] at q; omega) | (rw [a169, k169]; omega) | (rw [a170, k170]; omega)) | omega) (by first | exact Ko_h199 | (rw [a168]; exact k168) | (unfold sumM; first | exact Or.inr (Or.inr ⟨by omega, by omega, Or.inr ⟨by omega, Or.inr ⟨by omega, Or.inr (Or.inr ⟨by omega, by omega, ⟨by omega, by omega⟩⟩)⟩⟩⟩) | exact Or.inr (Or.inr ⟨by omega, by omega, Or.inr ⟨by omega, Or.inr ⟨by omega, Or.inr (Or.inl ⟨by omega, by omega, by omega⟩)⟩⟩⟩) | exact Or.inr (Or.inr ⟨by omega, by omega, Or.inr ⟨by omega, Or.inr ⟨by omega, Or.inl ⟨by omega, by omega⟩⟩⟩⟩) | exact Or.inr (Or.inr ⟨by omega, by omega, Or.inr ⟨by omega, Or.inl ⟨by omega, by omega, by omega⟩⟩⟩) | exact Or.inr (Or.inr ⟨by omega, by omega, Or.inl ⟨by omega, by omega⟩⟩) | exact Or.inr (Or.inl ⟨by omega, by omega, by omega⟩) | exact Or.inl ⟨by omega, by omega⟩) | omega | (refine ⟨fun q => ?_, fun q => ?_⟩ <;> first | (rw [a168, k168] at q; omega) | (rw [a170, k170]; omega)) | (refine ⟨fun q => ?_, fun q => ?_, fun q => ?_⟩ <;> first | (exfalso; rw [a168, k168] at q; omega) | (rw [a169, k169]; omega) | (rw [a170, k170]; omega)) | omega) (by first | exact Ko_h199 | (rw [a168]; exact k168) | (unfold sumM; first | exact Or.inr (Or.inr ⟨by omega, by omega, Or.inr ⟨by omega, Or.inr ⟨by omega, Or.inr (Or.inr ⟨by omega, by omega, ⟨by omega, by omega⟩⟩)⟩⟩⟩) | exact Or.inr (Or.inr ⟨by omega, by omega, Or.inr ⟨by omega, Or.inr ⟨by omega, Or.inr (Or.inl ⟨by omega, by omega, by omega⟩)⟩⟩⟩) | exact Or.inr (Or.inr ⟨by omega, by omega, Or.inr ⟨by omega, Or.inr ⟨by omega, Or.inl ⟨by omega, by omega⟩⟩⟩⟩) | exact Or.inr (Or.inr ⟨by omega, by omega, Or.inr ⟨by omega, Or.inl ⟨by omega, by omega, by omega⟩⟩⟩) | exact Or.inr (Or.inr ⟨by omega, by omega, Or.inl ⟨by omega, by omega⟩⟩) | exact Or.inr (Or.inl ⟨by omega, by omega, by omega⟩) | exact Or.inl ⟨by omega, by omega⟩) | omega | (refine ⟨fun q => ?_, fun q => ?_⟩ <;> first | (rw [a168, k168] at q; omega) | (rw [a170, k170]; omega)) | (refine ⟨fun q => ?_, fun q => ?_, fun q => ?_⟩ <;> first | (exfalso; rw [a168, k168] at q; omega) | (rw [a169, k169]; omega) | (rw [a170, k170]; omega)) | omega) (by first | exact Ko_h199 | (rw [a168]; exact k168) | (unfold sumM; first | exact Or.inr (Or.inr ⟨by omega, by omega, Or.inr ⟨by omega, Or.inr ⟨by omega, Or.inr (Or.inr ⟨by omega, by omega, ⟨by omega, by omega⟩⟩)⟩⟩⟩) | exact Or.inr (Or.inr ⟨by omega, by omega, Or.inr ⟨by omega, Or.inr ⟨by omega, Or.inr (Or.inl ⟨by omega, by omega, by omega⟩)⟩⟩⟩) | exact Or.inr (Or.inr ⟨by omega, by omega, Or.inr ⟨by omega, Or.inr ⟨by omega, Or.inl ⟨by omega, by omega⟩⟩⟩⟩) | exact Or.inr (Or.inr ⟨by omega, by omega, Or.inr ⟨by omega, Or.inl ⟨by omega, by omega, by omega⟩⟩⟩) | exact Or.inr (Or.inr ⟨by omega, by omega, Or.inl ⟨by omega, by omega⟩⟩) | exact Or.inr (Or.inl ⟨by omega, by omega, by omega⟩) | exact Or.inl ⟨by omega, by omega⟩) | omega | (refine ⟨fun q => ?_, fun q => ?_⟩ <;> first | (rw [a168, k168] at q; omega) | (rw [a170, k170]; omega)) | (refine ⟨fun q => ?_, fun q => ?_, fun q => ?_⟩ <;> first | (exfalso; rw [a168, k168] at q; omega) | (rw [a169, k169]; omega) | (rw [a170, k170]; omega)) | omega) (by first | exact Ko_h199 | (rw [a168]; exact k168) | (unfold sumM; first | exact Or.inr (Or.inr ⟨by omega, by omega, Or.inr ⟨by omega, Or.inr ⟨by omega, Or.inr (Or.inr ⟨by omega, by omega, ⟨by omega, by omega⟩⟩)⟩⟩⟩) | exact Or.inr (Or.inr ⟨by omega, by omega, Or.inr ⟨by omega, Or.inr ⟨by omega, Or.inr (Or.inl ⟨by omega, by omega, by omega⟩)⟩⟩⟩) | exact Or.inr (Or.inr ⟨by omega, by omega, Or.inr ⟨by omega, Or.inr ⟨by omega, Or.inl ⟨by omega, by omega⟩⟩⟩⟩) | exact Or.inr (Or.inr ⟨by omega, by omega, Or.inr ⟨by omega, Or.inl ⟨by omega, by omega, by omega⟩⟩⟩) | exact Or.inr (Or.inr ⟨by omega, by omega, Or.inl ⟨by omega, by omega⟩⟩) | exact Or.inr (Or.inl ⟨by omega, by omega, by omega⟩) | exact Or.inl ⟨by omega, by omega⟩) | omega | (refine ⟨fun q => ?_, fun q => ?_⟩ <;> first | (rw [a168, k168] at q; omega) | (rw [a170, k170]; omega)) | (refine ⟨fun q => ?_, fun q => ?_, fun q => ?_⟩ <;> first | (exfalso; rw [a168, k168] at q; omega) | (rw [a169, k169]; omega) | (rw [a170, k170]; omega)) | omega) (by first | exact Ko_h199 | (rw [a168]; exact k168) | (unfold sumM; first | exact Or.inr (Or.inr ⟨by omega, by omega, Or.inr ⟨by omega, Or.inr ⟨by omega, Or.inr (Or.inr ⟨by omega, by omega, ⟨by omega, by omega⟩⟩)⟩⟩⟩) | exact Or.inr (Or.inr ⟨by omega, by omega, Or.inr ⟨by omega, Or.inr ⟨by omega, Or.inr (Or.inl ⟨by omega, by omega, by omega⟩)⟩⟩⟩) | exact Or.inr (Or.inr ⟨by omega, by omega, Or.inr ⟨by omega, Or.inr ⟨by omega, Or.inl ⟨by omega, by omega⟩⟩⟩⟩) | exact Or.inr (Or.inr ⟨by omega, by omega, Or.inr ⟨by omega, Or.inl ⟨by omega, by omega, by omega⟩⟩⟩) | exact Or.inr (Or.inr ⟨by omega, by omega, Or.inl ⟨by omega, by omega⟩⟩) | exact Or.inr (Or.inl ⟨by omega, by omega, by omega⟩) | exact Or.inl ⟨by omega, by omega⟩) | omega | (refine ⟨fun q => ?_, fun q => ?_⟩ <;> first | (rw [a168, k168] at q; omega) | (rw [a170, k170]; omega)) | (refine ⟨fun q => ?_, fun q => ?_, fun q => ?_⟩ <;> first | (exfalso; rw [a168, k168] at q; omega) | (rw [a169, k169]; omega) | (rw [a170, k170]; omega)) | omega) Tok_h199 Mq_h199 Wd9_h199)
        ·
          refine w_aload_n gz_190_69 rfl ?_
          refine w_iconst gz_190_70 (by decide) ?_
          have ce204 : h75 151 7 = v154 := ev154.symm
          have ce205 : h75 151 27 = v4 := ((my_fr.at frh75 is_151 rfl).trans ((my_up_role fh64 is_151 is_170 rfl).trans ((my_fr.at frh13 is_151 rfl).trans ev4.symm)))
          refine w_inv (k := 0) (as := [(0, 3)]) (r := []) (x := 151) (ls0 := [(2, 151), (0, 3)]) gz_190_71 gm_178 rfl is_151 rd_10 rfl rfl rfl rfl rfl ?_
          refine w_aload_n gz_178_0 rfl ?_
          refine v_getI (j := 8) gz_178_1 rfl is_151 rd_10 rfl (fun v206 ev206 pv206 qv206 => ?_)
          have zv206 := ev206.trans ev103.symm
          refine w_ifne (t := 25) gz_178_4 rfl (fun u207 => by exfalso; omega) (fun u207 => ?_)
          refine w_aload_n gz_178_7 rfl ?_
          refine w_iload_n gz_178_8 rfl ?_
          refine w_bipush gz_178_9 (by decide) ?_
          refine w_aload_n gz_178_11 rfl ?_
          refine w_getX (v := 154) gz_178_12 is_151 rd_10 rfl (by decide) rfl ?_
          refine w_aload_n gz_178_15 rfl ?_
          refine v_getI (j := 7) gz_178_16 rfl is_151 rd_10 rfl (fun v209 ev209 pv209 qv209 => ?_)
          have zv209 := ev209.trans ev154.symm
          refine w_iald gz_178_19 is_154 rd_53 (by omega) (by omega) (fun v210 ev210 pv210 qv210 => ?_)
          have nz211a : h75 151 7 = (sN (sm h) (((sN (sm h) ((h 151 7)))))) := xp80
          have nz211 : v210 = sP (sm h) (sN (sm h) (((sN (sm h) ((h 151 7)))))) := by
            have q := ev210.trans (my_fr.at (j := v209) gh75 is_154 rfl)
            rw [show (v209 : Int) = (sN (sm h) (((sN (sm h) ((h 151 7)))))) from by omega] at q
            exact q
          refine w_imul gz_178_20 ⟨by omega, by omega⟩ ?_
          refine w_iadd gz_178_21 ⟨by omega, by omega⟩ ?_
          refine v_putI (j := 8) gz_178_22 rfl is_151 rd_10 rfl (by omega) (by omega) rfl (fun h212 fh212 => ?_)
          have gh212 : my_fr [(10, 7), (10, 8), (67, -1), (68, -1), (69, -1)] h h212 := my_fr.up gh75 is_151 fh212 rfl
          have Mq_h212 : Mq h212 wv := Mq_ag (my_ag.up fh212 is_151 rfl) Mq_h75
          have Wd9_h212 : Wd9 h212 := Wd9_ag (my_ag.up fh212 is_151 rfl) Wd9_h75t83
          have P6_h212 : h212 167 6 = h 167 6 := P6_ag (my_ag.up fh212 is_151 rfl) P6_h75
          have Ko_h212 : Ko h h212 := Ko_ag (my_ag.up fh212 is_151 rfl) Ko_h75
          have Tok_h212 : Tok h212 := Tok_ag (my_ag.up fh212 is_151 rfl) Tok_h75t82
          refine w_vret gz_178_25 gm_178 ?_
          show wp l rho (d + 3) 190 74 [(2, 151), (0, x1)] [] h212 Q
          refine w_aload_n gz_190_74 rfl ?_
          refine w_getX (v := 169) gz_190_75 is_151 rd_10 rfl (by decide) rfl ?_
          refine w_iload_n gz_190_78 rfl ?_
          refine w_aload_n gz_190_79 rfl ?_
          refine w_aload_n gz_190_80 rfl ?_
          refine v_getI (j := 27) gz_190_81 rfl is_151 rd_10 rfl (fun v214 ev214 pv214 qv214 => ?_)
          have zv214 := ev214.trans ((my_up_fld fh212 (by decide)).trans ((my_fr.at frh75 is_151 rfl).trans ((my_up_role fh64 is_151 is_170 rfl).trans ((my_fr.at frh13 is_151 rfl).trans ev4.symm))))
          refine w_iconst gz_190_84 (by decide) ?_
          refine w_isub gz_190_85 ⟨by omega, by omega⟩ ?_
          have ce215 : h212 151 7 = v209 := ((my_up_fld fh212 (by decide)).trans ev209.symm)
          have ce216 : h212 151 27 = v214 := ev214.symm
          refine w_inv (k := 0) (as := [(0, (v214 - 1))]) (r := [(0, x1), (2, 169)]) (x := 151) (ls0 := [(2, 151), (0, (v214 - 1))]) gz_190_86 gm_187 rfl is_151 rd_10 rfl rfl rfl rfl rfl (c_Model_takeNumber9_f1 (d := (d + 1)) (x1 := (v214 - 1)) (by omega) (by omega) ((3 + (16 * v210))) ((my_up_self fh212)) (by omega) (by omega) Tok_h212 (fun w217 w218 xp219 Tok_h212t220 => ?_))
          show wp l rho (d + 3) 190 89 [(2, 151), (0, x1)] [(0, 0), (0, x1), (2, 169)] h212 Q
          have ps221 : h212 151 7 = (sN (sm h) (((sN (sm h) ((h 151 7)))))) := ((my_up_fld fh212 (by decide)).trans xp80)
          rw [ps221] at xp219
          have hi222 : 0 ≤ 0 := by omega
          have hi223 : 0 ≤ 7 := by omega
          refine w_iast gz_190_89 is_169 rd_68 (by omega) (by omega) (by omega) (by omega) (fun h224 fh224 => ?_)
          have gh224 : my_fr [(10, 7), (10, 8), (67, -1), (68, -1), (69, -1)] h h224 := my_fr.up gh212 is_169 fh224 rfl
          have Mq_h224 : Mq h224 wv := Mq_u (a := 169) hwv (by decide) (by omega) fh224 Mq_h212
          have Wd9_h224 : Wd9 h224 := Wd9_ag (my_ag.up fh224 is_169 rfl) Wd9_h212
          have P6_h224 : h224 167 6 = h 167 6 := P6_ag (my_ag.up fh224 is_169 rfl) P6_h212
          have Ko_h224 : Ko h h224 := Ko_u (a := 169) hwv (by decide) (by omega) fh224 Ko_h212
          have Tok_h224 : Tok h224 := Tok_ag (my_ag.up fh224 is_169 rfl) Tok_h212t220
          have k169 := my_up_self fh224
          have psR : h224 151 7 = (sN (sm h) (((sN (sm h) ((h 151 7)))))) := ((my_up_role fh224 is_151 is_169 rfl).trans ((my_up_fld fh212 (by decide)).trans xp80))
          have npsR : sm h224 = sm h := sm_eq (fun j => my_fr.at gh224 is_153 rfl) (fun j => my_fr.at gh224 is_154 rfl) (fun j => my_fr.at gh224 is_155 rfl)
          have ce225 : h224 151 7 = v209 := ((my_up_role fh224 is_151 is_169 rfl).trans ((my_up_fld fh212 (by decide)).trans ev209.symm))
          have ce226 : h224 151 27 = v214 := ((my_up_role fh224 is_151 is_169 rfl).trans ev214.symm)
          have a168 : ∀ j : Int, h224 168 j = h2 168 j := fun j => ((my_up_role fh224 is_168 is_169 rfl).trans ((my_up_role fh212 is_168 is_151 rfl).trans ((my_fr.at frh75 is_168 rfl).trans ((my_up_role fh64 is_168 is_170 rfl).trans ((my_fr.at frh13 is_168 rfl).trans (rfl : h2 168 j = h2 168 j))))))
          have a170 : ∀ j : Int, h224 170 j = h64 170 j := fun j => ((my_up_role fh224 is_170 is_169 rfl).trans ((my_up_role fh212 is_170 is_151 rfl).trans ((my_fr.at frh75 is_170 rfl).trans (rfl : h64 170 j = h64 170 j))))
          have a169 : ∀ j : Int, h224 169 j = h224 169 j := fun _ => rfl
          have c227 := ((my_up_role fh224 is_151 is_169 rfl).trans (my_up_self fh212))
          exact w_vret gz_190_90 gm_190 (k0 h224 (gh224) (by omega) (by omega) (by first | exact Ko_h224 | (rw [a168]; exact k168) | (unfold sumM; first | exact Or.inr (Or.inr ⟨by omega, by omega, Or.inr ⟨by omega, Or.inr ⟨by omega, Or.inr (Or.inr ⟨by omega, by omega, ⟨by omega, by omega⟩⟩)⟩⟩⟩) | exact Or.inr (Or.inr ⟨by omega, by omega, Or.inr ⟨by omega, Or.inr ⟨by omega, Or.inr (Or.inl ⟨by omega, by omega, by omega⟩)⟩⟩⟩) | exact Or.inr (Or.inr ⟨by omega, by omega, Or.inr ⟨by omega, Or.inr ⟨by omega, Or.inl ⟨by omega, by omega⟩⟩⟩⟩) | exact Or.inr (Or.inr ⟨by omega, by omega, Or.inr ⟨by omega, Or.inl ⟨by omega, by omega, by omega⟩⟩⟩) | exact Or.inr (Or.inr ⟨by omega, by omega, Or.inl ⟨by omega, by omega⟩⟩) | exact Or.inr (Or.inl ⟨by omega, by omega, by omega⟩) | exact Or.inl ⟨by omega, by omega⟩) | omega | (refine ⟨fun q => ?_, fun q => ?_⟩ <;> first | (rw [a168, k168] at q; omega) | (rw [a170, k170]; omega)) | (refine ⟨fun q => ?_, fun q => ?_, fun q => ?_⟩ <;> first | (exfalso; rw [a168, k168] at q; omega) | (rw [a169, k169]; omega) | (rw [a170, k170]; omega)) | omega) (by first | exact Ko_h224 | (rw [a168]; exact k168) | (unfold sumM; first | exact Or.inr (Or.inr ⟨by omega, by omega, Or.inr ⟨by omega, Or.inr ⟨by omega, Or.inr (Or.inr ⟨by omega, by omega, ⟨by omega, by omega⟩⟩)⟩⟩⟩) | exact Or.inr (Or.inr ⟨by omega, by omega, Or.inr ⟨by omega, Or.inr ⟨by omega, Or.inr (Or.inl ⟨by omega, by omega, by omega⟩)⟩⟩⟩) | exact Or.inr (Or.inr ⟨by omega, by omega, Or.inr ⟨by omega, Or.inr ⟨by omega, Or.inl ⟨by omega, by omega⟩⟩⟩⟩) | exact Or.inr (Or.inr ⟨by omega, by omega, Or.inr ⟨by omega, Or.inl ⟨by omega, by omega, by omega⟩⟩⟩) | exact Or.inr (Or.inr ⟨by omega, by omega, Or.inl ⟨by omega, by omega⟩⟩) | exact Or.inr (Or.inl ⟨by omega, by omega, by omega⟩) | exact Or.inl ⟨by omega, by omega⟩) | omega | (refine ⟨fun q => ?_, fun q => ?_⟩ <;> first | (rw [a168, k168] at q; omega) | (rw [a170, k170]; omega)) | (refine ⟨fun q => ?_, fun q => ?_, fun q => ?_⟩ <;> first | (exfalso; rw [a168, k168] at q; omega) | (rw [a169, k169]; omega) | (rw [a170, k170]; omega)) | omega) (by first | exact Ko_h224 | (rw [a168]; exact k168) | (unfold sumM; first | exact Or.inr (Or.inr ⟨by omega, by omega, Or.inr ⟨by omega, Or.inr ⟨by omega, Or.inr (Or.inr ⟨by omega, by omega, ⟨by omega, by omega⟩⟩)⟩⟩⟩) | exact Or.inr (Or.inr ⟨by omega, by omega, Or.inr ⟨by omega, Or.inr ⟨by omega, Or.inr (Or.inl ⟨by omega, by omega, by omega⟩)⟩⟩⟩) | exact Or.inr (Or.inr ⟨by omega, by omega, Or.inr ⟨by omega, Or.inr ⟨by omega, Or.inl ⟨by omega, by omega⟩⟩⟩⟩) | exact Or.inr (Or.inr ⟨by omega, by omega, Or.inr ⟨by omega, Or.inl ⟨by omega, by omega, by omega⟩⟩⟩) | exact Or.inr (Or.inr ⟨by omega, by omega, Or.inl ⟨by omega, by omega⟩⟩) | exact Or.inr (Or.inl ⟨by omega, by omega, by omega⟩) | exact Or.inl ⟨by omega, by omega⟩) | omega | (refine ⟨fun q => ?_, fun q => ?_⟩ <;> first | (rw [a168, k168] at q; omega) | (rw [a170, k170]; omega)) | (refine ⟨fun q => ?_, fun q => ?_, fun q => ?_⟩ <;> first | (exfalso; rw [a168, k168] at q; omega) | (rw [a169, k169]; omega) | (rw [a170, k170]; omega)) | omega) Tok_h224 Mq_h224 Wd9_h224)
theorem c_Reader_takeWord9_f0 {l : Launch} {rho : Nat → Int32} {d : Nat} {h : my_H} {Q : my_H → my_V → Prop} {x1 : Int} (s1 : 1 ≤ x1 ∧ x1 ≤ 12) (cf : h 82 9 = 0) (n_Al : Al h) (n_Cu : Cu h) (k0 : ∀ (h' : my_H), my_fr [(5, 5), (5, 6), (5, 7), (5, 8), (5, 9)] h h' → 1 ≤ h' 82 9 → h' 82 9 ≤ 16001 → sW (cs h) (h 82 7) ≠ wc x1 → h' 82 9 = 1 + 16 * h 82 7 → Al h' → Cu h' → Q h' (0, 0)) (k1 : ∀ (h' : my_H), my_fr [(5, 5), (5, 6), (5, 7), (5, 8), (5, 9)] h h' → h' 82 9 = 0 → h' 82 7 = sN (cs h) (h 82 7) → sW (cs h) (h 82 7) = wc x1 → Al h' → Cu h' → Q h' (0, 1)) : wp l rho (d + 5) 40 0 [(2, 82), (3, x1)] [] h Q := by
  have ck1 := Cu_s n_Cu
  refine w_aload_n gz_40_0 rfl ?_
  refine w_aload3_n gz_40_1 rfl ?_
  refine w_inv (k := 1) (as := [(3, x1)]) (r := []) (x := 82) (ls0 := [(2, 82), (3, x1), (9, 0)]) gz_40_2 gm_41 rfl is_82 rd_5 rfl rfl rfl rfl rfl (c_Reader_isWord9_f0 (d := d) (x1 := x1) s1 (cf.trans (by omega)) n_Cu (fun w2 xp3 => ?_) (fun w4 w5 xp6 => ?_))
  ·
    show wp l rho (d + 5) 40 5 [(2, 82), (3, x1)] [(0, 0)] h Q
    refine w_ifne (t := 15) gz_40_5 rfl (fun u7 => by exfalso; omega) (fun u7 => ?_)
    refine w_aload_n gz_40_8 rfl ?_
    refine w_iconst gz_40_9 (by decide) ?_
    refine w_inv (k := 0) (as := [(0, 1)]) (r := []) (x := 82) (ls0 := [(2, 82), (0, 1)]) gz_40_10 gm_42 rfl is_82 rd_5 rfl rfl rfl rfl rfl ?_
    refine w_aload_n gz_42_0 rfl ?_
    refine v_getI (j := 9) gz_42_1 rfl is_82 rd_5 rfl (fun v8 ev8 pv8 qv8 => ?_)
    have zv8 := ev8.trans cf
    refine w_ifne (t := 20) gz_42_4 rfl (fun u9 => by exfalso; omega) (fun u9 => ?_)
    refine w_aload_n gz_42_7 rfl ?_
    refine w_iload_n gz_42_8 rfl ?_
    refine w_bipush gz_42_9 (by decide) ?_
    refine w_aload_n gz_42_11 rfl ?_
    refine v_getI (j := 7) gz_42_12 rfl is_82 rd_5 rfl (fun v10 ev10 pv10 qv10 => ?_)
    refine w_imul gz_42_15 ⟨by omega, by omega⟩ ?_
    refine w_iadd gz_42_16 ⟨by omega, by omega⟩ ?_
    refine v_putI (j := 9) gz_42_17 rfl is_82 rd_5 rfl (by omega) (by omega) rfl (fun h11 fh11 => ?_)
    have gh11 : my_fr [(5, 5), (5, 6), (5, 7), (5, 8), (5, 9)] h h11 := my_fr.up my_fr.rf is_82 fh11 rfl
    have Al_h11 : Al h11 := Al_ag (my_ag.up fh11 is_82 rfl) n_Al
    have Cu_h11 : Cu h11 := Cu_ag (my_ag.up fh11 is_82 rfl) n_Cu
    refine w_vret gz_42_20 gm_42 ?_
    show wp l rho (d + 5) 40 13 [(2, 82), (3, x1)] [] h11 Q
    refine w_iconst gz_40_13 (by decide) ?_
    have psR : h11 82 7 = h 82 7 := ((my_up_fld fh11 (by decide)).trans (rfl : h 82 7 = h 82 7))
    have npsR : cs h11 = cs h := cs_eq (fun j => my_fr.at gh11 is_92 rfl) (my_fr.at gh11 is_82 rfl)
    have c12 := (my_up_self fh11)
    exact w_bret gz_40_14 gm_40 (by omega) (by omega) (k0 h11 (gh11) (by omega) (by omega) (by first | assumption | omega | (subst_vars; omega) | omega) (by first | assumption | omega | (subst_vars; omega) | omega) Al_h11 Cu_h11)
  ·
    show wp l rho (d + 5) 40 5 [(2, 82), (3, x1)] [(0, 1)] h Q
    refine w_ifne (t := 15) gz_40_5 rfl (fun u13 => ?_) (fun u13 => by exfalso; omega)
    refine w_aload_n gz_40_15 rfl ?_
    refine w_inv (k := 2) (as := []) (r := []) (x := 82) (ls0 := [(2, 82), (9, 0), (9, 0)]) gz_40_16 gm_37 rfl is_82 rd_5 rfl rfl rfl rfl rfl (c_Reader_nextToken9_f0 (d := (d + 3))  (cf.trans (by omega)) n_Al (fun h14 frh14 w15 w16 w17 xp18 xp19 Al_h14t20 Cu_h14t21 => ?_))
    have gh14 : my_fr [(5, 5), (5, 6), (5, 7), (5, 8), (5, 9)] h h14 := my_fr.tr my_fr.rf (frh14.mo rfl)
    show wp l rho (d + 5) 40 19 [(2, 82), (3, x1)] [] h14 Q
    have xc22 := xp18 n_Cu
    have ck23 := Cu_s Cu_h14t21
    rw [show cs h14 = cs h from cs_eq (fun j => my_fr.at gh14 is_92 rfl) (my_fr.at gh14 is_82 rfl)] at ck23
    rw [show h14 82 7 = (sN (cs h) (h 82 7)) from xc22] at ck23
    refine w_iconst gz_40_19 (by decide) ?_
    have psR : h14 82 7 = (sN (cs h) (h 82 7)) := xc22
    have npsR : cs h14 = cs h := cs_eq (fun j => my_fr.at gh14 is_92 rfl) (my_fr.at gh14 is_82 rfl)
    have c24 := ((my_fr.at frh14 is_82 rfl).trans cf)
    exact w_bret gz_40_20 gm_40 (by omega) (by omega) (k1 h14 (gh14) (by omega) (by first | assumption | omega | (subst_vars; omega) | omega) (by first | assumption | omega | (subst_vars; omega) | omega) Al_h14t20 Cu_h14t21)
theorem c_Reader_endPart9_f0 {l : Launch} {rho : Nat → Int32} {d : Nat} {h : my_H} {Q : my_H → my_V → Prop} (cf : h 82 9 = 0) (n_Al : Al h) (n_Cu : Cu h) (k0 : ∀ (h' : my_H), my_fr [(5, 5), (5, 6), (5, 7), (5, 8), (5, 9)] h h' → 1 ≤ h' 82 9 → h' 82 9 ≤ 16001 → sK (cs h) (sN (cs h) (h 82 7)) ≠ 3 → h' 82 9 = 1 + 16 * sN (cs h) (h 82 7) → Al h' → Cu h' → Q h' (9, 0)) (k1 : ∀ (h' : my_H), my_fr [(5, 5), (5, 6), (5, 7), (5, 8), (5, 9)] h h' → h' 82 9 = 0 → h' 82 7 = sN (cs h) (sN (cs h) (h 82 7)) → sK (cs h) (sN (cs h) (h 82 7)) = 3 → Al h' → Cu h' → Q h' (9, 0)) : wp l rho (d + 3) 46 0 [(2, 82)] [] h Q := by
  have ck1 := Cu_s n_Cu
  refine w_aload_n gz_46_0 rfl ?_
  refine w_inv (k := 2) (as := []) (r := []) (x := 82) (ls0 := [(2, 82), (9, 0), (9, 0)]) gz_46_1 gm_37 rfl is_82 rd_5 rfl rfl rfl rfl rfl (c_Reader_nextToken9_f0 (d := (d + 1))  (cf.trans (by omega)) n_Al (fun h2 frh2 w3 w4 w5 xp6 xp7 Al_h2t8 Cu_h2t9 => ?_))
  have gh2 : my_fr [(5, 5), (5, 6), (5, 7), (5, 8), (5, 9)] h h2 := my_fr.tr my_fr.rf (frh2.mo rfl)
  show wp l rho (d + 3) 46 4 [(2, 82)] [] h2 Q
  have xc10 := xp6 n_Cu
  have ck11 := Cu_s Cu_h2t9
  rw [show cs h2 = cs h from cs_eq (fun j => my_fr.at gh2 is_92 rfl) (my_fr.at gh2 is_82 rfl)] at ck11
  rw [show h2 82 7 = (sN (cs h) (h 82 7)) from xc10] at ck11
  refine w_aload_n gz_46_4 rfl ?_
  refine w_inv (k := 0) (as := []) (r := []) (x := 82) (ls0 := [(2, 82)]) gz_46_5 gm_47 rfl is_82 rd_5 rfl rfl rfl rfl rfl (c_Reader_endsHere9_f0 (d := d)  (((my_fr.at frh2 is_82 rfl).trans cf).trans (by omega)) Al_h2t8 Cu_h2t9 (fun h12 frh12 w13 w14 xp15 xp16 Al_h12t17 Cu_h12t18 => ?_) (fun h19 frh19 w20 xp21 xp22 Al_h19t23 Cu_h19t24 => ?_))
  ·
    have gh12 : my_fr [(5, 5), (5, 6), (5, 7), (5, 8), (5, 9)] h h12 := my_fr.tr gh2 (frh12.mo rfl)
    show wp l rho (d + 3) 46 8 [(2, 82)] [(0, 0)] h12 Q
    have tE25 : cs h2 = cs h := cs_eq (fun j => my_fr.at gh2 is_92 rfl) (my_fr.at gh2 is_82 rfl)
    rw [tE25] at xp15
    have ps26 : h2 82 7 = (sN (cs h) (h 82 7)) := xc10
    rw [ps26] at xp15
    rw [ps26] at xp16
    refine w_pop gz_46_8 rfl ?_
    have psR : h12 82 7 = h12 82 7 := (rfl : h12 82 7 = h12 82 7)
    have npsR : cs h12 = cs h := cs_eq (fun j => my_fr.at gh12 is_92 rfl) (my_fr.at gh12 is_82 rfl)
    have c27 := (rfl : h12 82 9 = h12 82 9)
    exact w_vret gz_46_9 gm_46 (k0 h12 (gh12) (by omega) (by omega) (by first | assumption | omega | (subst_vars; omega) | omega) (by first | assumption | omega | (subst_vars; omega) | omega) Al_h12t17 Cu_h12t18)
  ·
    have gh19 : my_fr [(5, 5), (5, 6), (5, 7), (5, 8), (5, 9)] h h19 := my_fr.tr gh2 (frh19.mo rfl)
    show wp l rho (d + 3) 46 8 [(2, 82)] [(0, 1)] h19 Q
    have tE28 : cs h2 = cs h := cs_eq (fun j => my_fr.at gh2 is_92 rfl) (my_fr.at gh2 is_82 rfl)
    rw [tE28] at xp21
    have ps29 : h2 82 7 = (sN (cs h) (h 82 7)) := xc10
    rw [ps29] at xp21
    rw [tE28] at xp22
    rw [ps29] at xp22
    have ck30 := Cu_s Cu_h19t24
    rw [show cs h19 = cs h from cs_eq (fun j => my_fr.at gh19 is_92 rfl) (my_fr.at gh19 is_82 rfl)] at ck30
    rw [show h19 82 7 = (sN (cs h) (((sN (cs h) (h 82 7))))) from xp21] at ck30
    refine w_pop gz_46_8 rfl ?_
    have psR : h19 82 7 = (sN (cs h) (((sN (cs h) (h 82 7))))) := xp21
    have npsR : cs h19 = cs h := cs_eq (fun j => my_fr.at gh19 is_92 rfl) (my_fr.at gh19 is_82 rfl)
    have c31 := w20
    exact w_vret gz_46_9 gm_46 (k1 h19 (gh19) (by omega) (by first | assumption | omega | (subst_vars; omega) | omega) (by first | assumption | omega | (subst_vars; omega) | omega) Al_h19t23 Cu_h19t24)
theorem c_Reader_readFill9_f0 {l : Launch} {rho : Nat → Int32} {d : Nat} {h : my_H} {Q : my_H → my_V → Prop} (cf : h 82 9 = 0) (n_Al : Al h) (n_Cu : Cu h) (k0 : ∀ (h' : my_H), my_fr [(5, 5), (5, 6), (5, 7), (5, 8), (5, 9), (38, -1)] h h' → 1 ≤ h' 82 9 → h' 82 9 ≤ 16004 → fillR (cs h) (h 82 7) (h (h 82 2) 3) (h' 82 9) (h' 82 7) → Al h' → Cu h' → Q h' (9, 0)) (k1 : ∀ (h' : my_H), my_fr [(5, 5), (5, 6), (5, 7), (5, 8), (5, 9), (38, -1)] h h' → h' 82 9 = 0 → fillR (cs h) (h 82 7) (h (h 82 2) 3) (h' 82 9) (h' 82 7) → Al h' → Cu h' → Q h' (9, 0)) : wp l rho (d + 3) 50 0 [(2, 82), (9, 0), (9, 0)] [] h Q := by
  have ck1 := Cu_s n_Cu
  refine w_aload_n gz_50_0 rfl ?_
  refine w_aload_n gz_50_1 rfl ?_
  refine v_getR (j := 2) gz_50_2 rfl is_82 rd_5 rfl (fun v2 ev2 tv2 => ?_)
  have ce3 : h 82 2 = v2 := ev2.symm
  have sE5 : v2 = h 82 2 := by first | assumption | omega
  refine v_getI (j := 3) gz_50_5 rfl tv2 rd_4 rfl (fun v4 ev4 pv4 qv4 => ?_)
  have c8 : v4 = h (h 82 2) 3 := by rw [← sE5]; omega
  refine w_inv (k := 1) (as := [(0, v4)]) (r := []) (x := 82) (ls0 := [(2, 82), (0, v4), (9, 0)]) gz_50_8 gm_51 rfl is_82 rd_5 rfl rfl rfl rfl rfl (c_Reader_takeNumber9_f0 (d := d) (x1 := v4) (by omega) (by omega) (cf.trans (by omega)) n_Al n_Cu (fun h5 frh5 w6 w7 xp8 Al_h5t9 Cu_h5t10 => ?_) (fun h11 v12 frh11 w13 w14 w15 w16 w17 xp18 xp19 xp20 Al_h11t21 Cu_h11t22 => ?_))
  ·
    have gh5 : my_fr [(5, 5), (5, 6), (5, 7), (5, 8), (5, 9), (38, -1)] h h5 := my_fr.tr my_fr.rf (frh5.mo rfl)
    show wp l rho (d + 3) 50 11 [(2, 82), (9, 0), (9, 0)] [(0, (-1))] h5 Q
    refine w_istore_n (ls' := [(2, 82), (0, (-1)), (9, 0)]) gz_50_11 gm_50 rfl rfl rfl ?_
    refine w_aload_n gz_50_12 rfl ?_
    refine w_bipush gz_50_13 (by decide) ?_
    refine w_inv (k := 1) (as := [(0, 20)]) (r := []) (x := 82) (ls0 := [(2, 82), (0, 20), (9, 0)]) gz_50_15 gm_51 rfl is_82 rd_5 rfl rfl rfl rfl rfl (c_Reader_takeNumber9_f1 (d := d) (x1 := 20) (by omega) (by omega) ((h5 82 9)) ((rfl : h5 82 9 = h5 82 9)) (by omega) (by omega) Al_h5t9 Cu_h5t10 (fun w23 w24 Al_h5t25 Cu_h5t26 => ?_))
    show wp l rho (d + 3) 50 18 [(2, 82), (0, (-1)), (9, 0)] [(0, (-1))] h5 Q
    refine w_istore_n (ls' := [(2, 82), (0, (-1)), (0, (-1))]) gz_50_18 gm_50 rfl rfl rfl ?_
    refine w_aload_n gz_50_19 rfl ?_
    refine v_getI (j := 9) gz_50_20 rfl is_82 rd_5 rfl (fun v27 ev27 pv27 qv27 => ?_)
    have zv27 := ev27.trans (rfl : h5 82 9 = h5 82 9)
    refine w_ifne (t := 43) gz_50_23 rfl (fun u28 => ?_) (fun u28 => by exfalso; omega)
    have psR : h5 82 7 = h5 82 7 := (rfl : h5 82 7 = h5 82 7)
    have npsR : cs h5 = cs h := cs_eq (fun j => my_fr.at gh5 is_92 rfl) (my_fr.at gh5 is_82 rfl)
    have c29 := ev27.symm
    exact w_vret gz_50_43 gm_50 (k0 h5 (gh5) (by omega) (by omega) (by first | (unfold fillR; first | exact Or.inr (Or.inr ⟨by omega, by omega, Or.inr (Or.inr ⟨by omega, by omega, Or.inr ⟨by omega, by omega, by omega⟩⟩)⟩) | exact Or.inr (Or.inr ⟨by omega, by omega, Or.inr (Or.inr ⟨by omega, by omega, Or.inl ⟨by omega, by omega⟩⟩)⟩) | exact Or.inr (Or.inr ⟨by omega, by omega, Or.inr (Or.inl ⟨by omega, by omega, by omega⟩)⟩) | exact Or.inr (Or.inr ⟨by omega, by omega, Or.inl ⟨by omega, by omega⟩⟩) | exact Or.inr (Or.inl ⟨by omega, by omega, by omega⟩) | exact Or.inl ⟨by omega, by omega⟩) | omega) Al_h5t25 Cu_h5t26)
  ·
    have gh11 : my_fr [(5, 5), (5, 6), (5, 7), (5, 8), (5, 9), (38, -1)] h h11 := my_fr.tr my_fr.rf (frh11.mo rfl)
    show wp l rho (d + 3) 50 11 [(2, 82), (9, 0), (9, 0)] [(0, v12)] h11 Q
    have ck30 := Cu_s Cu_h11t22
    rw [show cs h11 = cs h from cs_eq (fun j => my_fr.at gh11 is_92 rfl) (my_fr.at gh11 is_82 rfl)] at ck30
    rw [show h11 82 7 = (sN (cs h) (h 82 7)) from xp18] at ck30
    refine w_istore_n (ls' := [(2, 82), (0, v12), (9, 0)]) gz_50_11 gm_50 rfl rfl rfl ?_
    refine w_aload_n gz_50_12 rfl ?_
    refine w_bipush gz_50_13 (by decide) ?_
    refine w_inv (k := 1) (as := [(0, 20)]) (r := []) (x := 82) (ls0 := [(2, 82), (0, 20), (9, 0)]) gz_50_15 gm_51 rfl is_82 rd_5 rfl rfl rfl rfl rfl (c_Reader_takeNumber9_f0 (d := d) (x1 := 20) (by omega) (by omega) (w17.trans (by omega)) Al_h11t21 Cu_h11t22 (fun h31 frh31 w32 w33 xp34 Al_h31t35 Cu_h31t36 => ?_) (fun h37 v38 frh37 w39 w40 w41 w42 w43 xp44 xp45 xp46 Al_h37t47 Cu_h37t48 => ?_))
    ·
      have gh31 : my_fr [(5, 5), (5, 6), (5, 7), (5, 8), (5, 9), (38, -1)] h h31 := my_fr.tr gh11 (frh31.mo rfl)
      show wp l rho (d + 3) 50 18 [(2, 82), (0, v12), (9, 0)] [(0, (-1))] h31 Q
      have tE49 : cs h11 = cs h := cs_eq (fun j => my_fr.at gh11 is_92 rfl) (my_fr.at gh11 is_82 rfl)
      rw [tE49] at xp34
      have ps50 : h11 82 7 = (sN (cs h) (h 82 7)) := xp18
      rw [ps50] at xp34
      refine w_istore_n (ls' := [(2, 82), (0, v12), (0, (-1))]) gz_50_18 gm_50 rfl rfl rfl ?_
      refine w_aload_n gz_50_19 rfl ?_
      refine v_getI (j := 9) gz_50_20 rfl is_82 rd_5 rfl (fun v51 ev51 pv51 qv51 => ?_)
      have zv51 := ev51.trans (rfl : h31 82 9 = h31 82 9)
      refine w_ifne (t := 43) gz_50_23 rfl (fun u52 => ?_) (fun u52 => by exfalso; omega)
      have psR : h31 82 7 = h31 82 7 := (rfl : h31 82 7 = h31 82 7)
      have npsR : cs h31 = cs h := cs_eq (fun j => my_fr.at gh31 is_92 rfl) (my_fr.at gh31 is_82 rfl)
      have c53 := ev51.symm
      exact w_vret gz_50_43 gm_50 (k0 h31 (gh31) (by omega) (by omega) (by first | (unfold fillR; first | exact Or.inr (Or.inr ⟨by omega, by omega, Or.inr (Or.inr ⟨by omega, by omega, Or.inr ⟨by omega, by omega, by omega⟩⟩)⟩) | exact Or.inr (Or.inr ⟨by omega, by omega, Or.inr (Or.inr ⟨by omega, by omega, Or.inl ⟨by omega, by omega⟩⟩)⟩) | exact Or.inr (Or.inr ⟨by omega, by omega, Or.inr (Or.inl ⟨by omega, by omega, by omega⟩)⟩) | exact Or.inr (Or.inr ⟨by omega, by omega, Or.inl ⟨by omega, by omega⟩⟩) | exact Or.inr (Or.inl ⟨by omega, by omega, by omega⟩) | exact Or.inl ⟨by omega, by omega⟩) | omega) Al_h31t35 Cu_h31t36)
    ·
      have gh37 : my_fr [(5, 5), (5, 6), (5, 7), (5, 8), (5, 9), (38, -1)] h h37 := my_fr.tr gh11 (frh37.mo rfl)
      show wp l rho (d + 3) 50 18 [(2, 82), (0, v12), (9, 0)] [(0, v38)] h37 Q
      have tE54 : cs h11 = cs h := cs_eq (fun j => my_fr.at gh11 is_92 rfl) (my_fr.at gh11 is_82 rfl)
      rw [tE54] at xp44
      have ps55 : h11 82 7 = (sN (cs h) (h 82 7)) := xp18
      rw [ps55] at xp44
      rw [tE54] at xp45
      rw [ps55] at xp45
      rw [tE54] at xp46
      rw [ps55] at xp46
      have ck56 := Cu_s Cu_h37t48
      rw [show cs h37 = cs h from cs_eq (fun j => my_fr.at gh37 is_92 rfl) (my_fr.at gh37 is_82 rfl)] at ck56
      rw [show h37 82 7 = (sN (cs h) (((sN (cs h) (h 82 7))))) from xp44] at ck56
      refine w_istore_n (ls' := [(2, 82), (0, v12), (0, v38)]) gz_50_18 gm_50 rfl rfl rfl ?_
      refine w_aload_n gz_50_19 rfl ?_
      refine v_getI (j := 9) gz_50_20 rfl is_82 rd_5 rfl (fun v57 ev57 pv57 qv57 => ?_)
      have zv57 := ev57.trans w43
      refine w_ifne (t := 43) gz_50_23 rfl (fun u58 => by exfalso; omega) (fun u58 => ?_)
      refine w_aload_n gz_50_26 rfl ?_
      refine w_inv (k := 0) (as := []) (r := []) (x := 82) (ls0 := [(2, 82)]) gz_50_27 gm_47 rfl is_82 rd_5 rfl rfl rfl rfl rfl (c_Reader_endsHere9_f0 (d := d)  (ev57.symm.trans (by omega)) Al_h37t47 Cu_h37t48 (fun h59 frh59 w60 w61 xp62 xp63 Al_h59t64 Cu_h59t65 => ?_) (fun h66 frh66 w67 xp68 xp69 Al_h66t70 Cu_h66t71 => ?_))
      ·
        have gh59 : my_fr [(5, 5), (5, 6), (5, 7), (5, 8), (5, 9), (38, -1)] h h59 := my_fr.tr gh37 (frh59.mo rfl)
        show wp l rho (d + 3) 50 30 [(2, 82), (0, v12), (0, v38)] [(0, 0)] h59 Q
        have tE72 : cs h37 = cs h := cs_eq (fun j => my_fr.at gh37 is_92 rfl) (my_fr.at gh37 is_82 rfl)
        rw [tE72] at xp62
        have ps73 : h37 82 7 = (sN (cs h) (((sN (cs h) (h 82 7))))) := xp44
        rw [ps73] at xp62
        rw [ps73] at xp63
        refine w_ifeq (t := 43) gz_50_30 rfl (fun u74 => ?_) (fun u74 => by exfalso; omega)
        have psR : h59 82 7 = h59 82 7 := (rfl : h59 82 7 = h59 82 7)
        have npsR : cs h59 = cs h := cs_eq (fun j => my_fr.at gh59 is_92 rfl) (my_fr.at gh59 is_82 rfl)
        have c75 := (rfl : h59 82 9 = h59 82 9)
        exact w_vret gz_50_43 gm_50 (k0 h59 (gh59) (by omega) (by omega) (by first | (unfold fillR; first | exact Or.inr (Or.inr ⟨by omega, by omega, Or.inr (Or.inr ⟨by omega, by omega, Or.inr ⟨by omega, by omega, by omega⟩⟩)⟩) | exact Or.inr (Or.inr ⟨by omega, by omega, Or.inr (Or.inr ⟨by omega, by omega, Or.inl ⟨by omega, by omega⟩⟩)⟩) | exact Or.inr (Or.inr ⟨by omega, by omega, Or.inr (Or.inl ⟨by omega, by omega, by omega⟩)⟩) | exact Or.inr (Or.inr ⟨by omega, by omega, Or.inl ⟨by omega, by omega⟩⟩) | exact Or.inr (Or.inl ⟨by omega, by omega, by omega⟩) | exact Or.inl ⟨by omega, by omega⟩) | omega) Al_h59t64 Cu_h59t65)
      ·
        have gh66 : my_fr [(5, 5), (5, 6), (5, 7), (5, 8), (5, 9), (38, -1)] h h66 := my_fr.tr gh37 (frh66.mo rfl)
        show wp l rho (d + 3) 50 30 [(2, 82), (0, v12), (0, v38)] [(0, 1)] h66 Q
        have tE76 : cs h37 = cs h := cs_eq (fun j => my_fr.at gh37 is_92 rfl) (my_fr.at gh37 is_82 rfl)
        rw [tE76] at xp68
        have ps77 : h37 82 7 = (sN (cs h) (((sN (cs h) (h 82 7))))) := xp44
        rw [ps77] at xp68
        rw [tE76] at xp69
        rw [ps77] at xp69
        have ck78 := Cu_s Cu_h66t71
        rw [show cs h66 = cs h from cs_eq (fun j => my_fr.at gh66 is_92 rfl) (my_fr.at gh66 is_82 rfl)] at ck78
        rw [show h66 82 7 = (sN (cs h) (((sN (cs h) (((sN (cs h) (h 82 7)))))))) from xp68] at ck78
        refine w_ifeq (t := 43) gz_50_30 rfl (fun u79 => by exfalso; omega) (fun u79 => ?_)
        refine w_aload_n gz_50_33 rfl ?_
        refine v_getR (j := 2) gz_50_34 rfl is_82 rd_5 rfl (fun v80 ev80 tv80 => ?_)
        have zv80 : v2 = v80 := (ev80.trans ((my_fr.at frh66 is_82 rfl).trans ((my_fr.at frh37 is_82 rfl).trans ((my_fr.at frh11 is_82 rfl).trans ev2.symm)))).symm
        subst zv80
        refine w_getX (v := (v2 + 7)) gz_50_37 tv2 rd_4 rfl (by decide) rfl ?_
        refine w_iload_n gz_50_40 rfl ?_
        refine w_iload_n gz_50_41 rfl ?_
        refine w_iast gz_50_42 (ix_4_7 tv2) rd_38 (by omega) (by omega) (by omega) (by omega) (fun h82 fh82 => ?_)
        have gh82 : my_fr [(5, 5), (5, 6), (5, 7), (5, 8), (5, 9), (38, -1)] h h82 := my_fr.up gh66 (ix_4_7 tv2) fh82 rfl
        have Al_h82 : Al h82 := Al_ag (my_ag.up fh82 (ix_4_7 tv2) rfl) Al_h66t70
        have Cu_h82 : Cu h82 := Cu_ag (my_ag.up fh82 (ix_4_7 tv2) rfl) Cu_h66t71
        have psR : h82 82 7 = (sN (cs h) (((sN (cs h) (((sN (cs h) (h 82 7)))))))) := ((my_up_role fh82 is_82 (ix_4_7 tv2) rfl).trans xp68)
        have npsR : cs h82 = cs h := cs_eq (fun j => my_fr.at gh82 is_92 rfl) (my_fr.at gh82 is_82 rfl)
        have c83 := ((my_up_role fh82 is_82 (ix_4_7 tv2) rfl).trans w67)
        exact w_vret gz_50_43 gm_50 (k1 h82 (gh82) (by omega) (by first | (unfold fillR; first | exact Or.inr (Or.inr ⟨by omega, by omega, Or.inr (Or.inr ⟨by omega, by omega, Or.inr ⟨by omega, by omega, by omega⟩⟩)⟩) | exact Or.inr (Or.inr ⟨by omega, by omega, Or.inr (Or.inr ⟨by omega, by omega, Or.inl ⟨by omega, by omega⟩⟩)⟩) | exact Or.inr (Or.inr ⟨by omega, by omega, Or.inr (Or.inl ⟨by omega, by omega, by omega⟩)⟩) | exact Or.inr (Or.inr ⟨by omega, by omega, Or.inl ⟨by omega, by omega⟩⟩) | exact Or.inr (Or.inl ⟨by omega, by omega, by omega⟩) | exact Or.inl ⟨by omega, by omega⟩) | omega) Al_h82 Cu_h82)
theorem c_Reader_readCut9_f0 {l : Launch} {rho : Nat → Int32} {d : Nat} {h : my_H} {Q : my_H → my_V → Prop} {wv : Int} (cf : h 82 9 = 0) (hwv : wv ≤ 5) (hwv0 : 0 ≤ wv) (n_Ln : Ln h) (n_Sp : Sp h wv) (n_St5 : St5 h) (n_Al : Al h) (n_Cu : Cu h) (k0 : ∀ (h' : my_H), my_fr [(4, 5), (4, 8), (4, 9), (5, 5), (5, 6), (5, 7), (5, 8), (5, 9), (32, -1), (33, -1), (34, -1), (35, -1)] h h' → 1 ≤ h' 82 9 → h' 82 9 ≤ 16004 → cutR (cs h) (h 82 7) (h (h 82 2) 4) (h' 82 9) (h' 82 7) → Ln h' → Sp h' wv → Al h' → Cu h' → Q h' (9, 0)) (k1 : ∀ (h' : my_H), my_fr [(4, 5), (4, 8), (4, 9), (5, 5), (5, 6), (5, 7), (5, 8), (5, 9), (32, -1), (33, -1), (34, -1), (35, -1)] h h' → h' 82 9 = 0 → cutR (cs h) (h 82 7) (h (h 82 2) 4) (h' 82 9) (h' 82 7) → Std h h' (h (h 82 2) 4) (h (h 82 2) 9 + 1) → Ln h' → Sp h' wv → Al h' → Cu h' → Q h' (9, 0)) : wp l rho (d + 5) 52 0 [(2, 82), (9, 0), (9, 0), (9, 0)] [] h Q := by
  have ck1 := Cu_s n_Cu
  refine w_aload_n gz_52_0 rfl ?_
  refine w_aload_n gz_52_1 rfl ?_
  refine v_getR (j := 2) gz_52_2 rfl is_82 rd_5 rfl (fun v2 ev2 tv2 => ?_)
  have ce3 : h 82 2 = v2 := ev2.symm
  have sE8 : v2 = h 82 2 := by first | assumption | omega
  refine v_getI (j := 4) gz_52_5 rfl tv2 rd_4 rfl (fun v4 ev4 pv4 qv4 => ?_)
  have c8 : v4 = h (h 82 2) 4 := by rw [← sE8]; omega
  refine w_inv (k := 1) (as := [(0, v4)]) (r := []) (x := 82) (ls0 := [(2, 82), (0, v4), (9, 0)]) gz_52_8 gm_51 rfl is_82 rd_5 rfl rfl rfl rfl rfl (c_Reader_takeNumber9_f0 (d := (d + 2)) (x1 := v4) (by omega) (by omega) (cf.trans (by omega)) n_Al n_Cu (fun h5 frh5 w6 w7 xp8 Al_h5t9 Cu_h5t10 => ?_) (fun h11 v12 frh11 w13 w14 w15 w16 w17 xp18 xp19 xp20 Al_h11t21 Cu_h11t22 => ?_))
  ·
    have gh5 : my_fr [(4, 5), (4, 8), (4, 9), (5, 5), (5, 6), (5, 7), (5, 8), (5, 9), (32, -1), (33, -1), (34, -1), (35, -1)] h h5 := my_fr.tr my_fr.rf (frh5.mo rfl)
    have Ln_h5 : Ln h5 := Ln_ag (my_ag.fr frh5 rfl) n_Ln
    have Sp_h5 : Sp h5 wv := Sp_ag (my_ag.fr frh5 rfl) hwv n_Ln n_Sp
    have St5_h5 : St5 h5 := St5_ag (my_ag.fr frh5 rfl) n_Ln n_St5
    show wp l rho (d + 5) 52 11 [(2, 82), (9, 0), (9, 0), (9, 0)] [(0, (-1))] h5 Q
    refine w_istore_n (ls' := [(2, 82), (0, (-1)), (9, 0), (9, 0)]) gz_52_11 gm_52 rfl rfl rfl ?_
    refine w_aload_n gz_52_12 rfl ?_
    refine w_ldcS gz_52_13 (by decide) ?_
    refine w_inv (k := 1) (as := [(3, ((9 : Nat) : Int))]) (r := []) (x := 82) (ls0 := [(2, 82), (3, ((9 : Nat) : Int)), (9, 0)]) gz_52_15 gm_41 rfl is_82 rd_5 rfl rfl rfl rfl rfl (c_Reader_isWord9_f1 (d := d) (x1 := ((9 : Nat) : Int)) (by decide) ((h5 82 9)) ((rfl : h5 82 9 = h5 82 9)) (by omega) (by omega) Cu_h5t10 (fun w23 w24 xp25 => ?_) (fun w26 w27 w28 xp29 => ?_))
    ·
      show wp l rho (d + 5) 52 18 [(2, 82), (0, (-1)), (9, 0), (9, 0)] [(0, 0)] h5 Q
      rw [show wc ((9 : Nat) : Int) = 615403 from by decide] at xp25
      have tE30 : cs h5 = cs h := cs_eq (fun j => my_fr.at gh5 is_92 rfl) (my_fr.at gh5 is_82 rfl)
      rw [tE30] at xp25
      refine w_ifeq (t := 25) gz_52_18 rfl (fun u31 => ?_) (fun u31 => by exfalso; omega)
      refine w_aload_n gz_52_25 rfl ?_
      refine w_ldcS gz_52_26 (by decide) ?_
      refine w_inv (k := 1) (as := [(3, ((10 : Nat) : Int))]) (r := []) (x := 82) (ls0 := [(2, 82), (3, ((10 : Nat) : Int)), (9, 0)]) gz_52_28 gm_41 rfl is_82 rd_5 rfl rfl rfl rfl rfl (c_Reader_isWord9_f1 (d := d) (x1 := ((10 : Nat) : Int)) (by decide) ((h5 82 9)) ((rfl : h5 82 9 = h5 82 9)) (by omega) (by omega) Cu_h5t10 (fun w32 w33 xp34 => ?_) (fun w35 w36 w37 xp38 => ?_))
      ·
        show wp l rho (d + 5) 52 31 [(2, 82), (0, (-1)), (9, 0), (9, 0)] [(0, 0)] h5 Q
        rw [show wc ((10 : Nat) : Int) = 352 from by decide] at xp34
        have tE39 : cs h5 = cs h := cs_eq (fun j => my_fr.at gh5 is_92 rfl) (my_fr.at gh5 is_82 rfl)
        rw [tE39] at xp34
        refine w_ifeq (t := 38) gz_52_31 rfl (fun u40 => ?_) (fun u40 => by exfalso; omega)
        refine w_aload_n gz_52_38 rfl ?_
        refine w_ldcS gz_52_39 (by decide) ?_
        refine w_inv (k := 1) (as := [(3, ((11 : Nat) : Int))]) (r := []) (x := 82) (ls0 := [(2, 82), (3, ((11 : Nat) : Int)), (9, 0)]) gz_52_41 gm_41 rfl is_82 rd_5 rfl rfl rfl rfl rfl (c_Reader_isWord9_f1 (d := d) (x1 := ((11 : Nat) : Int)) (by decide) ((h5 82 9)) ((rfl : h5 82 9 = h5 82 9)) (by omega) (by omega) Cu_h5t10 (fun w41 w42 xp43 => ?_) (fun w44 w45 w46 xp47 => ?_))
        ·
          show wp l rho (d + 5) 52 44 [(2, 82), (0, (-1)), (9, 0), (9, 0)] [(0, 0)] h5 Q
          rw [show wc ((11 : Nat) : Int) = 679695 from by decide] at xp43
          have tE48 : cs h5 = cs h := cs_eq (fun j => my_fr.at gh5 is_92 rfl) (my_fr.at gh5 is_82 rfl)
          rw [tE48] at xp43
          refine w_ifeq (t := 51) gz_52_44 rfl (fun u49 => ?_) (fun u49 => by exfalso; omega)
          refine w_iconst gz_52_51 (by decide) ?_
          refine w_istore_n (ls' := [(2, 82), (0, (-1)), (0, (-1)), (9, 0)]) gz_52_52 gm_52 rfl rfl rfl ?_
          refine w_iload_n gz_52_53 rfl ?_
          refine w_iconst gz_52_54 (by decide) ?_
          refine w_icne (t := 66) gz_52_55 rfl (fun u50 => by exfalso; omega) (fun u50 => ?_)
          refine w_aload_n gz_52_58 rfl ?_
          refine w_iconst gz_52_59 (by decide) ?_
          refine w_inv (k := 0) (as := [(0, 1)]) (r := []) (x := 82) (ls0 := [(2, 82), (0, 1)]) gz_52_60 gm_42 rfl is_82 rd_5 rfl rfl rfl rfl rfl ?_
          refine w_aload_n gz_42_0 rfl ?_
          refine v_getI (j := 9) gz_42_1 rfl is_82 rd_5 rfl (fun v51 ev51 pv51 qv51 => ?_)
          have zv51 := ev51.trans (rfl : h5 82 9 = h5 82 9)
          refine w_ifne (t := 20) gz_42_4 rfl (fun u52 => ?_) (fun u52 => by exfalso; omega)
          refine w_vret gz_42_20 gm_42 ?_
          show wp l rho (d + 5) 52 63 [(2, 82), (0, (-1)), (0, (-1)), (9, 0)] [] h5 Q
          refine w_goto (t := 70) gz_52_63 rfl ?_
          refine w_aload_n gz_52_70 rfl ?_
          refine w_sipush gz_52_71 (by decide) ?_
          refine w_inv (k := 1) (as := [(0, 200)]) (r := []) (x := 82) (ls0 := [(2, 82), (0, 200), (9, 0)]) gz_52_74 gm_51 rfl is_82 rd_5 rfl rfl rfl rfl rfl (c_Reader_takeNumber9_f1 (d := (d + 2)) (x1 := 200) (by omega) (by omega) (v51) (ev51.symm) (by omega) (by omega) Al_h5t9 Cu_h5t10 (fun w53 w54 Al_h5t55 Cu_h5t56 => ?_))
          show wp l rho (d + 5) 52 77 [(2, 82), (0, (-1)), (0, (-1)), (9, 0)] [(0, (-1))] h5 Q
          refine w_istore_n (ls' := [(2, 82), (0, (-1)), (0, (-1)), (0, (-1))]) gz_52_77 gm_52 rfl rfl rfl ?_
          refine w_aload_n gz_52_78 rfl ?_
          refine v_getI (j := 9) gz_52_79 rfl is_82 rd_5 rfl (fun v57 ev57 pv57 qv57 => ?_)
          have zv57 := ev57.trans ev51.symm
          refine w_ifne (t := 102) gz_52_82 rfl (fun u58 => ?_) (fun u58 => by exfalso; omega)
          have psR : h5 82 7 = h5 82 7 := (rfl : h5 82 7 = h5 82 7)
          have npsR : cs h5 = cs h := cs_eq (fun j => my_fr.at gh5 is_92 rfl) (my_fr.at gh5 is_82 rfl)
          have c59 := ev57.symm
          exact w_vret gz_52_102 gm_52 (k0 h5 (gh5) (by omega) (by omega) (by first | exact std | (unfold cutR; first | exact Or.inr (Or.inr ⟨by omega, by omega, Or.inr ⟨by omega, Or.inr (Or.inr ⟨by omega, by omega, Or.inr ⟨by omega, by omega, by omega⟩⟩)⟩⟩) | exact Or.inr (Or.inr ⟨by omega, by omega, Or.inr ⟨by omega, Or.inr (Or.inr ⟨by omega, by omega, Or.inl ⟨by omega, by omega⟩⟩)⟩⟩) | exact Or.inr (Or.inr ⟨by omega, by omega, Or.inr ⟨by omega, Or.inr (Or.inl ⟨by omega, by omega, by omega⟩)⟩⟩) | exact Or.inr (Or.inr ⟨by omega, by omega, Or.inr ⟨by omega, Or.inl ⟨by omega, by omega⟩⟩⟩) | exact Or.inr (Or.inr ⟨by omega, by omega, Or.inl ⟨by omega, by omega, by omega, by omega⟩⟩) | exact Or.inr (Or.inl ⟨by omega, by omega, by omega⟩) | exact Or.inl ⟨by omega, by omega⟩) | omega) Ln_h5 Sp_h5 Al_h5t55 Cu_h5t56)
        ·
          show wp l rho (d + 5) 52 44 [(2, 82), (0, (-1)), (9, 0), (9, 0)] [(0, 1)] h5 Q
          rw [show wc ((11 : Nat) : Int) = 679695 from by decide] at xp47
          have tE60 : cs h5 = cs h := cs_eq (fun j => my_fr.at gh5 is_92 rfl) (my_fr.at gh5 is_82 rfl)
          rw [tE60] at xp47
          refine w_ifeq (t := 51) gz_52_44 rfl (fun u61 => by exfalso; omega) (fun u61 => ?_)
          refine w_iconst gz_52_47 (by decide) ?_
          refine w_goto (t := 52) gz_52_48 rfl ?_
          refine w_istore_n (ls' := [(2, 82), (0, (-1)), (0, 2), (9, 0)]) gz_52_52 gm_52 rfl rfl rfl ?_
          refine w_iload_n gz_52_53 rfl ?_
          refine w_iconst gz_52_54 (by decide) ?_
          refine w_icne (t := 66) gz_52_55 rfl (fun u62 => ?_) (fun u62 => by exfalso; omega)
          refine w_aload_n gz_52_66 rfl ?_
          refine w_inv (k := 2) (as := []) (r := []) (x := 82) (ls0 := [(2, 82), (9, 0), (9, 0)]) gz_52_67 gm_37 rfl is_82 rd_5 rfl rfl rfl rfl rfl (c_Reader_nextToken9_f1 (d := (d + 3))  ((h5 82 9)) ((rfl : h5 82 9 = h5 82 9)) (by omega) (by omega) Al_h5t9 (fun h63 frh63 w64 w65 w66 w67 xp68 xp69 Al_h63t70 Cu_h63t71 => ?_))
          have gh63 : my_fr [(4, 5), (4, 8), (4, 9), (5, 5), (5, 6), (5, 7), (5, 8), (5, 9), (32, -1), (33, -1), (34, -1), (35, -1)] h h63 := my_fr.tr gh5 (frh63.mo rfl)
          have Ln_h63 : Ln h63 := Ln_ag (my_ag.fr frh63 rfl) Ln_h5
          have Sp_h63 : Sp h63 wv := Sp_ag (my_ag.fr frh63 rfl) hwv Ln_h5 Sp_h5
          have St5_h63 : St5 h63 := St5_ag (my_ag.fr frh63 rfl) Ln_h5 St5_h5
          show wp l rho (d + 5) 52 70 [(2, 82), (0, (-1)), (0, 2), (9, 0)] [] h63 Q
          have xc72 := xp68 Cu_h5t10
          have tE73 : cs h5 = cs h := cs_eq (fun j => my_fr.at gh5 is_92 rfl) (my_fr.at gh5 is_82 rfl)
          rw [tE73] at xc72
          have ck74 := Cu_s Cu_h63t71
          rw [show cs h63 = cs h from cs_eq (fun j => my_fr.at gh63 is_92 rfl) (my_fr.at gh63 is_82 rfl)] at ck74
          rw [show h63 82 7 = (sN (cs h) (h5 82 7)) from xc72] at ck74
          refine w_aload_n gz_52_70 rfl ?_
          refine w_sipush gz_52_71 (by decide) ?_
          refine w_inv (k := 1) (as := [(0, 200)]) (r := []) (x := 82) (ls0 := [(2, 82), (0, 200), (9, 0)]) gz_52_74 gm_51 rfl is_82 rd_5 rfl rfl rfl rfl rfl (c_Reader_takeNumber9_f1 (d := (d + 2)) (x1 := 200) (by omega) (by omega) ((h5 82 9)) (((my_fr.at frh63 is_82 rfl).trans (rfl : h5 82 9 = h5 82 9))) (by omega) (by omega) Al_h63t70 Cu_h63t71 (fun w75 w76 Al_h63t77 Cu_h63t78 => ?_))
          show wp l rho (d + 5) 52 77 [(2, 82), (0, (-1)), (0, 2), (9, 0)] [(0, (-1))] h63 Q
          refine w_istore_n (ls' := [(2, 82), (0, (-1)), (0, 2), (0, (-1))]) gz_52_77 gm_52 rfl rfl rfl ?_
          refine w_aload_n gz_52_78 rfl ?_
          refine v_getI (j := 9) gz_52_79 rfl is_82 rd_5 rfl (fun v79 ev79 pv79 qv79 => ?_)
          have zv79 := ev79.trans ((my_fr.at frh63 is_82 rfl).trans (rfl : h5 82 9 = h5 82 9))
          refine w_ifne (t := 102) gz_52_82 rfl (fun u80 => ?_) (fun u80 => by exfalso; omega)
          have psR : h63 82 7 = (sN (cs h) (h5 82 7)) := xc72
          have npsR : cs h63 = cs h := cs_eq (fun j => my_fr.at gh63 is_92 rfl) (my_fr.at gh63 is_82 rfl)
          have c81 := ev79.symm
          exact w_vret gz_52_102 gm_52 (k0 h63 (gh63) (by omega) (by omega) (by first | exact std | (unfold cutR; first | exact Or.inr (Or.inr ⟨by omega, by omega, Or.inr ⟨by omega, Or.inr (Or.inr ⟨by omega, by omega, Or.inr ⟨by omega, by omega, by omega⟩⟩)⟩⟩) | exact Or.inr (Or.inr ⟨by omega, by omega, Or.inr ⟨by omega, Or.inr (Or.inr ⟨by omega, by omega, Or.inl ⟨by omega, by omega⟩⟩)⟩⟩) | exact Or.inr (Or.inr ⟨by omega, by omega, Or.inr ⟨by omega, Or.inr (Or.inl ⟨by omega, by omega, by omega⟩)⟩⟩) | exact Or.inr (Or.inr ⟨by omega, by omega, Or.inr ⟨by omega, Or.inl ⟨by omega, by omega⟩⟩⟩) | exact Or.inr (Or.inr ⟨by omega, by omega, Or.inl ⟨by omega, by omega, by omega, by omega⟩⟩) | exact Or.inr (Or.inl ⟨by omega, by omega, by omega⟩) | exact Or.inl ⟨by omega, by omega⟩) | omega) Ln_h63 Sp_h63 Al_h63t77 Cu_h63t78)
      ·
        show wp l rho (d + 5) 52 31 [(2, 82), (0, (-1)), (9, 0), (9, 0)] [(0, 1)] h5 Q
        rw [show wc ((10 : Nat) : Int) = 352 from by decide] at xp38
        have tE82 : cs h5 = cs h := cs_eq (fun j => my_fr.at gh5 is_92 rfl) (my_fr.at gh5 is_82 rfl)
        rw [tE82] at xp38
        refine w_ifeq (t := 38) gz_52_31 rfl (fun u83 => by exfalso; omega) (fun u83 => ?_)
        refine w_iconst gz_52_34 (by decide) ?_
        refine w_goto (t := 52) gz_52_35 rfl ?_
        refine w_istore_n (ls' := [(2, 82), (0, (-1)), (0, 1), (9, 0)]) gz_52_52 gm_52 rfl rfl rfl ?_
        refine w_iload_n gz_52_53 rfl ?_
        refine w_iconst gz_52_54 (by decide) ?_
        refine w_icne (t := 66) gz_52_55 rfl (fun u84 => ?_) (fun u84 => by exfalso; omega)
        refine w_aload_n gz_52_66 rfl ?_
        refine w_inv (k := 2) (as := []) (r := []) (x := 82) (ls0 := [(2, 82), (9, 0), (9, 0)]) gz_52_67 gm_37 rfl is_82 rd_5 rfl rfl rfl rfl rfl (c_Reader_nextToken9_f1 (d := (d + 3))  ((h5 82 9)) ((rfl : h5 82 9 = h5 82 9)) (by omega) (by omega) Al_h5t9 (fun h85 frh85 w86 w87 w88 w89 xp90 xp91 Al_h85t92 Cu_h85t93 => ?_))
        have gh85 : my_fr [(4, 5), (4, 8), (4, 9), (5, 5), (5, 6), (5, 7), (5, 8), (5, 9), (32, -1), (33, -1), (34, -1), (35, -1)] h h85 := my_fr.tr gh5 (frh85.mo rfl)
        have Ln_h85 : Ln h85 := Ln_ag (my_ag.fr frh85 rfl) Ln_h5
        have Sp_h85 : Sp h85 wv := Sp_ag (my_ag.fr frh85 rfl) hwv Ln_h5 Sp_h5
        have St5_h85 : St5 h85 := St5_ag (my_ag.fr frh85 rfl) Ln_h5 St5_h5
        show wp l rho (d + 5) 52 70 [(2, 82), (0, (-1)), (0, 1), (9, 0)] [] h85 Q
        have xc94 := xp90 Cu_h5t10
        have tE95 : cs h5 = cs h := cs_eq (fun j => my_fr.at gh5 is_92 rfl) (my_fr.at gh5 is_82 rfl)
        rw [tE95] at xc94
        have ck96 := Cu_s Cu_h85t93
        rw [show cs h85 = cs h from cs_eq (fun j => my_fr.at gh85 is_92 rfl) (my_fr.at gh85 is_82 rfl)] at ck96
        rw [show h85 82 7 = (sN (cs h) (h5 82 7)) from xc94] at ck96
        refine w_aload_n gz_52_70 rfl ?_
        refine w_sipush gz_52_71 (by decide) ?_
        refine w_inv (k := 1) (as := [(0, 200)]) (r := []) (x := 82) (ls0 := [(2, 82), (0, 200), (9, 0)]) gz_52_74 gm_51 rfl is_82 rd_5 rfl rfl rfl rfl rfl (c_Reader_takeNumber9_f1 (d := (d + 2)) (x1 := 200) (by omega) (by omega) ((h5 82 9)) (((my_fr.at frh85 is_82 rfl).trans (rfl : h5 82 9 = h5 82 9))) (by omega) (by omega) Al_h85t92 Cu_h85t93 (fun w97 w98 Al_h85t99 Cu_h85t100 => ?_))
        show wp l rho (d + 5) 52 77 [(2, 82), (0, (-1)), (0, 1), (9, 0)] [(0, (-1))] h85 Q
        refine w_istore_n (ls' := [(2, 82), (0, (-1)), (0, 1), (0, (-1))]) gz_52_77 gm_52 rfl rfl rfl ?_
        refine w_aload_n gz_52_78 rfl ?_
        refine v_getI (j := 9) gz_52_79 rfl is_82 rd_5 rfl (fun v101 ev101 pv101 qv101 => ?_)
        have zv101 := ev101.trans ((my_fr.at frh85 is_82 rfl).trans (rfl : h5 82 9 = h5 82 9))
        refine w_ifne (t := 102) gz_52_82 rfl (fun u102 => ?_) (fun u102 => by exfalso; omega)
        have psR : h85 82 7 = (sN (cs h) (h5 82 7)) := xc94
        have npsR : cs h85 = cs h := cs_eq (fun j => my_fr.at gh85 is_92 rfl) (my_fr.at gh85 is_82 rfl)
        have c103 := ev101.symm
        exact w_vret gz_52_102 gm_52 (k0 h85 (gh85) (by omega) (by omega) (by first | exact std | (unfold cutR; first | exact Or.inr (Or.inr ⟨by omega, by omega, Or.inr ⟨by omega, Or.inr (Or.inr ⟨by omega, by omega, Or.inr ⟨by omega, by omega, by omega⟩⟩)⟩⟩) | exact Or.inr (Or.inr ⟨by omega, by omega, Or.inr ⟨by omega, Or.inr (Or.inr ⟨by omega, by omega, Or.inl ⟨by omega, by omega⟩⟩)⟩⟩) | exact Or.inr (Or.inr ⟨by omega, by omega, Or.inr ⟨by omega, Or.inr (Or.inl ⟨by omega, by omega, by omega⟩)⟩⟩) | exact Or.inr (Or.inr ⟨by omega, by omega, Or.inr ⟨by omega, Or.inl ⟨by omega, by omega⟩⟩⟩) | exact Or.inr (Or.inr ⟨by omega, by omega, Or.inl ⟨by omega, by omega, by omega, by omega⟩⟩) | exact Or.inr (Or.inl ⟨by omega, by omega, by omega⟩) | exact Or.inl ⟨by omega, by omega⟩) | omega) Ln_h85 Sp_h85 Al_h85t99 Cu_h85t100)
    ·
      show wp l rho (d + 5) 52 18 [(2, 82), (0, (-1)), (9, 0), (9, 0)] [(0, 1)] h5 Q
      rw [show wc ((9 : Nat) : Int) = 615403 from by decide] at xp29
      have tE104 : cs h5 = cs h := cs_eq (fun j => my_fr.at gh5 is_92 rfl) (my_fr.at gh5 is_82 rfl)
      rw [tE104] at xp29
      refine w_ifeq (t := 25) gz_52_18 rfl (fun u105 => by exfalso; omega) (fun u105 => ?_)
      refine w_iconst gz_52_21 (by decide) ?_
      refine w_goto (t := 52) gz_52_22 rfl ?_
      refine w_istore_n (ls' := [(2, 82), (0, (-1)), (0, 0), (9, 0)]) gz_52_52 gm_52 rfl rfl rfl ?_
      refine w_iload_n gz_52_53 rfl ?_
      refine w_iconst gz_52_54 (by decide) ?_
      refine w_icne (t := 66) gz_52_55 rfl (fun u106 => ?_) (fun u106 => by exfalso; omega)
      refine w_aload_n gz_52_66 rfl ?_
      refine w_inv (k := 2) (as := []) (r := []) (x := 82) (ls0 := [(2, 82), (9, 0), (9, 0)]) gz_52_67 gm_37 rfl is_82 rd_5 rfl rfl rfl rfl rfl (c_Reader_nextToken9_f1 (d := (d + 3))  ((h5 82 9)) ((rfl : h5 82 9 = h5 82 9)) (by omega) (by omega) Al_h5t9 (fun h107 frh107 w108 w109 w110 w111 xp112 xp113 Al_h107t114 Cu_h107t115 => ?_))
      have gh107 : my_fr [(4, 5), (4, 8), (4, 9), (5, 5), (5, 6), (5, 7), (5, 8), (5, 9), (32, -1), (33, -1), (34, -1), (35, -1)] h h107 := my_fr.tr gh5 (frh107.mo rfl)
      have Ln_h107 : Ln h107 := Ln_ag (my_ag.fr frh107 rfl) Ln_h5
      have Sp_h107 : Sp h107 wv := Sp_ag (my_ag.fr frh107 rfl) hwv Ln_h5 Sp_h5
      have St5_h107 : St5 h107 := St5_ag (my_ag.fr frh107 rfl) Ln_h5 St5_h5
      show wp l rho (d + 5) 52 70 [(2, 82), (0, (-1)), (0, 0), (9, 0)] [] h107 Q
      have xc116 := xp112 Cu_h5t10
      have tE117 : cs h5 = cs h := cs_eq (fun j => my_fr.at gh5 is_92 rfl) (my_fr.at gh5 is_82 rfl)
      rw [tE117] at xc116
      have ck118 := Cu_s Cu_h107t115
      rw [show cs h107 = cs h from cs_eq (fun j => my_fr.at gh107 is_92 rfl) (my_fr.at gh107 is_82 rfl)] at ck118
      rw [show h107 82 7 = (sN (cs h) (h5 82 7)) from xc116] at ck118
      refine w_aload_n gz_52_70 rfl ?_
      refine w_sipush gz_52_71 (by decide) ?_
      refine w_inv (k := 1) (as := [(0, 200)]) (r := []) (x := 82) (ls0 := [(2, 82), (0, 200), (9, 0)]) gz_52_74 gm_51 rfl is_82 rd_5 rfl rfl rfl rfl rfl (c_Reader_takeNumber9_f1 (d := (d + 2)) (x1 := 200) (by omega) (by omega) ((h5 82 9)) (((my_fr.at frh107 is_82 rfl).trans (rfl : h5 82 9 = h5 82 9))) (by omega) (by omega) Al_h107t114 Cu_h107t115 (fun w119 w120 Al_h107t121 Cu_h107t122 => ?_))
      show wp l rho (d + 5) 52 77 [(2, 82), (0, (-1)), (0, 0), (9, 0)] [(0, (-1))] h107 Q
      refine w_istore_n (ls' := [(2, 82), (0, (-1)), (0, 0), (0, (-1))]) gz_52_77 gm_52 rfl rfl rfl ?_
      refine w_aload_n gz_52_78 rfl ?_
      refine v_getI (j := 9) gz_52_79 rfl is_82 rd_5 rfl (fun v123 ev123 pv123 qv123 => ?_)
      have zv123 := ev123.trans ((my_fr.at frh107 is_82 rfl).trans (rfl : h5 82 9 = h5 82 9))
      refine w_ifne (t := 102) gz_52_82 rfl (fun u124 => ?_) (fun u124 => by exfalso; omega)
      have psR : h107 82 7 = (sN (cs h) (h5 82 7)) := xc116
      have npsR : cs h107 = cs h := cs_eq (fun j => my_fr.at gh107 is_92 rfl) (my_fr.at gh107 is_82 rfl)
      have c125 := ev123.symm
      exact w_vret gz_52_102 gm_52 (k0 h107 (gh107) (by omega) (by omega) (by first | exact std | (unfold cutR; first | exact Or.inr (Or.inr ⟨by omega, by omega, Or.inr ⟨by omega, Or.inr (Or.inr ⟨by omega, by omega, Or.inr ⟨by omega, by omega, by omega⟩⟩)⟩⟩) | exact Or.inr (Or.inr ⟨by omega, by omega, Or.inr ⟨by omega, Or.inr (Or.inr ⟨by omega, by omega, Or.inl ⟨by omega, by omega⟩⟩)⟩⟩) | exact Or.inr (Or.inr ⟨by omega, by omega, Or.inr ⟨by omega, Or.inr (Or.inl ⟨by omega, by omega, by omega⟩)⟩⟩) | exact Or.inr (Or.inr ⟨by omega, by omega, Or.inr ⟨by omega, Or.inl ⟨by omega, by omega⟩⟩⟩) | exact Or.inr (Or.inr ⟨by omega, by omega, Or.inl ⟨by omega, by omega, by omega, by omega⟩⟩) | exact Or.inr (Or.inl ⟨by omega, by omega, by omega⟩) | exact Or.inl ⟨by omega, by omega⟩) | omega) Ln_h107 Sp_h107 Al_h107t121 Cu_h107t122)
  ·
    have gh11 : my_fr [(4, 5), (4, 8), (4, 9), (5, 5), (5, 6), (5, 7), (5, 8), (5, 9), (32, -1), (33, -1), (34, -1), (35, -1)] h h11 := my_fr.tr my_fr.rf (frh11.mo rfl)
    have Ln_h11 : Ln h11 := Ln_ag (my_ag.fr frh11 rfl) n_Ln
    have Sp_h11 : Sp h11 wv := Sp_ag (my_ag.fr frh11 rfl) hwv n_Ln n_Sp
    have St5_h11 : St5 h11 := St5_ag (my_ag.fr frh11 rfl) n_Ln n_St5
    show wp l rho (d + 5) 52 11 [(2, 82), (9, 0), (9, 0), (9, 0)] [(0, v12)] h11 Q
    have ck126 := Cu_s Cu_h11t22
    rw [show cs h11 = cs h from cs_eq (fun j => my_fr.at gh11 is_92 rfl) (my_fr.at gh11 is_82 rfl)] at ck126
    rw [show h11 82 7 = (sN (cs h) (h 82 7)) from xp18] at ck126
    refine w_istore_n (ls' := [(2, 82), (0, v12), (9, 0), (9, 0)]) gz_52_11 gm_52 rfl rfl rfl ?_
    refine w_aload_n gz_52_12 rfl ?_
    refine w_ldcS gz_52_13 (by decide) ?_
    refine w_inv (k := 1) (as := [(3, ((9 : Nat) : Int))]) (r := []) (x := 82) (ls0 := [(2, 82), (3, ((9 : Nat) : Int)), (9, 0)]) gz_52_15 gm_41 rfl is_82 rd_5 rfl rfl rfl rfl rfl (c_Reader_isWord9_f0 (d := d) (x1 := ((9 : Nat) : Int)) (by decide) (w17.trans (by omega)) Cu_h11t22 (fun w127 xp128 => ?_) (fun w129 w130 xp131 => ?_))
    ·
      show wp l rho (d + 5) 52 18 [(2, 82), (0, v12), (9, 0), (9, 0)] [(0, 0)] h11 Q
      rw [show wc ((9 : Nat) : Int) = 615403 from by decide] at xp128
      have tE132 : cs h11 = cs h := cs_eq (fun j => my_fr.at gh11 is_92 rfl) (my_fr.at gh11 is_82 rfl)
      rw [tE132] at xp128
      have ps133 : h11 82 7 = (sN (cs h) (h 82 7)) := xp18
      rw [ps133] at xp128
      refine w_ifeq (t := 25) gz_52_18 rfl (fun u134 => ?_) (fun u134 => by exfalso; omega)
      refine w_aload_n gz_52_25 rfl ?_
      refine w_ldcS gz_52_26 (by decide) ?_
      refine w_inv (k := 1) (as := [(3, ((10 : Nat) : Int))]) (r := []) (x := 82) (ls0 := [(2, 82), (3, ((10 : Nat) : Int)), (9, 0)]) gz_52_28 gm_41 rfl is_82 rd_5 rfl rfl rfl rfl rfl (c_Reader_isWord9_f0 (d := d) (x1 := ((10 : Nat) : Int)) (by decide) (w17.trans (by omega)) Cu_h11t22 (fun w135 xp136 => ?_) (fun w137 w138 xp139 => ?_))
      ·
        show wp l rho (d + 5) 52 31 [(2, 82), (0, v12), (9, 0), (9, 0)] [(0, 0)] h11 Q
        rw [show wc ((10 : Nat) : Int) = 352 from by decide] at xp136
        have tE140 : cs h11 = cs h := cs_eq (fun j => my_fr.at gh11 is_92 rfl) (my_fr.at gh11 is_82 rfl)
        rw [tE140] at xp136
        have ps141 : h11 82 7 = (sN (cs h) (h 82 7)) := xp18
        rw [ps141] at xp136
        refine w_ifeq (t := 38) gz_52_31 rfl (fun u142 => ?_) (fun u142 => by exfalso; omega)
        refine w_aload_n gz_52_38 rfl ?_
        refine w_ldcS gz_52_39 (by decide) ?_
        refine w_inv (k := 1) (as := [(3, ((11 : Nat) : Int))]) (r := []) (x := 82) (ls0 := [(2, 82), (3, ((11 : Nat) : Int)), (9, 0)]) gz_52_41 gm_41 rfl is_82 rd_5 rfl rfl rfl rfl rfl (c_Reader_isWord9_f0 (d := d) (x1 := ((11 : Nat) : Int)) (by decide) (w17.trans (by omega)) Cu_h11t22 (fun w143 xp144 => ?_) (fun w145 w146 xp147 => ?_))
        ·
          show wp l rho (d + 5) 52 44 [(2, 82), (0, v12), (9, 0), (9, 0)] [(0, 0)] h11 Q
          rw [show wc ((11 : Nat) : Int) = 679695 from by decide] at xp144
          have tE148 : cs h11 = cs h := cs_eq (fun j => my_fr.at gh11 is_92 rfl) (my_fr.at gh11 is_82 rfl)
          rw [tE148] at xp144
          have ps149 : h11 82 7 = (sN (cs h) (h 82 7)) := xp18
          rw [ps149] at xp144
          refine w_ifeq (t := 51) gz_52_44 rfl (fun u150 => ?_) (fun u150 => by exfalso; omega)
          refine w_iconst gz_52_51 (by decide) ?_
          refine w_istore_n (ls' := [(2, 82), (0, v12), (0, (-1)), (9, 0)]) gz_52_52 gm_52 rfl rfl rfl ?_
          refine w_iload_n gz_52_53 rfl ?_
          refine w_iconst gz_52_54 (by decide) ?_
          refine w_icne (t := 66) gz_52_55 rfl (fun u151 => by exfalso; omega) (fun u151 => ?_)
          refine w_aload_n gz_52_58 rfl ?_
          refine w_iconst gz_52_59 (by decide) ?_
          refine w_inv (k := 0) (as := [(0, 1)]) (r := []) (x := 82) (ls0 := [(2, 82), (0, 1)]) gz_52_60 gm_42 rfl is_82 rd_5 rfl rfl rfl rfl rfl ?_
          refine w_aload_n gz_42_0 rfl ?_
          refine v_getI (j := 9) gz_42_1 rfl is_82 rd_5 rfl (fun v152 ev152 pv152 qv152 => ?_)
          have zv152 := ev152.trans w17
          refine w_ifne (t := 20) gz_42_4 rfl (fun u153 => by exfalso; omega) (fun u153 => ?_)
          refine w_aload_n gz_42_7 rfl ?_
          refine w_iload_n gz_42_8 rfl ?_
          refine w_bipush gz_42_9 (by decide) ?_
          refine w_aload_n gz_42_11 rfl ?_
          refine v_getI (j := 7) gz_42_12 rfl is_82 rd_5 rfl (fun v154 ev154 pv154 qv154 => ?_)
          refine w_imul gz_42_15 ⟨by omega, by omega⟩ ?_
          refine w_iadd gz_42_16 ⟨by omega, by omega⟩ ?_
          refine v_putI (j := 9) gz_42_17 rfl is_82 rd_5 rfl (by omega) (by omega) rfl (fun h155 fh155 => ?_)
          have gh155 : my_fr [(4, 5), (4, 8), (4, 9), (5, 5), (5, 6), (5, 7), (5, 8), (5, 9), (32, -1), (33, -1), (34, -1), (35, -1)] h h155 := my_fr.up gh11 is_82 fh155 rfl
          have Ln_h155 : Ln h155 := Ln_ag (my_ag.up fh155 is_82 rfl) Ln_h11
          have Sp_h155 : Sp h155 wv := Sp_ag (my_ag.up fh155 is_82 rfl) hwv Ln_h11 Sp_h11
          have St5_h155 : St5 h155 := St5_ag (my_ag.up fh155 is_82 rfl) Ln_h11 St5_h11
          have Al_h155 : Al h155 := Al_ag (my_ag.up fh155 is_82 rfl) Al_h11t21
          have Cu_h155 : Cu h155 := Cu_ag (my_ag.up fh155 is_82 rfl) Cu_h11t22
          refine w_vret gz_42_20 gm_42 ?_
          show wp l rho (d + 5) 52 63 [(2, 82), (0, v12), (0, (-1)), (9, 0)] [] h155 Q
          refine w_goto (t := 70) gz_52_63 rfl ?_
          refine w_aload_n gz_52_70 rfl ?_
          refine w_sipush gz_52_71 (by decide) ?_
          refine w_inv (k := 1) (as := [(0, 200)]) (r := []) (x := 82) (ls0 := [(2, 82), (0, 200), (9, 0)]) gz_52_74 gm_51 rfl is_82 rd_5 rfl rfl rfl rfl rfl (c_Reader_takeNumber9_f1 (d := (d + 2)) (x1 := 200) (by omega) (by omega) ((1 + (16 * v154))) ((my_up_self fh155)) (by omega) (by omega) Al_h155 Cu_h155 (fun w156 w157 Al_h155t158 Cu_h155t159 => ?_))
          show wp l rho (d + 5) 52 77 [(2, 82), (0, v12), (0, (-1)), (9, 0)] [(0, (-1))] h155 Q
          refine w_istore_n (ls' := [(2, 82), (0, v12), (0, (-1)), (0, (-1))]) gz_52_77 gm_52 rfl rfl rfl ?_
          refine w_aload_n gz_52_78 rfl ?_
          refine v_getI (j := 9) gz_52_79 rfl is_82 rd_5 rfl (fun v160 ev160 pv160 qv160 => ?_)
          have zv160 := ev160.trans (my_up_self fh155)
          refine w_ifne (t := 102) gz_52_82 rfl (fun u161 => ?_) (fun u161 => by exfalso; omega)
          have psR : h155 82 7 = (sN (cs h) (h 82 7)) := ((my_up_fld fh155 (by decide)).trans xp18)
          have npsR : cs h155 = cs h := cs_eq (fun j => my_fr.at gh155 is_92 rfl) (my_fr.at gh155 is_82 rfl)
          have c162 := ev160.symm
          exact w_vret gz_52_102 gm_52 (k0 h155 (gh155) (by omega) (by omega) (by first | exact std | (unfold cutR; first | exact Or.inr (Or.inr ⟨by omega, by omega, Or.inr ⟨by omega, Or.inr (Or.inr ⟨by omega, by omega, Or.inr ⟨by omega, by omega, by omega⟩⟩)⟩⟩) | exact Or.inr (Or.inr ⟨by omega, by omega, Or.inr ⟨by omega, Or.inr (Or.inr ⟨by omega, by omega, Or.inl ⟨by omega, by omega⟩⟩)⟩⟩) | exact Or.inr (Or.inr ⟨by omega, by omega, Or.inr ⟨by omega, Or.inr (Or.inl ⟨by omega, by omega, by omega⟩)⟩⟩) | exact Or.inr (Or.inr ⟨by omega, by omega, Or.inr ⟨by omega, Or.inl ⟨by omega, by omega⟩⟩⟩) | exact Or.inr (Or.inr ⟨by omega, by omega, Or.inl ⟨by omega, by omega, by omega, by omega⟩⟩) | exact Or.inr (Or.inl ⟨by omega, by omega, by omega⟩) | exact Or.inl ⟨by omega, by omega⟩) | omega) Ln_h155 Sp_h155 Al_h155t158 Cu_h155t159)
        ·
          show wp l rho (d + 5) 52 44 [(2, 82), (0, v12), (9, 0), (9, 0)] [(0, 1)] h11 Q
          rw [show wc ((11 : Nat) : Int) = 679695 from by decide] at xp147
          have tE163 : cs h11 = cs h := cs_eq (fun j => my_fr.at gh11 is_92 rfl) (my_fr.at gh11 is_82 rfl)
          rw [tE163] at xp147
          have ps164 : h11 82 7 = (sN (cs h) (h 82 7)) := xp18
          rw [ps164] at xp147
          refine w_ifeq (t := 51) gz_52_44 rfl (fun u165 => by exfalso; omega) (fun u165 => ?_)
          refine w_iconst gz_52_47 (by decide) ?_
          refine w_goto (t := 52) gz_52_48 rfl ?_
          refine w_istore_n (ls' := [(2, 82), (0, v12), (0, 2), (9, 0)]) gz_52_52 gm_52 rfl rfl rfl ?_
          refine w_iload_n gz_52_53 rfl ?_
          refine w_iconst gz_52_54 (by decide) ?_
          refine w_icne (t := 66) gz_52_55 rfl (fun u166 => ?_) (fun u166 => by exfalso; omega)
          refine w_aload_n gz_52_66 rfl ?_
          refine w_inv (k := 2) (as := []) (r := []) (x := 82) (ls0 := [(2, 82), (9, 0), (9, 0)]) gz_52_67 gm_37 rfl is_82 rd_5 rfl rfl rfl rfl rfl (c_Reader_nextToken9_f0 (d := (d + 3))  (w17.trans (by omega)) Al_h11t21 (fun h167 frh167 w168 w169 w170 xp171 xp172 Al_h167t173 Cu_h167t174 => ?_))
          have gh167 : my_fr [(4, 5), (4, 8), (4, 9), (5, 5), (5, 6), (5, 7), (5, 8), (5, 9), (32, -1), (33, -1), (34, -1), (35, -1)] h h167 := my_fr.tr gh11 (frh167.mo rfl)
          have Ln_h167 : Ln h167 := Ln_ag (my_ag.fr frh167 rfl) Ln_h11
          have Sp_h167 : Sp h167 wv := Sp_ag (my_ag.fr frh167 rfl) hwv Ln_h11 Sp_h11
          have St5_h167 : St5 h167 := St5_ag (my_ag.fr frh167 rfl) Ln_h11 St5_h11
          show wp l rho (d + 5) 52 70 [(2, 82), (0, v12), (0, 2), (9, 0)] [] h167 Q
          have xc175 := xp171 Cu_h11t22
          have tE176 : cs h11 = cs h := cs_eq (fun j => my_fr.at gh11 is_92 rfl) (my_fr.at gh11 is_82 rfl)
          rw [tE176] at xc175
          have ps177 : h11 82 7 = (sN (cs h) (h 82 7)) := xp18
          rw [ps177] at xc175
          have ck178 := Cu_s Cu_h167t174
          rw [show cs h167 = cs h from cs_eq (fun j => my_fr.at gh167 is_92 rfl) (my_fr.at gh167 is_82 rfl)] at ck178
          rw [show h167 82 7 = (sN (cs h) (((sN (cs h) (h 82 7))))) from xc175] at ck178
          refine w_aload_n gz_52_70 rfl ?_
          refine w_sipush gz_52_71 (by decide) ?_
          refine w_inv (k := 1) (as := [(0, 200)]) (r := []) (x := 82) (ls0 := [(2, 82), (0, 200), (9, 0)]) gz_52_74 gm_51 rfl is_82 rd_5 rfl rfl rfl rfl rfl (c_Reader_takeNumber9_f0 (d := (d + 2)) (x1 := 200) (by omega) (by omega) (((my_fr.at frh167 is_82 rfl).trans w17).trans (by omega)) Al_h167t173 Cu_h167t174 (fun h179 frh179 w180 w181 xp182 Al_h179t183 Cu_h179t184 => ?_) (fun h185 v186 frh185 w187 w188 w189 w190 w191 xp192 xp193 xp194 Al_h185t195 Cu_h185t196 => ?_))
          ·
            have gh179 : my_fr [(4, 5), (4, 8), (4, 9), (5, 5), (5, 6), (5, 7), (5, 8), (5, 9), (32, -1), (33, -1), (34, -1), (35, -1)] h h179 := my_fr.tr gh167 (frh179.mo rfl)
            have Ln_h179 : Ln h179 := Ln_ag (my_ag.fr frh179 rfl) Ln_h167
            have Sp_h179 : Sp h179 wv := Sp_ag (my_ag.fr frh179 rfl) hwv Ln_h167 Sp_h167
            have St5_h179 : St5 h179 := St5_ag (my_ag.fr frh179 rfl) Ln_h167 St5_h167
            show wp l rho (d + 5) 52 77 [(2, 82), (0, v12), (0, 2), (9, 0)] [(0, (-1))] h179 Q
            have tE197 : cs h167 = cs h := cs_eq (fun j => my_fr.at gh167 is_92 rfl) (my_fr.at gh167 is_82 rfl)
            rw [tE197] at xp182
            have ps198 : h167 82 7 = (sN (cs h) (((sN (cs h) (h 82 7))))) := xc175
            rw [ps198] at xp182
            refine w_istore_n (ls' := [(2, 82), (0, v12), (0, 2), (0, (-1))]) gz_52_77 gm_52 rfl rfl rfl ?_
            refine w_aload_n gz_52_78 rfl ?_
            refine v_getI (j := 9) gz_52_79 rfl is_82 rd_5 rfl (fun v199 ev199 pv199 qv199 => ?_)
            have zv199 := ev199.trans (rfl : h179 82 9 = h179 82 9)
            refine w_ifne (t := 102) gz_52_82 rfl (fun u200 => ?_) (fun u200 => by exfalso; omega)
            have psR : h179 82 7 = h179 82 7 := (rfl : h179 82 7 = h179 82 7)
            have npsR : cs h179 = cs h := cs_eq (fun j => my_fr.at gh179 is_92 rfl) (my_fr.at gh179 is_82 rfl)
            have c201 := ev199.symm
            exact w_vret gz_52_102 gm_52 (k0 h179 (gh179) (by omega) (by omega) (by first | exact std | (unfold cutR; first | exact Or.inr (Or.inr ⟨by omega, by omega, Or.inr ⟨by omega, Or.inr (Or.inr ⟨by omega, by omega, Or.inr ⟨by omega, by omega, by omega⟩⟩)⟩⟩) | exact Or.inr (Or.inr ⟨by omega, by omega, Or.inr ⟨by omega, Or.inr (Or.inr ⟨by omega, by omega, Or.inl ⟨by omega, by omega⟩⟩)⟩⟩) | exact Or.inr (Or.inr ⟨by omega, by omega, Or.inr ⟨by omega, Or.inr (Or.inl ⟨by omega, by omega, by omega⟩)⟩⟩) | exact Or.inr (Or.inr ⟨by omega, by omega, Or.inr ⟨by omega, Or.inl ⟨by omega, by omega⟩⟩⟩) | exact Or.inr (Or.inr ⟨by omega, by omega, Or.inl ⟨by omega, by omega, by omega, by omega⟩⟩) | exact Or.inr (Or.inl ⟨by omega, by omega, by omega⟩) | exact Or.inl ⟨by omega, by omega⟩) | omega) Ln_h179 Sp_h179 Al_h179t183 Cu_h179t184)
          ·
            have gh185 : my_fr [(4, 5), (4, 8), (4, 9), (5, 5), (5, 6), (5, 7), (5, 8), (5, 9), (32, -1), (33, -1), (34, -1), (35, -1)] h h185 := my_fr.tr gh167 (frh185.mo rfl)
            have Ln_h185 : Ln h185 := Ln_ag (my_ag.fr frh185 rfl) Ln_h167
            have Sp_h185 : Sp h185 wv := Sp_ag (my_ag.fr frh185 rfl) hwv Ln_h167 Sp_h167
            have St5_h185 : St5 h185 := St5_ag (my_ag.fr frh185 rfl) Ln_h167 St5_h167
            show wp l rho (d + 5) 52 77 [(2, 82), (0, v12), (0, 2), (9, 0)] [(0, v186)] h185 Q
            have tE202 : cs h167 = cs h := cs_eq (fun j => my_fr.at gh167 is_92 rfl) (my_fr.at gh167 is_82 rfl)
            rw [tE202] at xp192
            have ps203 : h167 82 7 = (sN (cs h) (((sN (cs h) (h 82 7))))) := xc175
            rw [ps203] at xp192
            rw [tE202] at xp193
            rw [ps203] at xp193
            rw [tE202] at xp194
            rw [ps203] at xp194
            have ck204 := Cu_s Cu_h185t196
            rw [show cs h185 = cs h from cs_eq (fun j => my_fr.at gh185 is_92 rfl) (my_fr.at gh185 is_82 rfl)] at ck204
            rw [show h185 82 7 = (sN (cs h) (((sN (cs h) (((sN (cs h) (h 82 7)))))))) from xp192] at ck204
            refine w_istore_n (ls' := [(2, 82), (0, v12), (0, 2), (0, v186)]) gz_52_77 gm_52 rfl rfl rfl ?_
            refine w_aload_n gz_52_78 rfl ?_
            refine v_getI (j := 9) gz_52_79 rfl is_82 rd_5 rfl (fun v205 ev205 pv205 qv205 => ?_)
            have zv205 := ev205.trans w191
            refine w_ifne (t := 102) gz_52_82 rfl (fun u206 => by exfalso; omega) (fun u206 => ?_)
            refine w_aload_n gz_52_85 rfl ?_
            refine w_inv (k := 0) (as := []) (r := []) (x := 82) (ls0 := [(2, 82)]) gz_52_86 gm_47 rfl is_82 rd_5 rfl rfl rfl rfl rfl (c_Reader_endsHere9_f0 (d := (d + 2))  (ev205.symm.trans (by omega)) Al_h185t195 Cu_h185t196 (fun h207 frh207 w208 w209 xp210 xp211 Al_h207t212 Cu_h207t213 => ?_) (fun h214 frh214 w215 xp216 xp217 Al_h214t218 Cu_h214t219 => ?_))
            ·
              have gh207 : my_fr [(4, 5), (4, 8), (4, 9), (5, 5), (5, 6), (5, 7), (5, 8), (5, 9), (32, -1), (33, -1), (34, -1), (35, -1)] h h207 := my_fr.tr gh185 (frh207.mo rfl)
              have Ln_h207 : Ln h207 := Ln_ag (my_ag.fr frh207 rfl) Ln_h185
              have Sp_h207 : Sp h207 wv := Sp_ag (my_ag.fr frh207 rfl) hwv Ln_h185 Sp_h185
              have St5_h207 : St5 h207 := St5_ag (my_ag.fr frh207 rfl) Ln_h185 St5_h185
              show wp l rho (d + 5) 52 89 [(2, 82), (0, v12), (0, 2), (0, v186)] [(0, 0)] h207 Q
              have tE220 : cs h185 = cs h := cs_eq (fun j => my_fr.at gh185 is_92 rfl) (my_fr.at gh185 is_82 rfl)
              rw [tE220] at xp210
              have ps221 : h185 82 7 = (sN (cs h) (((sN (cs h) (((sN (cs h) (h 82 7)))))))) := xp192
              rw [ps221] at xp210
              rw [ps221] at xp211
              refine w_ifeq (t := 102) gz_52_89 rfl (fun u222 => ?_) (fun u222 => by exfalso; omega)
              have psR : h207 82 7 = h207 82 7 := (rfl : h207 82 7 = h207 82 7)
              have npsR : cs h207 = cs h := cs_eq (fun j => my_fr.at gh207 is_92 rfl) (my_fr.at gh207 is_82 rfl)
              have c223 := (rfl : h207 82 9 = h207 82 9)
              exact w_vret gz_52_102 gm_52 (k0 h207 (gh207) (by omega) (by omega) (by first | exact std | (unfold cutR; first | exact Or.inr (Or.inr ⟨by omega, by omega, Or.inr ⟨by omega, Or.inr (Or.inr ⟨by omega, by omega, Or.inr ⟨by omega, by omega, by omega⟩⟩)⟩⟩) | exact Or.inr (Or.inr ⟨by omega, by omega, Or.inr ⟨by omega, Or.inr (Or.inr ⟨by omega, by omega, Or.inl ⟨by omega, by omega⟩⟩)⟩⟩) | exact Or.inr (Or.inr ⟨by omega, by omega, Or.inr ⟨by omega, Or.inr (Or.inl ⟨by omega, by omega, by omega⟩)⟩⟩) | exact Or.inr (Or.inr ⟨by omega, by omega, Or.inr ⟨by omega, Or.inl ⟨by omega, by omega⟩⟩⟩) | exact Or.inr (Or.inr ⟨by omega, by omega, Or.inl ⟨by omega, by omega, by omega, by omega⟩⟩) | exact Or.inr (Or.inl ⟨by omega, by omega, by omega⟩) | exact Or.inl ⟨by omega, by omega⟩) | omega) Ln_h207 Sp_h207 Al_h207t212 Cu_h207t213)
            ·
              have gh214 : my_fr [(4, 5), (4, 8), (4, 9), (5, 5), (5, 6), (5, 7), (5, 8), (5, 9), (32, -1), (33, -1), (34, -1), (35, -1)] h h214 := my_fr.tr gh185 (frh214.mo rfl)
              have Ln_h214 : Ln h214 := Ln_ag (my_ag.fr frh214 rfl) Ln_h185
              have Sp_h214 : Sp h214 wv := Sp_ag (my_ag.fr frh214 rfl) hwv Ln_h185 Sp_h185
              have St5_h214 : St5 h214 := St5_ag (my_ag.fr frh214 rfl) Ln_h185 St5_h185
              show wp l rho (d + 5) 52 89 [(2, 82), (0, v12), (0, 2), (0, v186)] [(0, 1)] h214 Q
              have tE224 : cs h185 = cs h := cs_eq (fun j => my_fr.at gh185 is_92 rfl) (my_fr.at gh185 is_82 rfl)
              rw [tE224] at xp216
              have ps225 : h185 82 7 = (sN (cs h) (((sN (cs h) (((sN (cs h) (h 82 7)))))))) := xp192
              rw [ps225] at xp216
              rw [tE224] at xp217
              rw [ps225] at xp217
              have ck226 := Cu_s Cu_h214t219
              rw [show cs h214 = cs h from cs_eq (fun j => my_fr.at gh214 is_92 rfl) (my_fr.at gh214 is_82 rfl)] at ck226
              rw [show h214 82 7 = (sN (cs h) (((sN (cs h) (((sN (cs h) (((sN (cs h) (h 82 7))))))))))) from xp216] at ck226
              refine w_ifeq (t := 102) gz_52_89 rfl (fun u227 => by exfalso; omega) (fun u227 => ?_)
              refine w_aload_n gz_52_92 rfl ?_
              refine v_getR (j := 2) gz_52_93 rfl is_82 rd_5 rfl (fun v228 ev228 tv228 => ?_)
              have zv228 : v2 = v228 := (ev228.trans ((my_fr.at frh214 is_82 rfl).trans ((my_fr.at frh185 is_82 rfl).trans ((my_fr.at frh167 is_82 rfl).trans ((my_fr.at frh11 is_82 rfl).trans ev2.symm))))).symm
              subst zv228
              refine w_iload_n gz_52_96 rfl ?_
              refine w_iload_n gz_52_97 rfl ?_
              refine w_iload_n gz_52_98 rfl ?_
              have ce229 : h214 82 2 = v2 := ((my_fr.at frh214 is_82 rfl).trans ((my_fr.at frh185 is_82 rfl).trans ((my_fr.at frh167 is_82 rfl).trans ((my_fr.at frh11 is_82 rfl).trans ev2.symm))))
              have s5a := St5_h214
              have s5e : v2 = h214 82 2 := by first | assumption | omega
              unfold St5 at s5a
              rw [← s5e] at s5a
              have ce230 : h214 v2 1 = h v2 1 := ((my_fr.at frh214 tv2 rfl).trans ((my_fr.at frh185 tv2 rfl).trans ((my_fr.at frh167 tv2 rfl).trans ((my_fr.at frh11 tv2 rfl).trans (rfl : h v2 1 = h v2 1)))))
              have ce231 : h214 v2 3 = h v2 3 := ((my_fr.at frh214 tv2 rfl).trans ((my_fr.at frh185 tv2 rfl).trans ((my_fr.at frh167 tv2 rfl).trans ((my_fr.at frh11 tv2 rfl).trans (rfl : h v2 3 = h v2 3)))))
              have ce232 : h214 v2 4 = h v2 4 := ((my_fr.at frh214 tv2 rfl).trans ((my_fr.at frh185 tv2 rfl).trans ((my_fr.at frh167 tv2 rfl).trans ((my_fr.at frh11 tv2 rfl).trans (rfl : h v2 4 = h v2 4)))))
              have ce233 : h214 v2 9 = h v2 9 := ((my_fr.at frh214 tv2 rfl).trans ((my_fr.at frh185 tv2 rfl).trans ((my_fr.at frh167 tv2 rfl).trans ((my_fr.at frh11 tv2 rfl).trans (rfl : h v2 9 = h v2 9)))))
              have sE : v2 = h 82 2 := by first | assumption | omega
              have eS1 : h214 v2 1 = h v2 1 := by omega
              have eS3 : h214 v2 3 = h v2 3 := by omega
              have eS4 : h214 v2 4 = h v2 4 := by omega
              have eS9 : h214 v2 9 = h v2 9 := by omega
              refine w_inv (k := 0) (as := [(0, v186), (0, v12), (0, 2)]) (r := []) (x := v2) (ls0 := [(2, v2), (0, 2), (0, v12), (0, v186)]) gz_52_99 gm_53 rfl tv2 rd_4 rfl rfl rfl rfl rfl (c_Lens_addCut (d := (d + 3)) (x0 := v2) (x1 := 2) (x2 := v12) (x3 := v186) tv2 (by omega) (by omega) (by omega) (by omega) (by omega) (by omega) (by first | assumption | exact no_such_saying | exact Fp_told (by omega) (by omega) | omega | (subst_vars; omega) | omega) (fun h234 frh234 fxh234 w235 w236 xp237 => ?_))
              have gh234 : my_fr [(4, 5), (4, 8), (4, 9), (5, 5), (5, 6), (5, 7), (5, 8), (5, 9), (32, -1), (33, -1), (34, -1), (35, -1)] h h234 := my_fr.tr gh214 (frh234.mo rfl)
              have Ln_h234 : Ln h234 := Ln_fx fxh234 (by first | assumption | omega) Ln_h214
              have Al_h234 : Al h234 := Al_ag (my_ag.fr frh234 rfl) Al_h214t218
              have Cu_h234 : Cu h234 := Cu_ag (my_ag.fr frh234 rfl) Cu_h214t219
              show wp l rho (d + 5) 52 102 [(2, 82), (0, v12), (0, 2), (0, v186)] [] h234 Q
              have Sp_h234t238 : Sp h234 wv := Sp_add fxh234 (by first | assumption | omega) hwv Ln_h214 Sp_h214 xp237 (by have := St5_h214.1; omega) (by omega) (by omega)
              have ce239 : h234 82 2 = v2 := ((my_fr.at frh234 is_82 rfl).trans ((my_fr.at frh214 is_82 rfl).trans ((my_fr.at frh185 is_82 rfl).trans ((my_fr.at frh167 is_82 rfl).trans ((my_fr.at frh11 is_82 rfl).trans ev2.symm)))))
              have std := Std_add xp237 sE (by omega) eS3 eS4 eS9 eS1
              have psR : h234 82 7 = (sN (cs h) (((sN (cs h) (((sN (cs h) (((sN (cs h) (h 82 7))))))))))) := ((my_fr.at frh234 is_82 rfl).trans xp216)
              have npsR : cs h234 = cs h := cs_eq (fun j => my_fr.at gh234 is_92 rfl) (my_fr.at gh234 is_82 rfl)
              have c240 := ((my_fr.at frh234 is_82 rfl).trans w215)
              exact w_vret gz_52_102 gm_52 (k1 h234 (gh234) (by omega) (by first | exact std | (unfold cutR; first | exact Or.inr (Or.inr ⟨by omega, by omega, Or.inr ⟨by omega, Or.inr (Or.inr ⟨by omega, by omega, Or.inr ⟨by omega, by omega, by omega⟩⟩)⟩⟩) | exact Or.inr (Or.inr ⟨by omega, by omega, Or.inr ⟨by omega, Or.inr (Or.inr ⟨by omega, by omega, Or.inl ⟨by omega, by omega⟩⟩)⟩⟩) | exact Or.inr (Or.inr ⟨by omega, by omega, Or.inr ⟨by omega, Or.inr (Or.inl ⟨by omega, by omega, by omega⟩)⟩⟩) | exact Or.inr (Or.inr ⟨by omega, by omega, Or.inr ⟨by omega, Or.inl ⟨by omega, by omega⟩⟩⟩) | exact Or.inr (Or.inr ⟨by omega, by omega, Or.inl ⟨by omega, by omega, by omega, by omega⟩⟩) | exact Or.inr (Or.inl ⟨by omega, by omega, by omega⟩) | exact Or.inl ⟨by omega, by omega⟩) | omega) (by first | exact std | (unfold cutR; first | exact Or.inr (Or.inr ⟨by omega, by omega, Or.inr ⟨by omega, Or.inr (Or.inr ⟨by omega, by omega, Or.inr ⟨by omega, by omega, by omega⟩⟩)⟩⟩) | exact Or.inr (Or.inr ⟨by omega, by omega, Or.inr ⟨by omega, Or.inr (Or.inr ⟨by omega, by omega, Or.inl ⟨by omega, by omega⟩⟩)⟩⟩) | exact Or.inr (Or.inr ⟨by omega, by omega, Or.inr ⟨by omega, Or.inr (Or.inl ⟨by omega, by omega, by omega⟩)⟩⟩) | exact Or.inr (Or.inr ⟨by omega, by omega, Or.inr ⟨by omega, Or.inl ⟨by omega, by omega⟩⟩⟩) | exact Or.inr (Or.inr ⟨by omega, by omega, Or.inl ⟨by omega, by omega, by omega, by omega⟩⟩) | exact Or.inr (Or.inl ⟨by omega, by omega, by omega⟩) | exact Or.inl ⟨by omega, by omega⟩) | omega) Ln_h234 Sp_h234t238 Al_h234 Cu_h234)
      ·
        show wp l rho (d + 5) 52 31 [(2, 82), (0, v12), (9, 0), (9, 0)] [(0, 1)] h11 Q
        rw [show wc ((10 : Nat) : Int) = 352 from by decide] at xp139
        have tE241 : cs h11 = cs h := cs_eq (fun j => my_fr.at gh11 is_92 rfl) (my_fr.at gh11 is_82 rfl)
        rw [tE241] at xp139
        have ps242 : h11 82 7 = (sN (cs h) (h 82 7)) := xp18
        rw [ps242] at xp139
        refine w_ifeq (t := 38) gz_52_31 rfl (fun u243 => by exfalso; omega) (fun u243 => ?_)
        refine w_iconst gz_52_34 (by decide) ?_
        refine w_goto (t := 52) gz_52_35 rfl ?_
        refine w_istore_n (ls' := [(2, 82), (0, v12), (0, 1), (9, 0)]) gz_52_52 gm_52 rfl rfl rfl ?_
        refine w_iload_n gz_52_53 rfl ?_
        refine w_iconst gz_52_54 (by decide) ?_
        refine w_icne (t := 66) gz_52_55 rfl (fun u244 => ?_) (fun u244 => by exfalso; omega)
        refine w_aload_n gz_52_66 rfl ?_
        refine w_inv (k := 2) (as := []) (r := []) (x := 82) (ls0 := [(2, 82), (9, 0), (9, 0)]) gz_52_67 gm_37 rfl is_82 rd_5 rfl rfl rfl rfl rfl (c_Reader_nextToken9_f0 (d := (d + 3))  (w17.trans (by omega)) Al_h11t21 (fun h245 frh245 w246 w247 w248 xp249 xp250 Al_h245t251 Cu_h245t252 => ?_))
        have gh245 : my_fr [(4, 5), (4, 8), (4, 9), (5, 5), (5, 6), (5, 7), (5, 8), (5, 9), (32, -1), (33, -1), (34, -1), (35, -1)] h h245 := my_fr.tr gh11 (frh245.mo rfl)
        have Ln_h245 : Ln h245 := Ln_ag (my_ag.fr frh245 rfl) Ln_h11
        have Sp_h245 : Sp h245 wv := Sp_ag (my_ag.fr frh245 rfl) hwv Ln_h11 Sp_h11
        have St5_h245 : St5 h245 := St5_ag (my_ag.fr frh245 rfl) Ln_h11 St5_h11
        show wp l rho (d + 5) 52 70 [(2, 82), (0, v12), (0, 1), (9, 0)] [] h245 Q
        have xc253 := xp249 Cu_h11t22
        have tE254 : cs h11 = cs h := cs_eq (fun j => my_fr.at gh11 is_92 rfl) (my_fr.at gh11 is_82 rfl)
        rw [tE254] at xc253
        have ps255 : h11 82 7 = (sN (cs h) (h 82 7)) := xp18
        rw [ps255] at xc253
        have ck256 := Cu_s Cu_h245t252
        rw [show cs h245 = cs h from cs_eq (fun j => my_fr.at gh245 is_92 rfl) (my_fr.at gh245 is_82 rfl)] at ck256
        rw [show h245 82 7 = (sN (cs h) (((sN (cs h) (h 82 7))))) from xc253] at ck256
        refine w_aload_n gz_52_70 rfl ?_
        refine w_sipush gz_52_71 (by decide) ?_
        refine w_inv (k := 1) (as := [(0, 200)]) (r := []) (x := 82) (ls0 := [(2, 82), (0, 200), (9, 0)]) gz_52_74 gm_51 rfl is_82 rd_5 rfl rfl rfl rfl rfl (c_Reader_takeNumber9_f0 (d := (d + 2)) (x1 := 200) (by omega) (by omega) (((my_fr.at frh245 is_82 rfl).trans w17).trans (by omega)) Al_h245t251 Cu_h245t252 (fun h257 frh257 w258 w259 xp260 Al_h257t261 Cu_h257t262 => ?_) (fun h263 v264 frh263 w265 w266 w267 w268 w269 xp270 xp271 xp272 Al_h263t273 Cu_h263t274 => ?_))
        ·
          have gh257 : my_fr [(4, 5), (4, 8), (4, 9), (5, 5), (5, 6), (5, 7), (5, 8), (5, 9), (32, -1), (33, -1), (34, -1), (35, -1)] h h257 := my_fr.tr gh245 (frh257.mo rfl)
          have Ln_h257 : Ln h257 := Ln_ag (my_ag.fr frh257 rfl) Ln_h245
          have Sp_h257 : Sp h257 wv := Sp_ag (my_ag.fr frh257 rfl) hwv Ln_h245 Sp_h245
          have St5_h257 : St5 h257 := St5_ag (my_ag.fr frh257 rfl) Ln_h245 St5_h245
          show wp l rho (d + 5) 52 77 [(2, 82), (0, v12), (0, 1), (9, 0)] [(0, (-1))] h257 Q
          have tE275 : cs h245 = cs h := cs_eq (fun j => my_fr.at gh245 is_92 rfl) (my_fr.at gh245 is_82 rfl)
          rw [tE275] at xp260
          have ps276 : h245 82 7 = (sN (cs h) (((sN (cs h) (h 82 7))))) := xc253
          rw [ps276] at xp260
          refine w_istore_n (ls' := [(2, 82), (0, v12), (0, 1), (0, (-1))]) gz_52_77 gm_52 rfl rfl rfl ?_
          refine w_aload_n gz_52_78 rfl ?_
          refine v_getI (j := 9) gz_52_79 rfl is_82 rd_5 rfl (fun v277 ev277 pv277 qv277 => ?_)
          have zv277 := ev277.trans (rfl : h257 82 9 = h257 82 9)
          refine w_ifne (t := 102) gz_52_82 rfl (fun u278 => ?_) (fun u278 => by exfalso; omega)
          have psR : h257 82 7 = h257 82 7 := (rfl : h257 82 7 = h257 82 7)
          have npsR : cs h257 = cs h := cs_eq (fun j => my_fr.at gh257 is_92 rfl) (my_fr.at gh257 is_82 rfl)
          have c279 := ev277.symm
          exact w_vret gz_52_102 gm_52 (k0 h257 (gh257) (by omega) (by omega) (by first | exact std | (unfold cutR; first | exact Or.inr (Or.inr ⟨by omega, by omega, Or.inr ⟨by omega, Or.inr (Or.inr ⟨by omega, by omega, Or.inr ⟨by omega, by omega, by omega⟩⟩)⟩⟩) | exact Or.inr (Or.inr ⟨by omega, by omega, Or.inr ⟨by omega, Or.inr (Or.inr ⟨by omega, by omega, Or.inl ⟨by omega, by omega⟩⟩)⟩⟩) | exact Or.inr (Or.inr ⟨by omega, by omega, Or.inr ⟨by omega, Or.inr (Or.inl ⟨by omega, by omega, by omega⟩)⟩⟩) | exact Or.inr (Or.inr ⟨by omega, by omega, Or.inr ⟨by omega, Or.inl ⟨by omega, by omega⟩⟩⟩) | exact Or.inr (Or.inr ⟨by omega, by omega, Or.inl ⟨by omega, by omega, by omega, by omega⟩⟩) | exact Or.inr (Or.inl ⟨by omega, by omega, by omega⟩) | exact Or.inl ⟨by omega, by omega⟩) | omega) Ln_h257 Sp_h257 Al_h257t261 Cu_h257t262)
        ·
          have gh263 : my_fr [(4, 5), (4, 8), (4, 9), (5, 5), (5, 6), (5, 7), (5, 8), (5, 9), (32, -1), (33, -1), (34, -1), (35, -1)] h h263 := my_fr.tr gh245 (frh263.mo rfl)
          have Ln_h263 : Ln h263 := Ln_ag (my_ag.fr frh263 rfl) Ln_h245
          have Sp_h263 : Sp h263 wv := Sp_ag (my_ag.fr frh263 rfl) hwv Ln_h245 Sp_h245
          have St5_h263 : St5 h263 := St5_ag (my_ag.fr frh263 rfl) Ln_h245 St5_h245
          show wp l rho (d + 5) 52 77 [(2, 82), (0, v12), (0, 1), (9, 0)] [(0, v264)] h263 Q
          have tE280 : cs h245 = cs h := cs_eq (fun j => my_fr.at gh245 is_92 rfl) (my_fr.at gh245 is_82 rfl)
          rw [tE280] at xp270
          have ps281 : h245 82 7 = (sN (cs h) (((sN (cs h) (h 82 7))))) := xc253
          rw [ps281] at xp270
          rw [tE280] at xp271
          rw [ps281] at xp271
          rw [tE280] at xp272
          rw [ps281] at xp272
          have ck282 := Cu_s Cu_h263t274
          rw [show cs h263 = cs h from cs_eq (fun j => my_fr.at gh263 is_92 rfl) (my_fr.at gh263 is_82 rfl)] at ck282
          rw [show h263 82 7 = (sN (cs h) (((sN (cs h) (((sN (cs h) (h 82 7)))))))) from xp270] at ck282
          refine w_istore_n (ls' := [(2, 82), (0, v12), (0, 1), (0, v264)]) gz_52_77 gm_52 rfl rfl rfl ?_
          refine w_aload_n gz_52_78 rfl ?_
          refine v_getI (j := 9) gz_52_79 rfl is_82 rd_5 rfl (fun v283 ev283 pv283 qv283 => ?_)
          have zv283 := ev283.trans w269
          refine w_ifne (t := 102) gz_52_82 rfl (fun u284 => by exfalso; omega) (fun u284 => ?_)
          refine w_aload_n gz_52_85 rfl ?_
          refine w_inv (k := 0) (as := []) (r := []) (x := 82) (ls0 := [(2, 82)]) gz_52_86 gm_47 rfl is_82 rd_5 rfl rfl rfl rfl rfl (c_Reader_endsHere9_f0 (d := (d + 2))  (ev283.symm.trans (by omega)) Al_h263t273 Cu_h263t274 (fun h285 frh285 w286 w287 xp288 xp289 Al_h285t290 Cu_h285t291 => ?_) (fun h292 frh292 w293 xp294 xp295 Al_h292t296 Cu_h292t297 => ?_))
          ·
            have gh285 : my_fr [(4, 5), (4, 8), (4, 9), (5, 5), (5, 6), (5, 7), (5, 8), (5, 9), (32, -1), (33, -1), (34, -1), (35, -1)] h h285 := my_fr.tr gh263 (frh285.mo rfl)
            have Ln_h285 : Ln h285 := Ln_ag (my_ag.fr frh285 rfl) Ln_h263
            have Sp_h285 : Sp h285 wv := Sp_ag (my_ag.fr frh285 rfl) hwv Ln_h263 Sp_h263
            have St5_h285 : St5 h285 := St5_ag (my_ag.fr frh285 rfl) Ln_h263 St5_h263
            show wp l rho (d + 5) 52 89 [(2, 82), (0, v12), (0, 1), (0, v264)] [(0, 0)] h285 Q
            have tE298 : cs h263 = cs h := cs_eq (fun j => my_fr.at gh263 is_92 rfl) (my_fr.at gh263 is_82 rfl)
            rw [tE298] at xp288
            have ps299 : h263 82 7 = (sN (cs h) (((sN (cs h) (((sN (cs h) (h 82 7)))))))) := xp270
            rw [ps299] at xp288
            rw [ps299] at xp289
            refine w_ifeq (t := 102) gz_52_89 rfl (fun u300 => ?_) (fun u300 => by exfalso; omega)
            have psR : h285 82 7 = h285 82 7 := (rfl : h285 82 7 = h285 82 7)
            have npsR : cs h285 = cs h := cs_eq (fun j => my_fr.at gh285 is_92 rfl) (my_fr.at gh285 is_82 rfl)
            have c301 := (rfl : h285 82 9 = h285 82 9)
            exact w_vret gz_52_102 gm_52 (k0 h285 (gh285) (by omega) (by omega) (by first | exact std | (unfold cutR; first | exact Or.inr (Or.inr ⟨by omega, by omega, Or.inr ⟨by omega, Or.inr (Or.inr ⟨by omega, by omega, Or.inr ⟨by omega, by omega, by omega⟩⟩)⟩⟩) | exact Or.inr (Or.inr ⟨by omega, by omega, Or.inr ⟨by omega, Or.inr (Or.inr ⟨by omega, by omega, Or.inl ⟨by omega, by omega⟩⟩)⟩⟩) | exact Or.inr (Or.inr ⟨by omega, by omega, Or.inr ⟨by omega, Or.inr (Or.inl ⟨by omega, by omega, by omega⟩)⟩⟩) | exact Or.inr (Or.inr ⟨by omega, by omega, Or.inr ⟨by omega, Or.inl ⟨by omega, by omega⟩⟩⟩) | exact Or.inr (Or.inr ⟨by omega, by omega, Or.inl ⟨by omega, by omega, by omega, by omega⟩⟩) | exact Or.inr (Or.inl ⟨by omega, by omega, by omega⟩) | exact Or.inl ⟨by omega, by omega⟩) | omega) Ln_h285 Sp_h285 Al_h285t290 Cu_h285t291)
          ·
            have gh292 : my_fr [(4, 5), (4, 8), (4, 9), (5, 5), (5, 6), (5, 7), (5, 8), (5, 9), (32, -1), (33, -1), (34, -1), (35, -1)] h h292 := my_fr.tr gh263 (frh292.mo rfl)
            have Ln_h292 : Ln h292 := Ln_ag (my_ag.fr frh292 rfl) Ln_h263
            have Sp_h292 : Sp h292 wv := Sp_ag (my_ag.fr frh292 rfl) hwv Ln_h263 Sp_h263
            have St5_h292 : St5 h292 := St5_ag (my_ag.fr frh292 rfl) Ln_h263 St5_h263
            show wp l rho (d + 5) 52 89 [(2, 82), (0, v12), (0, 1), (0, v264)] [(0, 1)] h292 Q
            have tE302 : cs h263 = cs h := cs_eq (fun j => my_fr.at gh263 is_92 rfl) (my_fr.at gh263 is_82 rfl)
            rw [tE302] at xp294
            have ps303 : h263 82 7 = (sN (cs h) (((sN (cs h) (((sN (cs h) (h 82 7)))))))) := xp270
            rw [ps303] at xp294
            rw [tE302] at xp295
            rw [ps303] at xp295
            have ck304 := Cu_s Cu_h292t297
            rw [show cs h292 = cs h from cs_eq (fun j => my_fr.at gh292 is_92 rfl) (my_fr.at gh292 is_82 rfl)] at ck304
            rw [show h292 82 7 = (sN (cs h) (((sN (cs h) (((sN (cs h) (((sN (cs h) (h 82 7))))))))))) from xp294] at ck304
            refine w_ifeq (t := 102) gz_52_89 rfl (fun u305 => by exfalso; omega) (fun u305 => ?_)
            refine w_aload_n gz_52_92 rfl ?_
            refine v_getR (j := 2) gz_52_93 rfl is_82 rd_5 rfl (fun v306 ev306 tv306 => ?_)
            have zv306 : v2 = v306 := (ev306.trans ((my_fr.at frh292 is_82 rfl).trans ((my_fr.at frh263 is_82 rfl).trans ((my_fr.at frh245 is_82 rfl).trans ((my_fr.at frh11 is_82 rfl).trans ev2.symm))))).symm
            subst zv306
            refine w_iload_n gz_52_96 rfl ?_
            refine w_iload_n gz_52_97 rfl ?_
            refine w_iload_n gz_52_98 rfl ?_
            have ce307 : h292 82 2 = v2 := ((my_fr.at frh292 is_82 rfl).trans ((my_fr.at frh263 is_82 rfl).trans ((my_fr.at frh245 is_82 rfl).trans ((my_fr.at frh11 is_82 rfl).trans ev2.symm))))
            have s5a := St5_h292
            have s5e : v2 = h292 82 2 := by first | assumption | omega
            unfold St5 at s5a
            rw [← s5e] at s5a
            have ce308 : h292 v2 1 = h v2 1 := ((my_fr.at frh292 tv2 rfl).trans ((my_fr.at frh263 tv2 rfl).trans ((my_fr.at frh245 tv2 rfl).trans ((my_fr.at frh11 tv2 rfl).trans (rfl : h v2 1 = h v2 1)))))
            have ce309 : h292 v2 3 = h v2 3 := ((my_fr.at frh292 tv2 rfl).trans ((my_fr.at frh263 tv2 rfl).trans ((my_fr.at frh245 tv2 rfl).trans ((my_fr.at frh11 tv2 rfl).trans (rfl : h v2 3 = h v2 3)))))
            have ce310 : h292 v2 4 = h v2 4 := ((my_fr.at frh292 tv2 rfl).trans ((my_fr.at frh263 tv2 rfl).trans ((my_fr.at frh245 tv2 rfl).trans ((my_fr.at frh11 tv2 rfl).trans (rfl : h v2 4 = h v2 4)))))
            have ce311 : h292 v2 9 = h v2 9 := ((my_fr.at frh292 tv2 rfl).trans ((my_fr.at frh263 tv2 rfl).trans ((my_fr.at frh245 tv2 rfl).trans ((my_fr.at frh11 tv2 rfl).trans (rfl : h v2 9 = h v2 9)))))
            have sE : v2 = h 82 2 := by first | assumption | omega
            have eS1 : h292 v2 1 = h v2 1 := by omega
            have eS3 : h292 v2 3 = h v2 3 := by omega
            have eS4 : h292 v2 4 = h v2 4 := by omega
            have eS9 : h292 v2 9 = h v2 9 := by omega
            refine w_inv (k := 0) (as := [(0, v264), (0, v12), (0, 1)]) (r := []) (x := v2) (ls0 := [(2, v2), (0, 1), (0, v12), (0, v264)]) gz_52_99 gm_53 rfl tv2 rd_4 rfl rfl rfl rfl rfl (c_Lens_addCut (d := (d + 3)) (x0 := v2) (x1 := 1) (x2 := v12) (x3 := v264) tv2 (by omega) (by omega) (by omega) (by omega) (by omega) (by omega) (by first | assumption | exact no_such_saying | exact Fp_told (by omega) (by omega) | omega | (subst_vars; omega) | omega) (fun h312 frh312 fxh312 w313 w314 xp315 => ?_))
            have gh312 : my_fr [(4, 5), (4, 8), (4, 9), (5, 5), (5, 6), (5, 7), (5, 8), (5, 9), (32, -1), (33, -1), (34, -1), (35, -1)] h h312 := my_fr.tr gh292 (frh312.mo rfl)
            have Ln_h312 : Ln h312 := Ln_fx fxh312 (by first | assumption | omega) Ln_h292
            have Al_h312 : Al h312 := Al_ag (my_ag.fr frh312 rfl) Al_h292t296
            have Cu_h312 : Cu h312 := Cu_ag (my_ag.fr frh312 rfl) Cu_h292t297
            show wp l rho (d + 5) 52 102 [(2, 82), (0, v12), (0, 1), (0, v264)] [] h312 Q
            have Sp_h312t316 : Sp h312 wv := Sp_add fxh312 (by first | assumption | omega) hwv Ln_h292 Sp_h292 xp315 (by have := St5_h292.1; omega) (by omega) (by omega)
            have ce317 : h312 82 2 = v2 := ((my_fr.at frh312 is_82 rfl).trans ((my_fr.at frh292 is_82 rfl).trans ((my_fr.at frh263 is_82 rfl).trans ((my_fr.at frh245 is_82 rfl).trans ((my_fr.at frh11 is_82 rfl).trans ev2.symm)))))
            have std := Std_add xp315 sE (by omega) eS3 eS4 eS9 eS1
            have psR : h312 82 7 = (sN (cs h) (((sN (cs h) (((sN (cs h) (((sN (cs h) (h 82 7))))))))))) := ((my_fr.at frh312 is_82 rfl).trans xp294)
            have npsR : cs h312 = cs h := cs_eq (fun j => my_fr.at gh312 is_92 rfl) (my_fr.at gh312 is_82 rfl)
            have c318 := ((my_fr.at frh312 is_82 rfl).trans w293)
            exact w_vret gz_52_102 gm_52 (k1 h312 (gh312) (by omega) (by first | exact std | (unfold cutR; first | exact Or.inr (Or.inr ⟨by omega, by omega, Or.inr ⟨by omega, Or.inr (Or.inr ⟨by omega, by omega, Or.inr ⟨by omega, by omega, by omega⟩⟩)⟩⟩) | exact Or.inr (Or.inr ⟨by omega, by omega, Or.inr ⟨by omega, Or.inr (Or.inr ⟨by omega, by omega, Or.inl ⟨by omega, by omega⟩⟩)⟩⟩) | exact Or.inr (Or.inr ⟨by omega, by omega, Or.inr ⟨by omega, Or.inr (Or.inl ⟨by omega, by omega, by omega⟩)⟩⟩) | exact Or.inr (Or.inr ⟨by omega, by omega, Or.inr ⟨by omega, Or.inl ⟨by omega, by omega⟩⟩⟩) | exact Or.inr (Or.inr ⟨by omega, by omega, Or.inl ⟨by omega, by omega, by omega, by omega⟩⟩) | exact Or.inr (Or.inl ⟨by omega, by omega, by omega⟩) | exact Or.inl ⟨by omega, by omega⟩) | omega) (by first | exact std | (unfold cutR; first | exact Or.inr (Or.inr ⟨by omega, by omega, Or.inr ⟨by omega, Or.inr (Or.inr ⟨by omega, by omega, Or.inr ⟨by omega, by omega, by omega⟩⟩)⟩⟩) | exact Or.inr (Or.inr ⟨by omega, by omega, Or.inr ⟨by omega, Or.inr (Or.inr ⟨by omega, by omega, Or.inl ⟨by omega, by omega⟩⟩)⟩⟩) | exact Or.inr (Or.inr ⟨by omega, by omega, Or.inr ⟨by omega, Or.inr (Or.inl ⟨by omega, by omega, by omega⟩)⟩⟩) | exact Or.inr (Or.inr ⟨by omega, by omega, Or.inr ⟨by omega, Or.inl ⟨by omega, by omega⟩⟩⟩) | exact Or.inr (Or.inr ⟨by omega, by omega, Or.inl ⟨by omega, by omega, by omega, by omega⟩⟩) | exact Or.inr (Or.inl ⟨by omega, by omega, by omega⟩) | exact Or.inl ⟨by omega, by omega⟩) | omega) Ln_h312 Sp_h312t316 Al_h312 Cu_h312)
    ·
      show wp l rho (d + 5) 52 18 [(2, 82), (0, v12), (9, 0), (9, 0)] [(0, 1)] h11 Q
      rw [show wc ((9 : Nat) : Int) = 615403 from by decide] at xp131
      have tE319 : cs h11 = cs h := cs_eq (fun j => my_fr.at gh11 is_92 rfl) (my_fr.at gh11 is_82 rfl)
      rw [tE319] at xp131
      have ps320 : h11 82 7 = (sN (cs h) (h 82 7)) := xp18
      rw [ps320] at xp131
      refine w_ifeq (t := 25) gz_52_18 rfl (fun u321 => by exfalso; omega) (fun u321 => ?_)
      refine w_iconst gz_52_21 (by decide) ?_
      refine w_goto (t := 52) gz_52_22 rfl ?_
      refine w_istore_n (ls' := [(2, 82), (0, v12), (0, 0), (9, 0)]) gz_52_52 gm_52 rfl rfl rfl ?_
      refine w_iload_n gz_52_53 rfl ?_
      refine w_iconst gz_52_54 (by decide) ?_
      refine w_icne (t := 66) gz_52_55 rfl (fun u322 => ?_) (fun u322 => by exfalso; omega)
      refine w_aload_n gz_52_66 rfl ?_
      refine w_inv (k := 2) (as := []) (r := []) (x := 82) (ls0 := [(2, 82), (9, 0), (9, 0)]) gz_52_67 gm_37 rfl is_82 rd_5 rfl rfl rfl rfl rfl (c_Reader_nextToken9_f0 (d := (d + 3))  (w17.trans (by omega)) Al_h11t21 (fun h323 frh323 w324 w325 w326 xp327 xp328 Al_h323t329 Cu_h323t330 => ?_))
      have gh323 : my_fr [(4, 5), (4, 8), (4, 9), (5, 5), (5, 6), (5, 7), (5, 8), (5, 9), (32, -1), (33, -1), (34, -1), (35, -1)] h h323 := my_fr.tr gh11 (frh323.mo rfl)
      have Ln_h323 : Ln h323 := Ln_ag (my_ag.fr frh323 rfl) Ln_h11
      have Sp_h323 : Sp h323 wv := Sp_ag (my_ag.fr frh323 rfl) hwv Ln_h11 Sp_h11
      have St5_h323 : St5 h323 := St5_ag (my_ag.fr frh323 rfl) Ln_h11 St5_h11
      show wp l rho (d + 5) 52 70 [(2, 82), (0, v12), (0, 0), (9, 0)] [] h323 Q
      have xc331 := xp327 Cu_h11t22
      have tE332 : cs h11 = cs h := cs_eq (fun j => my_fr.at gh11 is_92 rfl) (my_fr.at gh11 is_82 rfl)
      rw [tE332] at xc331
      have ps333 : h11 82 7 = (sN (cs h) (h 82 7)) := xp18
      rw [ps333] at xc331
      have ck334 := Cu_s Cu_h323t330
      rw [show cs h323 = cs h from cs_eq (fun j => my_fr.at gh323 is_92 rfl) (my_fr.at gh323 is_82 rfl)] at ck334
      rw [show h323 82 7 = (sN (cs h) (((sN (cs h) (h 82 7))))) from xc331] at ck334
      refine w_aload_n gz_52_70 rfl ?_
      refine w_sipush gz_52_71 (by decide) ?_
      refine w_inv (k := 1) (as := [(0, 200)]) (r := []) (x := 82) (ls0 := [(2, 82), (0, 200), (9, 0)]) gz_52_74 gm_51 rfl is_82 rd_5 rfl rfl rfl rfl rfl (c_Reader_takeNumber9_f0 (d := (d + 2)) (x1 := 200) (by omega) (by omega) (((my_fr.at frh323 is_82 rfl).trans w17).trans (by omega)) Al_h323t329 Cu_h323t330 (fun h335 frh335 w336 w337 xp338 Al_h335t339 Cu_h335t340 => ?_) (fun h341 v342 frh341 w343 w344 w345 w346 w347 xp348 xp349 xp350 Al_h341t351 Cu_h341t352 => ?_))
      ·
        have gh335 : my_fr [(4, 5), (4, 8), (4, 9), (5, 5), (5, 6), (5, 7), (5, 8), (5, 9), (32, -1), (33, -1), (34, -1), (35, -1)] h h335 := my_fr.tr gh323 (frh335.mo rfl)
        have Ln_h335 : Ln h335 := Ln_ag (my_ag.fr frh335 rfl) Ln_h323
        have Sp_h335 : Sp h335 wv := Sp_ag (my_ag.fr frh335 rfl) hwv Ln_h323 Sp_h323
        have St5_h335 : St5 h335 := St5_ag (my_ag.fr frh335 rfl) Ln_h323 St5_h323
        show wp l rho (d + 5) 52 77 [(2, 82), (0, v12), (0, 0), (9, 0)] [(0, (-1))] h335 Q
        have tE353 : cs h323 = cs h := cs_eq (fun j => my_fr.at gh323 is_92 rfl) (my_fr.at gh323 is_82 rfl)
        rw [tE353] at xp338
        have ps354 : h323 82 7 = (sN (cs h) (((sN (cs h) (h 82 7))))) := xc331
        rw [ps354] at xp338
        refine w_istore_n (ls' := [(2, 82), (0, v12), (0, 0), (0, (-1))]) gz_52_77 gm_52 rfl rfl rfl ?_
        refine w_aload_n gz_52_78 rfl ?_
        refine v_getI (j := 9) gz_52_79 rfl is_82 rd_5 rfl (fun v355 ev355 pv355 qv355 => ?_)
        have zv355 := ev355.trans (rfl : h335 82 9 = h335 82 9)
        refine w_ifne (t := 102) gz_52_82 rfl (fun u356 => ?_) (fun u356 => by exfalso; omega)
        have psR : h335 82 7 = h335 82 7 := (rfl : h335 82 7 = h335 82 7)
        have npsR : cs h335 = cs h := cs_eq (fun j => my_fr.at gh335 is_92 rfl) (my_fr.at gh335 is_82 rfl)
        have c357 := ev355.symm
        exact w_vret gz_52_102 gm_52 (k0 h335 (gh335) (by omega) (by omega) (by first | exact std | (unfold cutR; first | exact Or.inr (Or.inr ⟨by omega, by omega, Or.inr ⟨by omega, Or.inr (Or.inr ⟨by omega, by omega, Or.inr ⟨by omega, by omega, by omega⟩⟩)⟩⟩) | exact Or.inr (Or.inr ⟨by omega, by omega, Or.inr ⟨by omega, Or.inr (Or.inr ⟨by omega, by omega, Or.inl ⟨by omega, by omega⟩⟩)⟩⟩) | exact Or.inr (Or.inr ⟨by omega, by omega, Or.inr ⟨by omega, Or.inr (Or.inl ⟨by omega, by omega, by omega⟩)⟩⟩) | exact Or.inr (Or.inr ⟨by omega, by omega, Or.inr ⟨by omega, Or.inl ⟨by omega, by omega⟩⟩⟩) | exact Or.inr (Or.inr ⟨by omega, by omega, Or.inl ⟨by omega, by omega, by omega, by omega⟩⟩) | exact Or.inr (Or.inl ⟨by omega, by omega, by omega⟩) | exact Or.inl ⟨by omega, by omega⟩) | omega) Ln_h335 Sp_h335 Al_h335t339 Cu_h335t340)
      ·
        have gh341 : my_fr [(4, 5), (4, 8), (4, 9), (5, 5), (5, 6), (5, 7), (5, 8), (5, 9), (32, -1), (33, -1), (34, -1), (35, -1)] h h341 := my_fr.tr gh323 (frh341.mo rfl)
        have Ln_h341 : Ln h341 := Ln_ag (my_ag.fr frh341 rfl) Ln_h323
        have Sp_h341 : Sp h341 wv := Sp_ag (my_ag.fr frh341 rfl) hwv Ln_h323 Sp_h323
        have St5_h341 : St5 h341 := St5_ag (my_ag.fr frh341 rfl) Ln_h323 St5_h323
        show wp l rho (d + 5) 52 77 [(2, 82), (0, v12), (0, 0), (9, 0)] [(0, v342)] h341 Q
        have tE358 : cs h323 = cs h := cs_eq (fun j => my_fr.at gh323 is_92 rfl) (my_fr.at gh323 is_82 rfl)
        rw [tE358] at xp348
        have ps359 : h323 82 7 = (sN (cs h) (((sN (cs h) (h 82 7))))) := xc331
        rw [ps359] at xp348
        rw [tE358] at xp349
        rw [ps359] at xp349
        rw [tE358] at xp350
        rw [ps359] at xp350
        have ck360 := Cu_s Cu_h341t352
        rw [show cs h341 = cs h from cs_eq (fun j => my_fr.at gh341 is_92 rfl) (my_fr.at gh341 is_82 rfl)] at ck360
        rw [show h341 82 7 = (sN (cs h) (((sN (cs h) (((sN (cs h) (h 82 7)))))))) from xp348] at ck360
        refine w_istore_n (ls' := [(2, 82), (0, v12), (0, 0), (0, v342)]) gz_52_77 gm_52 rfl rfl rfl ?_
        refine w_aload_n gz_52_78 rfl ?_
        refine v_getI (j := 9) gz_52_79 rfl is_82 rd_5 rfl (fun v361 ev361 pv361 qv361 => ?_)
        have zv361 := ev361.trans w347
        refine w_ifne (t := 102) gz_52_82 rfl (fun u362 => by exfalso; omega) (fun u362 => ?_)
        refine w_aload_n gz_52_85 rfl ?_
        refine w_inv (k := 0) (as := []) (r := []) (x := 82) (ls0 := [(2, 82)]) gz_52_86 gm_47 rfl is_82 rd_5 rfl rfl rfl rfl rfl (c_Reader_endsHere9_f0 (d := (d + 2))  (ev361.symm.trans (by omega)) Al_h341t351 Cu_h341t352 (fun h363 frh363 w364 w365 xp366 xp367 Al_h363t368 Cu_h363t369 => ?_) (fun h370 frh370 w371 xp372 xp373 Al_h370t374 Cu_h370t375 => ?_))
        ·
          have gh363 : my_fr [(4, 5), (4, 8), (4, 9), (5, 5), (5, 6), (5, 7), (5, 8), (5, 9), (32, -1), (33, -1), (34, -1), (35, -1)] h h363 := my_fr.tr gh341 (frh363.mo rfl)
          have Ln_h363 : Ln h363 := Ln_ag (my_ag.fr frh363 rfl) Ln_h341
          have Sp_h363 : Sp h363 wv := Sp_ag (my_ag.fr frh363 rfl) hwv Ln_h341 Sp_h341
          have St5_h363 : St5 h363 := St5_ag (my_ag.fr frh363 rfl) Ln_h341 St5_h341
          show wp l rho (d + 5) 52 89 [(2, 82), (0, v12), (0, 0), (0, v342)] [(0, 0)] h363 Q
          have tE376 : cs h341 = cs h := cs_eq (fun j => my_fr.at gh341 is_92 rfl) (my_fr.at gh341 is_82 rfl)
          rw [tE376] at xp366
          have ps377 : h341 82 7 = (sN (cs h) (((sN (cs h) (((sN (cs h) (h 82 7)))))))) := xp348
          rw [ps377] at xp366
          rw [ps377] at xp367
          refine w_ifeq (t := 102) gz_52_89 rfl (fun u378 => ?_) (fun u378 => by exfalso; omega)
          have psR : h363 82 7 = h363 82 7 := (rfl : h363 82 7 = h363 82 7)
          have npsR : cs h363 = cs h := cs_eq (fun j => my_fr.at gh363 is_92 rfl) (my_fr.at gh363 is_82 rfl)
          have c379 := (rfl : h363 82 9 = h363 82 9)
          exact w_vret gz_52_102 gm_52 (k0 h363 (gh363) (by omega) (by omega) (by first | exact std | (unfold cutR; first | exact Or.inr (Or.inr ⟨by omega, by omega, Or.inr ⟨by omega, Or.inr (Or.inr ⟨by omega, by omega, Or.inr ⟨by omega, by omega, by omega⟩⟩)⟩⟩) | exact Or.inr (Or.inr ⟨by omega, by omega, Or.inr ⟨by omega, Or.inr (Or.inr ⟨by omega, by omega, Or.inl ⟨by omega, by omega⟩⟩)⟩⟩) | exact Or.inr (Or.inr ⟨by omega, by omega, Or.inr ⟨by omega, Or.inr (Or.inl ⟨by omega, by omega, by omega⟩)⟩⟩) | exact Or.inr (Or.inr ⟨by omega, by omega, Or.inr ⟨by omega, Or.inl ⟨by omega, by omega⟩⟩⟩) | exact Or.inr (Or.inr ⟨by omega, by omega, Or.inl ⟨by omega, by omega, by omega, by omega⟩⟩) | exact Or.inr (Or.inl ⟨by omega, by omega, by omega⟩) | exact Or.inl ⟨by omega, by omega⟩) | omega) Ln_h363 Sp_h363 Al_h363t368 Cu_h363t369)
        ·
          have gh370 : my_fr [(4, 5), (4, 8), (4, 9), (5, 5), (5, 6), (5, 7), (5, 8), (5, 9), (32, -1), (33, -1), (34, -1), (35, -1)] h h370 := my_fr.tr gh341 (frh370.mo rfl)
          have Ln_h370 : Ln h370 := Ln_ag (my_ag.fr frh370 rfl) Ln_h341
          have Sp_h370 : Sp h370 wv := Sp_ag (my_ag.fr frh370 rfl) hwv Ln_h341 Sp_h341
          have St5_h370 : St5 h370 := St5_ag (my_ag.fr frh370 rfl) Ln_h341 St5_h341
          show wp l rho (d + 5) 52 89 [(2, 82), (0, v12), (0, 0), (0, v342)] [(0, 1)] h370 Q
          have tE380 : cs h341 = cs h := cs_eq (fun j => my_fr.at gh341 is_92 rfl) (my_fr.at gh341 is_82 rfl)
          rw [tE380] at xp372
          have ps381 : h341 82 7 = (sN (cs h) (((sN (cs h) (((sN (cs h) (h 82 7)))))))) := xp348
          rw [ps381] at xp372
          rw [tE380] at xp373
          rw [ps381] at xp373
          have ck382 := Cu_s Cu_h370t375
          rw [show cs h370 = cs h from cs_eq (fun j => my_fr.at gh370 is_92 rfl) (my_fr.at gh370 is_82 rfl)] at ck382
          rw [show h370 82 7 = (sN (cs h) (((sN (cs h) (((sN (cs h) (((sN (cs h) (h 82 7))))))))))) from xp372] at ck382
          refine w_ifeq (t := 102) gz_52_89 rfl (fun u383 => by exfalso; omega) (fun u383 => ?_)
          refine w_aload_n gz_52_92 rfl ?_
          refine v_getR (j := 2) gz_52_93 rfl is_82 rd_5 rfl (fun v384 ev384 tv384 => ?_)
          have zv384 : v2 = v384 := (ev384.trans ((my_fr.at frh370 is_82 rfl).trans ((my_fr.at frh341 is_82 rfl).trans ((my_fr.at frh323 is_82 rfl).trans ((my_fr.at frh11 is_82 rfl).trans ev2.symm))))).symm
          subst zv384
          refine w_iload_n gz_52_96 rfl ?_
          refine w_iload_n gz_52_97 rfl ?_
          refine w_iload_n gz_52_98 rfl ?_
          have ce385 : h370 82 2 = v2 := ((my_fr.at frh370 is_82 rfl).trans ((my_fr.at frh341 is_82 rfl).trans ((my_fr.at frh323 is_82 rfl).trans ((my_fr.at frh11 is_82 rfl).trans ev2.symm))))
          have s5a := St5_h370
          have s5e : v2 = h370 82 2 := by first | assumption | omega
          unfold St5 at s5a
          rw [← s5e] at s5a
          have ce386 : h370 v2 1 = h v2 1 := ((my_fr.at frh370 tv2 rfl).trans ((my_fr.at frh341 tv2 rfl).trans ((my_fr.at frh323 tv2 rfl).trans ((my_fr.at frh11 tv2 rfl).trans (rfl : h v2 1 = h v2 1)))))
          have ce387 : h370 v2 3 = h v2 3 := ((my_fr.at frh370 tv2 rfl).trans ((my_fr.at frh341 tv2 rfl).trans ((my_fr.at frh323 tv2 rfl).trans ((my_fr.at frh11 tv2 rfl).trans (rfl : h v2 3 = h v2 3)))))
          have ce388 : h370 v2 4 = h v2 4 := ((my_fr.at frh370 tv2 rfl).trans ((my_fr.at frh341 tv2 rfl).trans ((my_fr.at frh323 tv2 rfl).trans ((my_fr.at frh11 tv2 rfl).trans (rfl : h v2 4 = h v2 4)))))
          have ce389 : h370 v2 9 = h v2 9 := ((my_fr.at frh370 tv2 rfl).trans ((my_fr.at frh341 tv2 rfl).trans ((my_fr.at frh323 tv2 rfl).trans ((my_fr.at frh11 tv2 rfl).trans (rfl : h v2 9 = h v2 9)))))
          have sE : v2 = h 82 2 := by first | assumption | omega
          have eS1 : h370 v2 1 = h v2 1 := by omega
          have eS3 : h370 v2 3 = h v2 3 := by omega
          have eS4 : h370 v2 4 = h v2 4 := by omega
          have eS9 : h370 v2 9 = h v2 9 := by omega
          refine w_inv (k := 0) (as := [(0, v342), (0, v12), (0, 0)]) (r := []) (x := v2) (ls0 := [(2, v2), (0, 0), (0, v12), (0, v342)]) gz_52_99 gm_53 rfl tv2 rd_4 rfl rfl rfl rfl rfl (c_Lens_addCut (d := (d + 3)) (x0 := v2) (x1 := 0) (x2 := v12) (x3 := v342) tv2 (by omega) (by omega) (by omega) (by omega) (by omega) (by omega) (by first | assumption | exact no_such_saying | exact Fp_told (by omega) (by omega) | omega | (subst_vars; omega) | omega) (fun h390 frh390 fxh390 w391 w392 xp393 => ?_))
          have gh390 : my_fr [(4, 5), (4, 8), (4, 9), (5, 5), (5, 6), (5, 7), (5, 8), (5, 9), (32, -1), (33, -1), (34, -1), (35, -1)] h h390 := my_fr.tr gh370 (frh390.mo rfl)
          have Ln_h390 : Ln h390 := Ln_fx fxh390 (by first | assumption | omega) Ln_h370
          have Al_h390 : Al h390 := Al_ag (my_ag.fr frh390 rfl) Al_h370t374
          have Cu_h390 : Cu h390 := Cu_ag (my_ag.fr frh390 rfl) Cu_h370t375
          show wp l rho (d + 5) 52 102 [(2, 82), (0, v12), (0, 0), (0, v342)] [] h390 Q
          have Sp_h390t394 : Sp h390 wv := Sp_add fxh390 (by first | assumption | omega) hwv Ln_h370 Sp_h370 xp393 (by have := St5_h370.1; omega) (by omega) (by omega)
          have ce395 : h390 82 2 = v2 := ((my_fr.at frh390 is_82 rfl).trans ((my_fr.at frh370 is_82 rfl).trans ((my_fr.at frh341 is_82 rfl).trans ((my_fr.at frh323 is_82 rfl).trans ((my_fr.at frh11 is_82 rfl).trans ev2.symm)))))
          have std := Std_add xp393 sE (by omega) eS3 eS4 eS9 eS1
          have psR : h390 82 7 = (sN (cs h) (((sN (cs h) (((sN (cs h) (((sN (cs h) (h 82 7))))))))))) := ((my_fr.at frh390 is_82 rfl).trans xp372)
          have npsR : cs h390 = cs h := cs_eq (fun j => my_fr.at gh390 is_92 rfl) (my_fr.at gh390 is_82 rfl)
          have c396 := ((my_fr.at frh390 is_82 rfl).trans w371)
          exact w_vret gz_52_102 gm_52 (k1 h390 (gh390) (by omega) (by first | exact std | (unfold cutR; first | exact Or.inr (Or.inr ⟨by omega, by omega, Or.inr ⟨by omega, Or.inr (Or.inr ⟨by omega, by omega, Or.inr ⟨by omega, by omega, by omega⟩⟩)⟩⟩) | exact Or.inr (Or.inr ⟨by omega, by omega, Or.inr ⟨by omega, Or.inr (Or.inr ⟨by omega, by omega, Or.inl ⟨by omega, by omega⟩⟩)⟩⟩) | exact Or.inr (Or.inr ⟨by omega, by omega, Or.inr ⟨by omega, Or.inr (Or.inl ⟨by omega, by omega, by omega⟩)⟩⟩) | exact Or.inr (Or.inr ⟨by omega, by omega, Or.inr ⟨by omega, Or.inl ⟨by omega, by omega⟩⟩⟩) | exact Or.inr (Or.inr ⟨by omega, by omega, Or.inl ⟨by omega, by omega, by omega, by omega⟩⟩) | exact Or.inr (Or.inl ⟨by omega, by omega, by omega⟩) | exact Or.inl ⟨by omega, by omega⟩) | omega) (by first | exact std | (unfold cutR; first | exact Or.inr (Or.inr ⟨by omega, by omega, Or.inr ⟨by omega, Or.inr (Or.inr ⟨by omega, by omega, Or.inr ⟨by omega, by omega, by omega⟩⟩)⟩⟩) | exact Or.inr (Or.inr ⟨by omega, by omega, Or.inr ⟨by omega, Or.inr (Or.inr ⟨by omega, by omega, Or.inl ⟨by omega, by omega⟩⟩)⟩⟩) | exact Or.inr (Or.inr ⟨by omega, by omega, Or.inr ⟨by omega, Or.inr (Or.inl ⟨by omega, by omega, by omega⟩)⟩⟩) | exact Or.inr (Or.inr ⟨by omega, by omega, Or.inr ⟨by omega, Or.inl ⟨by omega, by omega⟩⟩⟩) | exact Or.inr (Or.inr ⟨by omega, by omega, Or.inl ⟨by omega, by omega, by omega, by omega⟩⟩) | exact Or.inr (Or.inl ⟨by omega, by omega, by omega⟩) | exact Or.inl ⟨by omega, by omega⟩) | omega) Ln_h390 Sp_h390t394 Al_h390 Cu_h390)
theorem c_Reader_readFew9_f0 {l : Launch} {rho : Nat → Int32} {d : Nat} {h : my_H} {Q : my_H → my_V → Prop} {wv : Int} (cf : h 82 9 = 0) (hwv : wv ≤ 5) (hwv0 : 0 ≤ wv) (n_Ln : Ln h) (n_Sp : Sp h wv) (n_St5 : St5 h) (n_Al : Al h) (n_Cu : Cu h) (k0 : ∀ (h' : my_H), my_fr [(4, 4), (4, 5), (4, 9), (5, 5), (5, 6), (5, 7), (5, 8), (5, 9), (32, -1), (33, -1), (34, -1), (35, -1), (36, -1), (37, -1), (39, -1)] h h' → 1 ≤ h' 82 9 → h' 82 9 ≤ 16004 → fewE (cs h) (h (h 82 2) 4) (h 82 7) (h' 82 9) (h' 82 7) 0 → Lo h h' → Ln h' → Sp h' wv → Al h' → Cu h' → Q h' (9, 0)) (k1 : ∀ (h' : my_H), my_fr [(4, 4), (4, 5), (4, 9), (5, 5), (5, 6), (5, 7), (5, 8), (5, 9), (32, -1), (33, -1), (34, -1), (35, -1), (36, -1), (37, -1), (39, -1)] h h' → h' 82 9 = 0 → fewE (cs h) (h (h 82 2) 4) (h 82 7) (h' 82 9) (h' 82 7) (h' (h 82 2) 4) → Std h h' (h' (h 82 2) 4) (h (h 82 2) 9 + 1) → Lo h h' → Ln h' → Sp h' wv → Al h' → Cu h' → Q h' (9, 0)) : wp l rho (d + 2) 56 0 [(2, 82), (9, 0), (9, 0)] [] h Q := by
  have ck1 := Cu_s n_Cu
  have cv2 := Cu_v n_Cu
  have J2_0 : ∀ (n : Nat) (p2_0 : Int) (h2_0 : my_H), my_fr [(4, 4), (4, 5), (4, 9), (5, 5), (5, 6), (5, 7), (5, 8), (5, 9), (32, -1), (33, -1), (34, -1), (35, -1), (36, -1), (37, -1), (39, -1)] h h2_0 → 0 ≤ p2_0 → p2_0 ≤ 8 → h2_0 82 9 = 0 → Ln h2_0 → Sp h2_0 wv → St5 h2_0 → Al h2_0 → Cu h2_0 → Pk h2_0 p2_0 → Lo h h2_0 → fwI h h2_0 p2_0 → h2_0 82 2 = h 82 2 → h2_0 (h 82 2) 1 = h (h 82 2) 1 → h2_0 (h 82 2) 3 = h (h 82 2) 3 → h2_0 (h 82 2) 4 = h (h 82 2) 4 → h2_0 (h 82 2) 9 = h (h 82 2) 9 → 9 - p2_0 ≤ (n : Int) → wp l rho (d + 2) 56 2 [(2, 82), (0, p2_0), (9, 0)] [] h2_0 Q := by
    intro n
    induction n with
    | zero => intro p2_0 h2_0 gh_2_0 q0_2_0 q1_2_0 c82_9_2_0 n_Ln_2_0 n_Sp_2_0 n_St5_2_0 n_Al_2_0 n_Cu_2_0 n_Pk_2_0 n_Lo_2_0 fw_2_0 e2_2_0 f1_2_0 f3_2_0 f4_2_0 f9_2_0 hm_2_0; exfalso; omega
    | succ n ih_2_0 =>
      intro p2_0 h2_0 gh_2_0 q0_2_0 q1_2_0 c82_9_2_0 n_Ln_2_0 n_Sp_2_0 n_St5_2_0 n_Al_2_0 n_Cu_2_0 n_Pk_2_0 n_Lo_2_0 fw_2_0 e2_2_0 f1_2_0 f3_2_0 f4_2_0 f9_2_0 hm_2_0
      have ck3 := Cu_s n_Cu_2_0
      rw [show cs h2_0 = cs h from cs_eq (fun j => my_fr.at gh_2_0 is_92 rfl) (my_fr.at gh_2_0 is_82 rfl)] at ck3
      have cv4 := Cu_v n_Cu_2_0
      rw [show cs h2_0 = cs h from cs_eq (fun j => my_fr.at gh_2_0 is_92 rfl) (my_fr.at gh_2_0 is_82 rfl)] at cv4
      refine w_aload_n gz_56_2 rfl ?_
      refine w_aload_n gz_56_3 rfl ?_
      refine v_getR (j := 2) gz_56_4 rfl is_82 rd_5 rfl (fun v5 ev5 tv5 => ?_)
      have ce6 : h2_0 82 2 = v5 := ev5.symm
      have sE7 : v5 = h 82 2 := by first | assumption | omega
      refine v_getI (j := 4) gz_56_7 rfl tv5 rd_4 rfl (fun v7 ev7 pv7 qv7 => ?_)
      have c10 : v7 = h (h 82 2) 4 := by rw [← f4_2_0, ← sE7]; omega
      refine w_inv (k := 0) (as := [(0, v7)]) (r := []) (x := 82) (ls0 := [(2, 82), (0, v7)]) gz_56_10 gm_44 rfl is_82 rd_5 rfl rfl rfl rfl rfl ?_
      refine w_aload_n gz_44_0 rfl ?_
      refine v_getI (j := 6) gz_44_1 rfl is_82 rd_5 rfl (fun v8 ev8 pv8 qv8 => ?_)
      refine w_iconst gz_44_4 (by decide) ?_
      refine w_iceq (t := 15) gz_44_5 rfl (fun u9 => ?_) (fun u9 => ?_)
      ·
        refine w_aload_n gz_44_15 rfl ?_
        refine v_getI (j := 8) gz_44_16 rfl is_82 rd_5 rfl (fun v10 ev10 pv10 qv10 => ?_)
        refine w_iload_n gz_44_19 rfl ?_
        refine w_iclt (t := 30) gz_44_20 rfl (fun u11 => ?_) (fun u11 => ?_)
        ·
          refine w_aload_n gz_44_30 rfl ?_
          refine v_getI (j := 9) gz_44_31 rfl is_82 rd_5 rfl (fun v12 ev12 pv12 qv12 => ?_)
          have zv12 := ev12.trans c82_9_2_0
          refine w_ifne (t := 44) gz_44_34 rfl (fun u13 => by exfalso; omega) (fun u13 => ?_)
          refine w_aload_n gz_44_37 rfl ?_
          refine v_getI (j := 8) gz_44_38 rfl is_82 rd_5 rfl (fun v14 ev14 pv14 qv14 => ?_)
          have zv14 := ev14.trans ev10.symm
          refine w_goto (t := 45) gz_44_41 rfl ?_
          refine w_iret gz_44_45 gm_44 ?_
          show wp l rho (d + 2) 56 13 [(2, 82), (0, p2_0), (9, 0)] [(0, v14)] h2_0 Q
          refine w_istore_n (ls' := [(2, 82), (0, p2_0), (0, v14)]) gz_56_13 gm_56 rfl rfl rfl ?_
          refine w_iload_n gz_56_14 rfl ?_
          refine w_iconst gz_56_15 (by decide) ?_
          refine w_icne (t := 20) gz_56_16 rfl (fun u15 => ?_) (fun u15 => by exfalso; omega)
          refine w_aload_n gz_56_20 rfl ?_
          refine v_getR (j := 2) gz_56_21 rfl is_82 rd_5 rfl (fun v16 ev16 tv16 => ?_)
          have zv16 : v5 = v16 := (ev16.trans ev5.symm).symm
          subst zv16
          refine w_iload_n gz_56_24 rfl ?_
          refine w_iload_n gz_56_25 rfl ?_
          have ce17 : h2_0 82 2 = v5 := ev5.symm
          have s5a := n_St5_2_0
          have s5e : v5 = h2_0 82 2 := by first | assumption | omega
          unfold St5 at s5a
          rw [← s5e] at s5a
          refine w_inv (k := 1) (as := [(0, p2_0), (0, v14)]) (r := []) (x := v5) (ls0 := [(2, v5), (0, v14), (0, p2_0), (9, 0)]) gz_56_26 gm_57 rfl tv5 rd_4 rfl rfl rfl rfl rfl (c_Lens_isPicked9 (d := (d + 1)) (x0 := v5) (x1 := v14) (x2 := p2_0) tv5 (by omega) (by omega) (by omega) (by omega) (by first | assumption | exact no_such_saying | exact Fp_told (by omega) (by omega) | omega | (subst_vars; omega) | omega) (fun xp18 => ?_) (fun w19 xp20 => ?_))
          ·
            show wp l rho (d + 2) 56 29 [(2, 82), (0, p2_0), (0, v14)] [(0, 0)] h2_0 Q
            have np := xp18
            have npk : ¬ PkS h2_0 p2_0 v14 := fun ⟨i, a, b, d⟩ => xp18 i a b (by rw [s5e]; exact d)
            refine w_ifeq (t := 38) gz_56_29 rfl (fun u21 => ?_) (fun u21 => by exfalso; omega)
            refine w_aload_n gz_56_38 rfl ?_
            refine v_getR (j := 2) gz_56_39 rfl is_82 rd_5 rfl (fun v22 ev22 tv22 => ?_)
            have zv22 : v5 = v22 := (ev22.trans ev5.symm).symm
            subst zv22
            refine w_iload_n gz_56_42 rfl ?_
            refine w_iinc (ls' := [(2, 82), (0, (p2_0 + 1)), (0, v14)]) gz_56_43 rfl gm_56 rfl rfl rfl ⟨by omega, by omega⟩ ?_
            refine w_iload_n gz_56_46 rfl ?_
            have ce23 : h2_0 82 2 = v5 := ev5.symm
            have sv : v5 = h2_0 82 2 := by omega
            have pk7 := n_Pk_2_0
            refine v_knowA (x := (v5 + 5)) (ix_4_5 tv5) rd_36 (fun kA => ?_)
            have hp7 : p2_0 ≤ 7 := by
              rw [sv] at kA s5a
              have np2 := np
              rw [sv] at np2
              exact pick7 (f := fun i => h2_0 (h2_0 82 2 + 5) (h2_0 (h2_0 82 2) 9 * 8 + i)) (by omega) (fun i a b => kA _ (by omega) (by omega)) (fun i j a b c => pk7 i j a b c) (by omega) (by omega) (fun i a b => np2 i a b)
            have hi24 : 0 ≤ p2_0 := by omega
            have hi25 : p2_0 ≤ 7 := by omega
            refine w_inv (k := 0) (as := [(0, v14), (0, p2_0)]) (r := []) (x := v5) (ls0 := [(2, v5), (0, p2_0), (0, v14)]) gz_56_47 gm_58 rfl tv5 rd_4 rfl rfl rfl rfl rfl ?_
            refine w_aload_n gz_58_0 rfl ?_
            refine w_getX (v := (v5 + 5)) gz_58_1 tv5 rd_4 rfl (by decide) rfl ?_
            refine w_aload_n gz_58_4 rfl ?_
            refine v_getI (j := 9) gz_58_5 rfl tv5 rd_4 rfl (fun v27 ev27 pv27 qv27 => ?_)
            refine w_bipush gz_58_8 (by decide) ?_
            refine w_imul gz_58_10 ⟨by omega, by omega⟩ ?_
            refine w_iload_n gz_58_11 rfl ?_
            refine w_iadd gz_58_12 ⟨by omega, by omega⟩ ?_
            refine w_iload_n gz_58_13 rfl ?_
            have hi28 : 0 ≤ ((v27 * 8) + p2_0) := by omega
            have hi29 : ((v27 * 8) + p2_0) ≤ 47 := by omega
            refine w_iast gz_58_14 (ix_4_5 tv5) rd_36 (by omega) (by omega) (by omega) (by omega) (fun h30 fh30 => ?_)
            have gh30 : my_fr [(4, 4), (4, 5), (4, 9), (5, 5), (5, 6), (5, 7), (5, 8), (5, 9), (32, -1), (33, -1), (34, -1), (35, -1), (36, -1), (37, -1), (39, -1)] h h30 := my_fr.up gh_2_0 (ix_4_5 tv5) fh30 rfl
            have Ln_h30 : Ln h30 := Ln_ag (my_ag.up fh30 (ix_4_5 tv5) rfl) n_Ln_2_0
            have Sp_h30 : Sp h30 wv := Sp_ag (my_ag.up fh30 (ix_4_5 tv5) rfl) hwv n_Ln_2_0 n_Sp_2_0
            have St5_h30 : St5 h30 := St5_ag (my_ag.up fh30 (ix_4_5 tv5) rfl) n_Ln_2_0 n_St5_2_0
            have Al_h30 : Al h30 := Al_ag (my_ag.up fh30 (ix_4_5 tv5) rfl) n_Al_2_0
            have Cu_h30 : Cu h30 := Cu_ag (my_ag.up fh30 (ix_4_5 tv5) rfl) n_Cu_2_0
            have Lo_h30 : Lo h h30 := Lo_ag (my_ag.up fh30 (ix_4_5 tv5) rfl) n_Ln_2_0 n_Lo_2_0
            refine w_vret gz_58_15 gm_58 ?_
            show wp l rho (d + 2) 56 50 [(2, 82), (0, (p2_0 + 1)), (0, v14)] [] h30 Q
            have Pk_h30t31 : Pk h30 (p2_0 + 1) := Pk_add n_Ln_2_0 n_Pk_2_0 sv (by omega) fh30 np
            have pks : ∀ u : Int, PkS h30 (p2_0 + 1) u ↔ (PkS h2_0 p2_0 u ∨ u = v14) := PkS_up n_Ln_2_0 sv (by omega) (by omega) fh30
            refine w_aload_n gz_56_50 rfl ?_
            refine w_inv (k := 2) (as := []) (r := []) (x := 82) (ls0 := [(2, 82), (9, 0), (9, 0)]) gz_56_51 gm_37 rfl is_82 rd_5 rfl rfl rfl rfl rfl (c_Reader_nextToken9_f0 (d := d)  (((my_up_role fh30 is_82 (ix_4_5 tv5) rfl).trans ev12.symm).trans (by omega)) Al_h30 (fun h32 frh32 w33 w34 w35 xp36 xp37 Al_h32t38 Cu_h32t39 => ?_))
            have gh32 : my_fr [(4, 4), (4, 5), (4, 9), (5, 5), (5, 6), (5, 7), (5, 8), (5, 9), (32, -1), (33, -1), (34, -1), (35, -1), (36, -1), (37, -1), (39, -1)] h h32 := my_fr.tr gh30 (frh32.mo rfl)
            have Ln_h32 : Ln h32 := Ln_ag (my_ag.fr frh32 rfl) Ln_h30
            have Sp_h32 : Sp h32 wv := Sp_ag (my_ag.fr frh32 rfl) hwv Ln_h30 Sp_h30
            have St5_h32 : St5 h32 := St5_ag (my_ag.fr frh32 rfl) Ln_h30 St5_h30
            have Lo_h32 : Lo h h32 := Lo_ag (my_ag.fr frh32 rfl) Ln_h30 Lo_h30
            have Pk_h32 : Pk h32 (p2_0 + 1) := Pk_ag (my_ag.fr frh32 rfl) Ln_h30 Pk_h30t31
            show wp l rho (d + 2) 56 54 [(2, 82), (0, (p2_0 + 1)), (0, v14)] [] h32 Q
            have xc40 := xp36 Cu_h30
            have tE41 : cs h30 = cs h := cs_eq (fun j => my_fr.at gh30 is_92 rfl) (my_fr.at gh30 is_82 rfl)
            rw [tE41] at xc40
            have ps42 : h30 82 7 = h2_0 82 7 := ((my_up_role fh30 is_82 (ix_4_5 tv5) rfl).trans (rfl : h2_0 82 7 = h2_0 82 7))
            rw [ps42] at xc40
            have ck43 := Cu_s Cu_h32t39
            rw [show cs h32 = cs h from cs_eq (fun j => my_fr.at gh32 is_92 rfl) (my_fr.at gh32 is_82 rfl)] at ck43
            rw [show h32 82 7 = (sN (cs h) ((h2_0 82 7))) from xc40] at ck43
            have cv44 := Cu_v Cu_h32t39
            rw [show cs h32 = cs h from cs_eq (fun j => my_fr.at gh32 is_92 rfl) (my_fr.at gh32 is_82 rfl)] at cv44
            rw [show h32 82 7 = (sN (cs h) ((h2_0 82 7))) from xc40] at cv44
            have pk2 : ∀ u : Int, PkS h32 (p2_0 + 1) u ↔ PkS h30 (p2_0 + 1) u := fun u => PkS_ag (my_ag.fr frh32 rfl) Ln_h30 u
            refine w_aload_n gz_56_54 rfl ?_
            refine v_getI (j := 6) gz_56_55 rfl is_82 rd_5 rfl (fun v45 ev45 pv45 qv45 => ?_)
            have zv45 := ev45.trans (rfl : h32 82 6 = h32 82 6)
            refine w_iconst gz_56_58 (by decide) ?_
            refine w_iceq (t := 68) gz_56_59 rfl (fun u46 => ?_) (fun u46 => ?_)
            ·
              refine w_aload_n gz_56_68 rfl ?_
              refine w_inv (k := 2) (as := []) (r := []) (x := 82) (ls0 := [(2, 82), (9, 0), (9, 0)]) gz_56_69 gm_37 rfl is_82 rd_5 rfl rfl rfl rfl rfl (c_Reader_nextToken9_f0 (d := d)  (((my_fr.at frh32 is_82 rfl).trans ((my_up_role fh30 is_82 (ix_4_5 tv5) rfl).trans ev12.symm)).trans (by omega)) Al_h32t38 (fun h47 frh47 w48 w49 w50 xp51 xp52 Al_h47t53 Cu_h47t54 => ?_))
              have gh47 : my_fr [(4, 4), (4, 5), (4, 9), (5, 5), (5, 6), (5, 7), (5, 8), (5, 9), (32, -1), (33, -1), (34, -1), (35, -1), (36, -1), (37, -1), (39, -1)] h h47 := my_fr.tr gh32 (frh47.mo rfl)
              have Ln_h47 : Ln h47 := Ln_ag (my_ag.fr frh47 rfl) Ln_h32
              have Sp_h47 : Sp h47 wv := Sp_ag (my_ag.fr frh47 rfl) hwv Ln_h32 Sp_h32
              have St5_h47 : St5 h47 := St5_ag (my_ag.fr frh47 rfl) Ln_h32 St5_h32
              have Lo_h47 : Lo h h47 := Lo_ag (my_ag.fr frh47 rfl) Ln_h32 Lo_h32
              have Pk_h47 : Pk h47 (p2_0 + 1) := Pk_ag (my_ag.fr frh47 rfl) Ln_h32 Pk_h32
              show wp l rho (d + 2) 56 72 [(2, 82), (0, (p2_0 + 1)), (0, v14)] [] h47 Q
              have xc55 := xp51 Cu_h32t39
              have tE56 : cs h32 = cs h := cs_eq (fun j => my_fr.at gh32 is_92 rfl) (my_fr.at gh32 is_82 rfl)
              rw [tE56] at xc55
              have ps57 : h32 82 7 = (sN (cs h) ((h2_0 82 7))) := xc40
              rw [ps57] at xc55
              have ck58 := Cu_s Cu_h47t54
              rw [show cs h47 = cs h from cs_eq (fun j => my_fr.at gh47 is_92 rfl) (my_fr.at gh47 is_82 rfl)] at ck58
              rw [show h47 82 7 = (sN (cs h) (((sN (cs h) ((h2_0 82 7)))))) from xc55] at ck58
              have cv59 := Cu_v Cu_h47t54
              rw [show cs h47 = cs h from cs_eq (fun j => my_fr.at gh47 is_92 rfl) (my_fr.at gh47 is_82 rfl)] at cv59
              rw [show h47 82 7 = (sN (cs h) (((sN (cs h) ((h2_0 82 7)))))) from xc55] at cv59
              refine w_aload_n gz_56_72 rfl ?_
              refine v_getR (j := 2) gz_56_73 rfl is_82 rd_5 rfl (fun v60 ev60 tv60 => ?_)
              have zv60 : v5 = v60 := (ev60.trans ((my_fr.at frh47 is_82 rfl).trans ((my_fr.at frh32 is_82 rfl).trans ((my_up_role fh30 is_82 (ix_4_5 tv5) rfl).trans ev5.symm)))).symm
              subst zv60
              refine w_iload_n gz_56_76 rfl ?_
              have ce61 : h47 82 2 = v5 := ((my_fr.at frh47 is_82 rfl).trans ((my_fr.at frh32 is_82 rfl).trans ((my_up_role fh30 is_82 (ix_4_5 tv5) rfl).trans ev5.symm)))
              have s5a := St5_h47
              have s5e : v5 = h47 82 2 := by first | assumption | omega
              unfold St5 at s5a
              rw [← s5e] at s5a
              have ce62 : h47 82 2 = v5 := ((my_fr.at frh47 is_82 rfl).trans ((my_fr.at frh32 is_82 rfl).trans ((my_up_role fh30 is_82 (ix_4_5 tv5) rfl).trans ev5.symm)))
              have ce63 : h47 v5 1 = h2_0 v5 1 := ((my_fr.at frh47 tv5 rfl).trans ((my_fr.at frh32 tv5 rfl).trans ((my_up_role fh30 tv5 (ix_4_5 tv5) rfl).trans (rfl : h2_0 v5 1 = h2_0 v5 1))))
              have ce64 : h47 v5 3 = h2_0 v5 3 := ((my_fr.at frh47 tv5 rfl).trans ((my_fr.at frh32 tv5 rfl).trans ((my_up_role fh30 tv5 (ix_4_5 tv5) rfl).trans (rfl : h2_0 v5 3 = h2_0 v5 3))))
              have ce65 : h47 v5 4 = h2_0 v5 4 := ((my_fr.at frh47 tv5 rfl).trans ((my_fr.at frh32 tv5 rfl).trans ((my_up_role fh30 tv5 (ix_4_5 tv5) rfl).trans (rfl : h2_0 v5 4 = h2_0 v5 4))))
              have ce66 : h47 v5 9 = h2_0 v5 9 := ((my_fr.at frh47 tv5 rfl).trans ((my_fr.at frh32 tv5 rfl).trans ((my_up_role fh30 tv5 (ix_4_5 tv5) rfl).trans (rfl : h2_0 v5 9 = h2_0 v5 9))))
              have sE : v5 = h 82 2 := by omega
              have eS1 : h47 v5 1 = h v5 1 := by
                have a := f1_2_0
                rw [← sE] at a
                omega
              have eS3 : h47 v5 3 = h v5 3 := by
                have a := f3_2_0
                rw [← sE] at a
                omega
              have eS4 : h47 v5 4 = h v5 4 := by
                have a := f4_2_0
                rw [← sE] at a
                omega
              have eS9 : h47 v5 9 = h v5 9 := by
                have a := f9_2_0
                rw [← sE] at a
                omega
              have hi67 : 1 ≤ (p2_0 + 1) := by omega
              have hi68 : (p2_0 + 1) ≤ 8 := by omega
              refine w_inv (k := 1) (as := [(0, (p2_0 + 1))]) (r := []) (x := v5) (ls0 := [(2, v5), (0, (p2_0 + 1)), (9, 0)]) gz_56_77 gm_59 rfl tv5 rd_4 rfl rfl rfl rfl rfl (c_Lens_addFew (d := d) (x0 := v5) (x1 := (p2_0 + 1)) tv5 (by omega) (by omega) (by first | assumption | exact no_such_saying | exact Fp_told (by omega) (by omega) | omega | (subst_vars; omega) | omega) (fun h69 frh69 fxh69 w70 w71 w72 w73 xp74 => ?_))
              have gh69 : my_fr [(4, 4), (4, 5), (4, 9), (5, 5), (5, 6), (5, 7), (5, 8), (5, 9), (32, -1), (33, -1), (34, -1), (35, -1), (36, -1), (37, -1), (39, -1)] h h69 := my_fr.tr gh47 (frh69.mo rfl)
              have Ln_h69 : Ln h69 := Ln_fx fxh69 (by first | assumption | omega) Ln_h47
              have Lo_h69 : Lo h h69 := Lo_fx fxh69 (by first | assumption | omega) Ln_h47 Lo_h47
              have Al_h69 : Al h69 := Al_ag (my_ag.fr frh69 rfl) Al_h47t53
              have Cu_h69 : Cu h69 := Cu_ag (my_ag.fr frh69 rfl) Cu_h47t54
              show wp l rho (d + 2) 56 80 [(2, 82), (0, (p2_0 + 1)), (0, v14)] [] h69 Q
              have ce75 : h69 82 2 = v5 := ((my_fr.at frh69 is_82 rfl).trans ((my_fr.at frh47 is_82 rfl).trans ((my_fr.at frh32 is_82 rfl).trans ((my_up_role fh30 is_82 (ix_4_5 tv5) rfl).trans ev5.symm))))
              have Sp_h69t76 : Sp h69 wv := Sp_add fxh69 (by first | assumption | omega) hwv Ln_h47 Sp_h47 xp74 (by have := St5_h47.1; omega) (by omega) (by omega)
              have std := Std_add xp74 sE (by omega) eS3 eS4 eS9 eS1
              have psR : h69 82 7 = (sN (cs h) (((sN (cs h) ((h2_0 82 7)))))) := ((my_fr.at frh69 is_82 rfl).trans xc55)
              have npsR : cs h69 = cs h := cs_eq (fun j => my_fr.at gh69 is_92 rfl) (my_fr.at gh69 is_82 rfl)
              have c77 := ((my_fr.at frh69 is_82 rfl).trans ((my_fr.at frh47 is_82 rfl).trans ((my_fr.at frh32 is_82 rfl).trans ((my_up_role fh30 is_82 (ix_4_5 tv5) rfl).trans ev12.symm))))
              exact w_vret gz_56_80 gm_56 (k1 h69 (gh69) (by omega) (by first | exact Lo_h69 | exact ⟨std.1, std.2.1, rfl, std.2.2.2⟩ | exact fwI_e fw_2_0 rfl (by omega) (by omega) (by omega) npk (by omega) (by omega) psR std.2.2.1 | exact fwI_3 fw_2_0 rfl (by omega) (by omega) (by omega) ipk (by omega) | exact fwI_1 fw_2_0 rfl (by first | exact Or.inl ⟨by omega, by omega⟩ | exact Or.inr (Or.inl ⟨by omega, by omega, by omega⟩)) | omega) (by first | exact Lo_h69 | exact ⟨std.1, std.2.1, rfl, std.2.2.2⟩ | exact fwI_e fw_2_0 rfl (by omega) (by omega) (by omega) npk (by omega) (by omega) psR std.2.2.1 | exact fwI_3 fw_2_0 rfl (by omega) (by omega) (by omega) ipk (by omega) | exact fwI_1 fw_2_0 rfl (by first | exact Or.inl ⟨by omega, by omega⟩ | exact Or.inr (Or.inl ⟨by omega, by omega, by omega⟩)) | omega) (by first | exact Lo_h69 | exact ⟨std.1, std.2.1, rfl, std.2.2.2⟩ | exact fwI_e fw_2_0 rfl (by omega) (by omega) (by omega) npk (by omega) (by omega) psR std.2.2.1 | exact fwI_3 fw_2_0 rfl (by omega) (by omega) (by omega) ipk (by omega) | exact fwI_1 fw_2_0 rfl (by first | exact Or.inl ⟨by omega, by omega⟩ | exact Or.inr (Or.inl ⟨by omega, by omega, by omega⟩)) | omega) Ln_h69 Sp_h69t76 Al_h69 Cu_h69)
            ·
              refine w_iload_n gz_56_62 rfl ?_
              refine w_bipush gz_56_63 (by decide) ?_
              refine w_icle (t := 2) gz_56_65 rfl (fun u78 => ?_) (fun u78 => by exfalso; omega)
              have psJ : h32 82 7 = (sN (cs h) ((h2_0 82 7))) := xc40
              have npsJ : cs h32 = cs h := cs_eq (fun j => my_fr.at gh32 is_92 rfl) (my_fr.at gh32 is_82 rfl)
              have ce79 : h32 82 2 = v5 := ((my_fr.at frh32 is_82 rfl).trans ((my_up_role fh30 is_82 (ix_4_5 tv5) rfl).trans ev5.symm))
              have hL : my_is 4 (h 82 2) := n_Ln.2.2.2.1
              have ce80 : h32 v5 1 = h2_0 v5 1 := ((my_fr.at frh32 tv5 rfl).trans ((my_up_role fh30 tv5 (ix_4_5 tv5) rfl).trans (rfl : h2_0 v5 1 = h2_0 v5 1)))
              have ce81 : h32 v5 3 = h2_0 v5 3 := ((my_fr.at frh32 tv5 rfl).trans ((my_up_role fh30 tv5 (ix_4_5 tv5) rfl).trans (rfl : h2_0 v5 3 = h2_0 v5 3)))
              have ce82 : h32 v5 4 = h2_0 v5 4 := ((my_fr.at frh32 tv5 rfl).trans ((my_up_role fh30 tv5 (ix_4_5 tv5) rfl).trans (rfl : h2_0 v5 4 = h2_0 v5 4)))
              have ce83 : h32 v5 9 = h2_0 v5 9 := ((my_fr.at frh32 tv5 rfl).trans ((my_up_role fh30 tv5 (ix_4_5 tv5) rfl).trans (rfl : h2_0 v5 9 = h2_0 v5 9)))
              refine w_weak (ls' := [(2, 82), (0, (p2_0 + 1)), (9, 0)]) (wk_e (wk_e (wk_9 wk_n))) ?_
              exact ih_2_0 ((p2_0 + 1)) h32 (gh32) (by omega) (by omega) (((my_fr.at frh32 is_82 rfl).trans ((my_up_role fh30 is_82 (ix_4_5 tv5) rfl).trans ev12.symm)).trans (by omega)) Ln_h32 Sp_h32 St5_h32 Al_h32t38 Cu_h32t39 Pk_h32 Lo_h32 (by first | exact fwI_0 (by first | rfl | omega) | exact fwI_s fw_2_0 rfl (by omega) (by omega) (by omega) npk (by omega) psJ (fun u => (pk2 u).trans (pks u)) | omega) (by first | rfl | omega) (by first | rfl | omega | (have a := f1_2_0; rw [← sE7] at a ⊢; omega) | omega) (by first | rfl | omega | (have a := f3_2_0; rw [← sE7] at a ⊢; omega) | omega) (by first | rfl | omega | (have a := f4_2_0; rw [← sE7] at a ⊢; omega) | omega) (by first | rfl | omega | (have a := f9_2_0; rw [← sE7] at a ⊢; omega) | omega) (by omega)
          ·
            show wp l rho (d + 2) 56 29 [(2, 82), (0, p2_0), (0, v14)] [(0, 1)] h2_0 Q
            have ipk : PkS h2_0 p2_0 v14 := by
              obtain ⟨i, a, b, d⟩ := xp20
              rw [s5e] at d
              exact ⟨i, a, b, d⟩
            refine w_ifeq (t := 38) gz_56_29 rfl (fun u84 => by exfalso; omega) (fun u84 => ?_)
            refine w_aload_n gz_56_32 rfl ?_
            refine w_iconst gz_56_33 (by decide) ?_
            refine w_inv (k := 0) (as := [(0, 3)]) (r := []) (x := 82) (ls0 := [(2, 82), (0, 3)]) gz_56_34 gm_42 rfl is_82 rd_5 rfl rfl rfl rfl rfl ?_
            refine w_aload_n gz_42_0 rfl ?_
            refine v_getI (j := 9) gz_42_1 rfl is_82 rd_5 rfl (fun v85 ev85 pv85 qv85 => ?_)
            have zv85 := ev85.trans ev12.symm
            refine w_ifne (t := 20) gz_42_4 rfl (fun u86 => by exfalso; omega) (fun u86 => ?_)
            refine w_aload_n gz_42_7 rfl ?_
            refine w_iload_n gz_42_8 rfl ?_
            refine w_bipush gz_42_9 (by decide) ?_
            refine w_aload_n gz_42_11 rfl ?_
            refine v_getI (j := 7) gz_42_12 rfl is_82 rd_5 rfl (fun v87 ev87 pv87 qv87 => ?_)
            refine w_imul gz_42_15 ⟨by omega, by omega⟩ ?_
            refine w_iadd gz_42_16 ⟨by omega, by omega⟩ ?_
            refine v_putI (j := 9) gz_42_17 rfl is_82 rd_5 rfl (by omega) (by omega) rfl (fun h88 fh88 => ?_)
            have gh88 : my_fr [(4, 4), (4, 5), (4, 9), (5, 5), (5, 6), (5, 7), (5, 8), (5, 9), (32, -1), (33, -1), (34, -1), (35, -1), (36, -1), (37, -1), (39, -1)] h h88 := my_fr.up gh_2_0 is_82 fh88 rfl
            have Ln_h88 : Ln h88 := Ln_ag (my_ag.up fh88 is_82 rfl) n_Ln_2_0
            have Sp_h88 : Sp h88 wv := Sp_ag (my_ag.up fh88 is_82 rfl) hwv n_Ln_2_0 n_Sp_2_0
            have St5_h88 : St5 h88 := St5_ag (my_ag.up fh88 is_82 rfl) n_Ln_2_0 n_St5_2_0
            have Al_h88 : Al h88 := Al_ag (my_ag.up fh88 is_82 rfl) n_Al_2_0
            have Cu_h88 : Cu h88 := Cu_ag (my_ag.up fh88 is_82 rfl) n_Cu_2_0
            have Pk_h88 : Pk h88 p2_0 := Pk_ag (my_ag.up fh88 is_82 rfl) n_Ln_2_0 n_Pk_2_0
            have Lo_h88 : Lo h h88 := Lo_ag (my_ag.up fh88 is_82 rfl) n_Ln_2_0 n_Lo_2_0
            refine w_vret gz_42_20 gm_42 ?_
            show wp l rho (d + 2) 56 37 [(2, 82), (0, p2_0), (0, v14)] [] h88 Q
            have psR : h88 82 7 = h2_0 82 7 := ((my_up_fld fh88 (by decide)).trans (rfl : h2_0 82 7 = h2_0 82 7))
            have npsR : cs h88 = cs h := cs_eq (fun j => my_fr.at gh88 is_92 rfl) (my_fr.at gh88 is_82 rfl)
            have c89 := (my_up_self fh88)
            exact w_vret gz_56_37 gm_56 (k0 h88 (gh88) (by omega) (by omega) (by first | exact Lo_h88 | exact ⟨std.1, std.2.1, rfl, std.2.2.2⟩ | exact fwI_e fw_2_0 rfl (by omega) (by omega) (by omega) npk (by omega) (by omega) psR std.2.2.1 | exact fwI_3 fw_2_0 rfl (by omega) (by omega) (by omega) ipk (by omega) | exact fwI_1 fw_2_0 rfl (by first | exact Or.inl ⟨by omega, by omega⟩ | exact Or.inr (Or.inl ⟨by omega, by omega, by omega⟩)) | omega) (by first | exact Lo_h88 | exact ⟨std.1, std.2.1, rfl, std.2.2.2⟩ | exact fwI_e fw_2_0 rfl (by omega) (by omega) (by omega) npk (by omega) (by omega) psR std.2.2.1 | exact fwI_3 fw_2_0 rfl (by omega) (by omega) (by omega) ipk (by omega) | exact fwI_1 fw_2_0 rfl (by first | exact Or.inl ⟨by omega, by omega⟩ | exact Or.inr (Or.inl ⟨by omega, by omega, by omega⟩)) | omega) Ln_h88 Sp_h88 Al_h88 Cu_h88)
        ·
          refine w_aload_n gz_44_23 rfl ?_
          refine w_iconst gz_44_24 (by decide) ?_
          refine w_inv (k := 0) (as := [(0, 4)]) (r := []) (x := 82) (ls0 := [(2, 82), (0, 4)]) gz_44_25 gm_42 rfl is_82 rd_5 rfl rfl rfl rfl rfl ?_
          refine w_aload_n gz_42_0 rfl ?_
          refine v_getI (j := 9) gz_42_1 rfl is_82 rd_5 rfl (fun v90 ev90 pv90 qv90 => ?_)
          have zv90 := ev90.trans c82_9_2_0
          refine w_ifne (t := 20) gz_42_4 rfl (fun u91 => by exfalso; omega) (fun u91 => ?_)
          refine w_aload_n gz_42_7 rfl ?_
          refine w_iload_n gz_42_8 rfl ?_
          refine w_bipush gz_42_9 (by decide) ?_
          refine w_aload_n gz_42_11 rfl ?_
          refine v_getI (j := 7) gz_42_12 rfl is_82 rd_5 rfl (fun v92 ev92 pv92 qv92 => ?_)
          refine w_imul gz_42_15 ⟨by omega, by omega⟩ ?_
          refine w_iadd gz_42_16 ⟨by omega, by omega⟩ ?_
          refine v_putI (j := 9) gz_42_17 rfl is_82 rd_5 rfl (by omega) (by omega) rfl (fun h93 fh93 => ?_)
          have gh93 : my_fr [(4, 4), (4, 5), (4, 9), (5, 5), (5, 6), (5, 7), (5, 8), (5, 9), (32, -1), (33, -1), (34, -1), (35, -1), (36, -1), (37, -1), (39, -1)] h h93 := my_fr.up gh_2_0 is_82 fh93 rfl
          have Ln_h93 : Ln h93 := Ln_ag (my_ag.up fh93 is_82 rfl) n_Ln_2_0
          have Sp_h93 : Sp h93 wv := Sp_ag (my_ag.up fh93 is_82 rfl) hwv n_Ln_2_0 n_Sp_2_0
          have St5_h93 : St5 h93 := St5_ag (my_ag.up fh93 is_82 rfl) n_Ln_2_0 n_St5_2_0
          have Al_h93 : Al h93 := Al_ag (my_ag.up fh93 is_82 rfl) n_Al_2_0
          have Cu_h93 : Cu h93 := Cu_ag (my_ag.up fh93 is_82 rfl) n_Cu_2_0
          have Pk_h93 : Pk h93 p2_0 := Pk_ag (my_ag.up fh93 is_82 rfl) n_Ln_2_0 n_Pk_2_0
          have Lo_h93 : Lo h h93 := Lo_ag (my_ag.up fh93 is_82 rfl) n_Ln_2_0 n_Lo_2_0
          refine w_vret gz_42_20 gm_42 ?_
          show wp l rho (d + 1) 44 28 [(2, 82), (0, v7)] [] h93 _
          refine w_iconst gz_44_28 (by decide) ?_
          refine w_iret gz_44_29 gm_44 ?_
          show wp l rho (d + 2) 56 13 [(2, 82), (0, p2_0), (9, 0)] [(0, (-1))] h93 Q
          refine w_istore_n (ls' := [(2, 82), (0, p2_0), (0, (-1))]) gz_56_13 gm_56 rfl rfl rfl ?_
          refine w_iload_n gz_56_14 rfl ?_
          refine w_iconst gz_56_15 (by decide) ?_
          refine w_icne (t := 20) gz_56_16 rfl (fun u94 => by exfalso; omega) (fun u94 => ?_)
          have psR : h93 82 7 = h2_0 82 7 := ((my_up_fld fh93 (by decide)).trans (rfl : h2_0 82 7 = h2_0 82 7))
          have npsR : cs h93 = cs h := cs_eq (fun j => my_fr.at gh93 is_92 rfl) (my_fr.at gh93 is_82 rfl)
          have c95 := (my_up_self fh93)
          exact w_vret gz_56_19 gm_56 (k0 h93 (gh93) (by omega) (by omega) (by first | exact Lo_h93 | exact ⟨std.1, std.2.1, rfl, std.2.2.2⟩ | exact fwI_e fw_2_0 rfl (by omega) (by omega) (by omega) npk (by omega) (by omega) psR std.2.2.1 | exact fwI_3 fw_2_0 rfl (by omega) (by omega) (by omega) ipk (by omega) | exact fwI_1 fw_2_0 rfl (by first | exact Or.inl ⟨by omega, by omega⟩ | exact Or.inr (Or.inl ⟨by omega, by omega, by omega⟩)) | omega) (by first | exact Lo_h93 | exact ⟨std.1, std.2.1, rfl, std.2.2.2⟩ | exact fwI_e fw_2_0 rfl (by omega) (by omega) (by omega) npk (by omega) (by omega) psR std.2.2.1 | exact fwI_3 fw_2_0 rfl (by omega) (by omega) (by omega) ipk (by omega) | exact fwI_1 fw_2_0 rfl (by first | exact Or.inl ⟨by omega, by omega⟩ | exact Or.inr (Or.inl ⟨by omega, by omega, by omega⟩)) | omega) Ln_h93 Sp_h93 Al_h93 Cu_h93)
      ·
        refine w_aload_n gz_44_8 rfl ?_
        refine w_iconst gz_44_9 (by decide) ?_
        refine w_inv (k := 0) (as := [(0, 1)]) (r := []) (x := 82) (ls0 := [(2, 82), (0, 1)]) gz_44_10 gm_42 rfl is_82 rd_5 rfl rfl rfl rfl rfl ?_
        refine w_aload_n gz_42_0 rfl ?_
        refine v_getI (j := 9) gz_42_1 rfl is_82 rd_5 rfl (fun v96 ev96 pv96 qv96 => ?_)
        have zv96 := ev96.trans c82_9_2_0
        refine w_ifne (t := 20) gz_42_4 rfl (fun u97 => by exfalso; omega) (fun u97 => ?_)
        refine w_aload_n gz_42_7 rfl ?_
        refine w_iload_n gz_42_8 rfl ?_
        refine w_bipush gz_42_9 (by decide) ?_
        refine w_aload_n gz_42_11 rfl ?_
        refine v_getI (j := 7) gz_42_12 rfl is_82 rd_5 rfl (fun v98 ev98 pv98 qv98 => ?_)
        refine w_imul gz_42_15 ⟨by omega, by omega⟩ ?_
        refine w_iadd gz_42_16 ⟨by omega, by omega⟩ ?_
        refine v_putI (j := 9) gz_42_17 rfl is_82 rd_5 rfl (by omega) (by omega) rfl (fun h99 fh99 => ?_)
        have gh99 : my_fr [(4, 4), (4, 5), (4, 9), (5, 5), (5, 6), (5, 7), (5, 8), (5, 9), (32, -1), (33, -1), (34, -1), (35, -1), (36, -1), (37, -1), (39, -1)] h h99 := my_fr.up gh_2_0 is_82 fh99 rfl
        have Ln_h99 : Ln h99 := Ln_ag (my_ag.up fh99 is_82 rfl) n_Ln_2_0
        have Sp_h99 : Sp h99 wv := Sp_ag (my_ag.up fh99 is_82 rfl) hwv n_Ln_2_0 n_Sp_2_0
        have St5_h99 : St5 h99 := St5_ag (my_ag.up fh99 is_82 rfl) n_Ln_2_0 n_St5_2_0
        have Al_h99 : Al h99 := Al_ag (my_ag.up fh99 is_82 rfl) n_Al_2_0
        have Cu_h99 : Cu h99 := Cu_ag (my_ag.up fh99 is_82 rfl) n_Cu_2_0
        have Pk_h99 : Pk h99 p2_0 := Pk_ag (my_ag.up fh99 is_82 rfl) n_Ln_2_0 n_Pk_2_0
        have Lo_h99 : Lo h h99 := Lo_ag (my_ag.up fh99 is_82 rfl) n_Ln_2_0 n_Lo_2_0
        refine w_vret gz_42_20 gm_42 ?_
        show wp l rho (d + 1) 44 13 [(2, 82), (0, v7)] [] h99 _
        refine w_iconst gz_44_13 (by decide) ?_
        refine w_iret gz_44_14 gm_44 ?_
        show wp l rho (d + 2) 56 13 [(2, 82), (0, p2_0), (9, 0)] [(0, (-1))] h99 Q
        refine w_istore_n (ls' := [(2, 82), (0, p2_0), (0, (-1))]) gz_56_13 gm_56 rfl rfl rfl ?_
        refine w_iload_n gz_56_14 rfl ?_
        refine w_iconst gz_56_15 (by decide) ?_
        refine w_icne (t := 20) gz_56_16 rfl (fun u100 => by exfalso; omega) (fun u100 => ?_)
        have psR : h99 82 7 = h2_0 82 7 := ((my_up_fld fh99 (by decide)).trans (rfl : h2_0 82 7 = h2_0 82 7))
        have npsR : cs h99 = cs h := cs_eq (fun j => my_fr.at gh99 is_92 rfl) (my_fr.at gh99 is_82 rfl)
        have c101 := (my_up_self fh99)
        exact w_vret gz_56_19 gm_56 (k0 h99 (gh99) (by omega) (by omega) (by first | exact Lo_h99 | exact ⟨std.1, std.2.1, rfl, std.2.2.2⟩ | exact fwI_e fw_2_0 rfl (by omega) (by omega) (by omega) npk (by omega) (by omega) psR std.2.2.1 | exact fwI_3 fw_2_0 rfl (by omega) (by omega) (by omega) ipk (by omega) | exact fwI_1 fw_2_0 rfl (by first | exact Or.inl ⟨by omega, by omega⟩ | exact Or.inr (Or.inl ⟨by omega, by omega, by omega⟩)) | omega) (by first | exact Lo_h99 | exact ⟨std.1, std.2.1, rfl, std.2.2.2⟩ | exact fwI_e fw_2_0 rfl (by omega) (by omega) (by omega) npk (by omega) (by omega) psR std.2.2.1 | exact fwI_3 fw_2_0 rfl (by omega) (by omega) (by omega) ipk (by omega) | exact fwI_1 fw_2_0 rfl (by first | exact Or.inl ⟨by omega, by omega⟩ | exact Or.inr (Or.inl ⟨by omega, by omega, by omega⟩)) | omega) Ln_h99 Sp_h99 Al_h99 Cu_h99)
  refine w_iconst gz_56_0 (by decide) ?_
  refine w_istore_n (ls' := [(2, 82), (0, 0), (9, 0)]) gz_56_1 gm_56 rfl rfl rfl ?_
  have psJ : h 82 7 = h 82 7 := (rfl : h 82 7 = h 82 7)
  have npsJ : cs h = cs h := rfl
  have hL : my_is 4 (h 82 2) := n_Ln.2.2.2.1
  exact J2_0 9 (0) h (my_fr.rf) (by omega) (by omega) (cf.trans (by omega)) n_Ln n_Sp n_St5 n_Al n_Cu (fun i j a b c => absurd c (by omega)) (Lo_rf) (by first | exact fwI_0 (by first | rfl | omega) | exact fwI_s fw_2_0 rfl (by omega) (by omega) (by omega) npk (by omega) psJ (fun u => (pk2 u).trans (pks u)) | omega) (by first | rfl | omega) (by first | rfl | omega | (have a := f1_2_0; rw [← sE7] at a ⊢; omega) | omega) (by first | rfl | omega | (have a := f3_2_0; rw [← sE7] at a ⊢; omega) | omega) (by first | rfl | omega | (have a := f4_2_0; rw [← sE7] at a ⊢; omega) | omega) (by first | rfl | omega | (have a := f9_2_0; rw [← sE7] at a ⊢; omega) | omega) (by omega)
theorem c_Reader_readJoin9_f0 {l : Launch} {rho : Nat → Int32} {d : Nat} {h : my_H} {Q : my_H → my_V → Prop} {wv : Int} (cf : h 82 9 = 0) (hwv : wv ≤ 5) (hwv0 : 0 ≤ wv) (n_Ln : Ln h) (n_Sp : Sp h wv) (n_St5 : St5 h) (n_Al : Al h) (n_Cu : Cu h) (k0 : ∀ (h' : my_H), my_fr [(4, 4), (4, 5), (4, 6), (4, 8), (4, 9), (5, 5), (5, 6), (5, 7), (5, 8), (5, 9), (32, -1), (33, -1), (34, -1), (35, -1), (37, -1)] h h' → 1 ≤ h' 82 9 → h' 82 9 ≤ 16005 → joinR (cs h) (h 2) (h 82 7) (h (h 82 2) 4) (h' 82 9) (h' 82 7) → Lo h h' → Ln h' → Sp h' wv → Al h' → Cu h' → Q h' (9, 0)) (k1 : ∀ (h' : my_H), my_fr [(4, 4), (4, 5), (4, 6), (4, 8), (4, 9), (5, 5), (5, 6), (5, 7), (5, 8), (5, 9), (32, -1), (33, -1), (34, -1), (35, -1), (37, -1)] h h' → h' 82 9 = 0 → joinR (cs h) (h 2) (h 82 7) (h (h 82 2) 4) (h' 82 9) (h' 82 7) → Std h h' (h (h 82 2) 4 + h 2 (sV (cs h) (h 82 7)) - 1) (h (h 82 2) 9 + 1) → Lo h h' → Ln h' → Sp h' wv → Al h' → Cu h' → Q h' (9, 0)) : wp l rho (d + 6) 60 0 [(2, 82), (9, 0), (9, 0), (9, 0)] [] h Q := by
  have ck1 := Cu_s n_Cu
  refine w_aload_n gz_60_0 rfl ?_
  refine w_inv (k := 1) (as := []) (r := []) (x := 82) (ls0 := [(2, 82), (9, 0)]) gz_60_1 gm_43 rfl is_82 rd_5 rfl rfl rfl rfl rfl (c_Reader_wallNumber9_f0 (d := (d + 3))  (cf.trans (by omega)) n_Al n_Cu (fun h2 frh2 w3 w4 xp5 Al_h2t6 Cu_h2t7 => ?_) (fun h8 v9 frh8 w10 w11 w12 w13 w14 w15 xp16 xp17 xp18 xp19 Al_h8t20 Cu_h8t21 => ?_))
  ·
    have gh2 : my_fr [(4, 4), (4, 5), (4, 6), (4, 8), (4, 9), (5, 5), (5, 6), (5, 7), (5, 8), (5, 9), (32, -1), (33, -1), (34, -1), (35, -1), (37, -1)] h h2 := my_fr.tr my_fr.rf (frh2.mo rfl)
    have Ln_h2 : Ln h2 := Ln_ag (my_ag.fr frh2 rfl) n_Ln
    have Sp_h2 : Sp h2 wv := Sp_ag (my_ag.fr frh2 rfl) hwv n_Ln n_Sp
    have St5_h2 : St5 h2 := St5_ag (my_ag.fr frh2 rfl) n_Ln n_St5
    have Al_h2 : Al h2 := Al_ag (my_ag.fr frh2 rfl) n_Al
    have Cu_h2 : Cu h2 := Cu_ag (my_ag.fr frh2 rfl) n_Cu
    have Lo_h2 : Lo h h2 := Lo_ag (my_ag.fr frh2 rfl) n_Ln (Lo_rf)
    show wp l rho (d + 6) 60 4 [(2, 82), (9, 0), (9, 0), (9, 0)] [(0, (-1))] h2 Q
    refine w_istore_n (ls' := [(2, 82), (0, (-1)), (9, 0), (9, 0)]) gz_60_4 gm_60 rfl rfl rfl ?_
    refine w_iload_n gz_60_5 rfl ?_
    refine w_iconst gz_60_6 (by decide) ?_
    refine w_icne (t := 11) gz_60_7 rfl (fun u22 => by exfalso; omega) (fun u22 => ?_)
    have psR : h2 82 7 = h 82 7 := ((my_fr.at frh2 is_82 rfl).trans (rfl : h 82 7 = h 82 7))
    have npsR : cs h2 = cs h := cs_eq (fun j => my_fr.at gh2 is_92 rfl) (my_fr.at gh2 is_82 rfl)
    have c23 := (rfl : h2 82 9 = h2 82 9)
    exact w_vret gz_60_10 gm_60 (k0 h2 (gh2) (by omega) (by omega) (by first | exact Lo_h2 | (rw [← w20]; exact std) | (unfold joinR; first | exact Or.inr (Or.inr ⟨by omega, by omega, Or.inr (Or.inr ⟨by omega, by omega, Or.inr ⟨by omega, Or.inr (Or.inr ⟨by omega, by omega, Or.inr ⟨by omega, by omega, by omega⟩⟩)⟩⟩)⟩) | exact Or.inr (Or.inr ⟨by omega, by omega, Or.inr (Or.inr ⟨by omega, by omega, Or.inr ⟨by omega, Or.inr (Or.inr ⟨by omega, by omega, Or.inl ⟨by omega, by omega⟩⟩)⟩⟩)⟩) | exact Or.inr (Or.inr ⟨by omega, by omega, Or.inr (Or.inr ⟨by omega, by omega, Or.inr ⟨by omega, Or.inr (Or.inl ⟨by omega, by omega, by omega⟩)⟩⟩)⟩) | exact Or.inr (Or.inr ⟨by omega, by omega, Or.inr (Or.inr ⟨by omega, by omega, Or.inr ⟨by omega, Or.inl ⟨by omega, by omega⟩⟩⟩)⟩) | exact Or.inr (Or.inr ⟨by omega, by omega, Or.inr (Or.inr ⟨by omega, by omega, Or.inl ⟨by omega, by omega⟩⟩)⟩) | exact Or.inr (Or.inr ⟨by omega, by omega, Or.inr (Or.inl ⟨by omega, by omega, by omega⟩)⟩) | exact Or.inr (Or.inr ⟨by omega, by omega, Or.inl ⟨by omega, by omega⟩⟩) | exact Or.inr (Or.inl ⟨by omega, by omega, by omega⟩) | exact Or.inl ⟨by omega, by omega⟩) | omega) (by first | exact Lo_h2 | (rw [← w20]; exact std) | (unfold joinR; first | exact Or.inr (Or.inr ⟨by omega, by omega, Or.inr (Or.inr ⟨by omega, by omega, Or.inr ⟨by omega, Or.inr (Or.inr ⟨by omega, by omega, Or.inr ⟨by omega, by omega, by omega⟩⟩)⟩⟩)⟩) | exact Or.inr (Or.inr ⟨by omega, by omega, Or.inr (Or.inr ⟨by omega, by omega, Or.inr ⟨by omega, Or.inr (Or.inr ⟨by omega, by omega, Or.inl ⟨by omega, by omega⟩⟩)⟩⟩)⟩) | exact Or.inr (Or.inr ⟨by omega, by omega, Or.inr (Or.inr ⟨by omega, by omega, Or.inr ⟨by omega, Or.inr (Or.inl ⟨by omega, by omega, by omega⟩)⟩⟩)⟩) | exact Or.inr (Or.inr ⟨by omega, by omega, Or.inr (Or.inr ⟨by omega, by omega, Or.inr ⟨by omega, Or.inl ⟨by omega, by omega⟩⟩⟩)⟩) | exact Or.inr (Or.inr ⟨by omega, by omega, Or.inr (Or.inr ⟨by omega, by omega, Or.inl ⟨by omega, by omega⟩⟩)⟩) | exact Or.inr (Or.inr ⟨by omega, by omega, Or.inr (Or.inl ⟨by omega, by omega, by omega⟩)⟩) | exact Or.inr (Or.inr ⟨by omega, by omega, Or.inl ⟨by omega, by omega⟩⟩) | exact Or.inr (Or.inl ⟨by omega, by omega, by omega⟩) | exact Or.inl ⟨by omega, by omega⟩) | omega) Ln_h2 Sp_h2 Al_h2t6 Cu_h2t7)
  ·
    have gh8 : my_fr [(4, 4), (4, 5), (4, 6), (4, 8), (4, 9), (5, 5), (5, 6), (5, 7), (5, 8), (5, 9), (32, -1), (33, -1), (34, -1), (35, -1), (37, -1)] h h8 := my_fr.tr my_fr.rf (frh8.mo rfl)
    have Ln_h8 : Ln h8 := Ln_ag (my_ag.fr frh8 rfl) n_Ln
    have Sp_h8 : Sp h8 wv := Sp_ag (my_ag.fr frh8 rfl) hwv n_Ln n_Sp
    have St5_h8 : St5 h8 := St5_ag (my_ag.fr frh8 rfl) n_Ln n_St5
    have Al_h8 : Al h8 := Al_ag (my_ag.fr frh8 rfl) n_Al
    have Cu_h8 : Cu h8 := Cu_ag (my_ag.fr frh8 rfl) n_Cu
    have Lo_h8 : Lo h h8 := Lo_ag (my_ag.fr frh8 rfl) n_Ln (Lo_rf)
    show wp l rho (d + 6) 60 4 [(2, 82), (9, 0), (9, 0), (9, 0)] [(0, v9)] h8 Q
    refine w_istore_n (ls' := [(2, 82), (0, v9), (9, 0), (9, 0)]) gz_60_4 gm_60 rfl rfl rfl ?_
    refine w_iload_n gz_60_5 rfl ?_
    refine w_iconst gz_60_6 (by decide) ?_
    refine w_icne (t := 11) gz_60_7 rfl (fun u24 => ?_) (fun u24 => by exfalso; omega)
    refine w_aload_n gz_60_11 rfl ?_
    refine w_getX (v := 1) gz_60_12 is_82 rd_5 rfl (by decide) rfl ?_
    refine w_getX (v := 2) gz_60_15 is_1 rd_3 rfl (by decide) rfl ?_
    refine w_iload_n gz_60_18 rfl ?_
    refine w_iald gz_60_19 is_2 rd_25 (by omega) (by omega) (fun v27 ev27 pv27 qv27 => ?_)
    have w20 : v27 = h 2 (sV (cs h) (h 82 7)) := by
      rw [← show v9 = sV (cs h) (h 82 7) by omega]
      have z := my_fr.at (j := v9) gh8 is_2 rfl
      omega
    refine w_istore_n (ls' := [(2, 82), (0, v9), (0, v27), (9, 0)]) gz_60_20 gm_60 rfl rfl rfl ?_
    refine w_aload_n gz_60_21 rfl ?_
    refine v_getR (j := 2) gz_60_22 rfl is_82 rd_5 rfl (fun v28 ev28 tv28 => ?_)
    have ce29 : h8 82 2 = v28 := ev28.symm
    have ce30 : h8 v28 4 = h v28 4 := ((my_fr.at frh8 tv28 rfl).trans (rfl : h v28 4 = h v28 4))
    have sE28 : v28 = h 82 2 := by first | assumption | omega
    refine v_getI (j := 4) gz_60_25 rfl tv28 rd_4 rfl (fun v31 ev31 pv31 qv31 => ?_)
    have c28 : v31 = h (h 82 2) 4 := by rw [← sE28]; omega
    refine w_iload_n gz_60_28 rfl ?_
    refine w_iadd gz_60_29 ⟨by omega, by omega⟩ ?_
    refine w_iconst gz_60_30 (by decide) ?_
    refine w_isub gz_60_31 ⟨by omega, by omega⟩ ?_
    refine w_bipush gz_60_32 (by decide) ?_
    refine w_icle (t := 43) gz_60_34 rfl (fun u32 => ?_) (fun u32 => ?_)
    ·
      refine w_aload_n gz_60_43 rfl ?_
      refine w_inv (k := 2) (as := []) (r := []) (x := 82) (ls0 := [(2, 82), (9, 0), (9, 0)]) gz_60_44 gm_37 rfl is_82 rd_5 rfl rfl rfl rfl rfl (c_Reader_nextToken9_f0 (d := (d + 4))  (w15.trans (by omega)) Al_h8t20 (fun h33 frh33 w34 w35 w36 xp37 xp38 Al_h33t39 Cu_h33t40 => ?_))
      have gh33 : my_fr [(4, 4), (4, 5), (4, 6), (4, 8), (4, 9), (5, 5), (5, 6), (5, 7), (5, 8), (5, 9), (32, -1), (33, -1), (34, -1), (35, -1), (37, -1)] h h33 := my_fr.tr gh8 (frh33.mo rfl)
      have Ln_h33 : Ln h33 := Ln_ag (my_ag.fr frh33 rfl) Ln_h8
      have Sp_h33 : Sp h33 wv := Sp_ag (my_ag.fr frh33 rfl) hwv Ln_h8 Sp_h8
      have St5_h33 : St5 h33 := St5_ag (my_ag.fr frh33 rfl) Ln_h8 St5_h8
      have Lo_h33 : Lo h h33 := Lo_ag (my_ag.fr frh33 rfl) Ln_h8 Lo_h8
      show wp l rho (d + 6) 60 47 [(2, 82), (0, v9), (0, v27), (9, 0)] [] h33 Q
      have xc41 := xp37 Cu_h8t21
      have tE42 : cs h8 = cs h := cs_eq (fun j => my_fr.at gh8 is_92 rfl) (my_fr.at gh8 is_82 rfl)
      rw [tE42] at xc41
      have ps43 : h8 82 7 = h 82 7 := ((my_fr.at frh8 is_82 rfl).trans (rfl : h 82 7 = h 82 7))
      rw [ps43] at xc41
      have ck44 := Cu_s Cu_h33t40
      rw [show cs h33 = cs h from cs_eq (fun j => my_fr.at gh33 is_92 rfl) (my_fr.at gh33 is_82 rfl)] at ck44
      rw [show h33 82 7 = (sN (cs h) ((h 82 7))) from xc41] at ck44
      refine w_aload_n gz_60_47 rfl ?_
      refine w_ldcS gz_60_48 (by decide) ?_
      refine w_inv (k := 0) (as := [(3, ((12 : Nat) : Int))]) (r := []) (x := 82) (ls0 := [(2, 82), (3, ((12 : Nat) : Int))]) gz_60_50 gm_40 rfl is_82 rd_5 rfl rfl rfl rfl rfl (c_Reader_takeWord9_f0 (d := d) (x1 := ((12 : Nat) : Int)) (by decide) (((my_fr.at frh33 is_82 rfl).trans w15).trans (by omega)) Al_h33t39 Cu_h33t40 (fun h45 frh45 w46 w47 xp48 xp49 Al_h45t50 Cu_h45t51 => ?_) (fun h52 frh52 w53 xp54 xp55 Al_h52t56 Cu_h52t57 => ?_))
      ·
        have gh45 : my_fr [(4, 4), (4, 5), (4, 6), (4, 8), (4, 9), (5, 5), (5, 6), (5, 7), (5, 8), (5, 9), (32, -1), (33, -1), (34, -1), (35, -1), (37, -1)] h h45 := my_fr.tr gh33 (frh45.mo rfl)
        have Ln_h45 : Ln h45 := Ln_ag (my_ag.fr frh45 rfl) Ln_h33
        have Sp_h45 : Sp h45 wv := Sp_ag (my_ag.fr frh45 rfl) hwv Ln_h33 Sp_h33
        have St5_h45 : St5 h45 := St5_ag (my_ag.fr frh45 rfl) Ln_h33 St5_h33
        have Lo_h45 : Lo h h45 := Lo_ag (my_ag.fr frh45 rfl) Ln_h33 Lo_h33
        show wp l rho (d + 6) 60 53 [(2, 82), (0, v9), (0, v27), (9, 0)] [(0, 0)] h45 Q
        rw [show wc ((12 : Nat) : Int) = 99 from by decide] at xp48
        have tE58 : cs h33 = cs h := cs_eq (fun j => my_fr.at gh33 is_92 rfl) (my_fr.at gh33 is_82 rfl)
        rw [tE58] at xp48
        have ps59 : h33 82 7 = (sN (cs h) ((h 82 7))) := xc41
        rw [ps59] at xp48
        rw [ps59] at xp49
        refine w_ifne (t := 57) gz_60_53 rfl (fun u60 => by exfalso; omega) (fun u60 => ?_)
        have psR : h45 82 7 = h45 82 7 := (rfl : h45 82 7 = h45 82 7)
        have npsR : cs h45 = cs h := cs_eq (fun j => my_fr.at gh45 is_92 rfl) (my_fr.at gh45 is_82 rfl)
        have c61 := (rfl : h45 82 9 = h45 82 9)
        exact w_vret gz_60_56 gm_60 (k0 h45 (gh45) (by omega) (by omega) (by first | exact Lo_h45 | (rw [← w20]; exact std) | (unfold joinR; first | exact Or.inr (Or.inr ⟨by omega, by omega, Or.inr (Or.inr ⟨by omega, by omega, Or.inr ⟨by omega, Or.inr (Or.inr ⟨by omega, by omega, Or.inr ⟨by omega, by omega, by omega⟩⟩)⟩⟩)⟩) | exact Or.inr (Or.inr ⟨by omega, by omega, Or.inr (Or.inr ⟨by omega, by omega, Or.inr ⟨by omega, Or.inr (Or.inr ⟨by omega, by omega, Or.inl ⟨by omega, by omega⟩⟩)⟩⟩)⟩) | exact Or.inr (Or.inr ⟨by omega, by omega, Or.inr (Or.inr ⟨by omega, by omega, Or.inr ⟨by omega, Or.inr (Or.inl ⟨by omega, by omega, by omega⟩)⟩⟩)⟩) | exact Or.inr (Or.inr ⟨by omega, by omega, Or.inr (Or.inr ⟨by omega, by omega, Or.inr ⟨by omega, Or.inl ⟨by omega, by omega⟩⟩⟩)⟩) | exact Or.inr (Or.inr ⟨by omega, by omega, Or.inr (Or.inr ⟨by omega, by omega, Or.inl ⟨by omega, by omega⟩⟩)⟩) | exact Or.inr (Or.inr ⟨by omega, by omega, Or.inr (Or.inl ⟨by omega, by omega, by omega⟩)⟩) | exact Or.inr (Or.inr ⟨by omega, by omega, Or.inl ⟨by omega, by omega⟩⟩) | exact Or.inr (Or.inl ⟨by omega, by omega, by omega⟩) | exact Or.inl ⟨by omega, by omega⟩) | omega) (by first | exact Lo_h45 | (rw [← w20]; exact std) | (unfold joinR; first | exact Or.inr (Or.inr ⟨by omega, by omega, Or.inr (Or.inr ⟨by omega, by omega, Or.inr ⟨by omega, Or.inr (Or.inr ⟨by omega, by omega, Or.inr ⟨by omega, by omega, by omega⟩⟩)⟩⟩)⟩) | exact Or.inr (Or.inr ⟨by omega, by omega, Or.inr (Or.inr ⟨by omega, by omega, Or.inr ⟨by omega, Or.inr (Or.inr ⟨by omega, by omega, Or.inl ⟨by omega, by omega⟩⟩)⟩⟩)⟩) | exact Or.inr (Or.inr ⟨by omega, by omega, Or.inr (Or.inr ⟨by omega, by omega, Or.inr ⟨by omega, Or.inr (Or.inl ⟨by omega, by omega, by omega⟩)⟩⟩)⟩) | exact Or.inr (Or.inr ⟨by omega, by omega, Or.inr (Or.inr ⟨by omega, by omega, Or.inr ⟨by omega, Or.inl ⟨by omega, by omega⟩⟩⟩)⟩) | exact Or.inr (Or.inr ⟨by omega, by omega, Or.inr (Or.inr ⟨by omega, by omega, Or.inl ⟨by omega, by omega⟩⟩)⟩) | exact Or.inr (Or.inr ⟨by omega, by omega, Or.inr (Or.inl ⟨by omega, by omega, by omega⟩)⟩) | exact Or.inr (Or.inr ⟨by omega, by omega, Or.inl ⟨by omega, by omega⟩⟩) | exact Or.inr (Or.inl ⟨by omega, by omega, by omega⟩) | exact Or.inl ⟨by omega, by omega⟩) | omega) Ln_h45 Sp_h45 Al_h45t50 Cu_h45t51)
      ·
        have gh52 : my_fr [(4, 4), (4, 5), (4, 6), (4, 8), (4, 9), (5, 5), (5, 6), (5, 7), (5, 8), (5, 9), (32, -1), (33, -1), (34, -1), (35, -1), (37, -1)] h h52 := my_fr.tr gh33 (frh52.mo rfl)
        have Ln_h52 : Ln h52 := Ln_ag (my_ag.fr frh52 rfl) Ln_h33
        have Sp_h52 : Sp h52 wv := Sp_ag (my_ag.fr frh52 rfl) hwv Ln_h33 Sp_h33
        have St5_h52 : St5 h52 := St5_ag (my_ag.fr frh52 rfl) Ln_h33 St5_h33
        have Lo_h52 : Lo h h52 := Lo_ag (my_ag.fr frh52 rfl) Ln_h33 Lo_h33
        show wp l rho (d + 6) 60 53 [(2, 82), (0, v9), (0, v27), (9, 0)] [(0, 1)] h52 Q
        have tE62 : cs h33 = cs h := cs_eq (fun j => my_fr.at gh33 is_92 rfl) (my_fr.at gh33 is_82 rfl)
        rw [tE62] at xp54
        have ps63 : h33 82 7 = (sN (cs h) ((h 82 7))) := xc41
        rw [ps63] at xp54
        rw [show wc ((12 : Nat) : Int) = 99 from by decide] at xp55
        rw [tE62] at xp55
        rw [ps63] at xp55
        have ck64 := Cu_s Cu_h52t57
        rw [show cs h52 = cs h from cs_eq (fun j => my_fr.at gh52 is_92 rfl) (my_fr.at gh52 is_82 rfl)] at ck64
        rw [show h52 82 7 = (sN (cs h) (((sN (cs h) ((h 82 7)))))) from xp54] at ck64
        refine w_ifne (t := 57) gz_60_53 rfl (fun u65 => ?_) (fun u65 => by exfalso; omega)
        refine w_aload_n gz_60_57 rfl ?_
        refine w_aload_n gz_60_58 rfl ?_
        refine v_getR (j := 2) gz_60_59 rfl is_82 rd_5 rfl (fun v66 ev66 tv66 => ?_)
        have zv66 : v28 = v66 := (ev66.trans ((my_fr.at frh52 is_82 rfl).trans ((my_fr.at frh33 is_82 rfl).trans ev28.symm))).symm
        subst zv66
        have ce67 : h52 82 2 = v28 := ((my_fr.at frh52 is_82 rfl).trans ((my_fr.at frh33 is_82 rfl).trans ev28.symm))
        have ce68 : h52 v28 4 = h v28 4 := ((my_fr.at frh52 tv28 rfl).trans ((my_fr.at frh33 tv28 rfl).trans ((my_fr.at frh8 tv28 rfl).trans (rfl : h v28 4 = h v28 4))))
        have sE65 : v28 = h 82 2 := by first | assumption | omega
        refine v_getI (j := 4) gz_60_62 rfl tv28 rd_4 rfl (fun v69 ev69 pv69 qv69 => ?_)
        have zv69 := ev69.trans ((my_fr.at frh52 tv28 rfl).trans ((my_fr.at frh33 tv28 rfl).trans ev31.symm))
        have c65 : v69 = h (h 82 2) 4 := by rw [← sE65]; omega
        refine w_inv (k := 1) (as := [(0, v69)]) (r := []) (x := 82) (ls0 := [(2, 82), (0, v69), (9, 0)]) gz_60_65 gm_51 rfl is_82 rd_5 rfl rfl rfl rfl rfl (c_Reader_takeNumber9_f0 (d := (d + 3)) (x1 := v69) (by omega) (by omega) (w53.trans (by omega)) Al_h52t56 Cu_h52t57 (fun h70 frh70 w71 w72 xp73 Al_h70t74 Cu_h70t75 => ?_) (fun h76 v77 frh76 w78 w79 w80 w81 w82 xp83 xp84 xp85 Al_h76t86 Cu_h76t87 => ?_))
        ·
          have gh70 : my_fr [(4, 4), (4, 5), (4, 6), (4, 8), (4, 9), (5, 5), (5, 6), (5, 7), (5, 8), (5, 9), (32, -1), (33, -1), (34, -1), (35, -1), (37, -1)] h h70 := my_fr.tr gh52 (frh70.mo rfl)
          have Ln_h70 : Ln h70 := Ln_ag (my_ag.fr frh70 rfl) Ln_h52
          have Sp_h70 : Sp h70 wv := Sp_ag (my_ag.fr frh70 rfl) hwv Ln_h52 Sp_h52
          have St5_h70 : St5 h70 := St5_ag (my_ag.fr frh70 rfl) Ln_h52 St5_h52
          have Lo_h70 : Lo h h70 := Lo_ag (my_ag.fr frh70 rfl) Ln_h52 Lo_h52
          show wp l rho (d + 6) 60 68 [(2, 82), (0, v9), (0, v27), (9, 0)] [(0, (-1))] h70 Q
          have tE88 : cs h52 = cs h := cs_eq (fun j => my_fr.at gh52 is_92 rfl) (my_fr.at gh52 is_82 rfl)
          rw [tE88] at xp73
          have ps89 : h52 82 7 = (sN (cs h) (((sN (cs h) ((h 82 7)))))) := xp54
          rw [ps89] at xp73
          refine w_istore_n (ls' := [(2, 82), (0, v9), (0, v27), (0, (-1))]) gz_60_68 gm_60 rfl rfl rfl ?_
          refine w_aload_n gz_60_69 rfl ?_
          refine v_getI (j := 9) gz_60_70 rfl is_82 rd_5 rfl (fun v90 ev90 pv90 qv90 => ?_)
          have zv90 := ev90.trans (rfl : h70 82 9 = h70 82 9)
          refine w_ifne (t := 93) gz_60_73 rfl (fun u91 => ?_) (fun u91 => by exfalso; omega)
          have psR : h70 82 7 = h70 82 7 := (rfl : h70 82 7 = h70 82 7)
          have npsR : cs h70 = cs h := cs_eq (fun j => my_fr.at gh70 is_92 rfl) (my_fr.at gh70 is_82 rfl)
          have c92 := ev90.symm
          exact w_vret gz_60_93 gm_60 (k0 h70 (gh70) (by omega) (by omega) (by first | exact Lo_h70 | (rw [← w20]; exact std) | (unfold joinR; first | exact Or.inr (Or.inr ⟨by omega, by omega, Or.inr (Or.inr ⟨by omega, by omega, Or.inr ⟨by omega, Or.inr (Or.inr ⟨by omega, by omega, Or.inr ⟨by omega, by omega, by omega⟩⟩)⟩⟩)⟩) | exact Or.inr (Or.inr ⟨by omega, by omega, Or.inr (Or.inr ⟨by omega, by omega, Or.inr ⟨by omega, Or.inr (Or.inr ⟨by omega, by omega, Or.inl ⟨by omega, by omega⟩⟩)⟩⟩)⟩) | exact Or.inr (Or.inr ⟨by omega, by omega, Or.inr (Or.inr ⟨by omega, by omega, Or.inr ⟨by omega, Or.inr (Or.inl ⟨by omega, by omega, by omega⟩)⟩⟩)⟩) | exact Or.inr (Or.inr ⟨by omega, by omega, Or.inr (Or.inr ⟨by omega, by omega, Or.inr ⟨by omega, Or.inl ⟨by omega, by omega⟩⟩⟩)⟩) | exact Or.inr (Or.inr ⟨by omega, by omega, Or.inr (Or.inr ⟨by omega, by omega, Or.inl ⟨by omega, by omega⟩⟩)⟩) | exact Or.inr (Or.inr ⟨by omega, by omega, Or.inr (Or.inl ⟨by omega, by omega, by omega⟩)⟩) | exact Or.inr (Or.inr ⟨by omega, by omega, Or.inl ⟨by omega, by omega⟩⟩) | exact Or.inr (Or.inl ⟨by omega, by omega, by omega⟩) | exact Or.inl ⟨by omega, by omega⟩) | omega) (by first | exact Lo_h70 | (rw [← w20]; exact std) | (unfold joinR; first | exact Or.inr (Or.inr ⟨by omega, by omega, Or.inr (Or.inr ⟨by omega, by omega, Or.inr ⟨by omega, Or.inr (Or.inr ⟨by omega, by omega, Or.inr ⟨by omega, by omega, by omega⟩⟩)⟩⟩)⟩) | exact Or.inr (Or.inr ⟨by omega, by omega, Or.inr (Or.inr ⟨by omega, by omega, Or.inr ⟨by omega, Or.inr (Or.inr ⟨by omega, by omega, Or.inl ⟨by omega, by omega⟩⟩)⟩⟩)⟩) | exact Or.inr (Or.inr ⟨by omega, by omega, Or.inr (Or.inr ⟨by omega, by omega, Or.inr ⟨by omega, Or.inr (Or.inl ⟨by omega, by omega, by omega⟩)⟩⟩)⟩) | exact Or.inr (Or.inr ⟨by omega, by omega, Or.inr (Or.inr ⟨by omega, by omega, Or.inr ⟨by omega, Or.inl ⟨by omega, by omega⟩⟩⟩)⟩) | exact Or.inr (Or.inr ⟨by omega, by omega, Or.inr (Or.inr ⟨by omega, by omega, Or.inl ⟨by omega, by omega⟩⟩)⟩) | exact Or.inr (Or.inr ⟨by omega, by omega, Or.inr (Or.inl ⟨by omega, by omega, by omega⟩)⟩) | exact Or.inr (Or.inr ⟨by omega, by omega, Or.inl ⟨by omega, by omega⟩⟩) | exact Or.inr (Or.inl ⟨by omega, by omega, by omega⟩) | exact Or.inl ⟨by omega, by omega⟩) | omega) Ln_h70 Sp_h70 Al_h70t74 Cu_h70t75)
        ·
          have gh76 : my_fr [(4, 4), (4, 5), (4, 6), (4, 8), (4, 9), (5, 5), (5, 6), (5, 7), (5, 8), (5, 9), (32, -1), (33, -1), (34, -1), (35, -1), (37, -1)] h h76 := my_fr.tr gh52 (frh76.mo rfl)
          have Ln_h76 : Ln h76 := Ln_ag (my_ag.fr frh76 rfl) Ln_h52
          have Sp_h76 : Sp h76 wv := Sp_ag (my_ag.fr frh76 rfl) hwv Ln_h52 Sp_h52
          have St5_h76 : St5 h76 := St5_ag (my_ag.fr frh76 rfl) Ln_h52 St5_h52
          have Lo_h76 : Lo h h76 := Lo_ag (my_ag.fr frh76 rfl) Ln_h52 Lo_h52
          show wp l rho (d + 6) 60 68 [(2, 82), (0, v9), (0, v27), (9, 0)] [(0, v77)] h76 Q
          have tE93 : cs h52 = cs h := cs_eq (fun j => my_fr.at gh52 is_92 rfl) (my_fr.at gh52 is_82 rfl)
          rw [tE93] at xp83
          have ps94 : h52 82 7 = (sN (cs h) (((sN (cs h) ((h 82 7)))))) := xp54
          rw [ps94] at xp83
          rw [tE93] at xp84
          rw [ps94] at xp84
          rw [tE93] at xp85
          rw [ps94] at xp85
          have ck95 := Cu_s Cu_h76t87
          rw [show cs h76 = cs h from cs_eq (fun j => my_fr.at gh76 is_92 rfl) (my_fr.at gh76 is_82 rfl)] at ck95
          rw [show h76 82 7 = (sN (cs h) (((sN (cs h) (((sN (cs h) ((h 82 7))))))))) from xp83] at ck95
          refine w_istore_n (ls' := [(2, 82), (0, v9), (0, v27), (0, v77)]) gz_60_68 gm_60 rfl rfl rfl ?_
          refine w_aload_n gz_60_69 rfl ?_
          refine v_getI (j := 9) gz_60_70 rfl is_82 rd_5 rfl (fun v96 ev96 pv96 qv96 => ?_)
          have zv96 := ev96.trans w82
          refine w_ifne (t := 93) gz_60_73 rfl (fun u97 => by exfalso; omega) (fun u97 => ?_)
          refine w_aload_n gz_60_76 rfl ?_
          refine w_inv (k := 0) (as := []) (r := []) (x := 82) (ls0 := [(2, 82)]) gz_60_77 gm_47 rfl is_82 rd_5 rfl rfl rfl rfl rfl (c_Reader_endsHere9_f0 (d := (d + 3))  (ev96.symm.trans (by omega)) Al_h76t86 Cu_h76t87 (fun h98 frh98 w99 w100 xp101 xp102 Al_h98t103 Cu_h98t104 => ?_) (fun h105 frh105 w106 xp107 xp108 Al_h105t109 Cu_h105t110 => ?_))
          ·
            have gh98 : my_fr [(4, 4), (4, 5), (4, 6), (4, 8), (4, 9), (5, 5), (5, 6), (5, 7), (5, 8), (5, 9), (32, -1), (33, -1), (34, -1), (35, -1), (37, -1)] h h98 := my_fr.tr gh76 (frh98.mo rfl)
            have Ln_h98 : Ln h98 := Ln_ag (my_ag.fr frh98 rfl) Ln_h76
            have Sp_h98 : Sp h98 wv := Sp_ag (my_ag.fr frh98 rfl) hwv Ln_h76 Sp_h76
            have St5_h98 : St5 h98 := St5_ag (my_ag.fr frh98 rfl) Ln_h76 St5_h76
            have Lo_h98 : Lo h h98 := Lo_ag (my_ag.fr frh98 rfl) Ln_h76 Lo_h76
            show wp l rho (d + 6) 60 80 [(2, 82), (0, v9), (0, v27), (0, v77)] [(0, 0)] h98 Q
            have tE111 : cs h76 = cs h := cs_eq (fun j => my_fr.at gh76 is_92 rfl) (my_fr.at gh76 is_82 rfl)
            rw [tE111] at xp101
            have ps112 : h76 82 7 = (sN (cs h) (((sN (cs h) (((sN (cs h) ((h 82 7))))))))) := xp83
            rw [ps112] at xp101
            rw [ps112] at xp102
            refine w_ifeq (t := 93) gz_60_80 rfl (fun u113 => ?_) (fun u113 => by exfalso; omega)
            have psR : h98 82 7 = h98 82 7 := (rfl : h98 82 7 = h98 82 7)
            have npsR : cs h98 = cs h := cs_eq (fun j => my_fr.at gh98 is_92 rfl) (my_fr.at gh98 is_82 rfl)
            have c114 := (rfl : h98 82 9 = h98 82 9)
            exact w_vret gz_60_93 gm_60 (k0 h98 (gh98) (by omega) (by omega) (by first | exact Lo_h98 | (rw [← w20]; exact std) | (unfold joinR; first | exact Or.inr (Or.inr ⟨by omega, by omega, Or.inr (Or.inr ⟨by omega, by omega, Or.inr ⟨by omega, Or.inr (Or.inr ⟨by omega, by omega, Or.inr ⟨by omega, by omega, by omega⟩⟩)⟩⟩)⟩) | exact Or.inr (Or.inr ⟨by omega, by omega, Or.inr (Or.inr ⟨by omega, by omega, Or.inr ⟨by omega, Or.inr (Or.inr ⟨by omega, by omega, Or.inl ⟨by omega, by omega⟩⟩)⟩⟩)⟩) | exact Or.inr (Or.inr ⟨by omega, by omega, Or.inr (Or.inr ⟨by omega, by omega, Or.inr ⟨by omega, Or.inr (Or.inl ⟨by omega, by omega, by omega⟩)⟩⟩)⟩) | exact Or.inr (Or.inr ⟨by omega, by omega, Or.inr (Or.inr ⟨by omega, by omega, Or.inr ⟨by omega, Or.inl ⟨by omega, by omega⟩⟩⟩)⟩) | exact Or.inr (Or.inr ⟨by omega, by omega, Or.inr (Or.inr ⟨by omega, by omega, Or.inl ⟨by omega, by omega⟩⟩)⟩) | exact Or.inr (Or.inr ⟨by omega, by omega, Or.inr (Or.inl ⟨by omega, by omega, by omega⟩)⟩) | exact Or.inr (Or.inr ⟨by omega, by omega, Or.inl ⟨by omega, by omega⟩⟩) | exact Or.inr (Or.inl ⟨by omega, by omega, by omega⟩) | exact Or.inl ⟨by omega, by omega⟩) | omega) (by first | exact Lo_h98 | (rw [← w20]; exact std) | (unfold joinR; first | exact Or.inr (Or.inr ⟨by omega, by omega, Or.inr (Or.inr ⟨by omega, by omega, Or.inr ⟨by omega, Or.inr (Or.inr ⟨by omega, by omega, Or.inr ⟨by omega, by omega, by omega⟩⟩)⟩⟩)⟩) | exact Or.inr (Or.inr ⟨by omega, by omega, Or.inr (Or.inr ⟨by omega, by omega, Or.inr ⟨by omega, Or.inr (Or.inr ⟨by omega, by omega, Or.inl ⟨by omega, by omega⟩⟩)⟩⟩)⟩) | exact Or.inr (Or.inr ⟨by omega, by omega, Or.inr (Or.inr ⟨by omega, by omega, Or.inr ⟨by omega, Or.inr (Or.inl ⟨by omega, by omega, by omega⟩)⟩⟩)⟩) | exact Or.inr (Or.inr ⟨by omega, by omega, Or.inr (Or.inr ⟨by omega, by omega, Or.inr ⟨by omega, Or.inl ⟨by omega, by omega⟩⟩⟩)⟩) | exact Or.inr (Or.inr ⟨by omega, by omega, Or.inr (Or.inr ⟨by omega, by omega, Or.inl ⟨by omega, by omega⟩⟩)⟩) | exact Or.inr (Or.inr ⟨by omega, by omega, Or.inr (Or.inl ⟨by omega, by omega, by omega⟩)⟩) | exact Or.inr (Or.inr ⟨by omega, by omega, Or.inl ⟨by omega, by omega⟩⟩) | exact Or.inr (Or.inl ⟨by omega, by omega, by omega⟩) | exact Or.inl ⟨by omega, by omega⟩) | omega) Ln_h98 Sp_h98 Al_h98t103 Cu_h98t104)
          ·
            have gh105 : my_fr [(4, 4), (4, 5), (4, 6), (4, 8), (4, 9), (5, 5), (5, 6), (5, 7), (5, 8), (5, 9), (32, -1), (33, -1), (34, -1), (35, -1), (37, -1)] h h105 := my_fr.tr gh76 (frh105.mo rfl)
            have Ln_h105 : Ln h105 := Ln_ag (my_ag.fr frh105 rfl) Ln_h76
            have Sp_h105 : Sp h105 wv := Sp_ag (my_ag.fr frh105 rfl) hwv Ln_h76 Sp_h76
            have St5_h105 : St5 h105 := St5_ag (my_ag.fr frh105 rfl) Ln_h76 St5_h76
            have Lo_h105 : Lo h h105 := Lo_ag (my_ag.fr frh105 rfl) Ln_h76 Lo_h76
            show wp l rho (d + 6) 60 80 [(2, 82), (0, v9), (0, v27), (0, v77)] [(0, 1)] h105 Q
            have tE115 : cs h76 = cs h := cs_eq (fun j => my_fr.at gh76 is_92 rfl) (my_fr.at gh76 is_82 rfl)
            rw [tE115] at xp107
            have ps116 : h76 82 7 = (sN (cs h) (((sN (cs h) (((sN (cs h) ((h 82 7))))))))) := xp83
            rw [ps116] at xp107
            rw [tE115] at xp108
            rw [ps116] at xp108
            have ck117 := Cu_s Cu_h105t110
            rw [show cs h105 = cs h from cs_eq (fun j => my_fr.at gh105 is_92 rfl) (my_fr.at gh105 is_82 rfl)] at ck117
            rw [show h105 82 7 = (sN (cs h) (((sN (cs h) (((sN (cs h) (((sN (cs h) ((h 82 7)))))))))))) from xp107] at ck117
            refine w_ifeq (t := 93) gz_60_80 rfl (fun u118 => by exfalso; omega) (fun u118 => ?_)
            refine w_aload_n gz_60_83 rfl ?_
            refine v_getR (j := 2) gz_60_84 rfl is_82 rd_5 rfl (fun v119 ev119 tv119 => ?_)
            have zv119 : v28 = v119 := (ev119.trans ((my_fr.at frh105 is_82 rfl).trans ((my_fr.at frh76 is_82 rfl).trans ((my_fr.at frh52 is_82 rfl).trans ((my_fr.at frh33 is_82 rfl).trans ev28.symm))))).symm
            subst zv119
            refine w_iload_n gz_60_87 rfl ?_
            refine w_iload_n gz_60_88 rfl ?_
            refine w_iload_n gz_60_89 rfl ?_
            have ce120 : h105 82 2 = v28 := ((my_fr.at frh105 is_82 rfl).trans ((my_fr.at frh76 is_82 rfl).trans ((my_fr.at frh52 is_82 rfl).trans ((my_fr.at frh33 is_82 rfl).trans ev28.symm))))
            have s5a := St5_h105
            have s5e : v28 = h105 82 2 := by first | assumption | omega
            unfold St5 at s5a
            rw [← s5e] at s5a
            have ce121 : h105 v28 1 = h v28 1 := ((my_fr.at frh105 tv28 rfl).trans ((my_fr.at frh76 tv28 rfl).trans ((my_fr.at frh52 tv28 rfl).trans ((my_fr.at frh33 tv28 rfl).trans ((my_fr.at frh8 tv28 rfl).trans (rfl : h v28 1 = h v28 1))))))
            have ce122 : h105 v28 3 = h v28 3 := ((my_fr.at frh105 tv28 rfl).trans ((my_fr.at frh76 tv28 rfl).trans ((my_fr.at frh52 tv28 rfl).trans ((my_fr.at frh33 tv28 rfl).trans ((my_fr.at frh8 tv28 rfl).trans (rfl : h v28 3 = h v28 3))))))
            have ce123 : h105 v28 4 = h v28 4 := ((my_fr.at frh105 tv28 rfl).trans ((my_fr.at frh76 tv28 rfl).trans ((my_fr.at frh52 tv28 rfl).trans ((my_fr.at frh33 tv28 rfl).trans ((my_fr.at frh8 tv28 rfl).trans (rfl : h v28 4 = h v28 4))))))
            have ce124 : h105 v28 9 = h v28 9 := ((my_fr.at frh105 tv28 rfl).trans ((my_fr.at frh76 tv28 rfl).trans ((my_fr.at frh52 tv28 rfl).trans ((my_fr.at frh33 tv28 rfl).trans ((my_fr.at frh8 tv28 rfl).trans (rfl : h v28 9 = h v28 9))))))
            have sE : v28 = h 82 2 := by first | assumption | omega
            have eS1 : h105 v28 1 = h v28 1 := by omega
            have eS3 : h105 v28 3 = h v28 3 := by omega
            have eS4 : h105 v28 4 = h v28 4 := by omega
            have eS9 : h105 v28 9 = h v28 9 := by omega
            have hi125 : 1 ≤ v27 := by first | omega | (subst_vars; omega) | grind | omega
            have hi126 : v27 ≤ 4 := by first | omega | (subst_vars; omega) | grind | omega
            refine w_inv (k := 1) (as := [(0, v77), (0, v27), (0, v9)]) (r := []) (x := v28) (ls0 := [(2, v28), (0, v9), (0, v27), (0, v77), (9, 0)]) gz_60_90 gm_61 rfl tv28 rd_4 rfl rfl rfl rfl rfl (c_Lens_addJoin (d := (d + 4)) (x0 := v28) (x1 := v9) (x2 := v27) (x3 := v77) tv28 (by omega) (by omega) (by omega) (by omega) (by omega) (by omega) (by first | assumption | exact no_such_saying | exact Fp_told (by omega) (by omega) | omega | (subst_vars; omega) | omega) (by first | assumption | exact no_such_saying | exact Fp_told (by omega) (by omega) | omega | (subst_vars; omega) | omega) (fun h127 frh127 fxh127 w128 w129 xp130 => ?_))
            have gh127 : my_fr [(4, 4), (4, 5), (4, 6), (4, 8), (4, 9), (5, 5), (5, 6), (5, 7), (5, 8), (5, 9), (32, -1), (33, -1), (34, -1), (35, -1), (37, -1)] h h127 := my_fr.tr gh105 (frh127.mo rfl)
            have Ln_h127 : Ln h127 := Ln_fx fxh127 (by first | assumption | omega) Ln_h105
            have Lo_h127 : Lo h h127 := Lo_fx fxh127 (by first | assumption | omega) Ln_h105 Lo_h105
            have Al_h127 : Al h127 := Al_ag (my_ag.fr frh127 rfl) Al_h105t109
            have Cu_h127 : Cu h127 := Cu_ag (my_ag.fr frh127 rfl) Cu_h105t110
            show wp l rho (d + 6) 60 93 [(2, 82), (0, v9), (0, v27), (0, v77)] [] h127 Q
            have Sp_h127t131 : Sp h127 wv := Sp_add fxh127 (by first | assumption | omega) hwv Ln_h105 Sp_h105 xp130 (by have := St5_h105.1; omega) (by omega) (by omega)
            have ce132 : h127 82 2 = v28 := ((my_fr.at frh127 is_82 rfl).trans ((my_fr.at frh105 is_82 rfl).trans ((my_fr.at frh76 is_82 rfl).trans ((my_fr.at frh52 is_82 rfl).trans ((my_fr.at frh33 is_82 rfl).trans ev28.symm)))))
            have std := Std_add xp130 sE (by omega) eS3 eS4 eS9 eS1
            have psR : h127 82 7 = (sN (cs h) (((sN (cs h) (((sN (cs h) (((sN (cs h) ((h 82 7)))))))))))) := ((my_fr.at frh127 is_82 rfl).trans xp107)
            have npsR : cs h127 = cs h := cs_eq (fun j => my_fr.at gh127 is_92 rfl) (my_fr.at gh127 is_82 rfl)
            have c133 := ((my_fr.at frh127 is_82 rfl).trans w106)
            exact w_vret gz_60_93 gm_60 (k1 h127 (gh127) (by omega) (by first | exact Lo_h127 | (rw [← w20]; exact std) | (unfold joinR; first | exact Or.inr (Or.inr ⟨by omega, by omega, Or.inr (Or.inr ⟨by omega, by omega, Or.inr ⟨by omega, Or.inr (Or.inr ⟨by omega, by omega, Or.inr ⟨by omega, by omega, by omega⟩⟩)⟩⟩)⟩) | exact Or.inr (Or.inr ⟨by omega, by omega, Or.inr (Or.inr ⟨by omega, by omega, Or.inr ⟨by omega, Or.inr (Or.inr ⟨by omega, by omega, Or.inl ⟨by omega, by omega⟩⟩)⟩⟩)⟩) | exact Or.inr (Or.inr ⟨by omega, by omega, Or.inr (Or.inr ⟨by omega, by omega, Or.inr ⟨by omega, Or.inr (Or.inl ⟨by omega, by omega, by omega⟩)⟩⟩)⟩) | exact Or.inr (Or.inr ⟨by omega, by omega, Or.inr (Or.inr ⟨by omega, by omega, Or.inr ⟨by omega, Or.inl ⟨by omega, by omega⟩⟩⟩)⟩) | exact Or.inr (Or.inr ⟨by omega, by omega, Or.inr (Or.inr ⟨by omega, by omega, Or.inl ⟨by omega, by omega⟩⟩)⟩) | exact Or.inr (Or.inr ⟨by omega, by omega, Or.inr (Or.inl ⟨by omega, by omega, by omega⟩)⟩) | exact Or.inr (Or.inr ⟨by omega, by omega, Or.inl ⟨by omega, by omega⟩⟩) | exact Or.inr (Or.inl ⟨by omega, by omega, by omega⟩) | exact Or.inl ⟨by omega, by omega⟩) | omega) (by first | exact Lo_h127 | (rw [← w20]; exact std) | (unfold joinR; first | exact Or.inr (Or.inr ⟨by omega, by omega, Or.inr (Or.inr ⟨by omega, by omega, Or.inr ⟨by omega, Or.inr (Or.inr ⟨by omega, by omega, Or.inr ⟨by omega, by omega, by omega⟩⟩)⟩⟩)⟩) | exact Or.inr (Or.inr ⟨by omega, by omega, Or.inr (Or.inr ⟨by omega, by omega, Or.inr ⟨by omega, Or.inr (Or.inr ⟨by omega, by omega, Or.inl ⟨by omega, by omega⟩⟩)⟩⟩)⟩) | exact Or.inr (Or.inr ⟨by omega, by omega, Or.inr (Or.inr ⟨by omega, by omega, Or.inr ⟨by omega, Or.inr (Or.inl ⟨by omega, by omega, by omega⟩)⟩⟩)⟩) | exact Or.inr (Or.inr ⟨by omega, by omega, Or.inr (Or.inr ⟨by omega, by omega, Or.inr ⟨by omega, Or.inl ⟨by omega, by omega⟩⟩⟩)⟩) | exact Or.inr (Or.inr ⟨by omega, by omega, Or.inr (Or.inr ⟨by omega, by omega, Or.inl ⟨by omega, by omega⟩⟩)⟩) | exact Or.inr (Or.inr ⟨by omega, by omega, Or.inr (Or.inl ⟨by omega, by omega, by omega⟩)⟩) | exact Or.inr (Or.inr ⟨by omega, by omega, Or.inl ⟨by omega, by omega⟩⟩) | exact Or.inr (Or.inl ⟨by omega, by omega, by omega⟩) | exact Or.inl ⟨by omega, by omega⟩) | omega) (by first | exact Lo_h127 | (rw [← w20]; exact std) | (unfold joinR; first | exact Or.inr (Or.inr ⟨by omega, by omega, Or.inr (Or.inr ⟨by omega, by omega, Or.inr ⟨by omega, Or.inr (Or.inr ⟨by omega, by omega, Or.inr ⟨by omega, by omega, by omega⟩⟩)⟩⟩)⟩) | exact Or.inr (Or.inr ⟨by omega, by omega, Or.inr (Or.inr ⟨by omega, by omega, Or.inr ⟨by omega, Or.inr (Or.inr ⟨by omega, by omega, Or.inl ⟨by omega, by omega⟩⟩)⟩⟩)⟩) | exact Or.inr (Or.inr ⟨by omega, by omega, Or.inr (Or.inr ⟨by omega, by omega, Or.inr ⟨by omega, Or.inr (Or.inl ⟨by omega, by omega, by omega⟩)⟩⟩)⟩) | exact Or.inr (Or.inr ⟨by omega, by omega, Or.inr (Or.inr ⟨by omega, by omega, Or.inr ⟨by omega, Or.inl ⟨by omega, by omega⟩⟩⟩)⟩) | exact Or.inr (Or.inr ⟨by omega, by omega, Or.inr (Or.inr ⟨by omega, by omega, Or.inl ⟨by omega, by omega⟩⟩)⟩) | exact Or.inr (Or.inr ⟨by omega, by omega, Or.inr (Or.inl ⟨by omega, by omega, by omega⟩)⟩) | exact Or.inr (Or.inr ⟨by omega, by omega, Or.inl ⟨by omega, by omega⟩⟩) | exact Or.inr (Or.inl ⟨by omega, by omega, by omega⟩) | exact Or.inl ⟨by omega, by omega⟩) | omega) Ln_h127 Sp_h127t131 Al_h127 Cu_h127)
    ·
      refine w_aload_n gz_60_37 rfl ?_
      refine w_iconst gz_60_38 (by decide) ?_
      refine w_inv (k := 0) (as := [(0, 5)]) (r := []) (x := 82) (ls0 := [(2, 82), (0, 5)]) gz_60_39 gm_42 rfl is_82 rd_5 rfl rfl rfl rfl rfl ?_
      refine w_aload_n gz_42_0 rfl ?_
      refine v_getI (j := 9) gz_42_1 rfl is_82 rd_5 rfl (fun v134 ev134 pv134 qv134 => ?_)
      have zv134 := ev134.trans w15
      refine w_ifne (t := 20) gz_42_4 rfl (fun u135 => by exfalso; omega) (fun u135 => ?_)
      refine w_aload_n gz_42_7 rfl ?_
      refine w_iload_n gz_42_8 rfl ?_
      refine w_bipush gz_42_9 (by decide) ?_
      refine w_aload_n gz_42_11 rfl ?_
      refine v_getI (j := 7) gz_42_12 rfl is_82 rd_5 rfl (fun v136 ev136 pv136 qv136 => ?_)
      refine w_imul gz_42_15 ⟨by omega, by omega⟩ ?_
      refine w_iadd gz_42_16 ⟨by omega, by omega⟩ ?_
      refine v_putI (j := 9) gz_42_17 rfl is_82 rd_5 rfl (by omega) (by omega) rfl (fun h137 fh137 => ?_)
      have gh137 : my_fr [(4, 4), (4, 5), (4, 6), (4, 8), (4, 9), (5, 5), (5, 6), (5, 7), (5, 8), (5, 9), (32, -1), (33, -1), (34, -1), (35, -1), (37, -1)] h h137 := my_fr.up gh8 is_82 fh137 rfl
      have Ln_h137 : Ln h137 := Ln_ag (my_ag.up fh137 is_82 rfl) Ln_h8
      have Sp_h137 : Sp h137 wv := Sp_ag (my_ag.up fh137 is_82 rfl) hwv Ln_h8 Sp_h8
      have St5_h137 : St5 h137 := St5_ag (my_ag.up fh137 is_82 rfl) Ln_h8 St5_h8
      have Al_h137 : Al h137 := Al_ag (my_ag.up fh137 is_82 rfl) Al_h8t20
      have Cu_h137 : Cu h137 := Cu_ag (my_ag.up fh137 is_82 rfl) Cu_h8t21
      have Lo_h137 : Lo h h137 := Lo_ag (my_ag.up fh137 is_82 rfl) Ln_h8 Lo_h8
      refine w_vret gz_42_20 gm_42 ?_
      show wp l rho (d + 6) 60 42 [(2, 82), (0, v9), (0, v27), (9, 0)] [] h137 Q
      have psR : h137 82 7 = h 82 7 := ((my_up_fld fh137 (by decide)).trans ((my_fr.at frh8 is_82 rfl).trans (rfl : h 82 7 = h 82 7)))
      have npsR : cs h137 = cs h := cs_eq (fun j => my_fr.at gh137 is_92 rfl) (my_fr.at gh137 is_82 rfl)
      have c138 := (my_up_self fh137)
      exact w_vret gz_60_42 gm_60 (k0 h137 (gh137) (by omega) (by omega) (by first | exact Lo_h137 | (rw [← w20]; exact std) | (unfold joinR; first | exact Or.inr (Or.inr ⟨by omega, by omega, Or.inr (Or.inr ⟨by omega, by omega, Or.inr ⟨by omega, Or.inr (Or.inr ⟨by omega, by omega, Or.inr ⟨by omega, by omega, by omega⟩⟩)⟩⟩)⟩) | exact Or.inr (Or.inr ⟨by omega, by omega, Or.inr (Or.inr ⟨by omega, by omega, Or.inr ⟨by omega, Or.inr (Or.inr ⟨by omega, by omega, Or.inl ⟨by omega, by omega⟩⟩)⟩⟩)⟩) | exact Or.inr (Or.inr ⟨by omega, by omega, Or.inr (Or.inr ⟨by omega, by omega, Or.inr ⟨by omega, Or.inr (Or.inl ⟨by omega, by omega, by omega⟩)⟩⟩)⟩) | exact Or.inr (Or.inr ⟨by omega, by omega, Or.inr (Or.inr ⟨by omega, by omega, Or.inr ⟨by omega, Or.inl ⟨by omega, by omega⟩⟩⟩)⟩) | exact Or.inr (Or.inr ⟨by omega, by omega, Or.inr (Or.inr ⟨by omega, by omega, Or.inl ⟨by omega, by omega⟩⟩)⟩) | exact Or.inr (Or.inr ⟨by omega, by omega, Or.inr (Or.inl ⟨by omega, by omega, by omega⟩)⟩) | exact Or.inr (Or.inr ⟨by omega, by omega, Or.inl ⟨by omega, by omega⟩⟩) | exact Or.inr (Or.inl ⟨by omega, by omega, by omega⟩) | exact Or.inl ⟨by omega, by omega⟩) | omega) (by first | exact Lo_h137 | (rw [← w20]; exact std) | (unfold joinR; first | exact Or.inr (Or.inr ⟨by omega, by omega, Or.inr (Or.inr ⟨by omega, by omega, Or.inr ⟨by omega, Or.inr (Or.inr ⟨by omega, by omega, Or.inr ⟨by omega, by omega, by omega⟩⟩)⟩⟩)⟩) | exact Or.inr (Or.inr ⟨by omega, by omega, Or.inr (Or.inr ⟨by omega, by omega, Or.inr ⟨by omega, Or.inr (Or.inr ⟨by omega, by omega, Or.inl ⟨by omega, by omega⟩⟩)⟩⟩)⟩) | exact Or.inr (Or.inr ⟨by omega, by omega, Or.inr (Or.inr ⟨by omega, by omega, Or.inr ⟨by omega, Or.inr (Or.inl ⟨by omega, by omega, by omega⟩)⟩⟩)⟩) | exact Or.inr (Or.inr ⟨by omega, by omega, Or.inr (Or.inr ⟨by omega, by omega, Or.inr ⟨by omega, Or.inl ⟨by omega, by omega⟩⟩⟩)⟩) | exact Or.inr (Or.inr ⟨by omega, by omega, Or.inr (Or.inr ⟨by omega, by omega, Or.inl ⟨by omega, by omega⟩⟩)⟩) | exact Or.inr (Or.inr ⟨by omega, by omega, Or.inr (Or.inl ⟨by omega, by omega, by omega⟩)⟩) | exact Or.inr (Or.inr ⟨by omega, by omega, Or.inl ⟨by omega, by omega⟩⟩) | exact Or.inr (Or.inl ⟨by omega, by omega, by omega⟩) | exact Or.inl ⟨by omega, by omega⟩) | omega) Ln_h137 Sp_h137 Al_h137 Cu_h137)
theorem c_Reader_readSum9_f0 {l : Launch} {rho : Nat → Int32} {d : Nat} {h : my_H} {Q : my_H → my_V → Prop} {wv : Int} (cf : h 82 9 = 0) (hwv : wv ≤ 5) (hwv0 : 0 ≤ wv) (n_Ln : Ln h) (n_Sp : Sp h wv) (n_St5 : St5 h) (n_Al : Al h) (n_Cu : Cu h) (k0 : ∀ (h' : my_H), my_fr [(4, 4), (4, 5), (4, 7), (4, 8), (4, 9), (5, 5), (5, 6), (5, 7), (5, 8), (5, 9), (32, -1), (33, -1), (34, -1), (35, -1), (37, -1)] h h' → 1 ≤ h' 82 9 → h' 82 9 ≤ 16004 → sumR (cs h) (h 82 7) (h (h 82 2) 4) (h' 82 9) (h' 82 7) → Lo h h' → Ln h' → Sp h' wv → Al h' → Cu h' → Q h' (9, 0)) (k1 : ∀ (h' : my_H), my_fr [(4, 4), (4, 5), (4, 7), (4, 8), (4, 9), (5, 5), (5, 6), (5, 7), (5, 8), (5, 9), (32, -1), (33, -1), (34, -1), (35, -1), (37, -1)] h h' → h' 82 9 = 0 → sumR (cs h) (h 82 7) (h (h 82 2) 4) (h' 82 9) (h' 82 7) → Std h h' 2 (h (h 82 2) 9 + 1) → Lo h h' → Ln h' → Sp h' wv → Al h' → Cu h' → Q h' (9, 0)) : wp l rho (d + 6) 62 0 [(2, 82), (9, 0), (9, 0)] [] h Q := by
  have ck1 := Cu_s n_Cu
  have cv2 := Cu_v n_Cu
  refine w_aload_n gz_62_0 rfl ?_
  refine w_aload_n gz_62_1 rfl ?_
  refine v_getR (j := 2) gz_62_2 rfl is_82 rd_5 rfl (fun v3 ev3 tv3 => ?_)
  have ce4 : h 82 2 = v3 := ev3.symm
  have sE8 : v3 = h 82 2 := by first | assumption | omega
  refine v_getI (j := 4) gz_62_5 rfl tv3 rd_4 rfl (fun v5 ev5 pv5 qv5 => ?_)
  have c8 : v5 = h (h 82 2) 4 := by rw [← sE8]; omega
  refine w_inv (k := 1) (as := [(0, v5)]) (r := []) (x := 82) (ls0 := [(2, 82), (0, v5), (9, 0)]) gz_62_8 gm_51 rfl is_82 rd_5 rfl rfl rfl rfl rfl (c_Reader_takeNumber9_f0 (d := (d + 3)) (x1 := v5) (by omega) (by omega) (cf.trans (by omega)) n_Al n_Cu (fun h6 frh6 w7 w8 xp9 Al_h6t10 Cu_h6t11 => ?_) (fun h12 v13 frh12 w14 w15 w16 w17 w18 xp19 xp20 xp21 Al_h12t22 Cu_h12t23 => ?_))
  ·
    have gh6 : my_fr [(4, 4), (4, 5), (4, 7), (4, 8), (4, 9), (5, 5), (5, 6), (5, 7), (5, 8), (5, 9), (32, -1), (33, -1), (34, -1), (35, -1), (37, -1)] h h6 := my_fr.tr my_fr.rf (frh6.mo rfl)
    have Ln_h6 : Ln h6 := Ln_ag (my_ag.fr frh6 rfl) n_Ln
    have Sp_h6 : Sp h6 wv := Sp_ag (my_ag.fr frh6 rfl) hwv n_Ln n_Sp
    have St5_h6 : St5 h6 := St5_ag (my_ag.fr frh6 rfl) n_Ln n_St5
    have Lo_h6 : Lo h h6 := Lo_ag (my_ag.fr frh6 rfl) n_Ln (Lo_rf)
    show wp l rho (d + 6) 62 11 [(2, 82), (9, 0), (9, 0)] [(0, (-1))] h6 Q
    refine w_istore_n (ls' := [(2, 82), (0, (-1)), (9, 0)]) gz_62_11 gm_62 rfl rfl rfl ?_
    refine w_aload_n gz_62_12 rfl ?_
    refine v_getI (j := 9) gz_62_13 rfl is_82 rd_5 rfl (fun v24 ev24 pv24 qv24 => ?_)
    have zv24 := ev24.trans (rfl : h6 82 9 = h6 82 9)
    refine w_ifne (t := 28) gz_62_16 rfl (fun u25 => ?_) (fun u25 => by exfalso; omega)
    have psR : h6 82 7 = h6 82 7 := (rfl : h6 82 7 = h6 82 7)
    have npsR : cs h6 = cs h := cs_eq (fun j => my_fr.at gh6 is_92 rfl) (my_fr.at gh6 is_82 rfl)
    have c26 := ev24.symm
    exact w_vret gz_62_28 gm_62 (k0 h6 (gh6) (by omega) (by omega) (by first | exact Lo_h6 | exact std | (unfold sumR; first | exact Or.inr (Or.inr ⟨by omega, by omega, Or.inr ⟨by omega, Or.inr ⟨by omega, Or.inr (Or.inr ⟨by omega, by omega, Or.inr ⟨by omega, by omega, by omega⟩⟩)⟩⟩⟩) | exact Or.inr (Or.inr ⟨by omega, by omega, Or.inr ⟨by omega, Or.inr ⟨by omega, Or.inr (Or.inr ⟨by omega, by omega, Or.inl ⟨by omega, by omega⟩⟩)⟩⟩⟩) | exact Or.inr (Or.inr ⟨by omega, by omega, Or.inr ⟨by omega, Or.inr ⟨by omega, Or.inr (Or.inl ⟨by omega, by omega, by omega⟩)⟩⟩⟩) | exact Or.inr (Or.inr ⟨by omega, by omega, Or.inr ⟨by omega, Or.inr ⟨by omega, Or.inl ⟨by omega, by omega⟩⟩⟩⟩) | exact Or.inr (Or.inr ⟨by omega, by omega, Or.inr ⟨by omega, Or.inl ⟨by omega, by omega, by omega⟩⟩⟩) | exact Or.inr (Or.inr ⟨by omega, by omega, Or.inl ⟨by omega, by omega⟩⟩) | exact Or.inr (Or.inl ⟨by omega, by omega, by omega⟩) | exact Or.inl ⟨by omega, by omega⟩) | omega) (by first | exact Lo_h6 | exact std | (unfold sumR; first | exact Or.inr (Or.inr ⟨by omega, by omega, Or.inr ⟨by omega, Or.inr ⟨by omega, Or.inr (Or.inr ⟨by omega, by omega, Or.inr ⟨by omega, by omega, by omega⟩⟩)⟩⟩⟩) | exact Or.inr (Or.inr ⟨by omega, by omega, Or.inr ⟨by omega, Or.inr ⟨by omega, Or.inr (Or.inr ⟨by omega, by omega, Or.inl ⟨by omega, by omega⟩⟩)⟩⟩⟩) | exact Or.inr (Or.inr ⟨by omega, by omega, Or.inr ⟨by omega, Or.inr ⟨by omega, Or.inr (Or.inl ⟨by omega, by omega, by omega⟩)⟩⟩⟩) | exact Or.inr (Or.inr ⟨by omega, by omega, Or.inr ⟨by omega, Or.inr ⟨by omega, Or.inl ⟨by omega, by omega⟩⟩⟩⟩) | exact Or.inr (Or.inr ⟨by omega, by omega, Or.inr ⟨by omega, Or.inl ⟨by omega, by omega, by omega⟩⟩⟩) | exact Or.inr (Or.inr ⟨by omega, by omega, Or.inl ⟨by omega, by omega⟩⟩) | exact Or.inr (Or.inl ⟨by omega, by omega, by omega⟩) | exact Or.inl ⟨by omega, by omega⟩) | omega) Ln_h6 Sp_h6 Al_h6t10 Cu_h6t11)
  ·
    have gh12 : my_fr [(4, 4), (4, 5), (4, 7), (4, 8), (4, 9), (5, 5), (5, 6), (5, 7), (5, 8), (5, 9), (32, -1), (33, -1), (34, -1), (35, -1), (37, -1)] h h12 := my_fr.tr my_fr.rf (frh12.mo rfl)
    have Ln_h12 : Ln h12 := Ln_ag (my_ag.fr frh12 rfl) n_Ln
    have Sp_h12 : Sp h12 wv := Sp_ag (my_ag.fr frh12 rfl) hwv n_Ln n_Sp
    have St5_h12 : St5 h12 := St5_ag (my_ag.fr frh12 rfl) n_Ln n_St5
    have Lo_h12 : Lo h h12 := Lo_ag (my_ag.fr frh12 rfl) n_Ln (Lo_rf)
    show wp l rho (d + 6) 62 11 [(2, 82), (9, 0), (9, 0)] [(0, v13)] h12 Q
    have ck27 := Cu_s Cu_h12t23
    rw [show cs h12 = cs h from cs_eq (fun j => my_fr.at gh12 is_92 rfl) (my_fr.at gh12 is_82 rfl)] at ck27
    rw [show h12 82 7 = (sN (cs h) (h 82 7)) from xp19] at ck27
    have cv28 := Cu_v Cu_h12t23
    rw [show cs h12 = cs h from cs_eq (fun j => my_fr.at gh12 is_92 rfl) (my_fr.at gh12 is_82 rfl)] at cv28
    rw [show h12 82 7 = (sN (cs h) (h 82 7)) from xp19] at cv28
    refine w_istore_n (ls' := [(2, 82), (0, v13), (9, 0)]) gz_62_11 gm_62 rfl rfl rfl ?_
    refine w_aload_n gz_62_12 rfl ?_
    refine v_getI (j := 9) gz_62_13 rfl is_82 rd_5 rfl (fun v29 ev29 pv29 qv29 => ?_)
    have zv29 := ev29.trans w18
    refine w_ifne (t := 28) gz_62_16 rfl (fun u30 => by exfalso; omega) (fun u30 => ?_)
    refine w_aload_n gz_62_19 rfl ?_
    refine w_ldcS gz_62_20 (by decide) ?_
    refine w_inv (k := 0) (as := [(3, ((12 : Nat) : Int))]) (r := []) (x := 82) (ls0 := [(2, 82), (3, ((12 : Nat) : Int))]) gz_62_22 gm_40 rfl is_82 rd_5 rfl rfl rfl rfl rfl (c_Reader_takeWord9_f0 (d := d) (x1 := ((12 : Nat) : Int)) (by decide) (ev29.symm.trans (by omega)) Al_h12t22 Cu_h12t23 (fun h31 frh31 w32 w33 xp34 xp35 Al_h31t36 Cu_h31t37 => ?_) (fun h38 frh38 w39 xp40 xp41 Al_h38t42 Cu_h38t43 => ?_))
    ·
      have gh31 : my_fr [(4, 4), (4, 5), (4, 7), (4, 8), (4, 9), (5, 5), (5, 6), (5, 7), (5, 8), (5, 9), (32, -1), (33, -1), (34, -1), (35, -1), (37, -1)] h h31 := my_fr.tr gh12 (frh31.mo rfl)
      have Ln_h31 : Ln h31 := Ln_ag (my_ag.fr frh31 rfl) Ln_h12
      have Sp_h31 : Sp h31 wv := Sp_ag (my_ag.fr frh31 rfl) hwv Ln_h12 Sp_h12
      have St5_h31 : St5 h31 := St5_ag (my_ag.fr frh31 rfl) Ln_h12 St5_h12
      have Lo_h31 : Lo h h31 := Lo_ag (my_ag.fr frh31 rfl) Ln_h12 Lo_h12
      show wp l rho (d + 6) 62 25 [(2, 82), (0, v13), (9, 0)] [(0, 0)] h31 Q
      rw [show wc ((12 : Nat) : Int) = 99 from by decide] at xp34
      have tE44 : cs h12 = cs h := cs_eq (fun j => my_fr.at gh12 is_92 rfl) (my_fr.at gh12 is_82 rfl)
      rw [tE44] at xp34
      have ps45 : h12 82 7 = (sN (cs h) (h 82 7)) := xp19
      rw [ps45] at xp34
      rw [ps45] at xp35
      refine w_ifne (t := 29) gz_62_25 rfl (fun u46 => by exfalso; omega) (fun u46 => ?_)
      have psR : h31 82 7 = h31 82 7 := (rfl : h31 82 7 = h31 82 7)
      have npsR : cs h31 = cs h := cs_eq (fun j => my_fr.at gh31 is_92 rfl) (my_fr.at gh31 is_82 rfl)
      have c47 := (rfl : h31 82 9 = h31 82 9)
      exact w_vret gz_62_28 gm_62 (k0 h31 (gh31) (by omega) (by omega) (by first | exact Lo_h31 | exact std | (unfold sumR; first | exact Or.inr (Or.inr ⟨by omega, by omega, Or.inr ⟨by omega, Or.inr ⟨by omega, Or.inr (Or.inr ⟨by omega, by omega, Or.inr ⟨by omega, by omega, by omega⟩⟩)⟩⟩⟩) | exact Or.inr (Or.inr ⟨by omega, by omega, Or.inr ⟨by omega, Or.inr ⟨by omega, Or.inr (Or.inr ⟨by omega, by omega, Or.inl ⟨by omega, by omega⟩⟩)⟩⟩⟩) | exact Or.inr (Or.inr ⟨by omega, by omega, Or.inr ⟨by omega, Or.inr ⟨by omega, Or.inr (Or.inl ⟨by omega, by omega, by omega⟩)⟩⟩⟩) | exact Or.inr (Or.inr ⟨by omega, by omega, Or.inr ⟨by omega, Or.inr ⟨by omega, Or.inl ⟨by omega, by omega⟩⟩⟩⟩) | exact Or.inr (Or.inr ⟨by omega, by omega, Or.inr ⟨by omega, Or.inl ⟨by omega, by omega, by omega⟩⟩⟩) | exact Or.inr (Or.inr ⟨by omega, by omega, Or.inl ⟨by omega, by omega⟩⟩) | exact Or.inr (Or.inl ⟨by omega, by omega, by omega⟩) | exact Or.inl ⟨by omega, by omega⟩) | omega) (by first | exact Lo_h31 | exact std | (unfold sumR; first | exact Or.inr (Or.inr ⟨by omega, by omega, Or.inr ⟨by omega, Or.inr ⟨by omega, Or.inr (Or.inr ⟨by omega, by omega, Or.inr ⟨by omega, by omega, by omega⟩⟩)⟩⟩⟩) | exact Or.inr (Or.inr ⟨by omega, by omega, Or.inr ⟨by omega, Or.inr ⟨by omega, Or.inr (Or.inr ⟨by omega, by omega, Or.inl ⟨by omega, by omega⟩⟩)⟩⟩⟩) | exact Or.inr (Or.inr ⟨by omega, by omega, Or.inr ⟨by omega, Or.inr ⟨by omega, Or.inr (Or.inl ⟨by omega, by omega, by omega⟩)⟩⟩⟩) | exact Or.inr (Or.inr ⟨by omega, by omega, Or.inr ⟨by omega, Or.inr ⟨by omega, Or.inl ⟨by omega, by omega⟩⟩⟩⟩) | exact Or.inr (Or.inr ⟨by omega, by omega, Or.inr ⟨by omega, Or.inl ⟨by omega, by omega, by omega⟩⟩⟩) | exact Or.inr (Or.inr ⟨by omega, by omega, Or.inl ⟨by omega, by omega⟩⟩) | exact Or.inr (Or.inl ⟨by omega, by omega, by omega⟩) | exact Or.inl ⟨by omega, by omega⟩) | omega) Ln_h31 Sp_h31 Al_h31t36 Cu_h31t37)
    ·
      have gh38 : my_fr [(4, 4), (4, 5), (4, 7), (4, 8), (4, 9), (5, 5), (5, 6), (5, 7), (5, 8), (5, 9), (32, -1), (33, -1), (34, -1), (35, -1), (37, -1)] h h38 := my_fr.tr gh12 (frh38.mo rfl)
      have Ln_h38 : Ln h38 := Ln_ag (my_ag.fr frh38 rfl) Ln_h12
      have Sp_h38 : Sp h38 wv := Sp_ag (my_ag.fr frh38 rfl) hwv Ln_h12 Sp_h12
      have St5_h38 : St5 h38 := St5_ag (my_ag.fr frh38 rfl) Ln_h12 St5_h12
      have Lo_h38 : Lo h h38 := Lo_ag (my_ag.fr frh38 rfl) Ln_h12 Lo_h12
      show wp l rho (d + 6) 62 25 [(2, 82), (0, v13), (9, 0)] [(0, 1)] h38 Q
      have tE48 : cs h12 = cs h := cs_eq (fun j => my_fr.at gh12 is_92 rfl) (my_fr.at gh12 is_82 rfl)
      rw [tE48] at xp40
      have ps49 : h12 82 7 = (sN (cs h) (h 82 7)) := xp19
      rw [ps49] at xp40
      rw [show wc ((12 : Nat) : Int) = 99 from by decide] at xp41
      rw [tE48] at xp41
      rw [ps49] at xp41
      have ck50 := Cu_s Cu_h38t43
      rw [show cs h38 = cs h from cs_eq (fun j => my_fr.at gh38 is_92 rfl) (my_fr.at gh38 is_82 rfl)] at ck50
      rw [show h38 82 7 = (sN (cs h) (((sN (cs h) (h 82 7))))) from xp40] at ck50
      have cv51 := Cu_v Cu_h38t43
      rw [show cs h38 = cs h from cs_eq (fun j => my_fr.at gh38 is_92 rfl) (my_fr.at gh38 is_82 rfl)] at cv51
      rw [show h38 82 7 = (sN (cs h) (((sN (cs h) (h 82 7))))) from xp40] at cv51
      refine w_ifne (t := 29) gz_62_25 rfl (fun u52 => ?_) (fun u52 => by exfalso; omega)
      refine w_aload_n gz_62_29 rfl ?_
      refine w_aload_n gz_62_30 rfl ?_
      refine v_getR (j := 2) gz_62_31 rfl is_82 rd_5 rfl (fun v53 ev53 tv53 => ?_)
      have zv53 : v3 = v53 := (ev53.trans ((my_fr.at frh38 is_82 rfl).trans ((my_fr.at frh12 is_82 rfl).trans ev3.symm))).symm
      subst zv53
      have ce54 : h38 82 2 = v3 := ((my_fr.at frh38 is_82 rfl).trans ((my_fr.at frh12 is_82 rfl).trans ev3.symm))
      have ce55 : h38 v3 4 = h v3 4 := ((my_fr.at frh38 tv3 rfl).trans ((my_fr.at frh12 tv3 rfl).trans (rfl : h v3 4 = h v3 4)))
      have sE37 : v3 = h 82 2 := by first | assumption | omega
      refine v_getI (j := 4) gz_62_34 rfl tv3 rd_4 rfl (fun v56 ev56 pv56 qv56 => ?_)
      have zv56 := ev56.trans ((my_fr.at frh38 tv3 rfl).trans ((my_fr.at frh12 tv3 rfl).trans ev5.symm))
      have c37 : v56 = h (h 82 2) 4 := by rw [← sE37]; omega
      refine w_inv (k := 0) (as := [(0, v56)]) (r := []) (x := 82) (ls0 := [(2, 82), (0, v56)]) gz_62_37 gm_44 rfl is_82 rd_5 rfl rfl rfl rfl rfl ?_
      refine w_aload_n gz_44_0 rfl ?_
      refine v_getI (j := 6) gz_44_1 rfl is_82 rd_5 rfl (fun v57 ev57 pv57 qv57 => ?_)
      refine w_iconst gz_44_4 (by decide) ?_
      refine w_iceq (t := 15) gz_44_5 rfl (fun u58 => ?_) (fun u58 => ?_)
      ·
        refine w_aload_n gz_44_15 rfl ?_
        refine v_getI (j := 8) gz_44_16 rfl is_82 rd_5 rfl (fun v59 ev59 pv59 qv59 => ?_)
        refine w_iload_n gz_44_19 rfl ?_
        refine w_iclt (t := 30) gz_44_20 rfl (fun u60 => ?_) (fun u60 => ?_)
        ·
          refine w_aload_n gz_44_30 rfl ?_
          refine v_getI (j := 9) gz_44_31 rfl is_82 rd_5 rfl (fun v61 ev61 pv61 qv61 => ?_)
          have zv61 := ev61.trans w39
          refine w_ifne (t := 44) gz_44_34 rfl (fun u62 => by exfalso; omega) (fun u62 => ?_)
          refine w_aload_n gz_44_37 rfl ?_
          refine v_getI (j := 8) gz_44_38 rfl is_82 rd_5 rfl (fun v63 ev63 pv63 qv63 => ?_)
          have zv63 := ev63.trans ev59.symm
          refine w_goto (t := 45) gz_44_41 rfl ?_
          refine w_iret gz_44_45 gm_44 ?_
          show wp l rho (d + 6) 62 40 [(2, 82), (0, v13), (9, 0)] [(0, v63)] h38 Q
          refine w_istore_n (ls' := [(2, 82), (0, v13), (0, v63)]) gz_62_40 gm_62 rfl rfl rfl ?_
          refine w_iload_n gz_62_41 rfl ?_
          refine w_iconst gz_62_42 (by decide) ?_
          refine w_iceq (t := 59) gz_62_43 rfl (fun u64 => by exfalso; omega) (fun u64 => ?_)
          refine w_iload_n gz_62_46 rfl ?_
          refine w_iload_n gz_62_47 rfl ?_
          refine w_icne (t := 59) gz_62_48 rfl (fun u65 => ?_) (fun u65 => ?_)
          ·
            refine w_iload_n gz_62_59 rfl ?_
            refine w_iconst gz_62_60 (by decide) ?_
            refine w_iceq (t := 84) gz_62_61 rfl (fun u66 => by exfalso; omega) (fun u66 => ?_)
            refine w_aload_n gz_62_64 rfl ?_
            refine w_inv (k := 2) (as := []) (r := []) (x := 82) (ls0 := [(2, 82), (9, 0), (9, 0)]) gz_62_65 gm_37 rfl is_82 rd_5 rfl rfl rfl rfl rfl (c_Reader_nextToken9_f0 (d := (d + 4))  (ev61.symm.trans (by omega)) Al_h38t42 (fun h67 frh67 w68 w69 w70 xp71 xp72 Al_h67t73 Cu_h67t74 => ?_))
            have gh67 : my_fr [(4, 4), (4, 5), (4, 7), (4, 8), (4, 9), (5, 5), (5, 6), (5, 7), (5, 8), (5, 9), (32, -1), (33, -1), (34, -1), (35, -1), (37, -1)] h h67 := my_fr.tr gh38 (frh67.mo rfl)
            have Ln_h67 : Ln h67 := Ln_ag (my_ag.fr frh67 rfl) Ln_h38
            have Sp_h67 : Sp h67 wv := Sp_ag (my_ag.fr frh67 rfl) hwv Ln_h38 Sp_h38
            have St5_h67 : St5 h67 := St5_ag (my_ag.fr frh67 rfl) Ln_h38 St5_h38
            have Lo_h67 : Lo h h67 := Lo_ag (my_ag.fr frh67 rfl) Ln_h38 Lo_h38
            show wp l rho (d + 6) 62 68 [(2, 82), (0, v13), (0, v63)] [] h67 Q
            have xc75 := xp71 Cu_h38t43
            have tE76 : cs h38 = cs h := cs_eq (fun j => my_fr.at gh38 is_92 rfl) (my_fr.at gh38 is_82 rfl)
            rw [tE76] at xc75
            have ps77 : h38 82 7 = (sN (cs h) (((sN (cs h) (h 82 7))))) := xp40
            rw [ps77] at xc75
            have ck78 := Cu_s Cu_h67t74
            rw [show cs h67 = cs h from cs_eq (fun j => my_fr.at gh67 is_92 rfl) (my_fr.at gh67 is_82 rfl)] at ck78
            rw [show h67 82 7 = (sN (cs h) (((sN (cs h) (((sN (cs h) (h 82 7)))))))) from xc75] at ck78
            have cv79 := Cu_v Cu_h67t74
            rw [show cs h67 = cs h from cs_eq (fun j => my_fr.at gh67 is_92 rfl) (my_fr.at gh67 is_82 rfl)] at cv79
            rw [show h67 82 7 = (sN (cs h) (((sN (cs h) (((sN (cs h) (h 82 7)))))))) from xc75] at cv79
            refine w_aload_n gz_62_68 rfl ?_
            refine w_inv (k := 0) (as := []) (r := []) (x := 82) (ls0 := [(2, 82)]) gz_62_69 gm_47 rfl is_82 rd_5 rfl rfl rfl rfl rfl (c_Reader_endsHere9_f0 (d := (d + 3))  (((my_fr.at frh67 is_82 rfl).trans ev61.symm).trans (by omega)) Al_h67t73 Cu_h67t74 (fun h80 frh80 w81 w82 xp83 xp84 Al_h80t85 Cu_h80t86 => ?_) (fun h87 frh87 w88 xp89 xp90 Al_h87t91 Cu_h87t92 => ?_))
            ·
              have gh80 : my_fr [(4, 4), (4, 5), (4, 7), (4, 8), (4, 9), (5, 5), (5, 6), (5, 7), (5, 8), (5, 9), (32, -1), (33, -1), (34, -1), (35, -1), (37, -1)] h h80 := my_fr.tr gh67 (frh80.mo rfl)
              have Ln_h80 : Ln h80 := Ln_ag (my_ag.fr frh80 rfl) Ln_h67
              have Sp_h80 : Sp h80 wv := Sp_ag (my_ag.fr frh80 rfl) hwv Ln_h67 Sp_h67
              have St5_h80 : St5 h80 := St5_ag (my_ag.fr frh80 rfl) Ln_h67 St5_h67
              have Lo_h80 : Lo h h80 := Lo_ag (my_ag.fr frh80 rfl) Ln_h67 Lo_h67
              show wp l rho (d + 6) 62 72 [(2, 82), (0, v13), (0, v63)] [(0, 0)] h80 Q
              have tE93 : cs h67 = cs h := cs_eq (fun j => my_fr.at gh67 is_92 rfl) (my_fr.at gh67 is_82 rfl)
              rw [tE93] at xp83
              have ps94 : h67 82 7 = (sN (cs h) (((sN (cs h) (((sN (cs h) (h 82 7)))))))) := xc75
              rw [ps94] at xp83
              rw [ps94] at xp84
              refine w_ifeq (t := 84) gz_62_72 rfl (fun u95 => ?_) (fun u95 => by exfalso; omega)
              have psR : h80 82 7 = h80 82 7 := (rfl : h80 82 7 = h80 82 7)
              have npsR : cs h80 = cs h := cs_eq (fun j => my_fr.at gh80 is_92 rfl) (my_fr.at gh80 is_82 rfl)
              have c96 := (rfl : h80 82 9 = h80 82 9)
              exact w_vret gz_62_84 gm_62 (k0 h80 (gh80) (by omega) (by omega) (by first | exact Lo_h80 | exact std | (unfold sumR; first | exact Or.inr (Or.inr ⟨by omega, by omega, Or.inr ⟨by omega, Or.inr ⟨by omega, Or.inr (Or.inr ⟨by omega, by omega, Or.inr ⟨by omega, by omega, by omega⟩⟩)⟩⟩⟩) | exact Or.inr (Or.inr ⟨by omega, by omega, Or.inr ⟨by omega, Or.inr ⟨by omega, Or.inr (Or.inr ⟨by omega, by omega, Or.inl ⟨by omega, by omega⟩⟩)⟩⟩⟩) | exact Or.inr (Or.inr ⟨by omega, by omega, Or.inr ⟨by omega, Or.inr ⟨by omega, Or.inr (Or.inl ⟨by omega, by omega, by omega⟩)⟩⟩⟩) | exact Or.inr (Or.inr ⟨by omega, by omega, Or.inr ⟨by omega, Or.inr ⟨by omega, Or.inl ⟨by omega, by omega⟩⟩⟩⟩) | exact Or.inr (Or.inr ⟨by omega, by omega, Or.inr ⟨by omega, Or.inl ⟨by omega, by omega, by omega⟩⟩⟩) | exact Or.inr (Or.inr ⟨by omega, by omega, Or.inl ⟨by omega, by omega⟩⟩) | exact Or.inr (Or.inl ⟨by omega, by omega, by omega⟩) | exact Or.inl ⟨by omega, by omega⟩) | omega) (by first | exact Lo_h80 | exact std | (unfold sumR; first | exact Or.inr (Or.inr ⟨by omega, by omega, Or.inr ⟨by omega, Or.inr ⟨by omega, Or.inr (Or.inr ⟨by omega, by omega, Or.inr ⟨by omega, by omega, by omega⟩⟩)⟩⟩⟩) | exact Or.inr (Or.inr ⟨by omega, by omega, Or.inr ⟨by omega, Or.inr ⟨by omega, Or.inr (Or.inr ⟨by omega, by omega, Or.inl ⟨by omega, by omega⟩⟩)⟩⟩⟩) | exact Or.inr (Or.inr ⟨by omega, by omega, Or.inr ⟨by omega, Or.inr ⟨by omega, Or.inr (Or.inl ⟨by omega, by omega, by omega⟩)⟩⟩⟩) | exact Or.inr (Or.inr ⟨by omega, by omega, Or.inr ⟨by omega, Or.inr ⟨by omega, Or.inl ⟨by omega, by omega⟩⟩⟩⟩) | exact Or.inr (Or.inr ⟨by omega, by omega, Or.inr ⟨by omega, Or.inl ⟨by omega, by omega, by omega⟩⟩⟩) | exact Or.inr (Or.inr ⟨by omega, by omega, Or.inl ⟨by omega, by omega⟩⟩) | exact Or.inr (Or.inl ⟨by omega, by omega, by omega⟩) | exact Or.inl ⟨by omega, by omega⟩) | omega) Ln_h80 Sp_h80 Al_h80t85 Cu_h80t86)
            ·
              have gh87 : my_fr [(4, 4), (4, 5), (4, 7), (4, 8), (4, 9), (5, 5), (5, 6), (5, 7), (5, 8), (5, 9), (32, -1), (33, -1), (34, -1), (35, -1), (37, -1)] h h87 := my_fr.tr gh67 (frh87.mo rfl)
              have Ln_h87 : Ln h87 := Ln_ag (my_ag.fr frh87 rfl) Ln_h67
              have Sp_h87 : Sp h87 wv := Sp_ag (my_ag.fr frh87 rfl) hwv Ln_h67 Sp_h67
              have St5_h87 : St5 h87 := St5_ag (my_ag.fr frh87 rfl) Ln_h67 St5_h67
              have Lo_h87 : Lo h h87 := Lo_ag (my_ag.fr frh87 rfl) Ln_h67 Lo_h67
              show wp l rho (d + 6) 62 72 [(2, 82), (0, v13), (0, v63)] [(0, 1)] h87 Q
              have tE97 : cs h67 = cs h := cs_eq (fun j => my_fr.at gh67 is_92 rfl) (my_fr.at gh67 is_82 rfl)
              rw [tE97] at xp89
              have ps98 : h67 82 7 = (sN (cs h) (((sN (cs h) (((sN (cs h) (h 82 7)))))))) := xc75
              rw [ps98] at xp89
              rw [tE97] at xp90
              rw [ps98] at xp90
              have ck99 := Cu_s Cu_h87t92
              rw [show cs h87 = cs h from cs_eq (fun j => my_fr.at gh87 is_92 rfl) (my_fr.at gh87 is_82 rfl)] at ck99
              rw [show h87 82 7 = (sN (cs h) (((sN (cs h) (((sN (cs h) (((sN (cs h) (h 82 7))))))))))) from xp89] at ck99
              have cv100 := Cu_v Cu_h87t92
              rw [show cs h87 = cs h from cs_eq (fun j => my_fr.at gh87 is_92 rfl) (my_fr.at gh87 is_82 rfl)] at cv100
              rw [show h87 82 7 = (sN (cs h) (((sN (cs h) (((sN (cs h) (((sN (cs h) (h 82 7))))))))))) from xp89] at cv100
              refine w_ifeq (t := 84) gz_62_72 rfl (fun u101 => by exfalso; omega) (fun u101 => ?_)
              refine w_aload_n gz_62_75 rfl ?_
              refine v_getR (j := 2) gz_62_76 rfl is_82 rd_5 rfl (fun v102 ev102 tv102 => ?_)
              have zv102 : v3 = v102 := (ev102.trans ((my_fr.at frh87 is_82 rfl).trans ((my_fr.at frh67 is_82 rfl).trans ((my_fr.at frh38 is_82 rfl).trans ((my_fr.at frh12 is_82 rfl).trans ev3.symm))))).symm
              subst zv102
              refine w_iload_n gz_62_79 rfl ?_
              refine w_iload_n gz_62_80 rfl ?_
              have ce103 : h87 82 2 = v3 := ((my_fr.at frh87 is_82 rfl).trans ((my_fr.at frh67 is_82 rfl).trans ((my_fr.at frh38 is_82 rfl).trans ((my_fr.at frh12 is_82 rfl).trans ev3.symm))))
              have s5a := St5_h87
              have s5e : v3 = h87 82 2 := by first | assumption | omega
              unfold St5 at s5a
              rw [← s5e] at s5a
              have ce104 : h87 v3 1 = h v3 1 := ((my_fr.at frh87 tv3 rfl).trans ((my_fr.at frh67 tv3 rfl).trans ((my_fr.at frh38 tv3 rfl).trans ((my_fr.at frh12 tv3 rfl).trans (rfl : h v3 1 = h v3 1)))))
              have ce105 : h87 v3 3 = h v3 3 := ((my_fr.at frh87 tv3 rfl).trans ((my_fr.at frh67 tv3 rfl).trans ((my_fr.at frh38 tv3 rfl).trans ((my_fr.at frh12 tv3 rfl).trans (rfl : h v3 3 = h v3 3)))))
              have ce106 : h87 v3 4 = h v3 4 := ((my_fr.at frh87 tv3 rfl).trans ((my_fr.at frh67 tv3 rfl).trans ((my_fr.at frh38 tv3 rfl).trans ((my_fr.at frh12 tv3 rfl).trans (rfl : h v3 4 = h v3 4)))))
              have ce107 : h87 v3 9 = h v3 9 := ((my_fr.at frh87 tv3 rfl).trans ((my_fr.at frh67 tv3 rfl).trans ((my_fr.at frh38 tv3 rfl).trans ((my_fr.at frh12 tv3 rfl).trans (rfl : h v3 9 = h v3 9)))))
              have sE : v3 = h 82 2 := by first | assumption | omega
              have eS1 : h87 v3 1 = h v3 1 := by omega
              have eS3 : h87 v3 3 = h v3 3 := by omega
              have eS4 : h87 v3 4 = h v3 4 := by omega
              have eS9 : h87 v3 9 = h v3 9 := by omega
              refine w_inv (k := 0) (as := [(0, v63), (0, v13)]) (r := []) (x := v3) (ls0 := [(2, v3), (0, v13), (0, v63)]) gz_62_81 gm_63 rfl tv3 rd_4 rfl rfl rfl rfl rfl (c_Lens_addSum (d := (d + 4)) (x0 := v3) (x1 := v13) (x2 := v63) tv3 (by omega) (by omega) (by omega) (by omega) (by first | assumption | exact no_such_saying | exact Fp_told (by omega) (by omega) | omega | (subst_vars; omega) | omega) (fun h108 frh108 fxh108 w109 w110 w111 w112 xp113 => ?_))
              have gh108 : my_fr [(4, 4), (4, 5), (4, 7), (4, 8), (4, 9), (5, 5), (5, 6), (5, 7), (5, 8), (5, 9), (32, -1), (33, -1), (34, -1), (35, -1), (37, -1)] h h108 := my_fr.tr gh87 (frh108.mo rfl)
              have Ln_h108 : Ln h108 := Ln_fx fxh108 (by first | assumption | omega) Ln_h87
              have Lo_h108 : Lo h h108 := Lo_fx fxh108 (by first | assumption | omega) Ln_h87 Lo_h87
              have Al_h108 : Al h108 := Al_ag (my_ag.fr frh108 rfl) Al_h87t91
              have Cu_h108 : Cu h108 := Cu_ag (my_ag.fr frh108 rfl) Cu_h87t92
              show wp l rho (d + 6) 62 84 [(2, 82), (0, v13), (0, v63)] [] h108 Q
              have Sp_h108t114 : Sp h108 wv := Sp_add fxh108 (by first | assumption | omega) hwv Ln_h87 Sp_h87 xp113 (by have := St5_h87.1; omega) (by omega) (by omega)
              have ce115 : h108 82 2 = v3 := ((my_fr.at frh108 is_82 rfl).trans ((my_fr.at frh87 is_82 rfl).trans ((my_fr.at frh67 is_82 rfl).trans ((my_fr.at frh38 is_82 rfl).trans ((my_fr.at frh12 is_82 rfl).trans ev3.symm)))))
              have std := Std_add xp113 sE (by omega) eS3 eS4 eS9 eS1
              have psR : h108 82 7 = (sN (cs h) (((sN (cs h) (((sN (cs h) (((sN (cs h) (h 82 7))))))))))) := ((my_fr.at frh108 is_82 rfl).trans xp89)
              have npsR : cs h108 = cs h := cs_eq (fun j => my_fr.at gh108 is_92 rfl) (my_fr.at gh108 is_82 rfl)
              have c116 := ((my_fr.at frh108 is_82 rfl).trans w88)
              exact w_vret gz_62_84 gm_62 (k1 h108 (gh108) (by omega) (by first | exact Lo_h108 | exact std | (unfold sumR; first | exact Or.inr (Or.inr ⟨by omega, by omega, Or.inr ⟨by omega, Or.inr ⟨by omega, Or.inr (Or.inr ⟨by omega, by omega, Or.inr ⟨by omega, by omega, by omega⟩⟩)⟩⟩⟩) | exact Or.inr (Or.inr ⟨by omega, by omega, Or.inr ⟨by omega, Or.inr ⟨by omega, Or.inr (Or.inr ⟨by omega, by omega, Or.inl ⟨by omega, by omega⟩⟩)⟩⟩⟩) | exact Or.inr (Or.inr ⟨by omega, by omega, Or.inr ⟨by omega, Or.inr ⟨by omega, Or.inr (Or.inl ⟨by omega, by omega, by omega⟩)⟩⟩⟩) | exact Or.inr (Or.inr ⟨by omega, by omega, Or.inr ⟨by omega, Or.inr ⟨by omega, Or.inl ⟨by omega, by omega⟩⟩⟩⟩) | exact Or.inr (Or.inr ⟨by omega, by omega, Or.inr ⟨by omega, Or.inl ⟨by omega, by omega, by omega⟩⟩⟩) | exact Or.inr (Or.inr ⟨by omega, by omega, Or.inl ⟨by omega, by omega⟩⟩) | exact Or.inr (Or.inl ⟨by omega, by omega, by omega⟩) | exact Or.inl ⟨by omega, by omega⟩) | omega) (by first | exact Lo_h108 | exact std | (unfold sumR; first | exact Or.inr (Or.inr ⟨by omega, by omega, Or.inr ⟨by omega, Or.inr ⟨by omega, Or.inr (Or.inr ⟨by omega, by omega, Or.inr ⟨by omega, by omega, by omega⟩⟩)⟩⟩⟩) | exact Or.inr (Or.inr ⟨by omega, by omega, Or.inr ⟨by omega, Or.inr ⟨by omega, Or.inr (Or.inr ⟨by omega, by omega, Or.inl ⟨by omega, by omega⟩⟩)⟩⟩⟩) | exact Or.inr (Or.inr ⟨by omega, by omega, Or.inr ⟨by omega, Or.inr ⟨by omega, Or.inr (Or.inl ⟨by omega, by omega, by omega⟩)⟩⟩⟩) | exact Or.inr (Or.inr ⟨by omega, by omega, Or.inr ⟨by omega, Or.inr ⟨by omega, Or.inl ⟨by omega, by omega⟩⟩⟩⟩) | exact Or.inr (Or.inr ⟨by omega, by omega, Or.inr ⟨by omega, Or.inl ⟨by omega, by omega, by omega⟩⟩⟩) | exact Or.inr (Or.inr ⟨by omega, by omega, Or.inl ⟨by omega, by omega⟩⟩) | exact Or.inr (Or.inl ⟨by omega, by omega, by omega⟩) | exact Or.inl ⟨by omega, by omega⟩) | omega) (by first | exact Lo_h108 | exact std | (unfold sumR; first | exact Or.inr (Or.inr ⟨by omega, by omega, Or.inr ⟨by omega, Or.inr ⟨by omega, Or.inr (Or.inr ⟨by omega, by omega, Or.inr ⟨by omega, by omega, by omega⟩⟩)⟩⟩⟩) | exact Or.inr (Or.inr ⟨by omega, by omega, Or.inr ⟨by omega, Or.inr ⟨by omega, Or.inr (Or.inr ⟨by omega, by omega, Or.inl ⟨by omega, by omega⟩⟩)⟩⟩⟩) | exact Or.inr (Or.inr ⟨by omega, by omega, Or.inr ⟨by omega, Or.inr ⟨by omega, Or.inr (Or.inl ⟨by omega, by omega, by omega⟩)⟩⟩⟩) | exact Or.inr (Or.inr ⟨by omega, by omega, Or.inr ⟨by omega, Or.inr ⟨by omega, Or.inl ⟨by omega, by omega⟩⟩⟩⟩) | exact Or.inr (Or.inr ⟨by omega, by omega, Or.inr ⟨by omega, Or.inl ⟨by omega, by omega, by omega⟩⟩⟩) | exact Or.inr (Or.inr ⟨by omega, by omega, Or.inl ⟨by omega, by omega⟩⟩) | exact Or.inr (Or.inl ⟨by omega, by omega, by omega⟩) | exact Or.inl ⟨by omega, by omega⟩) | omega) Ln_h108 Sp_h108t114 Al_h108 Cu_h108)
          ·
            refine w_aload_n gz_62_51 rfl ?_
            refine w_iconst gz_62_52 (by decide) ?_
            refine w_inv (k := 0) (as := [(0, 3)]) (r := []) (x := 82) (ls0 := [(2, 82), (0, 3)]) gz_62_53 gm_42 rfl is_82 rd_5 rfl rfl rfl rfl rfl ?_
            refine w_aload_n gz_42_0 rfl ?_
            refine v_getI (j := 9) gz_42_1 rfl is_82 rd_5 rfl (fun v117 ev117 pv117 qv117 => ?_)
            have zv117 := ev117.trans ev61.symm
            refine w_ifne (t := 20) gz_42_4 rfl (fun u118 => by exfalso; omega) (fun u118 => ?_)
            refine w_aload_n gz_42_7 rfl ?_
            refine w_iload_n gz_42_8 rfl ?_
            refine w_bipush gz_42_9 (by decide) ?_
            refine w_aload_n gz_42_11 rfl ?_
            refine v_getI (j := 7) gz_42_12 rfl is_82 rd_5 rfl (fun v119 ev119 pv119 qv119 => ?_)
            refine w_imul gz_42_15 ⟨by omega, by omega⟩ ?_
            refine w_iadd gz_42_16 ⟨by omega, by omega⟩ ?_
            refine v_putI (j := 9) gz_42_17 rfl is_82 rd_5 rfl (by omega) (by omega) rfl (fun h120 fh120 => ?_)
            have gh120 : my_fr [(4, 4), (4, 5), (4, 7), (4, 8), (4, 9), (5, 5), (5, 6), (5, 7), (5, 8), (5, 9), (32, -1), (33, -1), (34, -1), (35, -1), (37, -1)] h h120 := my_fr.up gh38 is_82 fh120 rfl
            have Ln_h120 : Ln h120 := Ln_ag (my_ag.up fh120 is_82 rfl) Ln_h38
            have Sp_h120 : Sp h120 wv := Sp_ag (my_ag.up fh120 is_82 rfl) hwv Ln_h38 Sp_h38
            have St5_h120 : St5 h120 := St5_ag (my_ag.up fh120 is_82 rfl) Ln_h38 St5_h38
            have Lo_h120 : Lo h h120 := Lo_ag (my_ag.up fh120 is_82 rfl) Ln_h38 Lo_h38
            have Al_h120 : Al h120 := Al_ag (my_ag.up fh120 is_82 rfl) Al_h38t42
            have Cu_h120 : Cu h120 := Cu_ag (my_ag.up fh120 is_82 rfl) Cu_h38t43
            refine w_vret gz_42_20 gm_42 ?_
            show wp l rho (d + 6) 62 56 [(2, 82), (0, v13), (0, v63)] [] h120 Q
            refine w_goto (t := 84) gz_62_56 rfl ?_
            have psR : h120 82 7 = (sN (cs h) (((sN (cs h) (h 82 7))))) := ((my_up_fld fh120 (by decide)).trans xp40)
            have npsR : cs h120 = cs h := cs_eq (fun j => my_fr.at gh120 is_92 rfl) (my_fr.at gh120 is_82 rfl)
            have c121 := (my_up_self fh120)
            exact w_vret gz_62_84 gm_62 (k0 h120 (gh120) (by omega) (by omega) (by first | exact Lo_h120 | exact std | (unfold sumR; first | exact Or.inr (Or.inr ⟨by omega, by omega, Or.inr ⟨by omega, Or.inr ⟨by omega, Or.inr (Or.inr ⟨by omega, by omega, Or.inr ⟨by omega, by omega, by omega⟩⟩)⟩⟩⟩) | exact Or.inr (Or.inr ⟨by omega, by omega, Or.inr ⟨by omega, Or.inr ⟨by omega, Or.inr (Or.inr ⟨by omega, by omega, Or.inl ⟨by omega, by omega⟩⟩)⟩⟩⟩) | exact Or.inr (Or.inr ⟨by omega, by omega, Or.inr ⟨by omega, Or.inr ⟨by omega, Or.inr (Or.inl ⟨by omega, by omega, by omega⟩)⟩⟩⟩) | exact Or.inr (Or.inr ⟨by omega, by omega, Or.inr ⟨by omega, Or.inr ⟨by omega, Or.inl ⟨by omega, by omega⟩⟩⟩⟩) | exact Or.inr (Or.inr ⟨by omega, by omega, Or.inr ⟨by omega, Or.inl ⟨by omega, by omega, by omega⟩⟩⟩) | exact Or.inr (Or.inr ⟨by omega, by omega, Or.inl ⟨by omega, by omega⟩⟩) | exact Or.inr (Or.inl ⟨by omega, by omega, by omega⟩) | exact Or.inl ⟨by omega, by omega⟩) | omega) (by first | exact Lo_h120 | exact std | (unfold sumR; first | exact Or.inr (Or.inr ⟨by omega, by omega, Or.inr ⟨by omega, Or.inr ⟨by omega, Or.inr (Or.inr ⟨by omega, by omega, Or.inr ⟨by omega, by omega, by omega⟩⟩)⟩⟩⟩) | exact Or.inr (Or.inr ⟨by omega, by omega, Or.inr ⟨by omega, Or.inr ⟨by omega, Or.inr (Or.inr ⟨by omega, by omega, Or.inl ⟨by omega, by omega⟩⟩)⟩⟩⟩) | exact Or.inr (Or.inr ⟨by omega, by omega, Or.inr ⟨by omega, Or.inr ⟨by omega, Or.inr (Or.inl ⟨by omega, by omega, by omega⟩)⟩⟩⟩) | exact Or.inr (Or.inr ⟨by omega, by omega, Or.inr ⟨by omega, Or.inr ⟨by omega, Or.inl ⟨by omega, by omega⟩⟩⟩⟩) | exact Or.inr (Or.inr ⟨by omega, by omega, Or.inr ⟨by omega, Or.inl ⟨by omega, by omega, by omega⟩⟩⟩) | exact Or.inr (Or.inr ⟨by omega, by omega, Or.inl ⟨by omega, by omega⟩⟩) | exact Or.inr (Or.inl ⟨by omega, by omega, by omega⟩) | exact Or.inl ⟨by omega, by omega⟩) | omega) Ln_h120 Sp_h120 Al_h120 Cu_h120)
        ·
          refine w_aload_n gz_44_23 rfl ?_
          refine w_iconst gz_44_24 (by decide) ?_
          refine w_inv (k := 0) (as := [(0, 4)]) (r := []) (x := 82) (ls0 := [(2, 82), (0, 4)]) gz_44_25 gm_42 rfl is_82 rd_5 rfl rfl rfl rfl rfl ?_
          refine w_aload_n gz_42_0 rfl ?_
          refine v_getI (j := 9) gz_42_1 rfl is_82 rd_5 rfl (fun v122 ev122 pv122 qv122 => ?_)
          have zv122 := ev122.trans w39
          refine w_ifne (t := 20) gz_42_4 rfl (fun u123 => by exfalso; omega) (fun u123 => ?_)
          refine w_aload_n gz_42_7 rfl ?_
          refine w_iload_n gz_42_8 rfl ?_
          refine w_bipush gz_42_9 (by decide) ?_
          refine w_aload_n gz_42_11 rfl ?_
          refine v_getI (j := 7) gz_42_12 rfl is_82 rd_5 rfl (fun v124 ev124 pv124 qv124 => ?_)
          refine w_imul gz_42_15 ⟨by omega, by omega⟩ ?_
          refine w_iadd gz_42_16 ⟨by omega, by omega⟩ ?_
          refine v_putI (j := 9) gz_42_17 rfl is_82 rd_5 rfl (by omega) (by omega) rfl (fun h125 fh125 => ?_)
          have gh125 : my_fr [(4, 4), (4, 5), (4, 7), (4, 8), (4, 9), (5, 5), (5, 6), (5, 7), (5, 8), (5, 9), (32, -1), (33, -1), (34, -1), (35, -1), (37, -1)] h h125 := my_fr.up gh38 is_82 fh125 rfl
          have Ln_h125 : Ln h125 := Ln_ag (my_ag.up fh125 is_82 rfl) Ln_h38
          have Sp_h125 : Sp h125 wv := Sp_ag (my_ag.up fh125 is_82 rfl) hwv Ln_h38 Sp_h38
          have St5_h125 : St5 h125 := St5_ag (my_ag.up fh125 is_82 rfl) Ln_h38 St5_h38
          have Lo_h125 : Lo h h125 := Lo_ag (my_ag.up fh125 is_82 rfl) Ln_h38 Lo_h38
          have Al_h125 : Al h125 := Al_ag (my_ag.up fh125 is_82 rfl) Al_h38t42
          have Cu_h125 : Cu h125 := Cu_ag (my_ag.up fh125 is_82 rfl) Cu_h38t43
          refine w_vret gz_42_20 gm_42 ?_
          show wp l rho (d + 5) 44 28 [(2, 82), (0, v56)] [] h125 _
          refine w_iconst gz_44_28 (by decide) ?_
          refine w_iret gz_44_29 gm_44 ?_
          show wp l rho (d + 6) 62 40 [(2, 82), (0, v13), (9, 0)] [(0, (-1))] h125 Q
          refine w_istore_n (ls' := [(2, 82), (0, v13), (0, (-1))]) gz_62_40 gm_62 rfl rfl rfl ?_
          refine w_iload_n gz_62_41 rfl ?_
          refine w_iconst gz_62_42 (by decide) ?_
          refine w_iceq (t := 59) gz_62_43 rfl (fun u126 => ?_) (fun u126 => by exfalso; omega)
          refine w_iload_n gz_62_59 rfl ?_
          refine w_iconst gz_62_60 (by decide) ?_
          refine w_iceq (t := 84) gz_62_61 rfl (fun u127 => ?_) (fun u127 => by exfalso; omega)
          have psR : h125 82 7 = (sN (cs h) (((sN (cs h) (h 82 7))))) := ((my_up_fld fh125 (by decide)).trans xp40)
          have npsR : cs h125 = cs h := cs_eq (fun j => my_fr.at gh125 is_92 rfl) (my_fr.at gh125 is_82 rfl)
          have c128 := (my_up_self fh125)
          exact w_vret gz_62_84 gm_62 (k0 h125 (gh125) (by omega) (by omega) (by first | exact Lo_h125 | exact std | (unfold sumR; first | exact Or.inr (Or.inr ⟨by omega, by omega, Or.inr ⟨by omega, Or.inr ⟨by omega, Or.inr (Or.inr ⟨by omega, by omega, Or.inr ⟨by omega, by omega, by omega⟩⟩)⟩⟩⟩) | exact Or.inr (Or.inr ⟨by omega, by omega, Or.inr ⟨by omega, Or.inr ⟨by omega, Or.inr (Or.inr ⟨by omega, by omega, Or.inl ⟨by omega, by omega⟩⟩)⟩⟩⟩) | exact Or.inr (Or.inr ⟨by omega, by omega, Or.inr ⟨by omega, Or.inr ⟨by omega, Or.inr (Or.inl ⟨by omega, by omega, by omega⟩)⟩⟩⟩) | exact Or.inr (Or.inr ⟨by omega, by omega, Or.inr ⟨by omega, Or.inr ⟨by omega, Or.inl ⟨by omega, by omega⟩⟩⟩⟩) | exact Or.inr (Or.inr ⟨by omega, by omega, Or.inr ⟨by omega, Or.inl ⟨by omega, by omega, by omega⟩⟩⟩) | exact Or.inr (Or.inr ⟨by omega, by omega, Or.inl ⟨by omega, by omega⟩⟩) | exact Or.inr (Or.inl ⟨by omega, by omega, by omega⟩) | exact Or.inl ⟨by omega, by omega⟩) | omega) (by first | exact Lo_h125 | exact std | (unfold sumR; first | exact Or.inr (Or.inr ⟨by omega, by omega, Or.inr ⟨by omega, Or.inr ⟨by omega, Or.inr (Or.inr ⟨by omega, by omega, Or.inr ⟨by omega, by omega, by omega⟩⟩)⟩⟩⟩) | exact Or.inr (Or.inr ⟨by omega, by omega, Or.inr ⟨by omega, Or.inr ⟨by omega, Or.inr (Or.inr ⟨by omega, by omega, Or.inl ⟨by omega, by omega⟩⟩)⟩⟩⟩) | exact Or.inr (Or.inr ⟨by omega, by omega, Or.inr ⟨by omega, Or.inr ⟨by omega, Or.inr (Or.inl ⟨by omega, by omega, by omega⟩)⟩⟩⟩) | exact Or.inr (Or.inr ⟨by omega, by omega, Or.inr ⟨by omega, Or.inr ⟨by omega, Or.inl ⟨by omega, by omega⟩⟩⟩⟩) | exact Or.inr (Or.inr ⟨by omega, by omega, Or.inr ⟨by omega, Or.inl ⟨by omega, by omega, by omega⟩⟩⟩) | exact Or.inr (Or.inr ⟨by omega, by omega, Or.inl ⟨by omega, by omega⟩⟩) | exact Or.inr (Or.inl ⟨by omega, by omega, by omega⟩) | exact Or.inl ⟨by omega, by omega⟩) | omega) Ln_h125 Sp_h125 Al_h125 Cu_h125)
      ·
        refine w_aload_n gz_44_8 rfl ?_
        refine w_iconst gz_44_9 (by decide) ?_
        refine w_inv (k := 0) (as := [(0, 1)]) (r := []) (x := 82) (ls0 := [(2, 82), (0, 1)]) gz_44_10 gm_42 rfl is_82 rd_5 rfl rfl rfl rfl rfl ?_
        refine w_aload_n gz_42_0 rfl ?_
        refine v_getI (j := 9) gz_42_1 rfl is_82 rd_5 rfl (fun v129 ev129 pv129 qv129 => ?_)
        have zv129 := ev129.trans w39
        refine w_ifne (t := 20) gz_42_4 rfl (fun u130 => by exfalso; omega) (fun u130 => ?_)
        refine w_aload_n gz_42_7 rfl ?_
        refine w_iload_n gz_42_8 rfl ?_
        refine w_bipush gz_42_9 (by decide) ?_
        refine w_aload_n gz_42_11 rfl ?_
        refine v_getI (j := 7) gz_42_12 rfl is_82 rd_5 rfl (fun v131 ev131 pv131 qv131 => ?_)
        refine w_imul gz_42_15 ⟨by omega, by omega⟩ ?_
        refine w_iadd gz_42_16 ⟨by omega, by omega⟩ ?_
        refine v_putI (j := 9) gz_42_17 rfl is_82 rd_5 rfl (by omega) (by omega) rfl (fun h132 fh132 => ?_)
        have gh132 : my_fr [(4, 4), (4, 5), (4, 7), (4, 8), (4, 9), (5, 5), (5, 6), (5, 7), (5, 8), (5, 9), (32, -1), (33, -1), (34, -1), (35, -1), (37, -1)] h h132 := my_fr.up gh38 is_82 fh132 rfl
        have Ln_h132 : Ln h132 := Ln_ag (my_ag.up fh132 is_82 rfl) Ln_h38
        have Sp_h132 : Sp h132 wv := Sp_ag (my_ag.up fh132 is_82 rfl) hwv Ln_h38 Sp_h38
        have St5_h132 : St5 h132 := St5_ag (my_ag.up fh132 is_82 rfl) Ln_h38 St5_h38
        have Lo_h132 : Lo h h132 := Lo_ag (my_ag.up fh132 is_82 rfl) Ln_h38 Lo_h38
        have Al_h132 : Al h132 := Al_ag (my_ag.up fh132 is_82 rfl) Al_h38t42
        have Cu_h132 : Cu h132 := Cu_ag (my_ag.up fh132 is_82 rfl) Cu_h38t43
        refine w_vret gz_42_20 gm_42 ?_
        show wp l rho (d + 5) 44 13 [(2, 82), (0, v56)] [] h132 _
        refine w_iconst gz_44_13 (by decide) ?_
        refine w_iret gz_44_14 gm_44 ?_
        show wp l rho (d + 6) 62 40 [(2, 82), (0, v13), (9, 0)] [(0, (-1))] h132 Q
        refine w_istore_n (ls' := [(2, 82), (0, v13), (0, (-1))]) gz_62_40 gm_62 rfl rfl rfl ?_
        refine w_iload_n gz_62_41 rfl ?_
        refine w_iconst gz_62_42 (by decide) ?_
        refine w_iceq (t := 59) gz_62_43 rfl (fun u133 => ?_) (fun u133 => by exfalso; omega)
        refine w_iload_n gz_62_59 rfl ?_
        refine w_iconst gz_62_60 (by decide) ?_
        refine w_iceq (t := 84) gz_62_61 rfl (fun u134 => ?_) (fun u134 => by exfalso; omega)
        have psR : h132 82 7 = (sN (cs h) (((sN (cs h) (h 82 7))))) := ((my_up_fld fh132 (by decide)).trans xp40)
        have npsR : cs h132 = cs h := cs_eq (fun j => my_fr.at gh132 is_92 rfl) (my_fr.at gh132 is_82 rfl)
        have c135 := (my_up_self fh132)
        exact w_vret gz_62_84 gm_62 (k0 h132 (gh132) (by omega) (by omega) (by first | exact Lo_h132 | exact std | (unfold sumR; first | exact Or.inr (Or.inr ⟨by omega, by omega, Or.inr ⟨by omega, Or.inr ⟨by omega, Or.inr (Or.inr ⟨by omega, by omega, Or.inr ⟨by omega, by omega, by omega⟩⟩)⟩⟩⟩) | exact Or.inr (Or.inr ⟨by omega, by omega, Or.inr ⟨by omega, Or.inr ⟨by omega, Or.inr (Or.inr ⟨by omega, by omega, Or.inl ⟨by omega, by omega⟩⟩)⟩⟩⟩) | exact Or.inr (Or.inr ⟨by omega, by omega, Or.inr ⟨by omega, Or.inr ⟨by omega, Or.inr (Or.inl ⟨by omega, by omega, by omega⟩)⟩⟩⟩) | exact Or.inr (Or.inr ⟨by omega, by omega, Or.inr ⟨by omega, Or.inr ⟨by omega, Or.inl ⟨by omega, by omega⟩⟩⟩⟩) | exact Or.inr (Or.inr ⟨by omega, by omega, Or.inr ⟨by omega, Or.inl ⟨by omega, by omega, by omega⟩⟩⟩) | exact Or.inr (Or.inr ⟨by omega, by omega, Or.inl ⟨by omega, by omega⟩⟩) | exact Or.inr (Or.inl ⟨by omega, by omega, by omega⟩) | exact Or.inl ⟨by omega, by omega⟩) | omega) (by first | exact Lo_h132 | exact std | (unfold sumR; first | exact Or.inr (Or.inr ⟨by omega, by omega, Or.inr ⟨by omega, Or.inr ⟨by omega, Or.inr (Or.inr ⟨by omega, by omega, Or.inr ⟨by omega, by omega, by omega⟩⟩)⟩⟩⟩) | exact Or.inr (Or.inr ⟨by omega, by omega, Or.inr ⟨by omega, Or.inr ⟨by omega, Or.inr (Or.inr ⟨by omega, by omega, Or.inl ⟨by omega, by omega⟩⟩)⟩⟩⟩) | exact Or.inr (Or.inr ⟨by omega, by omega, Or.inr ⟨by omega, Or.inr ⟨by omega, Or.inr (Or.inl ⟨by omega, by omega, by omega⟩)⟩⟩⟩) | exact Or.inr (Or.inr ⟨by omega, by omega, Or.inr ⟨by omega, Or.inr ⟨by omega, Or.inl ⟨by omega, by omega⟩⟩⟩⟩) | exact Or.inr (Or.inr ⟨by omega, by omega, Or.inr ⟨by omega, Or.inl ⟨by omega, by omega, by omega⟩⟩⟩) | exact Or.inr (Or.inr ⟨by omega, by omega, Or.inl ⟨by omega, by omega⟩⟩) | exact Or.inr (Or.inl ⟨by omega, by omega, by omega⟩) | exact Or.inl ⟨by omega, by omega⟩) | omega) Ln_h132 Sp_h132 Al_h132 Cu_h132)
end MYNModel_readSum9_f0
