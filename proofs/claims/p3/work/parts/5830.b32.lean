/-! contracts, printed by wip/gen/gy.py -/
section MYNReader_readSum9_f0
theorem c_Reader_readSum9_f0 {l : Launch} {rho : Nat → Int32} {d : Nat} {h : my_H} {Q : my_H → my_V → Prop} {wv : Int} (cf : h 82 9 = 0) (hwv : wv ≤ 5) (hwv0 : 0 ≤ wv) (n_Ln : Ln h) (n_Sp : Sp h wv) (n_St5 : St5 h) (n_Al : Al h) (n_Cu : Cu h) (k0 : ∀ (h' : my_H), my_fr [(4, 4), (4, 5), (4, 7), (4, 8), (4, 9), (5, 5), (5, 6), (5, 7), (5, 8), (5, 9), (32, -1), (33, -1), (34, -1), (35, -1), (37, -1)] h h' → 1 ≤ h' 82 9 → h' 82 9 ≤ 16004 → sumR (cs h) (h 82 7) (h (h 82 2) 4) (h' 82 9) (h' 82 7) → Lo h h' → Ln h' → Sp h' wv → Al h' → Cu h' → Q h' (9, 0)) (k1 : ∀ (h' : my_H), my_fr [(4, 4), (4, 5), (4, 7), (4, 8), (4, 9), (5, 5), (5, 6), (5, 7), (5, 8), (5, 9), (32, -1), (33, -1), (34, -1), (35, -1), (37, -1)] h h' → h' 82 9 = 0 → sumR (cs h) (h 82 7) (h (h 82 2) 4) (h' 82 9) (h' 82 7) → Std h h' 2 (h (h 82 2) 9 + 1) → Lo h h' → Ln h' → Sp h' wv → Al h' → Cu h' → Q h' (9, 0)) : wp l rho (d + 6) 62 0 [(2, 82), (9, 0), (9, 0)] [] h Q := by
  have ck1 := Cu_s n_Cu
  have cv2 := Cu_v n_Cu
  refine w_aload_n gz_62_0 rfl ?_
  refine w_aload_n gz_62_1 rfl ?_
  refine v_getR (j := 2) gz_62_2 rfl is_82 rd_5 rfl (fun v3 ev3 tv3 => ?_)
  have ce4 : h 82 2 = v3 := ev3.symm
  have sE8 : v3 = h 82 2 := by first | assumption | omega
  refine v_getI (j := 4) gz_62_5 rfl tv3 rd_4 rfl (fun v5 ev5 pv5 qv5 => ?_)
  have c8 : v5 = h (h 82 2) 4 := by rw [← sE8]; omega
  refine w_inv (k := 1) (as := [(0, v5)]) (r := []) (x := 82) (ls0 := [(2, 82), (0, v5), (9, 0)]) gz_62_8 gm_51 rfl is_82 rd_5 rfl rfl rfl rfl rfl (c_Reader_takeNumber9_f0 (d := (d + 3)) (x1 := v5) (by omega) (by omega) (cf.trans (by omega)) n_Al n_Cu (fun h6 frh6 w7 w8 xp9 Al_h6t10 Cu_h6t11 => ?_) (fun h12 v13 frh12 w14 w15 w16 w17 w18 xp19 xp20 xp21 Al_h12t22 Cu_h12t23 => ?_))
  ·
    have gh6 : my_fr [(4, 4), (4, 5), (4, 7), (4, 8), (4, 9), (5, 5), (5, 6), (5, 7), (5, 8), (5, 9), (32, -1), (33, -1), (34, -1), (35, -1), (37, -1)] h h6 := my_fr.tr my_fr.rf (frh6.mo rfl)
    have Ln_h6 : Ln h6 := Ln_ag (my_ag.fr frh6 rfl) n_Ln
    have Sp_h6 : Sp h6 wv := Sp_ag (my_ag.fr frh6 rfl) hwv n_Ln n_Sp
    have St5_h6 : St5 h6 := St5_ag (my_ag.fr frh6 rfl) n_Ln n_St5
    have Lo_h6 : Lo h h6 := Lo_ag (my_ag.fr frh6 rfl) n_Ln (Lo_rf)
    show wp l rho (d + 6) 62 11 [(2, 82), (9, 0), (9, 0)] [(0, (-1))] h6 Q
    refine w_istore_n (ls' := [(2, 82), (0, (-1)), (9, 0)]) gz_62_11 gm_62 rfl rfl rfl ?_
    refine w_aload_n gz_62_12 rfl ?_
    refine v_getI (j := 9) gz_62_13 rfl is_82 rd_5 rfl (fun v24 ev24 pv24 qv24 => ?_)
    have zv24 := ev24.trans (rfl : h6 82 9 = h6 82 9)
    refine w_ifne (t := 28) gz_62_16 rfl (fun u25 => ?_) (fun u25 => by exfalso; omega)
    have psR : h6 82 7 = h6 82 7 := (rfl : h6 82 7 = h6 82 7)
    have npsR : cs h6 = cs h := cs_eq (fun j => my_fr.at gh6 is_92 rfl) (my_fr.at gh6 is_82 rfl)
    have c26 := ev24.symm
    exact w_vret gz_62_28 gm_62 (k0 h6 (gh6) (by omega) (by omega) (by first | exact Lo_h6 | exact std | (unfold sumR; first | exact Or.inr (Or.inr ⟨by omega, by omega, Or.inr ⟨by omega, Or.inr ⟨by omega, Or.inr (Or.inr ⟨by omega, by omega, Or.inr ⟨by omega, by omega, by omega⟩⟩)⟩⟩⟩) | exact Or.inr (Or.inr ⟨by omega, by omega, Or.inr ⟨by omega, Or.inr ⟨by omega, Or.inr (Or.inr ⟨by omega, by omega, Or.inl ⟨by omega, by omega⟩⟩)⟩⟩⟩) | exact Or.inr (Or.inr ⟨by omega, by omega, Or.inr ⟨by omega, Or.inr ⟨by omega, or_assoc.mp (Or.inl (by omega))⟩⟩⟩) | exact Or.inr (Or.inr ⟨by omega, by omega, Or.inr ⟨by omega, Or.inl ⟨by omega, by omega, by omega⟩⟩⟩) | exact Or.inr (Or.inr ⟨by omega, by omega, Or.inl ⟨by omega, by omega⟩⟩) | exact or_assoc.mp (Or.inl (by omega))) | omega) (by first | exact Lo_h6 | exact std | (unfold sumR; first | exact Or.inr (Or.inr ⟨by omega, by omega, Or.inr ⟨by omega, Or.inr ⟨by omega, Or.inr (Or.inr ⟨by omega, by omega, Or.inr ⟨by omega, by omega, by omega⟩⟩)⟩⟩⟩) | exact Or.inr (Or.inr ⟨by omega, by omega, Or.inr ⟨by omega, Or.inr ⟨by omega, Or.inr (Or.inr ⟨by omega, by omega, Or.inl ⟨by omega, by omega⟩⟩)⟩⟩⟩) | exact Or.inr (Or.inr ⟨by omega, by omega, Or.inr ⟨by omega, Or.inr ⟨by omega, or_assoc.mp (Or.inl (by omega))⟩⟩⟩) | exact Or.inr (Or.inr ⟨by omega, by omega, Or.inr ⟨by omega, Or.inl ⟨by omega, by omega, by omega⟩⟩⟩) | exact Or.inr (Or.inr ⟨by omega, by omega, Or.inl ⟨by omega, by omega⟩⟩) | exact or_assoc.mp (Or.inl (by omega))) | omega) Ln_h6 Sp_h6 Al_h6t10 Cu_h6t11)
  ·
    have gh12 : my_fr [(4, 4), (4, 5), (4, 7), (4, 8), (4, 9), (5, 5), (5, 6), (5, 7), (5, 8), (5, 9), (32, -1), (33, -1), (34, -1), (35, -1), (37, -1)] h h12 := my_fr.tr my_fr.rf (frh12.mo rfl)
    have Ln_h12 : Ln h12 := Ln_ag (my_ag.fr frh12 rfl) n_Ln
    have Sp_h12 : Sp h12 wv := Sp_ag (my_ag.fr frh12 rfl) hwv n_Ln n_Sp
    have St5_h12 : St5 h12 := St5_ag (my_ag.fr frh12 rfl) n_Ln n_St5
    have Lo_h12 : Lo h h12 := Lo_ag (my_ag.fr frh12 rfl) n_Ln (Lo_rf)
    show wp l rho (d + 6) 62 11 [(2, 82), (9, 0), (9, 0)] [(0, v13)] h12 Q
    have ck27 := Cu_s Cu_h12t23
    rw [show cs h12 = cs h from cs_eq (fun j => my_fr.at gh12 is_92 rfl) (my_fr.at gh12 is_82 rfl)] at ck27
    rw [show h12 82 7 = (sN (cs h) (h 82 7)) from xp19] at ck27
    have cv28 := Cu_v Cu_h12t23
    rw [show cs h12 = cs h from cs_eq (fun j => my_fr.at gh12 is_92 rfl) (my_fr.at gh12 is_82 rfl)] at cv28
    rw [show h12 82 7 = (sN (cs h) (h 82 7)) from xp19] at cv28
    refine w_istore_n (ls' := [(2, 82), (0, v13), (9, 0)]) gz_62_11 gm_62 rfl rfl rfl ?_
    refine w_aload_n gz_62_12 rfl ?_
    refine v_getI (j := 9) gz_62_13 rfl is_82 rd_5 rfl (fun v29 ev29 pv29 qv29 => ?_)
    have zv29 := ev29.trans w18
    refine w_ifne (t := 28) gz_62_16 rfl (fun u30 => by exfalso; omega) (fun u30 => ?_)
    refine w_aload_n gz_62_19 rfl ?_
    refine w_ldcS gz_62_20 (by decide) ?_
    refine w_inv (k := 0) (as := [(3, ((12 : Nat) : Int))]) (r := []) (x := 82) (ls0 := [(2, 82), (3, ((12 : Nat) : Int))]) gz_62_22 gm_40 rfl is_82 rd_5 rfl rfl rfl rfl rfl (c_Reader_takeWord9_f0 (d := d) (x1 := ((12 : Nat) : Int)) (by decide) (ev29.symm.trans (by omega)) Al_h12t22 Cu_h12t23 (fun h31 frh31 w32 w33 xp34 xp35 Al_h31t36 Cu_h31t37 => ?_) (fun h38 frh38 w39 xp40 xp41 Al_h38t42 Cu_h38t43 => ?_))
    ·
      have gh31 : my_fr [(4, 4), (4, 5), (4, 7), (4, 8), (4, 9), (5, 5), (5, 6), (5, 7), (5, 8), (5, 9), (32, -1), (33, -1), (34, -1), (35, -1), (37, -1)] h h31 := my_fr.tr gh12 (frh31.mo rfl)
      have Ln_h31 : Ln h31 := Ln_ag (my_ag.fr frh31 rfl) Ln_h12
      have Sp_h31 : Sp h31 wv := Sp_ag (my_ag.fr frh31 rfl) hwv Ln_h12 Sp_h12
      have St5_h31 : St5 h31 := St5_ag (my_ag.fr frh31 rfl) Ln_h12 St5_h12
      have Lo_h31 : Lo h h31 := Lo_ag (my_ag.fr frh31 rfl) Ln_h12 Lo_h12
      show wp l rho (d + 6) 62 25 [(2, 82), (0, v13), (9, 0)] [(0, 0)] h31 Q
      rw [show wc ((12 : Nat) : Int) = 99 from by decide] at xp34
      have tE44 : cs h12 = cs h := cs_eq (fun j => my_fr.at gh12 is_92 rfl) (my_fr.at gh12 is_82 rfl)
      rw [tE44] at xp34
      have ps45 : h12 82 7 = (sN (cs h) (h 82 7)) := xp19
      rw [ps45] at xp34
      rw [ps45] at xp35
      refine w_ifne (t := 29) gz_62_25 rfl (fun u46 => by exfalso; omega) (fun u46 => ?_)
      have psR : h31 82 7 = h31 82 7 := (rfl : h31 82 7 = h31 82 7)
      have npsR : cs h31 = cs h := cs_eq (fun j => my_fr.at gh31 is_92 rfl) (my_fr.at gh31 is_82 rfl)
      have c47 := (rfl : h31 82 9 = h31 82 9)
      exact w_vret gz_62_28 gm_62 (k0 h31 (gh31) (by omega) (by omega) (by first | exact Lo_h31 | exact std | (unfold sumR; first | exact Or.inr (Or.inr ⟨by omega, by omega, Or.inr ⟨by omega, Or.inr ⟨by omega, Or.inr (Or.inr ⟨by omega, by omega, Or.inr ⟨by omega, by omega, by omega⟩⟩)⟩⟩⟩) | exact Or.inr (Or.inr ⟨by omega, by omega, Or.inr ⟨by omega, Or.inr ⟨by omega, Or.inr (Or.inr ⟨by omega, by omega, Or.inl ⟨by omega, by omega⟩⟩)⟩⟩⟩) | exact Or.inr (Or.inr ⟨by omega, by omega, Or.inr ⟨by omega, Or.inr ⟨by omega, or_assoc.mp (Or.inl (by omega))⟩⟩⟩) | exact Or.inr (Or.inr ⟨by omega, by omega, Or.inr ⟨by omega, Or.inl ⟨by omega, by omega, by omega⟩⟩⟩) | exact Or.inr (Or.inr ⟨by omega, by omega, Or.inl ⟨by omega, by omega⟩⟩) | exact or_assoc.mp (Or.inl (by omega))) | omega) (by first | exact Lo_h31 | exact std | (unfold sumR; first | exact Or.inr (Or.inr ⟨by omega, by omega, Or.inr ⟨by omega, Or.inr ⟨by omega, Or.inr (Or.inr ⟨by omega, by omega, Or.inr ⟨by omega, by omega, by omega⟩⟩)⟩⟩⟩) | exact Or.inr (Or.inr ⟨by omega, by omega, Or.inr ⟨by omega, Or.inr ⟨by omega, Or.inr (Or.inr ⟨by omega, by omega, Or.inl ⟨by omega, by omega⟩⟩)⟩⟩⟩) | exact Or.inr (Or.inr ⟨by omega, by omega, Or.inr ⟨by omega, Or.inr ⟨by omega, or_assoc.mp (Or.inl (by omega))⟩⟩⟩) | exact Or.inr (Or.inr ⟨by omega, by omega, Or.inr ⟨by omega, Or.inl ⟨by omega, by omega, by omega⟩⟩⟩) | exact Or.inr (Or.inr ⟨by omega, by omega, Or.inl ⟨by omega, by omega⟩⟩) | exact or_assoc.mp (Or.inl (by omega))) | omega) Ln_h31 Sp_h31 Al_h31t36 Cu_h31t37)
    ·
      have gh38 : my_fr [(4, 4), (4, 5), (4, 7), (4, 8), (4, 9), (5, 5), (5, 6), (5, 7), (5, 8), (5, 9), (32, -1), (33, -1), (34, -1), (35, -1), (37, -1)] h h38 := my_fr.tr gh12 (frh38.mo rfl)
      have Ln_h38 : Ln h38 := Ln_ag (my_ag.fr frh38 rfl) Ln_h12
      have Sp_h38 : Sp h38 wv := Sp_ag (my_ag.fr frh38 rfl) hwv Ln_h12 Sp_h12
      have St5_h38 : St5 h38 := St5_ag (my_ag.fr frh38 rfl) Ln_h12 St5_h12
      have Lo_h38 : Lo h h38 := Lo_ag (my_ag.fr frh38 rfl) Ln_h12 Lo_h12
      show wp l rho (d + 6) 62 25 [(2, 82), (0, v13), (9, 0)] [(0, 1)] h38 Q
      have tE48 : cs h12 = cs h := cs_eq (fun j => my_fr.at gh12 is_92 rfl) (my_fr.at gh12 is_82 rfl)
      rw [tE48] at xp40
      have ps49 : h12 82 7 = (sN (cs h) (h 82 7)) := xp19
      rw [ps49] at xp40
      rw [show wc ((12 : Nat) : Int) = 99 from by decide] at xp41
      rw [tE48] at xp41
      rw [ps49] at xp41
      have ck50 := Cu_s Cu_h38t43
      rw [show cs h38 = cs h from cs_eq (fun j => my_fr.at gh38 is_92 rfl) (my_fr.at gh38 is_82 rfl)] at ck50
      rw [show h38 82 7 = (sN (cs h) (((sN (cs h) (h 82 7))))) from xp40] at ck50
      have cv51 := Cu_v Cu_h38t43
      rw [show cs h38 = cs h from cs_eq (fun j => my_fr.at gh38 is_92 rfl) (my_fr.at gh38 is_82 rfl)] at cv51
      rw [show h38 82 7 = (sN (cs h) (((sN (cs h) (h 82 7))))) from xp40] at cv51
      refine w_ifne (t := 29) gz_62_25 rfl (fun u52 => ?_) (fun u52 => by exfalso; omega)
      refine w_aload_n gz_62_29 rfl ?_
      refine w_aload_n gz_62_30 rfl ?_
      refine v_getR (j := 2) gz_62_31 rfl is_82 rd_5 rfl (fun v53 ev53 tv53 => ?_)
      have zv53 : v3 = v53 := (ev53.trans ((my_fr.at frh38 is_82 rfl).trans ((my_fr.at frh12 is_82 rfl).trans ev3.symm))).symm
      subst zv53
      have ce54 : h38 82 2 = v3 := ((my_fr.at frh38 is_82 rfl).trans ((my_fr.at frh12 is_82 rfl).trans ev3.symm))
      have ce55 : h38 v3 4 = h v3 4 := ((my_fr.at frh38 tv3 rfl).trans ((my_fr.at frh12 tv3 rfl).trans (rfl : h v3 4 = h v3 4)))
      have sE37 : v3 = h 82 2 := by first | assumption | omega
      refine v_getI (j := 4) gz_62_34 rfl tv3 rd_4 rfl (fun v56 ev56 pv56 qv56 => ?_)
      have zv56 := ev56.trans ((my_fr.at frh38 tv3 rfl).trans ((my_fr.at frh12 tv3 rfl).trans ev5.symm))
      have c37 : v56 = h (h 82 2) 4 := by rw [← sE37]; omega
      refine w_inv (k := 0) (as := [(0, v56)]) (r := []) (x := 82) (ls0 := [(2, 82), (0, v56)]) gz_62_37 gm_44 rfl is_82 rd_5 rfl rfl rfl rfl rfl ?_
      refine w_aload_n gz_44_0 rfl ?_
      refine v_getI (j := 6) gz_44_1 rfl is_82 rd_5 rfl (fun v57 ev57 pv57 qv57 => ?_)
      refine w_iconst gz_44_4 (by decide) ?_
      refine w_iceq (t := 15) gz_44_5 rfl (fun u58 => ?_) (fun u58 => ?_)
      ·
        refine w_aload_n gz_44_15 rfl ?_
        refine v_getI (j := 8) gz_44_16 rfl is_82 rd_5 rfl (fun v59 ev59 pv59 qv59 => ?_)
        refine w_iload_n gz_44_19 rfl ?_
        refine w_iclt (t := 30) gz_44_20 rfl (fun u60 => ?_) (fun u60 => ?_)
        ·
          refine w_aload_n gz_44_30 rfl ?_
          refine v_getI (j := 9) gz_44_31 rfl is_82 rd_5 rfl (fun v61 ev61 pv61 qv61 => ?_)
          have zv61 := ev61.trans w39
          refine w_ifne (t := 44) gz_44_34 rfl (fun u62 => by exfalso; omega) (fun u62 => ?_)
          refine w_aload_n gz_44_37 rfl ?_
          refine v_getI (j := 8) gz_44_38 rfl is_82 rd_5 rfl (fun v63 ev63 pv63 qv63 => ?_)
          have zv63 := ev63.trans ev59.symm
          refine w_goto (t := 45) gz_44_41 rfl ?_
          refine w_iret gz_44_45 gm_44 ?_
          show wp l rho (d + 6) 62 40 [(2, 82), (0, v13), (9, 0)] [(0, v63)] h38 Q
          refine w_istore_n (ls' := [(2, 82), (0, v13), (0, v63)]) gz_62_40 gm_62 rfl rfl rfl ?_
          refine w_iload_n gz_62_41 rfl ?_
          refine w_iconst gz_62_42 (by decide) ?_
          refine w_iceq (t := 59) gz_62_43 rfl (fun u64 => by exfalso; omega) (fun u64 => ?_)
          refine w_iload_n gz_62_46 rfl ?_
          refine w_iload_n gz_62_47 rfl ?_
          refine w_icne (t := 59) gz_62_48 rfl (fun u65 => ?_) (fun u65 => ?_)
          ·
            refine w_iload_n gz_62_59 rfl ?_
            refine w_iconst gz_62_60 (by decide) ?_
            refine w_iceq (t := 84) gz_62_61 rfl (fun u66 => by exfalso; omega) (fun u66 => ?_)
            refine w_aload_n gz_62_64 rfl ?_
            refine w_inv (k := 2) (as := []) (r := []) (x := 82) (ls0 := [(2, 82), (9, 0), (9, 0)]) gz_62_65 gm_37 rfl is_82 rd_5 rfl rfl rfl rfl rfl (c_Reader_nextToken9_f0 (d := (d + 4))  (ev61.symm.trans (by omega)) Al_h38t42 (fun h67 frh67 w68 w69 w70 xp71 xp72 Al_h67t73 Cu_h67t74 => ?_))
            have gh67 : my_fr [(4, 4), (4, 5), (4, 7), (4, 8), (4, 9), (5, 5), (5, 6), (5, 7), (5, 8), (5, 9), (32, -1), (33, -1), (34, -1), (35, -1), (37, -1)] h h67 := my_fr.tr gh38 (frh67.mo rfl)
            have Ln_h67 : Ln h67 := Ln_ag (my_ag.fr frh67 rfl) Ln_h38
            have Sp_h67 : Sp h67 wv := Sp_ag (my_ag.fr frh67 rfl) hwv Ln_h38 Sp_h38
            have St5_h67 : St5 h67 := St5_ag (my_ag.fr frh67 rfl) Ln_h38 St5_h38
            have Lo_h67 : Lo h h67 := Lo_ag (my_ag.fr frh67 rfl) Ln_h38 Lo_h38
            show wp l rho (d + 6) 62 68 [(2, 82), (0, v13), (0, v63)] [] h67 Q
            have xc75 := xp71 Cu_h38t43
            have tE76 : cs h38 = cs h := cs_eq (fun j => my_fr.at gh38 is_92 rfl) (my_fr.at gh38 is_82 rfl)
            rw [tE76] at xc75
            have ps77 : h38 82 7 = (sN (cs h) (((sN (cs h) (h 82 7))))) := xp40
            rw [ps77] at xc75
            have ck78 := Cu_s Cu_h67t74
            rw [show cs h67 = cs h from cs_eq (fun j => my_fr.at gh67 is_92 rfl) (my_fr.at gh67 is_82 rfl)] at ck78
            rw [show h67 82 7 = (sN (cs h) (((sN (cs h) (((sN (cs h) (h 82 7)))))))) from xc75] at ck78
            have cv79 := Cu_v Cu_h67t74
            rw [show cs h67 = cs h from cs_eq (fun j => my_fr.at gh67 is_92 rfl) (my_fr.at gh67 is_82 rfl)] at cv79
            rw [show h67 82 7 = (sN (cs h) (((sN (cs h) (((sN (cs h) (h 82 7)))))))) from xc75] at cv79
            refine w_aload_n gz_62_68 rfl ?_
            refine w_inv (k := 0) (as := []) (r := []) (x := 82) (ls0 := [(2, 82)]) gz_62_69 gm_47 rfl is_82 rd_5 rfl rfl rfl rfl rfl (c_Reader_endsHere9_f0 (d := (d + 3))  (((my_fr.at frh67 is_82 rfl).trans ev61.symm).trans (by omega)) Al_h67t73 Cu_h67t74 (fun h80 frh80 w81 w82 xp83 xp84 Al_h80t85 Cu_h80t86 => ?_) (fun h87 frh87 w88 xp89 xp90 Al_h87t91 Cu_h87t92 => ?_))
            ·
              have gh80 : my_fr [(4, 4), (4, 5), (4, 7), (4, 8), (4, 9), (5, 5), (5, 6), (5, 7), (5, 8), (5, 9), (32, -1), (33, -1), (34, -1), (35, -1), (37, -1)] h h80 := my_fr.tr gh67 (frh80.mo rfl)
              have Ln_h80 : Ln h80 := Ln_ag (my_ag.fr frh80 rfl) Ln_h67
              have Sp_h80 : Sp h80 wv := Sp_ag (my_ag.fr frh80 rfl) hwv Ln_h67 Sp_h67
              have St5_h80 : St5 h80 := St5_ag (my_ag.fr frh80 rfl) Ln_h67 St5_h67
              have Lo_h80 : Lo h h80 := Lo_ag (my_ag.fr frh80 rfl) Ln_h67 Lo_h67
              show wp l rho (d + 6) 62 72 [(2, 82), (0, v13), (0, v63)] [(0, 0)] h80 Q
              have tE93 : cs h67 = cs h := cs_eq (fun j => my_fr.at gh67 is_92 rfl) (my_fr.at gh67 is_82 rfl)
              rw [tE93] at xp83
              have ps94 : h67 82 7 = (sN (cs h) (((sN (cs h) (((sN (cs h) (h 82 7)))))))) := xc75
              rw [ps94] at xp83
              rw [ps94] at xp84
              refine w_ifeq (t := 84) gz_62_72 rfl (fun u95 => ?_) (fun u95 => by exfalso; omega)
              have psR : h80 82 7 = h80 82 7 := (rfl : h80 82 7 = h80 82 7)
              have npsR : cs h80 = cs h := cs_eq (fun j => my_fr.at gh80 is_92 rfl) (my_fr.at gh80 is_82 rfl)
              have c96 := (rfl : h80 82 9 = h80 82 9)
              exact w_vret gz_62_84 gm_62 (k0 h80 (gh80) (by omega) (by omega) (by first | exact Lo_h80 | exact std | (unfold sumR; first | exact Or.inr (Or.inr ⟨by omega, by omega, Or.inr ⟨by omega, Or.inr ⟨by omega, Or.inr (Or.inr ⟨by omega, by omega, Or.inr ⟨by omega, by omega, by omega⟩⟩)⟩⟩⟩) | exact Or.inr (Or.inr ⟨by omega, by omega, Or.inr ⟨by omega, Or.inr ⟨by omega, Or.inr (Or.inr ⟨by omega, by omega, Or.inl ⟨by omega, by omega⟩⟩)⟩⟩⟩) | exact Or.inr (Or.inr ⟨by omega, by omega, Or.inr ⟨by omega, Or.inr ⟨by omega, or_assoc.mp (Or.inl (by omega))⟩⟩⟩) | exact Or.inr (Or.inr ⟨by omega, by omega, Or.inr ⟨by omega, Or.inl ⟨by omega, by omega, by omega⟩⟩⟩) | exact Or.inr (Or.inr ⟨by omega, by omega, Or.inl ⟨by omega, by omega⟩⟩) | exact or_assoc.mp (Or.inl (by omega))) | omega) (by first | exact Lo_h80 | exact std | (unfold sumR; first | exact Or.inr (Or.inr ⟨by omega, by omega, Or.inr ⟨by omega, Or.inr ⟨by omega, Or.inr (Or.inr ⟨by omega, by omega, Or.inr ⟨by omega, by omega, by omega⟩⟩)⟩⟩⟩) | exact Or.inr (Or.inr ⟨by omega, by omega, Or.inr ⟨by omega, Or.inr ⟨by omega, Or.inr (Or.inr ⟨by omega, by omega, Or.inl ⟨by omega, by omega⟩⟩)⟩⟩⟩) | exact Or.inr (Or.inr ⟨by omega, by omega, Or.inr ⟨by omega, Or.inr ⟨by omega, or_assoc.mp (Or.inl (by omega))⟩⟩⟩) | exact Or.inr (Or.inr ⟨by omega, by omega, Or.inr ⟨by omega, Or.inl ⟨by omega, by omega, by omega⟩⟩⟩) | exact Or.inr (Or.inr ⟨by omega, by omega, Or.inl ⟨by omega, by omega⟩⟩) | exact or_assoc.mp (Or.inl (by omega))) | omega) Ln_h80 Sp_h80 Al_h80t85 Cu_h80t86)
            ·
              have gh87 : my_fr [(4, 4), (4, 5), (4, 7), (4, 8), (4, 9), (5, 5), (5, 6), (5, 7), (5, 8), (5, 9), (32, -1), (33, -1), (34, -1), (35, -1), (37, -1)] h h87 := my_fr.tr gh67 (frh87.mo rfl)
              have Ln_h87 : Ln h87 := Ln_ag (my_ag.fr frh87 rfl) Ln_h67
              have Sp_h87 : Sp h87 wv := Sp_ag (my_ag.fr frh87 rfl) hwv Ln_h67 Sp_h67
              have St5_h87 : St5 h87 := St5_ag (my_ag.fr frh87 rfl) Ln_h67 St5_h67
              have Lo_h87 : Lo h h87 := Lo_ag (my_ag.fr frh87 rfl) Ln_h67 Lo_h67
              show wp l rho (d + 6) 62 72 [(2, 82), (0, v13), (0, v63)] [(0, 1)] h87 Q
              have tE97 : cs h67 = cs h := cs_eq (fun j => my_fr.at gh67 is_92 rfl) (my_fr.at gh67 is_82 rfl)
              rw [tE97] at xp89
              have ps98 : h67 82 7 = (sN (cs h) (((sN (cs h) (((sN (cs h) (h 82 7)))))))) := xc75
              rw [ps98] at xp89
              rw [tE97] at xp90
              rw [ps98] at xp90
              have ck99 := Cu_s Cu_h87t92
              rw [show cs h87 = cs h from cs_eq (fun j => my_fr.at gh87 is_92 rfl) (my_fr.at gh87 is_82 rfl)] at ck99
              rw [show h87 82 7 = (sN (cs h) (((sN (cs h) (((sN (cs h) (((sN (cs h) (h 82 7))))))))))) from xp89] at ck99
              have cv100 := Cu_v Cu_h87t92
              rw [show cs h87 = cs h from cs_eq (fun j => my_fr.at gh87 is_92 rfl) (my_fr.at gh87 is_82 rfl)] at cv100
              rw [show h87 82 7 = (sN (cs h) (((sN (cs h) (((sN (cs h) (((sN (cs h) (h 82 7))))))))))) from xp89] at cv100
              refine w_ifeq (t := 84) gz_62_72 rfl (fun u101 => by exfalso; omega) (fun u101 => ?_)
              refine w_aload_n gz_62_75 rfl ?_
              refine v_getR (j := 2) gz_62_76 rfl is_82 rd_5 rfl (fun v102 ev102 tv102 => ?_)
              have zv102 : v3 = v102 := (ev102.trans ((my_fr.at frh87 is_82 rfl).trans ((my_fr.at frh67 is_82 rfl).trans ((my_fr.at frh38 is_82 rfl).trans ((my_fr.at frh12 is_82 rfl).trans ev3.symm))))).symm
              subst zv102
              refine w_iload_n gz_62_79 rfl ?_
              refine w_iload_n gz_62_80 rfl ?_
              have ce103 : h87 82 2 = v3 := ((my_fr.at frh87 is_82 rfl).trans ((my_fr.at frh67 is_82 rfl).trans ((my_fr.at frh38 is_82 rfl).trans ((my_fr.at frh12 is_82 rfl).trans ev3.symm))))
              have s5a := St5_h87
              have s5e : v3 = h87 82 2 := by first | assumption | omega
              unfold St5 at s5a
              rw [← s5e] at s5a
              have ce104 : h87 v3 1 = h v3 1 := ((my_fr.at frh87 tv3 rfl).trans ((my_fr.at frh67 tv3 rfl).trans ((my_fr.at frh38 tv3 rfl).trans ((my_fr.at frh12 tv3 rfl).trans (rfl : h v3 1 = h v3 1)))))
              have ce105 : h87 v3 3 = h v3 3 := ((my_fr.at frh87 tv3 rfl).trans ((my_fr.at frh67 tv3 rfl).trans ((my_fr.at frh38 tv3 rfl).trans ((my_fr.at frh12 tv3 rfl).trans (rfl : h v3 3 = h v3 3)))))
              have ce106 : h87 v3 4 = h v3 4 := ((my_fr.at frh87 tv3 rfl).trans ((my_fr.at frh67 tv3 rfl).trans ((my_fr.at frh38 tv3 rfl).trans ((my_fr.at frh12 tv3 rfl).trans (rfl : h v3 4 = h v3 4)))))
              have ce107 : h87 v3 9 = h v3 9 := ((my_fr.at frh87 tv3 rfl).trans ((my_fr.at frh67 tv3 rfl).trans ((my_fr.at frh38 tv3 rfl).trans ((my_fr.at frh12 tv3 rfl).trans (rfl : h v3 9 = h v3 9)))))
              have sE : v3 = h 82 2 := by first | assumption | omega
              have eS1 : h87 v3 1 = h v3 1 := by omega
              have eS3 : h87 v3 3 = h v3 3 := by omega
              have eS4 : h87 v3 4 = h v3 4 := by omega
              have eS9 : h87 v3 9 = h v3 9 := by omega
              refine w_inv (k := 0) (as := [(0, v63), (0, v13)]) (r := []) (x := v3) (ls0 := [(2, v3), (0, v13), (0, v63)]) gz_62_81 gm_63 rfl tv3 rd_4 rfl rfl rfl rfl rfl (c_Lens_addSum (d := (d + 4)) (x0 := v3) (x1 := v13) (x2 := v63) tv3 (by omega) (by omega) (by omega) (by omega) (by first | assumption | exact no_such_saying | exact Fp_told (by omega) (by omega) | omega | (subst_vars; omega) | omega) (fun h108 frh108 fxh108 w109 w110 w111 w112 xp113 => ?_))
              have gh108 : my_fr [(4, 4), (4, 5), (4, 7), (4, 8), (4, 9), (5, 5), (5, 6), (5, 7), (5, 8), (5, 9), (32, -1), (33, -1), (34, -1), (35, -1), (37, -1)] h h108 := my_fr.tr gh87 (frh108.mo rfl)
              have Ln_h108 : Ln h108 := Ln_fx fxh108 (by first | assumption | omega) Ln_h87
              have Lo_h108 : Lo h h108 := Lo_fx fxh108 (by first | assumption | omega) Ln_h87 Lo_h87
              have Al_h108 : Al h108 := Al_ag (my_ag.fr frh108 rfl) Al_h87t91
              have Cu_h108 : Cu h108 := Cu_ag (my_ag.fr frh108 rfl) Cu_h87t92
              show wp l rho (d + 6) 62 84 [(2, 82), (0, v13), (0, v63)] [] h108 Q
              have Sp_h108t114 : Sp h108 wv := Sp_add fxh108 (by first | assumption | omega) hwv Ln_h87 Sp_h87 xp113 (by have := St5_h87.1; omega) (by omega) (by omega)
              have ce115 : h108 82 2 = v3 := ((my_fr.at frh108 is_82 rfl).trans ((my_fr.at frh87 is_82 rfl).trans ((my_fr.at frh67 is_82 rfl).trans ((my_fr.at frh38 is_82 rfl).trans ((my_fr.at frh12 is_82 rfl).trans ev3.symm)))))
              have std := Std_add xp113 sE (by omega) eS3 eS4 eS9 eS1
              have psR : h108 82 7 = (sN (cs h) (((sN (cs h) (((sN (cs h) (((sN (cs h) (h 82 7))))))))))) := ((my_fr.at frh108 is_82 rfl).trans xp89)
              have npsR : cs h108 = cs h := cs_eq (fun j => my_fr.at gh108 is_92 rfl) (my_fr.at gh108 is_82 rfl)
              have c116 := ((my_fr.at frh108 is_82 rfl).trans w88)
              exact w_vret gz_62_84 gm_62 (k1 h108 (gh108) (by omega) (by first | exact Lo_h108 | exact std | (unfold sumR; first | exact Or.inr (Or.inr ⟨by omega, by omega, Or.inr ⟨by omega, Or.inr ⟨by omega, Or.inr (Or.inr ⟨by omega, by omega, Or.inr ⟨by omega, by omega, by omega⟩⟩)⟩⟩⟩) | exact Or.inr (Or.inr ⟨by omega, by omega, Or.inr ⟨by omega, Or.inr ⟨by omega, Or.inr (Or.inr ⟨by omega, by omega, Or.inl ⟨by omega, by omega⟩⟩)⟩⟩⟩) | exact Or.inr (Or.inr ⟨by omega, by omega, Or.inr ⟨by omega, Or.inr ⟨by omega, or_assoc.mp (Or.inl (by omega))⟩⟩⟩) | exact Or.inr (Or.inr ⟨by omega, by omega, Or.inr ⟨by omega, Or.inl ⟨by omega, by omega, by omega⟩⟩⟩) | exact Or.inr (Or.inr ⟨by omega, by omega, Or.inl ⟨by omega, by omega⟩⟩) | exact or_assoc.mp (Or.inl (by omega))) | omega) (by first | exact Lo_h108 | exact std | (unfold sumR; first | exact Or.inr (Or.inr ⟨by omega, by omega, Or.inr ⟨by omega, Or.inr ⟨by omega, Or.inr (Or.inr ⟨by omega, by omega, Or.inr ⟨by omega, by omega, by omega⟩⟩)⟩⟩⟩) | exact Or.inr (Or.inr ⟨by omega, by omega, Or.inr ⟨by omega, Or.inr ⟨by omega, Or.inr (Or.inr ⟨by omega, by omega, Or.inl ⟨by omega, by omega⟩⟩)⟩⟩⟩) | exact Or.inr (Or.inr ⟨by omega, by omega, Or.inr ⟨by omega, Or.inr ⟨by omega, or_assoc.mp (Or.inl (by omega))⟩⟩⟩) | exact Or.inr (Or.inr ⟨by omega, by omega, Or.inr ⟨by omega, Or.inl ⟨by omega, by omega, by omega⟩⟩⟩) | exact Or.inr (Or.inr ⟨by omega, by omega, Or.inl ⟨by omega, by omega⟩⟩) | exact or_assoc.mp (Or.inl (by omega))) | omega) (by first | exact Lo_h108 | exact std | (unfold sumR; first | exact Or.inr (Or.inr ⟨by omega, by omega, Or.inr ⟨by omega, Or.inr ⟨by omega, Or.inr (Or.inr ⟨by omega, by omega, Or.inr ⟨by omega, by omega, by omega⟩⟩)⟩⟩⟩) | exact Or.inr (Or.inr ⟨by omega, by omega, Or.inr ⟨by omega, Or.inr ⟨by omega, Or.inr (Or.inr ⟨by omega, by omega, Or.inl ⟨by omega, by omega⟩⟩)⟩⟩⟩) | exact Or.inr (Or.inr ⟨by omega, by omega, Or.inr ⟨by omega, Or.inr ⟨by omega, or_assoc.mp (Or.inl (by omega))⟩⟩⟩) | exact Or.inr (Or.inr ⟨by omega, by omega, Or.inr ⟨by omega, Or.inl ⟨by omega, by omega, by omega⟩⟩⟩) | exact Or.inr (Or.inr ⟨by omega, by omega, Or.inl ⟨by omega, by omega⟩⟩) | exact or_assoc.mp (Or.inl (by omega))) | omega) Ln_h108 Sp_h108t114 Al_h108 Cu_h108)
          ·
            refine w_aload_n gz_62_51 rfl ?_
            refine w_iconst gz_62_52 (by decide) ?_
            refine w_inv (k := 0) (as := [(0, 3)]) (r := []) (x := 82) (ls0 := [(2, 82), (0, 3)]) gz_62_53 gm_42 rfl is_82 rd_5 rfl rfl rfl rfl rfl ?_
            refine w_aload_n gz_42_0 rfl ?_
            refine v_getI (j := 9) gz_42_1 rfl is_82 rd_5 rfl (fun v117 ev117 pv117 qv117 => ?_)
            have zv117 := ev117.trans ev61.symm
            refine w_ifne (t := 20) gz_42_4 rfl (fun u118 => by exfalso; omega) (fun u118 => ?_)
            refine w_aload_n gz_42_7 rfl ?_
            refine w_iload_n gz_42_8 rfl ?_
            refine w_bipush gz_42_9 (by decide) ?_
            refine w_aload_n gz_42_11 rfl ?_
            refine v_getI (j := 7) gz_42_12 rfl is_82 rd_5 rfl (fun v119 ev119 pv119 qv119 => ?_)
            refine w_imul gz_42_15 ⟨by omega, by omega⟩ ?_
            refine w_iadd gz_42_16 ⟨by omega, by omega⟩ ?_
            refine v_putI (j := 9) gz_42_17 rfl is_82 rd_5 rfl (by omega) (by omega) rfl (fun h120 fh120 => ?_)
            have gh120 : my_fr [(4, 4), (4, 5), (4, 7), (4, 8), (4, 9), (5, 5), (5, 6), (5, 7), (5, 8), (5, 9), (32, -1), (33, -1), (34, -1), (35, -1), (37, -1)] h h120 := my_fr.up gh38 is_82 fh120 rfl
            have Ln_h120 : Ln h120 := Ln_ag (my_ag.up fh120 is_82 rfl) Ln_h38
            have Sp_h120 : Sp h120 wv := Sp_ag (my_ag.up fh120 is_82 rfl) hwv Ln_h38 Sp_h38
            have St5_h120 : St5 h120 := St5_ag (my_ag.up fh120 is_82 rfl) Ln_h38 St5_h38
            have Lo_h120 : Lo h h120 := Lo_ag (my_ag.up fh120 is_82 rfl) Ln_h38 Lo_h38
            have Al_h120 : Al h120 := Al_ag (my_ag.up fh120 is_82 rfl) Al_h38t42
            have Cu_h120 : Cu h120 := Cu_ag (my_ag.up fh120 is_82 rfl) Cu_h38t43
            refine w_vret gz_42_20 gm_42 ?_
            show wp l rho (d + 6) 62 56 [(2, 82), (0, v13), (0, v63)] [] h120 Q
            refine w_goto (t := 84) gz_62_56 rfl ?_
            have psR : h120 82 7 = (sN (cs h) (((sN (cs h) (h 82 7))))) := ((my_up_fld fh120 (by decide)).trans xp40)
            have npsR : cs h120 = cs h := cs_eq (fun j => my_fr.at gh120 is_92 rfl) (my_fr.at gh120 is_82 rfl)
            have c121 := (my_up_self fh120)
            exact w_vret gz_62_84 gm_62 (k0 h120 (gh120) (by omega) (by omega) (by first | exact Lo_h120 | exact std | (unfold sumR; first | exact Or.inr (Or.inr ⟨by omega, by omega, Or.inr ⟨by omega, Or.inr ⟨by omega, Or.inr (Or.inr ⟨by omega, by omega, Or.inr ⟨by omega, by omega, by omega⟩⟩)⟩⟩⟩) | exact Or.inr (Or.inr ⟨by omega, by omega, Or.inr ⟨by omega, Or.inr ⟨by omega, Or.inr (Or.inr ⟨by omega, by omega, Or.inl ⟨by omega, by omega⟩⟩)⟩⟩⟩) | exact Or.inr (Or.inr ⟨by omega, by omega, Or.inr ⟨by omega, Or.inr ⟨by omega, or_assoc.mp (Or.inl (by omega))⟩⟩⟩) | exact Or.inr (Or.inr ⟨by omega, by omega, Or.inr ⟨by omega, Or.inl ⟨by omega, by omega, by omega⟩⟩⟩) | exact Or.inr (Or.inr ⟨by omega, by omega, Or.inl ⟨by omega, by omega⟩⟩) | exact or_assoc.mp (Or.inl (by omega))) | omega) (by first | exact Lo_h120 | exact std | (unfold sumR; first | exact Or.inr (Or.inr ⟨by omega, by omega, Or.inr ⟨by omega, Or.inr ⟨by omega, Or.inr (Or.inr ⟨by omega, by omega, Or.inr ⟨by omega, by omega, by omega⟩⟩)⟩⟩⟩) | exact Or.inr (Or.inr ⟨by omega, by omega, Or.inr ⟨by omega, Or.inr ⟨by omega, Or.inr (Or.inr ⟨by omega, by omega, Or.inl ⟨by omega, by omega⟩⟩)⟩⟩⟩) | exact Or.inr (Or.inr ⟨by omega, by omega, Or.inr ⟨by omega, Or.inr ⟨by omega, or_assoc.mp (Or.inl (by omega))⟩⟩⟩) | exact Or.inr (Or.inr ⟨by omega, by omega, Or.inr ⟨by omega, Or.inl ⟨by omega, by omega, by omega⟩⟩⟩) | exact Or.inr (Or.inr ⟨by omega, by omega, Or.inl ⟨by omega, by omega⟩⟩) | exact or_assoc.mp (Or.inl (by omega))) | omega) Ln_h120 Sp_h120 Al_h120 Cu_h120)
        ·
          refine w_aload_n gz_44_23 rfl ?_
          refine w_iconst gz_44_24 (by decide) ?_
          refine w_inv (k := 0) (as := [(0, 4)]) (r := []) (x := 82) (ls0 := [(2, 82), (0, 4)]) gz_44_25 gm_42 rfl is_82 rd_5 rfl rfl rfl rfl rfl ?_
          refine w_aload_n gz_42_0 rfl ?_
          refine v_getI (j := 9) gz_42_1 rfl is_82 rd_5 rfl (fun v122 ev122 pv122 qv122 => ?_)
          have zv122 := ev122.trans w39
          refine w_ifne (t := 20) gz_42_4 rfl (fun u123 => by exfalso; omega) (fun u123 => ?_)
          refine w_aload_n gz_42_7 rfl ?_
          refine w_iload_n gz_42_8 rfl ?_
          refine w_bipush gz_42_9 (by decide) ?_
          refine w_aload_n gz_42_11 rfl ?_
          refine v_getI (j := 7) gz_42_12 rfl is_82 rd_5 rfl (fun v124 ev124 pv124 qv124 => ?_)
          refine w_imul gz_42_15 ⟨by omega, by omega⟩ ?_
          refine w_iadd gz_42_16 ⟨by omega, by omega⟩ ?_
          refine v_putI (j := 9) gz_42_17 rfl is_82 rd_5 rfl (by omega) (by omega) rfl (fun h125 fh125 => ?_)
          have gh125 : my_fr [(4, 4), (4, 5), (4, 7), (4, 8), (4, 9), (5, 5), (5, 6), (5, 7), (5, 8), (5, 9), (32, -1), (33, -1), (34, -1), (35, -1), (37, -1)] h h125 := my_fr.up gh38 is_82 fh125 rfl
          have Ln_h125 : Ln h125 := Ln_ag (my_ag.up fh125 is_82 rfl) Ln_h38
          have Sp_h125 : Sp h125 wv := Sp_ag (my_ag.up fh125 is_82 rfl) hwv Ln_h38 Sp_h38
          have St5_h125 : St5 h125 := St5_ag (my_ag.up fh125 is_82 rfl) Ln_h38 St5_h38
          have Lo_h125 : Lo h h125 := Lo_ag (my_ag.up fh125 is_82 rfl) Ln_h38 Lo_h38
          have Al_h125 : Al h125 := Al_ag (my_ag.up fh125 is_82 rfl) Al_h38t42
          have Cu_h125 : Cu h125 := Cu_ag (my_ag.up fh125 is_82 rfl) Cu_h38t43
          refine w_vret gz_42_20 gm_42 ?_
          show wp l rho (d + 5) 44 28 [(2, 82), (0, v56)] [] h125 _
          refine w_iconst gz_44_28 (by decide) ?_
          refine w_iret gz_44_29 gm_44 ?_
          show wp l rho (d + 6) 62 40 [(2, 82), (0, v13), (9, 0)] [(0, (-1))] h125 Q
          refine w_istore_n (ls' := [(2, 82), (0, v13), (0, (-1))]) gz_62_40 gm_62 rfl rfl rfl ?_
          refine w_iload_n gz_62_41 rfl ?_
          refine w_iconst gz_62_42 (by decide) ?_
          refine w_iceq (t := 59) gz_62_43 rfl (fun u126 => ?_) (fun u126 => by exfalso; omega)
          refine w_iload_n gz_62_59 rfl ?_
          refine w_iconst gz_62_60 (by decide) ?_
          refine w_iceq (t := 84) gz_62_61 rfl (fun u127 => ?_) (fun u127 => by exfalso; omega)
          have psR : h125 82 7 = (sN (cs h) (((sN (cs h) (h 82 7))))) := ((my_up_fld fh125 (by decide)).trans xp40)
          have npsR : cs h125 = cs h := cs_eq (fun j => my_fr.at gh125 is_92 rfl) (my_fr.at gh125 is_82 rfl)
          have c128 := (my_up_self fh125)
          exact w_vret gz_62_84 gm_62 (k0 h125 (gh125) (by omega) (by omega) (by first | exact Lo_h125 | exact std | (unfold sumR; first | exact Or.inr (Or.inr ⟨by omega, by omega, Or.inr ⟨by omega, Or.inr ⟨by omega, Or.inr (Or.inr ⟨by omega, by omega, Or.inr ⟨by omega, by omega, by omega⟩⟩)⟩⟩⟩) | exact Or.inr (Or.inr ⟨by omega, by omega, Or.inr ⟨by omega, Or.inr ⟨by omega, Or.inr (Or.inr ⟨by omega, by omega, Or.inl ⟨by omega, by omega⟩⟩)⟩⟩⟩) | exact Or.inr (Or.inr ⟨by omega, by omega, Or.inr ⟨by omega, Or.inr ⟨by omega, or_assoc.mp (Or.inl (by omega))⟩⟩⟩) | exact Or.inr (Or.inr ⟨by omega, by omega, Or.inr ⟨by omega, Or.inl ⟨by omega, by omega, by omega⟩⟩⟩) | exact Or.inr (Or.inr ⟨by omega, by omega, Or.inl ⟨by omega, by omega⟩⟩) | exact or_assoc.mp (Or.inl (by omega))) | omega) (by first | exact Lo_h125 | exact std | (unfold sumR; first | exact Or.inr (Or.inr ⟨by omega, by omega, Or.inr ⟨by omega, Or.inr ⟨by omega, Or.inr (Or.inr ⟨by omega, by omega, Or.inr ⟨by omega, by omega, by omega⟩⟩)⟩⟩⟩) | exact Or.inr (Or.inr ⟨by omega, by omega, Or.inr ⟨by omega, Or.inr ⟨by omega, Or.inr (Or.inr ⟨by omega, by omega, Or.inl ⟨by omega, by omega⟩⟩)⟩⟩⟩) | exact Or.inr (Or.inr ⟨by omega, by omega, Or.inr ⟨by omega, Or.inr ⟨by omega, or_assoc.mp (Or.inl (by omega))⟩⟩⟩) | exact Or.inr (Or.inr ⟨by omega, by omega, Or.inr ⟨by omega, Or.inl ⟨by omega, by omega, by omega⟩⟩⟩) | exact Or.inr (Or.inr ⟨by omega, by omega, Or.inl ⟨by omega, by omega⟩⟩) | exact or_assoc.mp (Or.inl (by omega))) | omega) Ln_h125 Sp_h125 Al_h125 Cu_h125)
      ·
        refine w_aload_n gz_44_8 rfl ?_
        refine w_iconst gz_44_9 (by decide) ?_
        refine w_inv (k := 0) (as := [(0, 1)]) (r := []) (x := 82) (ls0 := [(2, 82), (0, 1)]) gz_44_10 gm_42 rfl is_82 rd_5 rfl rfl rfl rfl rfl ?_
        refine w_aload_n gz_42_0 rfl ?_
        refine v_getI (j := 9) gz_42_1 rfl is_82 rd_5 rfl (fun v129 ev129 pv129 qv129 => ?_)
        have zv129 := ev129.trans w39
        refine w_ifne (t := 20) gz_42_4 rfl (fun u130 => by exfalso; omega) (fun u130 => ?_)
        refine w_aload_n gz_42_7 rfl ?_
        refine w_iload_n gz_42_8 rfl ?_
        refine w_bipush gz_42_9 (by decide) ?_
        refine w_aload_n gz_42_11 rfl ?_
        refine v_getI (j := 7) gz_42_12 rfl is_82 rd_5 rfl (fun v131 ev131 pv131 qv131 => ?_)
        refine w_imul gz_42_15 ⟨by omega, by omega⟩ ?_
        refine w_iadd gz_42_16 ⟨by omega, by omega⟩ ?_
        refine v_putI (j := 9) gz_42_17 rfl is_82 rd_5 rfl (by omega) (by omega) rfl (fun h132 fh132 => ?_)
        have gh132 : my_fr [(4, 4), (4, 5), (4, 7), (4, 8), (4, 9), (5, 5), (5, 6), (5, 7), (5, 8), (5, 9), (32, -1), (33, -1), (34, -1), (35, -1), (37, -1)] h h132 := my_fr.up gh38 is_82 fh132 rfl
        have Ln_h132 : Ln h132 := Ln_ag (my_ag.up fh132 is_82 rfl) Ln_h38
        have Sp_h132 : Sp h132 wv := Sp_ag (my_ag.up fh132 is_82 rfl) hwv Ln_h38 Sp_h38
        have St5_h132 : St5 h132 := St5_ag (my_ag.up fh132 is_82 rfl) Ln_h38 St5_h38
        have Lo_h132 : Lo h h132 := Lo_ag (my_ag.up fh132 is_82 rfl) Ln_h38 Lo_h38
        have Al_h132 : Al h132 := Al_ag (my_ag.up fh132 is_82 rfl) Al_h38t42
        have Cu_h132 : Cu h132 := Cu_ag (my_ag.up fh132 is_82 rfl) Cu_h38t43
        refine w_vret gz_42_20 gm_42 ?_
        show wp l rho (d + 5) 44 13 [(2, 82), (0, v56)] [] h132 _
        refine w_iconst gz_44_13 (by decide) ?_
        refine w_iret gz_44_14 gm_44 ?_
        show wp l rho (d + 6) 62 40 [(2, 82), (0, v13), (9, 0)] [(0, (-1))] h132 Q
        refine w_istore_n (ls' := [(2, 82), (0, v13), (0, (-1))]) gz_62_40 gm_62 rfl rfl rfl ?_
        refine w_iload_n gz_62_41 rfl ?_
        refine w_iconst gz_62_42 (by decide) ?_
        refine w_iceq (t := 59) gz_62_43 rfl (fun u133 => ?_) (fun u133 => by exfalso; omega)
        refine w_iload_n gz_62_59 rfl ?_
        refine w_iconst gz_62_60 (by decide) ?_
        refine w_iceq (t := 84) gz_62_61 rfl (fun u134 => ?_) (fun u134 => by exfalso; omega)
        have psR : h132 82 7 = (sN (cs h) (((sN (cs h) (h 82 7))))) := ((my_up_fld fh132 (by decide)).trans xp40)
        have npsR : cs h132 = cs h := cs_eq (fun j => my_fr.at gh132 is_92 rfl) (my_fr.at gh132 is_82 rfl)
        have c135 := (my_up_self fh132)
        exact w_vret gz_62_84 gm_62 (k0 h132 (gh132) (by omega) (by omega) (by first | exact Lo_h132 | exact std | (unfold sumR; first | exact Or.inr (Or.inr ⟨by omega, by omega, Or.inr ⟨by omega, Or.inr ⟨by omega, Or.inr (Or.inr ⟨by omega, by omega, Or.inr ⟨by omega, by omega, by omega⟩⟩)⟩⟩⟩) | exact Or.inr (Or.inr ⟨by omega, by omega, Or.inr ⟨by omega, Or.inr ⟨by omega, Or.inr (Or.inr ⟨by omega, by omega, Or.inl ⟨by omega, by omega⟩⟩)⟩⟩⟩) | exact Or.inr (Or.inr ⟨by omega, by omega, Or.inr ⟨by omega, Or.inr ⟨by omega, or_assoc.mp (Or.inl (by omega))⟩⟩⟩) | exact Or.inr (Or.inr ⟨by omega, by omega, Or.inr ⟨by omega, Or.inl ⟨by omega, by omega, by omega⟩⟩⟩) | exact Or.inr (Or.inr ⟨by omega, by omega, Or.inl ⟨by omega, by omega⟩⟩) | exact or_assoc.mp (Or.inl (by omega))) | omega) (by first | exact Lo_h132 | exact std | (unfold sumR; first | exact Or.inr (Or.inr ⟨by omega, by omega, Or.inr ⟨by omega, Or.inr ⟨by omega, Or.inr (Or.inr ⟨by omega, by omega, Or.inr ⟨by omega, by omega, by omega⟩⟩)⟩⟩⟩) | exact Or.inr (Or.inr ⟨by omega, by omega, Or.inr ⟨by omega, Or.inr ⟨by omega, Or.inr (Or.inr ⟨by omega, by omega, Or.inl ⟨by omega, by omega⟩⟩)⟩⟩⟩) | exact Or.inr (Or.inr ⟨by omega, by omega, Or.inr ⟨by omega, Or.inr ⟨by omega, or_assoc.mp (Or.inl (by omega))⟩⟩⟩) | exact Or.inr (Or.inr ⟨by omega, by omega, Or.inr ⟨by omega, Or.inl ⟨by omega, by omega, by omega⟩⟩⟩) | exact Or.inr (Or.inr ⟨by omega, by omega, Or.inl ⟨by omega, by omega⟩⟩) | exact or_assoc.mp (Or.inl (by omega))) | omega) Ln_h132 Sp_h132 Al_h132 Cu_h132)
end MYNReader_readSum9_f0
