/-! contracts, printed by wip/gen/gy.py -/
section MYNDesk_putOn5
theorem c_Desk_putOn5 {l : Launch} {rho : Nat → Int32} {d : Nat} {h : my_H} {Q : my_H → my_V → Prop} {x1 x2 x3 x4 x5 x6 : Int} (t1 : my_is 6 x1) (n_Ln : Ln h) (hlw : LwA h) (hwo : WOk h x1) (xb : zqXf x1) (k0 : ∀ (h' : my_H), my_fr [(2, 11), (2, 12), (2, 13), (2, 14), (2, 15), (2, 16), (7, 0), (7, 1), (7, 2), (7, 3), (7, 4), (7, 5), (8, 0), (8, 1), (30, -1), (31, -1), (41, -1), (42, -1), (43, -1), (44, -1)] h h' → (¬ EdOk h (h (x1 + 1)) x2 x3 x4 x5 x6 ∧ ∀ k j : Int, 0 ≤ k → (k < 94 ∨ 120 ≤ k ∧ k < 151) → h' k j = h k j) → Q h' (0, (-1))) (k1 : ∀ (h' : my_H) (y : Int), my_fr [(2, 11), (2, 12), (2, 13), (2, 14), (2, 15), (2, 16), (7, 0), (7, 1), (7, 2), (7, 3), (7, 4), (7, 5), (8, 0), (8, 1), (30, -1), (31, -1), (41, -1), (42, -1), (43, -1), (44, -1)] h h' → 0 ≤ x2 → x2 ≤ 5 → 0 ≤ x3 → x3 ≤ 2 → (-1) ≤ h' 94 12 → EdOk h (h (x1 + 1)) x2 x3 x4 x5 x6 → PutR h h' x1 x2 x3 x4 x5 x6 y ∧ WOk h' x1 → (∀ k j : Int, 0 ≤ k → (k < 94 ∨ 120 ≤ k ∧ k < 151) → (k < x1 ∨ x1 + 2 < k) → h' k j = h k j) → Q h' (0, y)) : wp l rho (d + 6) 114 0 [(2, 94), (2, x1), (0, x2), (0, x3), (0, x4), (0, x5), (0, x6)] [] h Q := by
  have xb0 := t1.1
  have xbu : (x1 ≤ 91 ∨ 120 ≤ x1) ∧ x1 ≤ 148 ∧ 0 ≤ x1 := xb
  refine w_aload_n gz_114_0 rfl ?_
  refine w_aload_n gz_114_1 rfl ?_
  refine w_iload_n gz_114_2 rfl ?_
  refine w_iload_n gz_114_3 rfl ?_
  refine w_iload gz_114_4 rfl ?_
  refine w_iload gz_114_6 rfl ?_
  refine w_iload gz_114_8 rfl ?_
  refine w_inv (k := 0) (as := [(0, x6), (0, x5), (0, x4), (0, x3), (0, x2), (2, x1)]) (r := []) (x := 94) (ls0 := [(2, 94), (2, x1), (0, x2), (0, x3), (0, x4), (0, x5), (0, x6)]) gz_114_10 gm_87 rfl is_94 rd_2 rfl rfl rfl rfl rfl (c_Desk_opens5 (d := d) (x1 := x1) (x2 := x2) (x3 := x3) (x4 := x4) (x5 := x5) (x6 := x6) t1 n_Ln (hlw.1) (hwo.1.1) (fun h1 frh1 xp2 => ?_) (fun h3 frh3 w4 w5 w6 w7 w8 w9 xp10 xp11 xp12 xp13 xp14 xp15 xp16 xp17 xp18 xp19 xp20 xp21 xp22 => ?_))
  ·
    have gh1 : my_fr [(2, 11), (2, 12), (2, 13), (2, 14), (2, 15), (2, 16), (7, 0), (7, 1), (7, 2), (7, 3), (7, 4), (7, 5), (8, 0), (8, 1), (30, -1), (31, -1), (41, -1), (42, -1), (43, -1), (44, -1)] h h1 := my_fr.tr my_fr.rf (frh1.mo rfl)
    have Ln_h1 : Ln h1 := Ln_ag (my_ag.fr frh1 rfl) n_Ln
    show wp l rho (d + 6) 114 13 [(2, 94), (2, x1), (0, x2), (0, x3), (0, x4), (0, x5), (0, x6)] [(0, 0)] h1 Q
    have nE := xp2
    have bfG : ∀ k j : Int, 0 ≤ k → (k < 94 ∨ 120 ≤ k ∧ k < 151) → h1 k j = h k j := bg_fr frh1 (by decide +kernel)
    have agG := my_ag.fr (F := F5) frh1 rfl
    refine w_ifne (t := 18) gz_114_13 rfl (fun u23 => by exfalso; omega) (fun u23 => ?_)
    refine w_iconst gz_114_16 (by decide) ?_
    exact w_iret gz_114_17 gm_114 (k0 h1 (gh1) (by first | exact ⟨nE, bfG⟩ | exact E8 | exact PutR_0 n_Ln (my_ag.fr (F := F5) gh1 rfl) E8.2.1.1 E8.2.1.2.1 E8.2.1.2.2 hlw hwo kf8 B8 eT1 eT2 (by omega) (by omega) (by omega) (by omega) | exact PutR_1 n_Ln (my_ag.fr (F := F5) gh1 rfl) E8.2.1.1 E8.2.1.2.1 E8.2.1.2.2 hlw hwo kf8 B8 eT1 eT2 (by omega) no_such_saying (by omega) (by omega) (by omega) | exact PutR_2 n_Ln (my_ag.fr (F := F5) gh1 rfl) E8.2.1.1 E8.2.1.2.1 E8.2.1.2.2 hlw hwo kf8 B8 eT1 eT2 (by omega) dk1 dk2 dr dz (by omega) | exact PutR_4 n_Ln (my_ag.fr (F := F5) gh1 rfl) E8.2.1.1 E8.2.1.2.1 E8.2.1.2.2 hlw hwo kf8 B8 eT1 eT2 (by omega) fad (by omega) fsz (by omega) (fun z => by omega) (by omega) | exact bfE | assumption | omega))
  ·
    have gh3 : my_fr [(2, 11), (2, 12), (2, 13), (2, 14), (2, 15), (2, 16), (7, 0), (7, 1), (7, 2), (7, 3), (7, 4), (7, 5), (8, 0), (8, 1), (30, -1), (31, -1), (41, -1), (42, -1), (43, -1), (44, -1)] h h3 := my_fr.tr my_fr.rf (frh3.mo rfl)
    have Ln_h3 : Ln h3 := Ln_ag (my_ag.fr frh3 rfl) n_Ln
    show wp l rho (d + 6) 114 13 [(2, 94), (2, x1), (0, x2), (0, x3), (0, x4), (0, x5), (0, x6)] [(0, 1)] h3 Q
    have Td_h3t24 : Td h3 x2 := xp14
    have nE := xp10
    have bfG : ∀ k j : Int, 0 ≤ k → (k < 94 ∨ 120 ≤ k ∧ k < 151) → h3 k j = h k j := bg_fr frh3 (by decide +kernel)
    have agG := my_ag.fr (F := F5) frh3 rfl
    have E8 := xp15
    have wn8 := Wn_o xp16 xp17 xp18
    have K8 := SrP_mk n_Ln agG hlw hwo (fun j => my_fr.at frh3 (pix61 t1) rfl) (fun j => my_fr.at frh3 (pix62 t1) rfl) xp15 xp16 xp17 xp18 xp19 xp20 xp21 xp22 xp10 xp11
    refine w_ifne (t := 18) gz_114_13 rfl (fun u25 => ?_) (fun u25 => by exfalso; omega)
    refine v_knowA (x := 93) pis_93 rd_23 (fun kD => ?_)
    refine v_knowA (x := (h3 27 x2 + 7)) (pix_7z (Ln_h3.2.2.1 _ (by omega) (by omega))) rd_38 (fun kL => ?_)
    have kf8 : ∀ c : Int, 0 ≤ c → c ≤ 3 → 0 ≤ cmR h x2 c ∧ cmR h x2 c ≤ 19 := fun c a b => by
      rw [← cmR_cg n_Ln agG E8.2.1.1 E8.2.1.2.1 E8.2.1.2.2]
      exact cmR_bd K8.1.1 K8.1.2.1 K8.1.2.2 K8.2.1 K8.2.2.1 (fun j a b => by have z := kD j a (by omega); omega) (fun j a b => by have z := kL j a (by omega); omega) a b
    refine w_aload_n gz_114_18 rfl ?_
    refine w_aload_n gz_114_19 rfl ?_
    refine w_iload_n gz_114_20 rfl ?_
    refine w_iconst gz_114_21 (by decide) ?_
    refine w_iconst gz_114_22 (by decide) ?_
    refine w_inv (k := 2) (as := [(0, 1), (0, (-1)), (0, x2), (2, x1)]) (r := []) (x := 94) (ls0 := [(2, 94), (2, x1), (0, x2), (0, (-1)), (0, 1), (9, 0), (9, 0)]) gz_114_23 gm_92 rfl is_94 rd_2 rfl rfl rfl rfl rfl (c_Desk_search5 (d := d) (x1 := x1) (x2 := x2) (x3 := (-1)) (x4 := 1) t1 (by omega) (by omega) (by omega) (by omega) (by omega) Ln_h3 Td_h3t24 (by first | assumption | exact no_such_saying | exact Fp_told (by omega) (by omega) | omega | (subst_vars; omega) | omega) (K8) (by first | assumption | exact no_such_saying | exact Fp_told (by omega) (by omega) | omega | (subst_vars; omega) | omega) (fun h26 frh26 w27 w28 w29 xp30 xp31 xp32 Lst_h26t33 => ?_))
    have gh26 : my_fr [(2, 11), (2, 12), (2, 13), (2, 14), (2, 15), (2, 16), (7, 0), (7, 1), (7, 2), (7, 3), (7, 4), (7, 5), (8, 0), (8, 1), (30, -1), (31, -1), (41, -1), (42, -1), (43, -1), (44, -1)] h h26 := my_fr.tr gh3 (frh26.mo rfl)
    have Ln_h26 : Ln h26 := Ln_ag (my_ag.fr frh26 rfl) Ln_h3
    have Td_h26 : Td h26 x2 := Td_ag (my_ag.fr frh26 rfl) Ln_h3 Td_h3t24
    show wp l rho (d + 6) 114 26 [(2, 94), (2, x1), (0, x2), (0, x3), (0, x4), (0, x5), (0, x6)] [] h26 Q
    have sr := xp30
    have bfS := xp32
    have B8 := PB_mk n_Ln agG E8.2.1.1 E8.2.1.2.1 E8.2.1.2.2 (fun j => bfG _ j xb.z1 xb.f1) wn8 sr
    have bfT : ∀ k j : Int, 0 ≤ k → (k < 94 ∨ 120 ≤ k ∧ k < 151) → h26 k j = h k j := fun k j a b => (bfS k j a b).trans (bfG k j a b)
    have eT1 : ∀ j : Int, h26 (x1 + 1) j = h (x1 + 1) j := fun j => bfT _ j xb.z1 xb.f1
    have eT2 : ∀ j : Int, h26 (x1 + 2) j = h (x1 + 2) j := fun j => bfT _ j xb.z2 xb.f2
    refine w_aload_n gz_114_26 rfl ?_
    refine w_getX (v := 112) gz_114_27 is_94 rd_2 rfl (by decide) rfl ?_
    refine v_getI (j := 1) gz_114_30 rfl is_112 rd_7 rfl (fun v35 ev35 pv35 qv35 => ?_)
    refine w_iconst gz_114_33 (by decide) ?_
    have kk1 : v35 = h26 112 1 := by omega
    refine w_icne (t := 77) gz_114_34 rfl (fun u36 => ?_) (fun u36 => ?_)
    ·
      refine w_aload_n gz_114_77 rfl ?_
      refine w_getX (v := 112) gz_114_78 is_94 rd_2 rfl (by decide) rfl ?_
      refine v_getI (j := 1) gz_114_81 rfl is_112 rd_7 rfl (fun v38 ev38 pv38 qv38 => ?_)
      have zv38 := ev38.trans ev35.symm
      refine w_iconst gz_114_84 (by decide) ?_
      have kk2 : v38 = h26 112 1 := by omega
      refine w_icne (t := 109) gz_114_85 rfl (fun u39 => ?_) (fun u39 => ?_)
      ·
        refine w_aload_n gz_114_109 rfl ?_
        refine w_getX (v := 112) gz_114_110 is_94 rd_2 rfl (by decide) rfl ?_
        refine v_getI (j := 1) gz_114_113 rfl is_112 rd_7 rfl (fun v41 ev41 pv41 qv41 => ?_)
        have zv41 := ev41.trans ev38.symm
        refine w_iconst gz_114_116 (by decide) ?_
        have kk3 : v41 = h26 112 1 := by omega
        refine w_icne (t := 135) gz_114_117 rfl (fun u42 => ?_) (fun u42 => ?_)
        ·
          refine w_aload_n gz_114_135 rfl ?_
          refine w_getX (v := 112) gz_114_136 is_94 rd_2 rfl (by decide) rfl ?_
          refine v_getI (j := 0) gz_114_139 rfl is_112 rd_7 rfl (fun v44 ev44 pv44 qv44 => ?_)
          have bfE : ∀ k j : Int, 0 ≤ k → (k < 94 ∨ 120 ≤ k ∧ k < 151) → (k < x1 ∨ x1 + 2 < k) → h26 k j = h k j := fun k j k0 k1 n1 => (bfT k j k0 k1)
          have c45 := (rfl : h26 94 12 = h26 94 12)
          exact w_iret gz_114_142 gm_114 (k1 h26 (v44) (gh26) (by omega) (by omega) (by omega) (by omega) (by omega) (by first | exact ⟨nE, bfG⟩ | exact E8 | exact PutR_0 n_Ln (my_ag.fr (F := F5) gh26 rfl) E8.2.1.1 E8.2.1.2.1 E8.2.1.2.2 hlw hwo kf8 B8 eT1 eT2 (by omega) (by omega) (by omega) (by omega) | exact PutR_1 n_Ln (my_ag.fr (F := F5) gh26 rfl) E8.2.1.1 E8.2.1.2.1 E8.2.1.2.2 hlw hwo kf8 B8 eT1 eT2 (by omega) no_such_saying (by omega) (by omega) (by omega) | exact PutR_2 n_Ln (my_ag.fr (F := F5) gh26 rfl) E8.2.1.1 E8.2.1.2.1 E8.2.1.2.2 hlw hwo kf8 B8 eT1 eT2 (by omega) dk1 dk2 dr dz (by omega) | exact PutR_4 n_Ln (my_ag.fr (F := F5) gh26 rfl) E8.2.1.1 E8.2.1.2.1 E8.2.1.2.2 hlw hwo kf8 B8 eT1 eT2 (by omega) fad (by omega) fsz (by omega) (fun z => by omega) (by omega) | exact bfE | assumption | omega) (by first | exact ⟨nE, bfG⟩ | exact E8 | exact PutR_0 n_Ln (my_ag.fr (F := F5) gh26 rfl) E8.2.1.1 E8.2.1.2.1 E8.2.1.2.2 hlw hwo kf8 B8 eT1 eT2 (by omega) (by omega) (by omega) (by omega) | exact PutR_1 n_Ln (my_ag.fr (F := F5) gh26 rfl) E8.2.1.1 E8.2.1.2.1 E8.2.1.2.2 hlw hwo kf8 B8 eT1 eT2 (by omega) no_such_saying (by omega) (by omega) (by omega) | exact PutR_2 n_Ln (my_ag.fr (F := F5) gh26 rfl) E8.2.1.1 E8.2.1.2.1 E8.2.1.2.2 hlw hwo kf8 B8 eT1 eT2 (by omega) dk1 dk2 dr dz (by omega) | exact PutR_4 n_Ln (my_ag.fr (F := F5) gh26 rfl) E8.2.1.1 E8.2.1.2.1 E8.2.1.2.2 hlw hwo kf8 B8 eT1 eT2 (by omega) fad (by omega) fsz (by omega) (fun z => by omega) (by omega) | exact bfE | assumption | omega) (by first | exact ⟨nE, bfG⟩ | exact E8 | exact PutR_0 n_Ln (my_ag.fr (F := F5) gh26 rfl) E8.2.1.1 E8.2.1.2.1 E8.2.1.2.2 hlw hwo kf8 B8 eT1 eT2 (by omega) (by omega) (by omega) (by omega) | exact PutR_1 n_Ln (my_ag.fr (F := F5) gh26 rfl) E8.2.1.1 E8.2.1.2.1 E8.2.1.2.2 hlw hwo kf8 B8 eT1 eT2 (by omega) no_such_saying (by omega) (by omega) (by omega) | exact PutR_2 n_Ln (my_ag.fr (F := F5) gh26 rfl) E8.2.1.1 E8.2.1.2.1 E8.2.1.2.2 hlw hwo kf8 B8 eT1 eT2 (by omega) dk1 dk2 dr dz (by omega) | exact PutR_4 n_Ln (my_ag.fr (F := F5) gh26 rfl) E8.2.1.1 E8.2.1.2.1 E8.2.1.2.2 hlw hwo kf8 B8 eT1 eT2 (by omega) fad (by omega) fsz (by omega) (fun z => by omega) (by omega) | exact bfE | assumption | omega))
        ·
          have qL := Lst_h26t33; unfold Lst at qL
          refine w_aload_n gz_114_120 rfl ?_
          refine w_aload_n gz_114_121 rfl ?_
          refine w_getX (v := 112) gz_114_122 is_94 rd_2 rfl (by decide) rfl ?_
          refine v_getI (j := 2) gz_114_125 rfl is_112 rd_7 rfl (fun v47 ev47 pv47 qv47 => ?_)
          refine w_aload_n gz_114_128 rfl ?_
          refine w_getX (v := 110) gz_114_129 is_94 rd_2 rfl (by decide) rfl ?_
          have hi49 : 0 ≤ v47 := by omega
          have hi50 : v47 ≤ 2 := by omega
          refine w_inv (k := 0) (as := [(2, 110), (0, v47)]) (r := []) (x := x1) (ls0 := [(2, x1), (0, v47), (2, 110)]) gz_114_132 gm_16 rfl t1 rd_6 rfl rfl rfl rfl rfl ?_
          refine w_aload_n gz_16_0 rfl ?_
          refine w_iconst gz_16_1 (by decide) ?_
          refine w_aload_n gz_16_2 rfl ?_
          refine w_getX (v := (x1 + 1)) gz_16_3 t1 rd_6 rfl (by decide) rfl ?_
          refine w_iload_n gz_16_6 rfl ?_
          refine w_aload_n gz_16_7 rfl ?_
          refine w_iconst gz_16_8 (by decide) ?_
          refine w_iald gz_16_9 is_110 rd_41 (by omega) (by omega) (fun v52 ev52 pv52 qv52 => ?_)
          have hi53 : 0 ≤ v52 := by first | omega | (have q := hrow 0 (by decide) (by decide); omega) | omega
          have hi54 : v52 ≤ 19 := by first | omega | (have q := hrow 0 (by decide) (by decide); omega) | omega
          refine w_inS (k := 0) (as := [(0, v52), (0, v47)]) (r := [(2, (x1 + 1)), (0, 0), (2, 110)]) (ls0 := [(0, v47), (0, v52)]) gz_16_10 gm_17 rfl rfl rfl rfl rfl rfl ?_
          refine w_iload_n gz_17_0 rfl ?_
          refine w_bipush gz_17_1 (by decide) ?_
          refine w_imul gz_17_3 ⟨by omega, by omega⟩ ?_
          refine w_iload_n gz_17_4 rfl ?_
          refine w_iadd gz_17_5 ⟨by omega, by omega⟩ ?_
          refine w_iconst gz_17_6 (by decide) ?_
          refine w_imul gz_17_7 ⟨by omega, by omega⟩ ?_
          refine w_iret gz_17_8 gm_17 ?_
          show wp l rho (d + 5) 16 13 [(2, x1), (0, v47), (2, 110)] [(0, (((v47 * 20) + v52) * 4)), (2, (x1 + 1)), (0, 0), (2, 110)] h26 _
          refine w_iconst gz_16_13 (by decide) ?_
          refine w_cpU gz_16_14 is_110 rd_41 (ix_6_1 t1) rd_30 (by omega) (by omega) (by omega) (by omega) (by omega) rfl (by decide) (by decide) (fun h55 fh55 => ?_)
          have gh55 : my_fr [(2, 11), (2, 12), (2, 13), (2, 14), (2, 15), (2, 16), (7, 0), (7, 1), (7, 2), (7, 3), (7, 4), (7, 5), (8, 0), (8, 1), (30, -1), (31, -1), (41, -1), (42, -1), (43, -1), (44, -1)] h h55 := my_fr.cp gh26 (ix_6_1 t1) fh55 rfl
          have Ln_h55 : Ln h55 := Ln_ag (my_ag.cp fh55 (ix_6_1 t1) rfl) Ln_h26
          have Td_h55 : Td h55 x2 := Td_ag (my_ag.cp fh55 (ix_6_1 t1) rfl) Ln_h26 Td_h26
          have Lst_h55 : Lst h55 := Lst_ag (my_ag.cp fh55 (ix_6_1 t1) rfl) Lst_h26t33
          have fad := fh55
          refine w_aload_n gz_16_17 rfl ?_
          refine w_getX (v := (x1 + 2)) gz_16_18 t1 rd_6 rfl (by decide) rfl ?_
          refine w_iload_n gz_16_21 rfl ?_
          refine w_dup2 gz_16_22 rfl rfl ?_
          refine w_iald gz_16_23 (ix_6_2 t1) rd_31 (by omega) (by omega) (fun v57 ev57 pv57 qv57 => ?_)
          refine w_iconst gz_16_24 (by decide) ?_
          refine w_iaddX gz_16_25 (fun v58 xv58 pv58 qv58 => ?_)
          refine w_iastA gz_16_26 (ix_6_2 t1) rd_31 (by omega) (by omega) (fun h59 fh59 => ?_)
          have gh59 : my_fr [(2, 11), (2, 12), (2, 13), (2, 14), (2, 15), (2, 16), (7, 0), (7, 1), (7, 2), (7, 3), (7, 4), (7, 5), (8, 0), (8, 1), (30, -1), (31, -1), (41, -1), (42, -1), (43, -1), (44, -1)] h h59 := my_fr.up gh55 (ix_6_2 t1) fh59 rfl
          have Ln_h59 : Ln h59 := Ln_ag (my_ag.up fh59 (ix_6_2 t1) rfl) Ln_h55
          have Td_h59 : Td h59 x2 := Td_ag (my_ag.up fh59 (ix_6_2 t1) rfl) Ln_h55 Td_h55
          have Lst_h59 : Lst h59 := Lst_ag (my_ag.up fh59 (ix_6_2 t1) rfl) Lst_h55
          have fsz := fh59
          refine w_vret gz_16_27 gm_16 ?_
          show wp l rho (d + 6) 114 135 [(2, 94), (2, x1), (0, x2), (0, x3), (0, x4), (0, x5), (0, x6)] [] h59 Q
          have ce60 : h59 112 0 = h26 112 0 := ((my_up_role fh59 is_112 (ix_6_2 t1) rfl).trans ((my_cp_role fh55 is_112 (ix_6_1 t1) rfl).trans (rfl : h26 112 0 = h26 112 0)))
          refine w_aload_n gz_114_135 rfl ?_
          refine w_getX (v := 112) gz_114_136 is_94 rd_2 rfl (by decide) rfl ?_
          refine v_getI (j := 0) gz_114_139 rfl is_112 rd_7 rfl (fun v62 ev62 pv62 qv62 => ?_)
          have bfE : ∀ k j : Int, 0 ≤ k → (k < 94 ∨ 120 ≤ k ∧ k < 151) → (k < x1 ∨ x1 + 2 < k) → h59 k j = h k j := fun k j k0 k1 n1 => (((my_up_ne fh59 (by omega)).trans (my_cp_ne fh55 (by omega))).trans (bfT k j k0 k1))
          have c63 := ((my_up_role fh59 is_94 (ix_6_2 t1) rfl).trans ((my_cp_role fh55 is_94 (ix_6_1 t1) rfl).trans (rfl : h26 94 12 = h26 94 12)))
          exact w_iret gz_114_142 gm_114 (k1 h59 (v62) (gh59) (by omega) (by omega) (by omega) (by omega) (by omega) (by first | exact ⟨nE, bfG⟩ | exact E8 | exact PutR_0 n_Ln (my_ag.fr (F := F5) gh59 rfl) E8.2.1.1 E8.2.1.2.1 E8.2.1.2.2 hlw hwo kf8 B8 eT1 eT2 (by omega) (by omega) (by omega) (by omega) | exact PutR_1 n_Ln (my_ag.fr (F := F5) gh59 rfl) E8.2.1.1 E8.2.1.2.1 E8.2.1.2.2 hlw hwo kf8 B8 eT1 eT2 (by omega) fh59 (by omega) (by omega) (by omega) | exact PutR_2 n_Ln (my_ag.fr (F := F5) gh59 rfl) E8.2.1.1 E8.2.1.2.1 E8.2.1.2.2 hlw hwo kf8 B8 eT1 eT2 (by omega) dk1 dk2 dr dz (by omega) | exact PutR_4 n_Ln (my_ag.fr (F := F5) gh59 rfl) E8.2.1.1 E8.2.1.2.1 E8.2.1.2.2 hlw hwo kf8 B8 eT1 eT2 (by omega) fad (by omega) fsz (by omega) (fun z => by omega) (by omega) | exact bfE | assumption | omega) (by first | exact ⟨nE, bfG⟩ | exact E8 | exact PutR_0 n_Ln (my_ag.fr (F := F5) gh59 rfl) E8.2.1.1 E8.2.1.2.1 E8.2.1.2.2 hlw hwo kf8 B8 eT1 eT2 (by omega) (by omega) (by omega) (by omega) | exact PutR_1 n_Ln (my_ag.fr (F := F5) gh59 rfl) E8.2.1.1 E8.2.1.2.1 E8.2.1.2.2 hlw hwo kf8 B8 eT1 eT2 (by omega) fh59 (by omega) (by omega) (by omega) | exact PutR_2 n_Ln (my_ag.fr (F := F5) gh59 rfl) E8.2.1.1 E8.2.1.2.1 E8.2.1.2.2 hlw hwo kf8 B8 eT1 eT2 (by omega) dk1 dk2 dr dz (by omega) | exact PutR_4 n_Ln (my_ag.fr (F := F5) gh59 rfl) E8.2.1.1 E8.2.1.2.1 E8.2.1.2.2 hlw hwo kf8 B8 eT1 eT2 (by omega) fad (by omega) fsz (by omega) (fun z => by omega) (by omega) | exact bfE | assumption | omega) (by first | exact ⟨nE, bfG⟩ | exact E8 | exact PutR_0 n_Ln (my_ag.fr (F := F5) gh59 rfl) E8.2.1.1 E8.2.1.2.1 E8.2.1.2.2 hlw hwo kf8 B8 eT1 eT2 (by omega) (by omega) (by omega) (by omega) | exact PutR_1 n_Ln (my_ag.fr (F := F5) gh59 rfl) E8.2.1.1 E8.2.1.2.1 E8.2.1.2.2 hlw hwo kf8 B8 eT1 eT2 (by omega) fh59 (by omega) (by omega) (by omega) | exact PutR_2 n_Ln (my_ag.fr (F := F5) gh59 rfl) E8.2.1.1 E8.2.1.2.1 E8.2.1.2.2 hlw hwo kf8 B8 eT1 eT2 (by omega) dk1 dk2 dr dz (by omega) | exact PutR_4 n_Ln (my_ag.fr (F := F5) gh59 rfl) E8.2.1.1 E8.2.1.2.1 E8.2.1.2.2 hlw hwo kf8 B8 eT1 eT2 (by omega) fad (by omega) fsz (by omega) (fun z => by omega) (by omega) | exact bfE | assumption | omega))
      ·
        have qL := Lst_h26t33; unfold Lst at qL
        refine w_aload_n gz_114_88 rfl ?_
        refine w_aload_n gz_114_89 rfl ?_
        refine w_getX (v := 112) gz_114_90 is_94 rd_2 rfl (by decide) rfl ?_
        refine v_getI (j := 2) gz_114_93 rfl is_112 rd_7 rfl (fun v65 ev65 pv65 qv65 => ?_)
        refine w_aload_n gz_114_96 rfl ?_
        refine w_getX (v := 112) gz_114_97 is_94 rd_2 rfl (by decide) rfl ?_
        refine v_getI (j := 3) gz_114_100 rfl is_112 rd_7 rfl (fun v67 ev67 pv67 qv67 => ?_)
        have hi68 : 0 ≤ v65 := by omega
        have hi69 : v65 ≤ 2 := by omega
        have hi70 : 0 ≤ v67 := by omega
        have hi71 : v67 ≤ 19 := by omega
        refine w_inv (k := 2) (as := [(0, v67), (0, v65)]) (r := []) (x := x1) (ls0 := [(2, x1), (0, v65), (0, v67), (9, 0), (9, 0)]) gz_114_103 gm_23 rfl t1 rd_6 rfl rfl rfl rfl rfl (c_Rows_drop5 (d := (d + 4)) (x0 := x1) (x1 := v65) (x2 := v67) t1 (by omega) (by omega) (by omega) (by omega) ((by have q := WOk_sz hwo (h26 112 2) (by omega) (by omega); have e := eT2 (h26 112 2); rw [show v65 = h26 112 2 by omega, e]; exact q)) (fun h72 frh72 fxh72 xp73 xp74 => ?_))
        have gh72 : my_fr [(2, 11), (2, 12), (2, 13), (2, 14), (2, 15), (2, 16), (7, 0), (7, 1), (7, 2), (7, 3), (7, 4), (7, 5), (8, 0), (8, 1), (30, -1), (31, -1), (41, -1), (42, -1), (43, -1), (44, -1)] h h72 := my_fr.tr gh26 (frh72.mo rfl)
        have Ln_h72 : Ln h72 := Ln_ag (my_ag.fr frh72 rfl) Ln_h26
        have Td_h72 : Td h72 x2 := Td_ag (my_ag.fr frh72 rfl) Ln_h26 Td_h26
        have Lst_h72 : Lst h72 := Lst_ag (my_ag.fr frh72 rfl) Lst_h26t33
        show wp l rho (d + 6) 114 106 [(2, 94), (2, x1), (0, x2), (0, x3), (0, x4), (0, x5), (0, x6)] [] h72 Q
        have dr := xp73
        have dz := xp74
        have dk1 : v65 = h26 112 2 := by omega
        have dk2 : v67 = h26 112 3 := by omega
        refine w_goto (t := 135) gz_114_106 rfl ?_
        have ce75 : h72 112 0 = h26 112 0 := ((my_fr.at frh72 is_112 rfl).trans (rfl : h26 112 0 = h26 112 0))
        refine w_aload_n gz_114_135 rfl ?_
        refine w_getX (v := 112) gz_114_136 is_94 rd_2 rfl (by decide) rfl ?_
        refine v_getI (j := 0) gz_114_139 rfl is_112 rd_7 rfl (fun v77 ev77 pv77 qv77 => ?_)
        have bfE : ∀ k j : Int, 0 ≤ k → (k < 94 ∨ 120 ≤ k ∧ k < 151) → (k < x1 ∨ x1 + 2 < k) → h72 k j = h k j := fun k j k0 k1 n1 => ((my_fx.at fxh72 n1).trans (bfT k j k0 k1))
        have c78 := ((my_fr.at frh72 is_94 rfl).trans (rfl : h26 94 12 = h26 94 12))
        exact w_iret gz_114_142 gm_114 (k1 h72 (v77) (gh72) (by omega) (by omega) (by omega) (by omega) (by omega) (by first | exact ⟨nE, bfG⟩ | exact E8 | exact PutR_0 n_Ln (my_ag.fr (F := F5) gh72 rfl) E8.2.1.1 E8.2.1.2.1 E8.2.1.2.2 hlw hwo kf8 B8 eT1 eT2 (by omega) (by omega) (by omega) (by omega) | exact PutR_1 n_Ln (my_ag.fr (F := F5) gh72 rfl) E8.2.1.1 E8.2.1.2.1 E8.2.1.2.2 hlw hwo kf8 B8 eT1 eT2 (by omega) no_such_saying (by omega) (by omega) (by omega) | exact PutR_2 n_Ln (my_ag.fr (F := F5) gh72 rfl) E8.2.1.1 E8.2.1.2.1 E8.2.1.2.2 hlw hwo kf8 B8 eT1 eT2 (by omega) dk1 dk2 dr dz (by omega) | exact PutR_4 n_Ln (my_ag.fr (F := F5) gh72 rfl) E8.2.1.1 E8.2.1.2.1 E8.2.1.2.2 hlw hwo kf8 B8 eT1 eT2 (by omega) fad (by omega) fsz (by omega) (fun z => by omega) (by omega) | exact bfE | assumption | omega) (by first | exact ⟨nE, bfG⟩ | exact E8 | exact PutR_0 n_Ln (my_ag.fr (F := F5) gh72 rfl) E8.2.1.1 E8.2.1.2.1 E8.2.1.2.2 hlw hwo kf8 B8 eT1 eT2 (by omega) (by omega) (by omega) (by omega) | exact PutR_1 n_Ln (my_ag.fr (F := F5) gh72 rfl) E8.2.1.1 E8.2.1.2.1 E8.2.1.2.2 hlw hwo kf8 B8 eT1 eT2 (by omega) no_such_saying (by omega) (by omega) (by omega) | exact PutR_2 n_Ln (my_ag.fr (F := F5) gh72 rfl) E8.2.1.1 E8.2.1.2.1 E8.2.1.2.2 hlw hwo kf8 B8 eT1 eT2 (by omega) dk1 dk2 dr dz (by omega) | exact PutR_4 n_Ln (my_ag.fr (F := F5) gh72 rfl) E8.2.1.1 E8.2.1.2.1 E8.2.1.2.2 hlw hwo kf8 B8 eT1 eT2 (by omega) fad (by omega) fsz (by omega) (fun z => by omega) (by omega) | exact bfE | assumption | omega) (by first | exact ⟨nE, bfG⟩ | exact E8 | exact PutR_0 n_Ln (my_ag.fr (F := F5) gh72 rfl) E8.2.1.1 E8.2.1.2.1 E8.2.1.2.2 hlw hwo kf8 B8 eT1 eT2 (by omega) (by omega) (by omega) (by omega) | exact PutR_1 n_Ln (my_ag.fr (F := F5) gh72 rfl) E8.2.1.1 E8.2.1.2.1 E8.2.1.2.2 hlw hwo kf8 B8 eT1 eT2 (by omega) no_such_saying (by omega) (by omega) (by omega) | exact PutR_2 n_Ln (my_ag.fr (F := F5) gh72 rfl) E8.2.1.1 E8.2.1.2.1 E8.2.1.2.2 hlw hwo kf8 B8 eT1 eT2 (by omega) dk1 dk2 dr dz (by omega) | exact PutR_4 n_Ln (my_ag.fr (F := F5) gh72 rfl) E8.2.1.1 E8.2.1.2.1 E8.2.1.2.2 hlw hwo kf8 B8 eT1 eT2 (by omega) fad (by omega) fsz (by omega) (fun z => by omega) (by omega) | exact bfE | assumption | omega))
    ·
      have qL := Lst_h26t33; unfold Lst at qL
      refine w_aload_n gz_114_37 rfl ?_
      refine w_getX (v := (x1 + 1)) gz_114_38 t1 rd_6 rfl (by decide) rfl ?_
      refine w_aload_n gz_114_41 rfl ?_
      refine w_getX (v := 112) gz_114_42 is_94 rd_2 rfl (by decide) rfl ?_
      refine v_getI (j := 2) gz_114_45 rfl is_112 rd_7 rfl (fun v81 ev81 pv81 qv81 => ?_)
      refine w_aload_n gz_114_48 rfl ?_
      refine w_getX (v := 112) gz_114_49 is_94 rd_2 rfl (by decide) rfl ?_
      refine v_getI (j := 3) gz_114_52 rfl is_112 rd_7 rfl (fun v83 ev83 pv83 qv83 => ?_)
      have hi84 : 0 ≤ v81 := by omega
      have hi85 : v81 ≤ 2 := by omega
      have hi86 : 0 ≤ v83 := by omega
      have hi87 : v83 ≤ 19 := by omega
      refine w_inS (k := 0) (as := [(0, v83), (0, v81)]) (r := [(2, (x1 + 1))]) (ls0 := [(0, v81), (0, v83)]) gz_114_55 gm_17 rfl rfl rfl rfl rfl rfl ?_
      refine w_iload_n gz_17_0 rfl ?_
      refine w_bipush gz_17_1 (by decide) ?_
      refine w_imul gz_17_3 ⟨by omega, by omega⟩ ?_
      refine w_iload_n gz_17_4 rfl ?_
      refine w_iadd gz_17_5 ⟨by omega, by omega⟩ ?_
      refine w_iconst gz_17_6 (by decide) ?_
      refine w_imul gz_17_7 ⟨by omega, by omega⟩ ?_
      refine w_iret gz_17_8 gm_17 ?_
      show wp l rho (d + 6) 114 58 [(2, 94), (2, x1), (0, x2), (0, x3), (0, x4), (0, x5), (0, x6)] [(0, (((v81 * 20) + v83) * 4)), (2, (x1 + 1))] h26 Q
      refine w_aload_n gz_114_58 rfl ?_
      refine w_getX (v := 112) gz_114_59 is_94 rd_2 rfl (by decide) rfl ?_
      refine v_getI (j := 4) gz_114_62 rfl is_112 rd_7 rfl (fun v89 ev89 pv89 qv89 => ?_)
      have hi90 : 0 ≤ v89 := by omega
      have hi91 : v89 ≤ 3 := by omega
      refine w_iadd gz_114_65 ⟨by omega, by omega⟩ ?_
      refine w_aload_n gz_114_66 rfl ?_
      refine w_getX (v := 112) gz_114_67 is_94 rd_2 rfl (by decide) rfl ?_
      refine v_getI (j := 5) gz_114_70 rfl is_112 rd_7 rfl (fun v93 ev93 pv93 qv93 => ?_)
      have hi94 : 0 ≤ v93 := by omega
      have hi95 : v93 ≤ 19 := by omega
      refine w_iast gz_114_73 (ix_6_1 t1) rd_30 (by omega) (by omega) (by omega) (by omega) (fun h96 fh96 => ?_)
      have gh96 : my_fr [(2, 11), (2, 12), (2, 13), (2, 14), (2, 15), (2, 16), (7, 0), (7, 1), (7, 2), (7, 3), (7, 4), (7, 5), (8, 0), (8, 1), (30, -1), (31, -1), (41, -1), (42, -1), (43, -1), (44, -1)] h h96 := my_fr.up gh26 (ix_6_1 t1) fh96 rfl
      have Ln_h96 : Ln h96 := Ln_ag (my_ag.up fh96 (ix_6_1 t1) rfl) Ln_h26
      have Td_h96 : Td h96 x2 := Td_ag (my_ag.up fh96 (ix_6_1 t1) rfl) Ln_h26 Td_h26
      have Lst_h96 : Lst h96 := Lst_ag (my_ag.up fh96 (ix_6_1 t1) rfl) Lst_h26t33
      refine w_goto (t := 135) gz_114_74 rfl ?_
      have ce97 : h96 112 0 = h26 112 0 := ((my_up_role fh96 is_112 (ix_6_1 t1) rfl).trans (rfl : h26 112 0 = h26 112 0))
      refine w_aload_n gz_114_135 rfl ?_
      refine w_getX (v := 112) gz_114_136 is_94 rd_2 rfl (by decide) rfl ?_
      refine v_getI (j := 0) gz_114_139 rfl is_112 rd_7 rfl (fun v99 ev99 pv99 qv99 => ?_)
      have bfE : ∀ k j : Int, 0 ≤ k → (k < 94 ∨ 120 ≤ k ∧ k < 151) → (k < x1 ∨ x1 + 2 < k) → h96 k j = h k j := fun k j k0 k1 n1 => ((my_up_ne fh96 (by omega)).trans (bfT k j k0 k1))
      have c100 := ((my_up_role fh96 is_94 (ix_6_1 t1) rfl).trans (rfl : h26 94 12 = h26 94 12))
      exact w_iret gz_114_142 gm_114 (k1 h96 (v99) (gh96) (by omega) (by omega) (by omega) (by omega) (by omega) (by first | exact ⟨nE, bfG⟩ | exact E8 | exact PutR_0 n_Ln (my_ag.fr (F := F5) gh96 rfl) E8.2.1.1 E8.2.1.2.1 E8.2.1.2.2 hlw hwo kf8 B8 eT1 eT2 (by omega) (by omega) (by omega) (by omega) | exact PutR_1 n_Ln (my_ag.fr (F := F5) gh96 rfl) E8.2.1.1 E8.2.1.2.1 E8.2.1.2.2 hlw hwo kf8 B8 eT1 eT2 (by omega) fh96 (by omega) (by omega) (by omega) | exact PutR_2 n_Ln (my_ag.fr (F := F5) gh96 rfl) E8.2.1.1 E8.2.1.2.1 E8.2.1.2.2 hlw hwo kf8 B8 eT1 eT2 (by omega) dk1 dk2 dr dz (by omega) | exact PutR_4 n_Ln (my_ag.fr (F := F5) gh96 rfl) E8.2.1.1 E8.2.1.2.1 E8.2.1.2.2 hlw hwo kf8 B8 eT1 eT2 (by omega) fad (by omega) fsz (by omega) (fun z => by omega) (by omega) | exact bfE | assumption | omega) (by first | exact ⟨nE, bfG⟩ | exact E8 | exact PutR_0 n_Ln (my_ag.fr (F := F5) gh96 rfl) E8.2.1.1 E8.2.1.2.1 E8.2.1.2.2 hlw hwo kf8 B8 eT1 eT2 (by omega) (by omega) (by omega) (by omega) | exact PutR_1 n_Ln (my_ag.fr (F := F5) gh96 rfl) E8.2.1.1 E8.2.1.2.1 E8.2.1.2.2 hlw hwo kf8 B8 eT1 eT2 (by omega) fh96 (by omega) (by omega) (by omega) | exact PutR_2 n_Ln (my_ag.fr (F := F5) gh96 rfl) E8.2.1.1 E8.2.1.2.1 E8.2.1.2.2 hlw hwo kf8 B8 eT1 eT2 (by omega) dk1 dk2 dr dz (by omega) | exact PutR_4 n_Ln (my_ag.fr (F := F5) gh96 rfl) E8.2.1.1 E8.2.1.2.1 E8.2.1.2.2 hlw hwo kf8 B8 eT1 eT2 (by omega) fad (by omega) fsz (by omega) (fun z => by omega) (by omega) | exact bfE | assumption | omega) (by first | exact ⟨nE, bfG⟩ | exact E8 | exact PutR_0 n_Ln (my_ag.fr (F := F5) gh96 rfl) E8.2.1.1 E8.2.1.2.1 E8.2.1.2.2 hlw hwo kf8 B8 eT1 eT2 (by omega) (by omega) (by omega) (by omega) | exact PutR_1 n_Ln (my_ag.fr (F := F5) gh96 rfl) E8.2.1.1 E8.2.1.2.1 E8.2.1.2.2 hlw hwo kf8 B8 eT1 eT2 (by omega) fh96 (by omega) (by omega) (by omega) | exact PutR_2 n_Ln (my_ag.fr (F := F5) gh96 rfl) E8.2.1.1 E8.2.1.2.1 E8.2.1.2.2 hlw hwo kf8 B8 eT1 eT2 (by omega) dk1 dk2 dr dz (by omega) | exact PutR_4 n_Ln (my_ag.fr (F := F5) gh96 rfl) E8.2.1.1 E8.2.1.2.1 E8.2.1.2.2 hlw hwo kf8 B8 eT1 eT2 (by omega) fad (by omega) fsz (by omega) (fun z => by omega) (by omega) | exact bfE | assumption | omega))
end MYNDesk_putOn5
