/-! contracts, printed by wip/gen/gy.py -/
section MYNDesk_tryRowThatComes5
theorem c_Desk_tryRowThatComes5 {l : Launch} {rho : Nat → Int32} {d : Nat} {h : my_H} {Q : my_H → my_V → Prop} {x1 : Int} (a1 : 0 ≤ x1) (b1 : x1 ≤ 5) (n_Lst : Lst h) (n_Ln : Ln h) (n_Td : Td h x1) (hk : SrC h x1) (hd : DkE h (h 2) (LGh h x1)) (k4 : h 111 4 = -1) (k5 : h 111 5 = -1) (k0 : ∀ (h' : my_H), my_fr [(2, 11), (7, 0), (7, 1), (7, 2), (7, 3), (7, 4), (7, 5), (8, 0), (8, 1), (30, -1), (31, -1), (41, -1), (42, -1), (43, -1), (44, -1)] h h' → DkE h' (h 2) (LAh h x1) ∧ FrOk h h' x1 → SmV h h' → (∀ k j : Int, 0 ≤ k → (k < 94 ∨ 120 ≤ k ∧ k < 151) → h' k j = h k j) → Lst h' → Q h' (9, 0)) : wp l rho (d + 4) 105 0 [(2, 94), (0, x1)] [] h Q := by
  refine w_aload_n gz_105_0 rfl ?_
  refine w_inv (k := 0) (as := []) (r := []) (x := 94) (ls0 := [(2, 94)]) gz_105_1 gm_100 rfl is_94 rd_2 rfl rfl rfl rfl rfl (c_Desk_isEnough5 (d := (d + 3))   (fun w1 w2 xp3 => ?_) (fun w4 xp5 => ?_))
  ·
    show wp l rho (d + 4) 105 4 [(2, 94), (0, x1)] [(0, 0)] h Q
    have en8 := xp3
    refine w_ifne (t := 110) gz_105_4 rfl (fun u6 => by exfalso; omega) (fun u6 => ?_)
    have no8 : h 94 13 = 0 ∨ h 112 0 = -1 ∨ 1 < h 112 0 := by first | assumption | exact Or.inl (by omega) | exact Or.inr (Or.inl (by omega)) | exact Or.inr (Or.inr (by omega))
    refine w_aload_n gz_105_7 rfl ?_
    refine w_aload_n gz_105_8 rfl ?_
    refine w_getX (v := 27) gz_105_9 is_94 rd_2 rfl (by decide) rfl ?_
    refine w_iload_n gz_105_12 rfl ?_
    refine w_aald gz_105_13 is_27 rd_22 rfl (by omega) (by omega) (fun v8 ev8 tv8 => ?_)
    refine w_inv (k := 2) (as := [(2, v8)]) (r := []) (x := 94) (ls0 := [(2, 94), (2, v8), (9, 0), (9, 0)]) gz_105_14 gm_106 rfl is_94 rd_2 rfl rfl rfl rfl rfl (c_Desk_rowComes6 (d := (d + 1)) (x1 := v8) tv8 (fun h9 frh9 xp10 xp11 => ?_) (fun h12 frh12 xp13 xp14 => ?_))
    ·
      have gh9 : my_fr [(2, 11), (7, 0), (7, 1), (7, 2), (7, 3), (7, 4), (7, 5), (8, 0), (8, 1), (30, -1), (31, -1), (41, -1), (42, -1), (43, -1), (44, -1)] h h9 := my_fr.tr my_fr.rf (frh9.mo rfl)
      have Lst_h9 : Lst h9 := Lst_ag (my_ag.fr frh9 rfl) n_Lst
      have Ln_h9 : Ln h9 := Ln_ag (my_ag.fr frh9 rfl) n_Ln
      have Td_h9 : Td h9 x1 := Td_ag (my_ag.fr frh9 rfl) n_Ln n_Td
      show wp l rho (d + 4) 105 17 [(2, 94), (0, x1)] [(0, 0)] h9 Q
      have rc := xp10
      have bfr := xp11
      refine w_ifeq (t := 110) gz_105_17 rfl (fun u15 => ?_) (fun u15 => by exfalso; omega)
      have ce16 : h9 94 11 = h 94 11 := ((my_fr.at frh9 is_94 rfl).trans (rfl : h 94 11 = h 94 11))
      have ce17 : h9 94 12 = h 94 12 := ((my_fr.at frh9 is_94 rfl).trans (rfl : h 94 12 = h 94 12))
      have ce18 : h9 94 13 = (h 94 13) := ((my_fr.at frh9 is_94 rfl).trans (rfl : h 94 13 = h 94 13))
      have ce19 : h9 94 14 = h 94 14 := ((my_fr.at frh9 is_94 rfl).trans (rfl : h 94 14 = h 94 14))
      have ce20 : h9 94 15 = h 94 15 := ((my_fr.at frh9 is_94 rfl).trans (rfl : h 94 15 = h 94 15))
      have ce21 : h9 94 16 = h 94 16 := ((my_fr.at frh9 is_94 rfl).trans (rfl : h 94 16 = h 94 16))
      have ce22 : h9 98 0 = h 98 0 := ((my_fr.at frh9 is_98 rfl).trans (rfl : h 98 0 = h 98 0))
      have ce23 : h9 98 1 = h 98 1 := ((my_fr.at frh9 is_98 rfl).trans (rfl : h 98 1 = h 98 1))
      have ce24 : h9 102 0 = h 102 0 := ((my_fr.at frh9 is_102 rfl).trans (rfl : h 102 0 = h 102 0))
      have ce25 : h9 102 1 = h 102 1 := ((my_fr.at frh9 is_102 rfl).trans (rfl : h 102 1 = h 102 1))
      have ce26 : h9 112 0 = h 112 0 := ((my_fr.at frh9 is_112 rfl).trans (rfl : h 112 0 = h 112 0))
      have ce27 : h9 112 1 = h 112 1 := ((my_fr.at frh9 is_112 rfl).trans (rfl : h 112 1 = h 112 1))
      have ce28 : h9 112 2 = h 112 2 := ((my_fr.at frh9 is_112 rfl).trans (rfl : h 112 2 = h 112 2))
      have ce29 : h9 112 3 = h 112 3 := ((my_fr.at frh9 is_112 rfl).trans (rfl : h 112 3 = h 112 3))
      have ce30 : h9 112 4 = h 112 4 := ((my_fr.at frh9 is_112 rfl).trans (rfl : h 112 4 = h 112 4))
      have ce31 : h9 112 5 = h 112 5 := ((my_fr.at frh9 is_112 rfl).trans (rfl : h 112 5 = h 112 5))
      have ce32 : h9 113 0 = h 113 0 := ((my_fr.at frh9 is_113 rfl).trans (rfl : h 113 0 = h 113 0))
      have ce33 : h9 113 1 = h 113 1 := ((my_fr.at frh9 is_113 rfl).trans (rfl : h 113 1 = h 113 1))
      have ce34 : h9 113 2 = h 113 2 := ((my_fr.at frh9 is_113 rfl).trans (rfl : h 113 2 = h 113 2))
      have ce35 : h9 113 3 = h 113 3 := ((my_fr.at frh9 is_113 rfl).trans (rfl : h 113 3 = h 113 3))
      have ce36 : h9 113 4 = h 113 4 := ((my_fr.at frh9 is_113 rfl).trans (rfl : h 113 4 = h 113 4))
      have ce37 : h9 113 5 = h 113 5 := ((my_fr.at frh9 is_113 rfl).trans (rfl : h 113 5 = h 113 5))
      have ce38 : h9 94 13 = (h 94 13) := ((my_fr.at frh9 is_94 rfl).trans (rfl : h 94 13 = h 94 13))
      have ce39 : h9 94 14 = h 94 14 := ((my_fr.at frh9 is_94 rfl).trans (rfl : h 94 14 = h 94 14))
      have ce40 : h9 94 15 = h 94 15 := ((my_fr.at frh9 is_94 rfl).trans (rfl : h 94 15 = h 94 15))
      have ce41 : h9 94 16 = h 94 16 := ((my_fr.at frh9 is_94 rfl).trans (rfl : h 94 16 = h 94 16))
      have a99 : ∀ j : Int, h9 99 j = h 99 j := fun j => ((my_fr.at frh9 is_99 rfl).trans (rfl : h 99 j = h 99 j))
      have a101 : ∀ j : Int, h9 101 j = h 101 j := fun j => ((my_fr.at frh9 is_101 rfl).trans (rfl : h 101 j = h 101 j))
      have a103 : ∀ j : Int, h9 103 j = h 103 j := fun j => ((my_fr.at frh9 is_103 rfl).trans (rfl : h 103 j = h 103 j))
      have a110 : ∀ j : Int, h9 110 j = h9 110 j := fun j => rfl
      have bfR : ∀ k j : Int, 0 ≤ k → (k < 94 ∨ 120 ≤ k ∧ k < 151) → h9 k j = h k j := fun k j k0 k1 => ((bfr k j k0 k1).trans rfl)
      have kp9 : KpS h h9 := ⟨⟨by omega, by omega, by omega, by omega, by omega, by omega, by omega, by omega, a99, a101, a103⟩, ⟨by omega, by omega⟩, ⟨by omega, by omega, by omega, by omega, by omega, by omega⟩, ⟨by omega, by omega, by omega, by omega, by omega, by omega⟩⟩
      exact w_vret gz_105_110 gm_105 (k0 h9 (gh9) (by first | exact Cm_e hk hd (by omega) (by omega) (by omega) | exact ⟨Cm_n (DkE_cg hd kp9) (Q3_no hk (eqL (P := fun L => RcN h h9 L) rc (by first | assumption | omega))), Or.inl (Rn_f hk (eqL (P := fun L => RcN h h9 L) rc (by first | assumption | omega)))⟩ | exact ⟨Cm_n (DkE_cg hd kp9) (Q3_la (fun z => by obtain ⟨p, a, b, c, d, e⟩ := fb; exact d (rla.2.mpr z p a b))), Or.inl (fun c a b => (a110 c).trans (rcf.1 c a b))⟩ | exact ⟨Cm_n (DkE_cg hd kp9) (fun z => sa (qI.mpr z)), Or.inl (fun c a b => (a110 c).trans (rcf.1 c a b))⟩ | exact ⟨Cm_y hd no8 kp7 kpp q7 w2 (by omega) (by omega) (by omega) pr8 (by omega), Or.inl (fun c a b => (a110 c).trans (rcf.1 c a b))⟩ | exact SmV.rf | exact kp9.1 | exact kp7.1.tr sm9 | exact bfR | assumption | omega) (by first | exact Cm_e hk hd (by omega) (by omega) (by omega) | exact ⟨Cm_n (DkE_cg hd kp9) (Q3_no hk (eqL (P := fun L => RcN h h9 L) rc (by first | assumption | omega))), Or.inl (Rn_f hk (eqL (P := fun L => RcN h h9 L) rc (by first | assumption | omega)))⟩ | exact ⟨Cm_n (DkE_cg hd kp9) (Q3_la (fun z => by obtain ⟨p, a, b, c, d, e⟩ := fb; exact d (rla.2.mpr z p a b))), Or.inl (fun c a b => (a110 c).trans (rcf.1 c a b))⟩ | exact ⟨Cm_n (DkE_cg hd kp9) (fun z => sa (qI.mpr z)), Or.inl (fun c a b => (a110 c).trans (rcf.1 c a b))⟩ | exact ⟨Cm_y hd no8 kp7 kpp q7 w2 (by omega) (by omega) (by omega) pr8 (by omega), Or.inl (fun c a b => (a110 c).trans (rcf.1 c a b))⟩ | exact SmV.rf | exact kp9.1 | exact kp7.1.tr sm9 | exact bfR | assumption | omega) (by first | exact Cm_e hk hd (by omega) (by omega) (by omega) | exact ⟨Cm_n (DkE_cg hd kp9) (Q3_no hk (eqL (P := fun L => RcN h h9 L) rc (by first | assumption | omega))), Or.inl (Rn_f hk (eqL (P := fun L => RcN h h9 L) rc (by first | assumption | omega)))⟩ | exact ⟨Cm_n (DkE_cg hd kp9) (Q3_la (fun z => by obtain ⟨p, a, b, c, d, e⟩ := fb; exact d (rla.2.mpr z p a b))), Or.inl (fun c a b => (a110 c).trans (rcf.1 c a b))⟩ | exact ⟨Cm_n (DkE_cg hd kp9) (fun z => sa (qI.mpr z)), Or.inl (fun c a b => (a110 c).trans (rcf.1 c a b))⟩ | exact ⟨Cm_y hd no8 kp7 kpp q7 w2 (by omega) (by omega) (by omega) pr8 (by omega), Or.inl (fun c a b => (a110 c).trans (rcf.1 c a b))⟩ | exact SmV.rf | exact kp9.1 | exact kp7.1.tr sm9 | exact bfR | assumption | omega) Lst_h9)
    ·
      have gh12 : my_fr [(2, 11), (7, 0), (7, 1), (7, 2), (7, 3), (7, 4), (7, 5), (8, 0), (8, 1), (30, -1), (31, -1), (41, -1), (42, -1), (43, -1), (44, -1)] h h12 := my_fr.tr my_fr.rf (frh12.mo rfl)
      have Lst_h12 : Lst h12 := Lst_ag (my_ag.fr frh12 rfl) n_Lst
      have Ln_h12 : Ln h12 := Ln_ag (my_ag.fr frh12 rfl) n_Ln
      have Td_h12 : Td h12 x1 := Td_ag (my_ag.fr frh12 rfl) n_Ln n_Td
      show wp l rho (d + 4) 105 17 [(2, 94), (0, x1)] [(0, 1)] h12 Q
      have rc := xp13
      have bfr := xp14
      refine w_ifeq (t := 110) gz_105_17 rfl (fun u42 => by exfalso; omega) (fun u42 => ?_)
      refine w_aload_n gz_105_20 rfl ?_
      refine w_getX (v := 1) gz_105_21 is_94 rd_2 rfl (by decide) rfl ?_
      refine w_aload_n gz_105_24 rfl ?_
      refine w_getX (v := 95) gz_105_25 is_94 rd_2 rfl (by decide) rfl ?_
      refine w_inv (k := 4) (as := [(2, 95)]) (r := []) (x := 1) (ls0 := [(2, 1), (2, 95), (9, 0), (9, 0), (9, 0), (9, 0)]) gz_105_28 gm_19 rfl is_1 rd_3 rfl rfl rfl rfl rfl (c_Laws_firstBroken5 (d := (d + 1)) (x1 := 95) is_95 (fun xp45 => ?_) (fun v46 w47 w48 xp49 => ?_))
      ·
        show wp l rho (d + 4) 105 31 [(2, 94), (0, x1)] [(0, (-1))] h12 Q
        have fb := xp45
        have rcL : RcY h h12 (h 27 x1) := eqL (P := fun L => RcY h h12 L) rc (by first | assumption | omega)
        refine v_knowA (x := 110) is_110 rd_41 (fun kF => ?_)
        have rcf := Rc_add hk rcL
        have rla := Rc_la hk rcL (fun c a b => by have z := kF c a (by omega); omega) (zqCA_e (fun j => my_fr.at gh12 pis_2 rfl) (fun j => my_fr.at gh12 pis_3 rfl) (fun j => my_fr.at gh12 pis_4 rfl) (fun j => my_fr.at gh12 pis_5 rfl) (fun j => my_fr.at gh12 pis_6 rfl))
        refine w_iconst gz_105_31 (by decide) ?_
        refine w_icne (t := 110) gz_105_32 rfl (fun u50 => by exfalso; omega) (fun u50 => ?_)
        refine w_aload_n gz_105_35 rfl ?_
        refine w_getX (v := 106) gz_105_36 is_94 rd_2 rfl (by decide) rfl ?_
        refine w_aload_n gz_105_39 rfl ?_
        refine w_getX (v := 27) gz_105_40 is_94 rd_2 rfl (by decide) rfl ?_
        refine w_iload_n gz_105_43 rfl ?_
        refine w_aload_n gz_105_44 rfl ?_
        refine w_getX (v := 95) gz_105_45 is_94 rd_2 rfl (by decide) rfl ?_
        have ag7 := my_ag.fr (F := LwF) gh12 rfl
        refine w_inv (k := 4) (as := [(2, 95), (0, x1), (2, 27)]) (r := []) (x := 106) (ls0 := [(2, 106), (2, 27), (0, x1), (2, 95), (9, 0), (9, 0), (9, 0), (9, 0)]) gz_105_48 gm_67 rfl is_106 rd_8 rfl rfl rfl rfl rfl (c_View_show6 (d := d) (x0 := 106) (x2 := x1) (x3 := 95) is_106 (by omega) (by omega) (by omega) (by omega) is_95 Ln_h12 Td_h12 (Lw_ag ag7 n_Ln hk.2.2.1) (rla.1) (fun h54 v55 frh54 fxh54 w56 xp57 xp58 xp59 xp60 => ?_))
        have gh54 : my_fr [(2, 11), (7, 0), (7, 1), (7, 2), (7, 3), (7, 4), (7, 5), (8, 0), (8, 1), (30, -1), (31, -1), (41, -1), (42, -1), (43, -1), (44, -1)] h h54 := my_fr.tr gh12 (frh54.mo rfl)
        have Lst_h54 : Lst h54 := Lst_ag (my_ag.fr frh54 rfl) Lst_h12
        have Ln_h54 : Ln h54 := Ln_ag (my_ag.fr frh54 rfl) Ln_h12
        have Td_h54 : Td h54 x1 := Td_ag (my_ag.fr frh54 rfl) Ln_h12 Td_h12
        show wp l rho (d + 4) 105 51 [(2, 94), (0, x1)] [(2, v55)] h54 Q
        have vs : VwI h54 106 (h12 96) (h12 (h12 27 x1) 2) (h12 (h12 27 x1) 3) (zqCW h12 x1) := xp58
        have os := xp59
        have ys := xp60
        refine w_aload_n gz_105_51 rfl ?_
        refine w_getX (v := 102) gz_105_52 is_94 rd_2 rfl (by decide) rfl ?_
        have ce62 : h54 94 11 = h 94 11 := ((my_fr.at frh54 is_94 rfl).trans ((my_fr.at frh12 is_94 rfl).trans (rfl : h 94 11 = h 94 11)))
        have ce63 : h54 94 12 = h 94 12 := ((my_fr.at frh54 is_94 rfl).trans ((my_fr.at frh12 is_94 rfl).trans (rfl : h 94 12 = h 94 12)))
        have ce64 : h54 94 13 = (h 94 13) := ((my_fr.at frh54 is_94 rfl).trans ((my_fr.at frh12 is_94 rfl).trans (rfl : h 94 13 = h 94 13)))
        have ce65 : h54 94 14 = h 94 14 := ((my_fr.at frh54 is_94 rfl).trans ((my_fr.at frh12 is_94 rfl).trans (rfl : h 94 14 = h 94 14)))
        have ce66 : h54 94 15 = h 94 15 := ((my_fr.at frh54 is_94 rfl).trans ((my_fr.at frh12 is_94 rfl).trans (rfl : h 94 15 = h 94 15)))
        have ce67 : h54 94 16 = h 94 16 := ((my_fr.at frh54 is_94 rfl).trans ((my_fr.at frh12 is_94 rfl).trans (rfl : h 94 16 = h 94 16)))
        have ce68 : h54 98 0 = h 98 0 := ((my_fx.at fxh54 (by omega)).trans ((my_fr.at frh12 is_98 rfl).trans (rfl : h 98 0 = h 98 0)))
        have ce69 : h54 98 1 = h 98 1 := ((my_fx.at fxh54 (by omega)).trans ((my_fr.at frh12 is_98 rfl).trans (rfl : h 98 1 = h 98 1)))
        have ce70 : h54 102 0 = h 102 0 := ((my_fx.at fxh54 (by omega)).trans ((my_fr.at frh12 is_102 rfl).trans (rfl : h 102 0 = h 102 0)))
        have ce71 : h54 102 1 = h 102 1 := ((my_fx.at fxh54 (by omega)).trans ((my_fr.at frh12 is_102 rfl).trans (rfl : h 102 1 = h 102 1)))
        have ce72 : h54 112 0 = h 112 0 := ((my_fr.at frh54 is_112 rfl).trans ((my_fr.at frh12 is_112 rfl).trans (rfl : h 112 0 = h 112 0)))
        have ce73 : h54 112 1 = h 112 1 := ((my_fr.at frh54 is_112 rfl).trans ((my_fr.at frh12 is_112 rfl).trans (rfl : h 112 1 = h 112 1)))
        have ce74 : h54 112 2 = h 112 2 := ((my_fr.at frh54 is_112 rfl).trans ((my_fr.at frh12 is_112 rfl).trans (rfl : h 112 2 = h 112 2)))
        have ce75 : h54 112 3 = h 112 3 := ((my_fr.at frh54 is_112 rfl).trans ((my_fr.at frh12 is_112 rfl).trans (rfl : h 112 3 = h 112 3)))
        have ce76 : h54 112 4 = h 112 4 := ((my_fr.at frh54 is_112 rfl).trans ((my_fr.at frh12 is_112 rfl).trans (rfl : h 112 4 = h 112 4)))
        have ce77 : h54 112 5 = h 112 5 := ((my_fr.at frh54 is_112 rfl).trans ((my_fr.at frh12 is_112 rfl).trans (rfl : h 112 5 = h 112 5)))
        have ce78 : h54 113 0 = h 113 0 := ((my_fr.at frh54 is_113 rfl).trans ((my_fr.at frh12 is_113 rfl).trans (rfl : h 113 0 = h 113 0)))
        have ce79 : h54 113 1 = h 113 1 := ((my_fr.at frh54 is_113 rfl).trans ((my_fr.at frh12 is_113 rfl).trans (rfl : h 113 1 = h 113 1)))
        have ce80 : h54 113 2 = h 113 2 := ((my_fr.at frh54 is_113 rfl).trans ((my_fr.at frh12 is_113 rfl).trans (rfl : h 113 2 = h 113 2)))
        have ce81 : h54 113 3 = h 113 3 := ((my_fr.at frh54 is_113 rfl).trans ((my_fr.at frh12 is_113 rfl).trans (rfl : h 113 3 = h 113 3)))
        have ce82 : h54 113 4 = h 113 4 := ((my_fr.at frh54 is_113 rfl).trans ((my_fr.at frh12 is_113 rfl).trans (rfl : h 113 4 = h 113 4)))
        have ce83 : h54 113 5 = h 113 5 := ((my_fr.at frh54 is_113 rfl).trans ((my_fr.at frh12 is_113 rfl).trans (rfl : h 113 5 = h 113 5)))
        have a99 : ∀ j : Int, h54 99 j = h 99 j := fun j => ((my_fx.at fxh54 (by omega)).trans ((my_fr.at frh12 is_99 rfl).trans (rfl : h 99 j = h 99 j)))
        have a101 : ∀ j : Int, h54 101 j = h 101 j := fun j => ((my_fx.at fxh54 (by omega)).trans ((my_fr.at frh12 is_101 rfl).trans (rfl : h 101 j = h 101 j)))
        have a103 : ∀ j : Int, h54 103 j = h 103 j := fun j => ((my_fx.at fxh54 (by omega)).trans ((my_fr.at frh12 is_103 rfl).trans (rfl : h 103 j = h 103 j)))
        have sm8 : SmV h h54 := ⟨by omega, by omega, by omega, by omega, by omega, by omega, by omega, by omega, a99, a101, a103⟩
        have kw8 := SrC_w hk
        refine w_inv (k := 1) (as := [(2, 102)]) (r := []) (x := v55) (ls0 := [(2, v55), (2, 102), (9, 0)]) gz_105_55 gm_93 rfl w56 rd_8 rfl rfl rfl rfl rfl (c_View_same5 (d := (d + 2)) (x0 := v55) (x1 := 102) w56 is_102 ((by rw [ys]; exact ShS_bd hk n_Ln ag7 rla.1 vs)) (WtB_cg hk.2.2.2.2.2.2.1 sm8.2.2.2.2.2.2.1 sm8.2.2.2.2.2.2.2.1 (by omega) sm8.2.2.2.2.2.2.2.2.2.2) (fun xp84 => ?_) (fun xp85 => ?_))
        ·
          show wp l rho (d + 4) 105 58 [(2, 94), (0, x1)] [(0, 0)] h54 Q
          have sa := xp84
          rw [ys] at sa
          have la8 := rla.2.mp fb
          have qI := Q3_sh hk n_Ln ag7 sm8 rcL (fun _ => rfl) vs os la8
          refine w_ifeq (t := 110) gz_105_58 rfl (fun u86 => ?_) (fun u86 => by exfalso; omega)
          have ce87 : h54 94 11 = h 94 11 := ((my_fr.at frh54 is_94 rfl).trans ((my_fr.at frh12 is_94 rfl).trans (rfl : h 94 11 = h 94 11)))
          have ce88 : h54 94 12 = h 94 12 := ((my_fr.at frh54 is_94 rfl).trans ((my_fr.at frh12 is_94 rfl).trans (rfl : h 94 12 = h 94 12)))
          have ce89 : h54 94 13 = (h 94 13) := ((my_fr.at frh54 is_94 rfl).trans ((my_fr.at frh12 is_94 rfl).trans (rfl : h 94 13 = h 94 13)))
          have ce90 : h54 94 14 = h 94 14 := ((my_fr.at frh54 is_94 rfl).trans ((my_fr.at frh12 is_94 rfl).trans (rfl : h 94 14 = h 94 14)))
          have ce91 : h54 94 15 = h 94 15 := ((my_fr.at frh54 is_94 rfl).trans ((my_fr.at frh12 is_94 rfl).trans (rfl : h 94 15 = h 94 15)))
          have ce92 : h54 94 16 = h 94 16 := ((my_fr.at frh54 is_94 rfl).trans ((my_fr.at frh12 is_94 rfl).trans (rfl : h 94 16 = h 94 16)))
          have ce93 : h54 98 0 = h 98 0 := ((my_fx.at fxh54 (by omega)).trans ((my_fr.at frh12 is_98 rfl).trans (rfl : h 98 0 = h 98 0)))
          have ce94 : h54 98 1 = h 98 1 := ((my_fx.at fxh54 (by omega)).trans ((my_fr.at frh12 is_98 rfl).trans (rfl : h 98 1 = h 98 1)))
          have ce95 : h54 102 0 = h 102 0 := ((my_fx.at fxh54 (by omega)).trans ((my_fr.at frh12 is_102 rfl).trans (rfl : h 102 0 = h 102 0)))
          have ce96 : h54 102 1 = h 102 1 := ((my_fx.at fxh54 (by omega)).trans ((my_fr.at frh12 is_102 rfl).trans (rfl : h 102 1 = h 102 1)))
          have ce97 : h54 112 0 = h 112 0 := ((my_fr.at frh54 is_112 rfl).trans ((my_fr.at frh12 is_112 rfl).trans (rfl : h 112 0 = h 112 0)))
          have ce98 : h54 112 1 = h 112 1 := ((my_fr.at frh54 is_112 rfl).trans ((my_fr.at frh12 is_112 rfl).trans (rfl : h 112 1 = h 112 1)))
          have ce99 : h54 112 2 = h 112 2 := ((my_fr.at frh54 is_112 rfl).trans ((my_fr.at frh12 is_112 rfl).trans (rfl : h 112 2 = h 112 2)))
          have ce100 : h54 112 3 = h 112 3 := ((my_fr.at frh54 is_112 rfl).trans ((my_fr.at frh12 is_112 rfl).trans (rfl : h 112 3 = h 112 3)))
          have ce101 : h54 112 4 = h 112 4 := ((my_fr.at frh54 is_112 rfl).trans ((my_fr.at frh12 is_112 rfl).trans (rfl : h 112 4 = h 112 4)))
          have ce102 : h54 112 5 = h 112 5 := ((my_fr.at frh54 is_112 rfl).trans ((my_fr.at frh12 is_112 rfl).trans (rfl : h 112 5 = h 112 5)))
          have ce103 : h54 113 0 = h 113 0 := ((my_fr.at frh54 is_113 rfl).trans ((my_fr.at frh12 is_113 rfl).trans (rfl : h 113 0 = h 113 0)))
          have ce104 : h54 113 1 = h 113 1 := ((my_fr.at frh54 is_113 rfl).trans ((my_fr.at frh12 is_113 rfl).trans (rfl : h 113 1 = h 113 1)))
          have ce105 : h54 113 2 = h 113 2 := ((my_fr.at frh54 is_113 rfl).trans ((my_fr.at frh12 is_113 rfl).trans (rfl : h 113 2 = h 113 2)))
          have ce106 : h54 113 3 = h 113 3 := ((my_fr.at frh54 is_113 rfl).trans ((my_fr.at frh12 is_113 rfl).trans (rfl : h 113 3 = h 113 3)))
          have ce107 : h54 113 4 = h 113 4 := ((my_fr.at frh54 is_113 rfl).trans ((my_fr.at frh12 is_113 rfl).trans (rfl : h 113 4 = h 113 4)))
          have ce108 : h54 113 5 = h 113 5 := ((my_fr.at frh54 is_113 rfl).trans ((my_fr.at frh12 is_113 rfl).trans (rfl : h 113 5 = h 113 5)))
          have ce109 : h54 94 13 = (h 94 13) := ((my_fr.at frh54 is_94 rfl).trans ((my_fr.at frh12 is_94 rfl).trans (rfl : h 94 13 = h 94 13)))
          have ce110 : h54 94 14 = h 94 14 := ((my_fr.at frh54 is_94 rfl).trans ((my_fr.at frh12 is_94 rfl).trans (rfl : h 94 14 = h 94 14)))
          have ce111 : h54 94 15 = h 94 15 := ((my_fr.at frh54 is_94 rfl).trans ((my_fr.at frh12 is_94 rfl).trans (rfl : h 94 15 = h 94 15)))
          have ce112 : h54 94 16 = h 94 16 := ((my_fr.at frh54 is_94 rfl).trans ((my_fr.at frh12 is_94 rfl).trans (rfl : h 94 16 = h 94 16)))
          have a99 : ∀ j : Int, h54 99 j = h 99 j := fun j => ((my_fx.at fxh54 (by omega)).trans ((my_fr.at frh12 is_99 rfl).trans (rfl : h 99 j = h 99 j)))
          have a101 : ∀ j : Int, h54 101 j = h 101 j := fun j => ((my_fx.at fxh54 (by omega)).trans ((my_fr.at frh12 is_101 rfl).trans (rfl : h 101 j = h 101 j)))
          have a103 : ∀ j : Int, h54 103 j = h 103 j := fun j => ((my_fx.at fxh54 (by omega)).trans ((my_fr.at frh12 is_103 rfl).trans (rfl : h 103 j = h 103 j)))
          have a110 : ∀ j : Int, h54 110 j = h12 110 j := fun j => ((my_fr.at frh54 is_110 rfl).trans (rfl : h12 110 j = h12 110 j))
          have bfR : ∀ k j : Int, 0 ≤ k → (k < 94 ∨ 120 ≤ k ∧ k < 151) → h54 k j = h k j := fun k j k0 k1 => (((my_fx.at fxh54 (by omega)).trans (bfr k j k0 k1)).trans rfl)
          have kp9 : KpS h h54 := ⟨⟨by omega, by omega, by omega, by omega, by omega, by omega, by omega, by omega, a99, a101, a103⟩, ⟨by omega, by omega⟩, ⟨by omega, by omega, by omega, by omega, by omega, by omega⟩, ⟨by omega, by omega, by omega, by omega, by omega, by omega⟩⟩
          exact w_vret gz_105_110 gm_105 (k0 h54 (gh54) (by first | exact Cm_e hk hd (by omega) (by omega) (by omega) | exact ⟨Cm_n (DkE_cg hd kp9) (Q3_no hk (eqL (P := fun L => RcN h h54 L) rc (by first | assumption | omega))), Or.inl (Rn_f hk (eqL (P := fun L => RcN h h54 L) rc (by first | assumption | omega)))⟩ | exact ⟨Cm_n (DkE_cg hd kp9) (Q3_la (fun z => by obtain ⟨p, a, b, c, d, e⟩ := fb; exact d (rla.2.mpr z p a b))), Or.inl (fun c a b => (a110 c).trans (rcf.1 c a b))⟩ | exact ⟨Cm_n (DkE_cg hd kp9) (fun z => sa (qI.mpr z)), Or.inl (fun c a b => (a110 c).trans (rcf.1 c a b))⟩ | exact ⟨Cm_y hd no8 kp7 kpp q7 w2 (by omega) (by omega) (by omega) pr8 (by omega), Or.inl (fun c a b => (a110 c).trans (rcf.1 c a b))⟩ | exact SmV.rf | exact kp9.1 | exact kp7.1.tr sm9 | exact bfR | assumption | omega) (by first | exact Cm_e hk hd (by omega) (by omega) (by omega) | exact ⟨Cm_n (DkE_cg hd kp9) (Q3_no hk (eqL (P := fun L => RcN h h54 L) rc (by first | assumption | omega))), Or.inl (Rn_f hk (eqL (P := fun L => RcN h h54 L) rc (by first | assumption | omega)))⟩ | exact ⟨Cm_n (DkE_cg hd kp9) (Q3_la (fun z => by obtain ⟨p, a, b, c, d, e⟩ := fb; exact d (rla.2.mpr z p a b))), Or.inl (fun c a b => (a110 c).trans (rcf.1 c a b))⟩ | exact ⟨Cm_n (DkE_cg hd kp9) (fun z => sa (qI.mpr z)), Or.inl (fun c a b => (a110 c).trans (rcf.1 c a b))⟩ | exact ⟨Cm_y hd no8 kp7 kpp q7 w2 (by omega) (by omega) (by omega) pr8 (by omega), Or.inl (fun c a b => (a110 c).trans (rcf.1 c a b))⟩ | exact SmV.rf | exact kp9.1 | exact kp7.1.tr sm9 | exact bfR | assumption | omega) (by first | exact Cm_e hk hd (by omega) (by omega) (by omega) | exact ⟨Cm_n (DkE_cg hd kp9) (Q3_no hk (eqL (P := fun L => RcN h h54 L) rc (by first | assumption | omega))), Or.inl (Rn_f hk (eqL (P := fun L => RcN h h54 L) rc (by first | assumption | omega)))⟩ | exact ⟨Cm_n (DkE_cg hd kp9) (Q3_la (fun z => by obtain ⟨p, a, b, c, d, e⟩ := fb; exact d (rla.2.mpr z p a b))), Or.inl (fun c a b => (a110 c).trans (rcf.1 c a b))⟩ | exact ⟨Cm_n (DkE_cg hd kp9) (fun z => sa (qI.mpr z)), Or.inl (fun c a b => (a110 c).trans (rcf.1 c a b))⟩ | exact ⟨Cm_y hd no8 kp7 kpp q7 w2 (by omega) (by omega) (by omega) pr8 (by omega), Or.inl (fun c a b => (a110 c).trans (rcf.1 c a b))⟩ | exact SmV.rf | exact kp9.1 | exact kp7.1.tr sm9 | exact bfR | assumption | omega) Lst_h54)
        ·
          show wp l rho (d + 4) 105 58 [(2, 94), (0, x1)] [(0, 1)] h54 Q
          have sa := xp85
          rw [ys] at sa
          have la8 := rla.2.mp fb
          have qI := Q3_sh hk n_Ln ag7 sm8 rcL (fun _ => rfl) vs os la8
          refine w_ifeq (t := 110) gz_105_58 rfl (fun u113 => by exfalso; omega) (fun u113 => ?_)
          refine w_aload_n gz_105_61 rfl ?_
          refine w_getX (v := 111) gz_105_62 is_94 rd_2 rfl (by decide) rfl ?_
          refine w_aload_n gz_105_65 rfl ?_
          refine w_getX (v := 27) gz_105_66 is_94 rd_2 rfl (by decide) rfl ?_
          refine w_iload_n gz_105_69 rfl ?_
          refine w_aald gz_105_70 is_27 rd_22 rfl (by omega) (by omega) (fun v116 ev116 tv116 => ?_)
          have zv116 : v8 = v116 := (ev116.trans ((my_fr.at frh54 is_27 rfl).trans ((my_fr.at frh12 is_27 rfl).trans ev8.symm))).symm
          subst zv116
          have L71 : v8 = h 27 x1 := by first | assumption | omega
          have b71 : h54 v8 2 = h (h 27 x1) 2 := by
            rw [L71]
            exact my_fr.at gh54 (n_Ln.2.2.1 _ (by omega) (by omega)) rfl
          refine v_getI (j := 2) gz_105_71 rfl tv8 rd_4 rfl (fun v117 ev117 pv117 qv117 => ?_)
          refine v_putI (j := 2) gz_105_74 rfl is_111 rd_7 rfl (by omega) (by omega) rfl (fun h118 fh118 => ?_)
          have gh118 : my_fr [(2, 11), (7, 0), (7, 1), (7, 2), (7, 3), (7, 4), (7, 5), (8, 0), (8, 1), (30, -1), (31, -1), (41, -1), (42, -1), (43, -1), (44, -1)] h h118 := my_fr.up gh54 is_111 fh118 rfl
          have Lst_h118 : Lst h118 := Lst_ne fh118 (by decide) Lst_h54
          have Ln_h118 : Ln h118 := Ln_ag (my_ag.up fh118 is_111 rfl) Ln_h54
          have Td_h118 : Td h118 x1 := Td_ag (my_ag.up fh118 is_111 rfl) Ln_h54 Td_h54
          refine w_aload_n gz_105_77 rfl ?_
          refine w_getX (v := 111) gz_105_78 is_94 rd_2 rfl (by decide) rfl ?_
          refine w_aload_n gz_105_81 rfl ?_
          refine w_getX (v := 110) gz_105_82 is_94 rd_2 rfl (by decide) rfl ?_
          refine w_iconst gz_105_85 (by decide) ?_
          refine w_iald gz_105_86 is_110 rd_41 (by omega) (by omega) (fun v121 ev121 pv121 qv121 => ?_)
          have a110 : ∀ j : Int, h118 110 j = h12 110 j := fun j => ((my_up_role fh118 is_110 is_111 rfl).trans ((my_fr.at frh54 is_110 rfl).trans (rfl : h12 110 j = h12 110 j)))
          have fr8 : v121 = cmR h x1 0 := by
            have q := rcf.1 0 (by omega) (by omega)
            have e := a110 0
            omega
          refine v_putI (j := 3) gz_105_87 rfl is_111 rd_7 rfl (by omega) (by omega) rfl (fun h122 fh122 => ?_)
          have gh122 : my_fr [(2, 11), (7, 0), (7, 1), (7, 2), (7, 3), (7, 4), (7, 5), (8, 0), (8, 1), (30, -1), (31, -1), (41, -1), (42, -1), (43, -1), (44, -1)] h h122 := my_fr.up gh118 is_111 fh122 rfl
          have Lst_h122 : Lst h122 := Lst_ne fh122 (by decide) Lst_h118
          have Ln_h122 : Ln h122 := Ln_ag (my_ag.up fh122 is_111 rfl) Ln_h118
          have Td_h122 : Td h122 x1 := Td_ag (my_ag.up fh122 is_111 rfl) Ln_h118 Td_h118
          refine w_aload_n gz_105_90 rfl ?_
          refine w_iconst gz_105_91 (by decide) ?_
          refine w_aload_n gz_105_92 rfl ?_
          refine w_getX (v := 1) gz_105_93 is_94 rd_2 rfl (by decide) rfl ?_
          refine w_getX (v := 2) gz_105_96 is_1 rd_3 rfl (by decide) rfl ?_
          refine w_aload_n gz_105_99 rfl ?_
          refine w_getX (v := 111) gz_105_100 is_94 rd_2 rfl (by decide) rfl ?_
          refine v_getI (j := 2) gz_105_103 rfl is_111 rd_7 rfl (fun v126 ev126 pv126 qv126 => ?_)
          have zv126 := ev126.trans ((my_up_fld fh122 (by decide)).trans (my_up_self fh118))
          refine w_iald gz_105_106 is_2 rd_25 (by omega) (by omega) (fun v127 ev127 pv127 qv127 => ?_)
          have ce128 : h122 111 2 = v126 := ev126.symm
          have ce129 : h122 111 3 = v121 := (my_up_self fh122)
          have ce130 : h122 111 4 = h 111 4 := ((my_up_fld fh122 (by decide)).trans ((my_up_fld fh118 (by decide)).trans ((my_fr.at frh54 is_111 rfl).trans ((my_fr.at frh12 is_111 rfl).trans (rfl : h 111 4 = h 111 4)))))
          have ce131 : h122 111 5 = h 111 5 := ((my_up_fld fh122 (by decide)).trans ((my_up_fld fh118 (by decide)).trans ((my_fr.at frh54 is_111 rfl).trans ((my_fr.at frh12 is_111 rfl).trans (rfl : h 111 5 = h 111 5)))))
          have ce132 : h122 94 11 = h 94 11 := ((my_up_role fh122 is_94 is_111 rfl).trans ((my_up_role fh118 is_94 is_111 rfl).trans ((my_fr.at frh54 is_94 rfl).trans ((my_fr.at frh12 is_94 rfl).trans (rfl : h 94 11 = h 94 11)))))
          have ce133 : h122 94 12 = h 94 12 := ((my_up_role fh122 is_94 is_111 rfl).trans ((my_up_role fh118 is_94 is_111 rfl).trans ((my_fr.at frh54 is_94 rfl).trans ((my_fr.at frh12 is_94 rfl).trans (rfl : h 94 12 = h 94 12)))))
          have ce134 : h122 94 13 = (h 94 13) := ((my_up_role fh122 is_94 is_111 rfl).trans ((my_up_role fh118 is_94 is_111 rfl).trans ((my_fr.at frh54 is_94 rfl).trans ((my_fr.at frh12 is_94 rfl).trans (rfl : h 94 13 = h 94 13)))))
          have ce135 : h122 94 14 = h 94 14 := ((my_up_role fh122 is_94 is_111 rfl).trans ((my_up_role fh118 is_94 is_111 rfl).trans ((my_fr.at frh54 is_94 rfl).trans ((my_fr.at frh12 is_94 rfl).trans (rfl : h 94 14 = h 94 14)))))
          have ce136 : h122 94 15 = h 94 15 := ((my_up_role fh122 is_94 is_111 rfl).trans ((my_up_role fh118 is_94 is_111 rfl).trans ((my_fr.at frh54 is_94 rfl).trans ((my_fr.at frh12 is_94 rfl).trans (rfl : h 94 15 = h 94 15)))))
          have ce137 : h122 94 16 = h 94 16 := ((my_up_role fh122 is_94 is_111 rfl).trans ((my_up_role fh118 is_94 is_111 rfl).trans ((my_fr.at frh54 is_94 rfl).trans ((my_fr.at frh12 is_94 rfl).trans (rfl : h 94 16 = h 94 16)))))
          have ce138 : h122 98 0 = h 98 0 := ((my_up_role fh122 is_98 is_111 rfl).trans ((my_up_role fh118 is_98 is_111 rfl).trans ((my_fx.at fxh54 (by omega)).trans ((my_fr.at frh12 is_98 rfl).trans (rfl : h 98 0 = h 98 0)))))
          have ce139 : h122 98 1 = h 98 1 := ((my_up_role fh122 is_98 is_111 rfl).trans ((my_up_role fh118 is_98 is_111 rfl).trans ((my_fx.at fxh54 (by omega)).trans ((my_fr.at frh12 is_98 rfl).trans (rfl : h 98 1 = h 98 1)))))
          have ce140 : h122 102 0 = h 102 0 := ((my_up_role fh122 is_102 is_111 rfl).trans ((my_up_role fh118 is_102 is_111 rfl).trans ((my_fx.at fxh54 (by omega)).trans ((my_fr.at frh12 is_102 rfl).trans (rfl : h 102 0 = h 102 0)))))
          have ce141 : h122 102 1 = h 102 1 := ((my_up_role fh122 is_102 is_111 rfl).trans ((my_up_role fh118 is_102 is_111 rfl).trans ((my_fx.at fxh54 (by omega)).trans ((my_fr.at frh12 is_102 rfl).trans (rfl : h 102 1 = h 102 1)))))
          have ce142 : h122 112 0 = h 112 0 := ((my_up_fld fh122 (by decide)).trans ((my_up_fld fh118 (by decide)).trans ((my_fr.at frh54 is_112 rfl).trans ((my_fr.at frh12 is_112 rfl).trans (rfl : h 112 0 = h 112 0)))))
          have ce143 : h122 112 1 = h 112 1 := ((my_up_fld fh122 (by decide)).trans ((my_up_fld fh118 (by decide)).trans ((my_fr.at frh54 is_112 rfl).trans ((my_fr.at frh12 is_112 rfl).trans (rfl : h 112 1 = h 112 1)))))
          have ce144 : h122 112 2 = h 112 2 := ((my_up_fld fh122 (by decide)).trans ((my_up_ne fh118 (by omega)).trans ((my_fr.at frh54 is_112 rfl).trans ((my_fr.at frh12 is_112 rfl).trans (rfl : h 112 2 = h 112 2)))))
          have ce145 : h122 112 3 = h 112 3 := ((my_up_ne fh122 (by omega)).trans ((my_up_fld fh118 (by decide)).trans ((my_fr.at frh54 is_112 rfl).trans ((my_fr.at frh12 is_112 rfl).trans (rfl : h 112 3 = h 112 3)))))
          have ce146 : h122 112 4 = h 112 4 := ((my_up_fld fh122 (by decide)).trans ((my_up_fld fh118 (by decide)).trans ((my_fr.at frh54 is_112 rfl).trans ((my_fr.at frh12 is_112 rfl).trans (rfl : h 112 4 = h 112 4)))))
          have ce147 : h122 112 5 = h 112 5 := ((my_up_fld fh122 (by decide)).trans ((my_up_fld fh118 (by decide)).trans ((my_fr.at frh54 is_112 rfl).trans ((my_fr.at frh12 is_112 rfl).trans (rfl : h 112 5 = h 112 5)))))
          have ce148 : h122 113 0 = h 113 0 := ((my_up_fld fh122 (by decide)).trans ((my_up_fld fh118 (by decide)).trans ((my_fr.at frh54 is_113 rfl).trans ((my_fr.at frh12 is_113 rfl).trans (rfl : h 113 0 = h 113 0)))))
          have ce149 : h122 113 1 = h 113 1 := ((my_up_fld fh122 (by decide)).trans ((my_up_fld fh118 (by decide)).trans ((my_fr.at frh54 is_113 rfl).trans ((my_fr.at frh12 is_113 rfl).trans (rfl : h 113 1 = h 113 1)))))
          have ce150 : h122 113 2 = h 113 2 := ((my_up_fld fh122 (by decide)).trans ((my_up_ne fh118 (by omega)).trans ((my_fr.at frh54 is_113 rfl).trans ((my_fr.at frh12 is_113 rfl).trans (rfl : h 113 2 = h 113 2)))))
          have ce151 : h122 113 3 = h 113 3 := ((my_up_ne fh122 (by omega)).trans ((my_up_fld fh118 (by decide)).trans ((my_fr.at frh54 is_113 rfl).trans ((my_fr.at frh12 is_113 rfl).trans (rfl : h 113 3 = h 113 3)))))
          have ce152 : h122 113 4 = h 113 4 := ((my_up_fld fh122 (by decide)).trans ((my_up_fld fh118 (by decide)).trans ((my_fr.at frh54 is_113 rfl).trans ((my_fr.at frh12 is_113 rfl).trans (rfl : h 113 4 = h 113 4)))))
          have ce153 : h122 113 5 = h 113 5 := ((my_up_fld fh122 (by decide)).trans ((my_up_fld fh118 (by decide)).trans ((my_fr.at frh54 is_113 rfl).trans ((my_fr.at frh12 is_113 rfl).trans (rfl : h 113 5 = h 113 5)))))
          have a99 : ∀ j : Int, h122 99 j = h 99 j := fun j => ((my_up_role fh122 is_99 is_111 rfl).trans ((my_up_role fh118 is_99 is_111 rfl).trans ((my_fx.at fxh54 (by omega)).trans ((my_fr.at frh12 is_99 rfl).trans (rfl : h 99 j = h 99 j)))))
          have a101 : ∀ j : Int, h122 101 j = h 101 j := fun j => ((my_up_role fh122 is_101 is_111 rfl).trans ((my_up_role fh118 is_101 is_111 rfl).trans ((my_fx.at fxh54 (by omega)).trans ((my_fr.at frh12 is_101 rfl).trans (rfl : h 101 j = h 101 j)))))
          have a103 : ∀ j : Int, h122 103 j = h 103 j := fun j => ((my_up_role fh122 is_103 is_111 rfl).trans ((my_up_role fh118 is_103 is_111 rfl).trans ((my_fx.at fxh54 (by omega)).trans ((my_fr.at frh12 is_103 rfl).trans (rfl : h 103 j = h 103 j)))))
          have kp7 : KpS h h122 := ⟨⟨by omega, by omega, by omega, by omega, by omega, by omega, by omega, by omega, a99, a101, a103⟩, ⟨by omega, by omega⟩, ⟨by omega, by omega, by omega, by omega, by omega, by omega⟩, ⟨by omega, by omega, by omega, by omega, by omega, by omega⟩⟩
          have hf7 : 0 ≤ h122 94 11 ∧ h122 94 11 ≤ 100000 := by
            have q := LG_f hd no8
            have e := kp7.2.1.1
            omega
          have w2 : h122 111 2 = h (h 27 x1) 2 := by omega
          have i8 : v126 = h (h 27 x1) 2 := by omega
          have pr8 : v127 = h 2 (h (h 27 x1) 2) := by
            rw [← my_fr.at (j := h (h 27 x1) 2) gh122 pis_2 rfl, ← i8]
            omega
          have q7 : Q3h h x1 := qI.mp sa
          refine w_inv (k := 0) (as := [(0, v127), (0, 3)]) (r := []) (x := 94) (ls0 := [(2, 94), (0, 3), (0, v127)]) gz_105_107 gm_94 rfl is_94 rd_2 rfl rfl rfl rfl rfl (c_Desk_keep5 (d := (d + 2)) (x1 := 3) (x2 := v127) (by omega) (by omega) (by omega) (by omega) Lst_h122 (by first | assumption | exact no_such_saying | exact Fp_told (by omega) (by omega) | omega | (subst_vars; omega) | omega) (by first | assumption | exact no_such_saying | exact Fp_told (by omega) (by omega) | omega | (subst_vars; omega) | omega) (by first | assumption | exact no_such_saying | exact Fp_told (by omega) (by omega) | omega | (subst_vars; omega) | omega) (hf7) (fun h154 frh154 w155 w156 xp157 xp158 xp159 xp160 xp161 Lst_h154t162 => ?_))
          have gh154 : my_fr [(2, 11), (7, 0), (7, 1), (7, 2), (7, 3), (7, 4), (7, 5), (8, 0), (8, 1), (30, -1), (31, -1), (41, -1), (42, -1), (43, -1), (44, -1)] h h154 := my_fr.tr gh122 (frh154.mo rfl)
          have Ln_h154 : Ln h154 := Ln_ag (my_ag.fr frh154 rfl) Ln_h122
          have Td_h154 : Td h154 x1 := Td_ag (my_ag.fr frh154 rfl) Ln_h122 Td_h122
          show wp l rho (d + 4) 105 110 [(2, 94), (0, x1)] [] h154 Q
          have kpp := xp161
          have sm9 := SmV_keep frh154
          have ce163 : h154 94 11 = (h154 94 11) := (rfl : h154 94 11 = h154 94 11)
          have ce164 : h154 94 12 = h 94 12 := ((my_fr.at frh154 is_94 rfl).trans ((my_up_role fh122 is_94 is_111 rfl).trans ((my_up_role fh118 is_94 is_111 rfl).trans ((my_fr.at frh54 is_94 rfl).trans ((my_fr.at frh12 is_94 rfl).trans (rfl : h 94 12 = h 94 12))))))
          have ce165 : h154 94 13 = (h 94 13) := ((my_fr.at frh154 is_94 rfl).trans ((my_up_role fh122 is_94 is_111 rfl).trans ((my_up_role fh118 is_94 is_111 rfl).trans ((my_fr.at frh54 is_94 rfl).trans ((my_fr.at frh12 is_94 rfl).trans (rfl : h 94 13 = h 94 13))))))
          have ce166 : h154 94 14 = h 94 14 := ((my_fr.at frh154 is_94 rfl).trans ((my_up_role fh122 is_94 is_111 rfl).trans ((my_up_role fh118 is_94 is_111 rfl).trans ((my_fr.at frh54 is_94 rfl).trans ((my_fr.at frh12 is_94 rfl).trans (rfl : h 94 14 = h 94 14))))))
          have ce167 : h154 94 15 = h 94 15 := ((my_fr.at frh154 is_94 rfl).trans ((my_up_role fh122 is_94 is_111 rfl).trans ((my_up_role fh118 is_94 is_111 rfl).trans ((my_fr.at frh54 is_94 rfl).trans ((my_fr.at frh12 is_94 rfl).trans (rfl : h 94 15 = h 94 15))))))
          have ce168 : h154 94 16 = h 94 16 := ((my_fr.at frh154 is_94 rfl).trans ((my_up_role fh122 is_94 is_111 rfl).trans ((my_up_role fh118 is_94 is_111 rfl).trans ((my_fr.at frh54 is_94 rfl).trans ((my_fr.at frh12 is_94 rfl).trans (rfl : h 94 16 = h 94 16))))))
          have ce169 : h154 98 0 = h 98 0 := ((my_fr.at frh154 is_98 rfl).trans ((my_up_role fh122 is_98 is_111 rfl).trans ((my_up_role fh118 is_98 is_111 rfl).trans ((my_fx.at fxh54 (by omega)).trans ((my_fr.at frh12 is_98 rfl).trans (rfl : h 98 0 = h 98 0))))))
          have ce170 : h154 98 1 = h 98 1 := ((my_fr.at frh154 is_98 rfl).trans ((my_up_role fh122 is_98 is_111 rfl).trans ((my_up_role fh118 is_98 is_111 rfl).trans ((my_fx.at fxh54 (by omega)).trans ((my_fr.at frh12 is_98 rfl).trans (rfl : h 98 1 = h 98 1))))))
          have ce171 : h154 102 0 = h 102 0 := ((my_fr.at frh154 is_102 rfl).trans ((my_up_role fh122 is_102 is_111 rfl).trans ((my_up_role fh118 is_102 is_111 rfl).trans ((my_fx.at fxh54 (by omega)).trans ((my_fr.at frh12 is_102 rfl).trans (rfl : h 102 0 = h 102 0))))))
          have ce172 : h154 102 1 = h 102 1 := ((my_fr.at frh154 is_102 rfl).trans ((my_up_role fh122 is_102 is_111 rfl).trans ((my_up_role fh118 is_102 is_111 rfl).trans ((my_fx.at fxh54 (by omega)).trans ((my_fr.at frh12 is_102 rfl).trans (rfl : h 102 1 = h 102 1))))))
          have ce173 : h154 94 13 = (h 94 13) := ((my_fr.at frh154 is_94 rfl).trans ((my_up_role fh122 is_94 is_111 rfl).trans ((my_up_role fh118 is_94 is_111 rfl).trans ((my_fr.at frh54 is_94 rfl).trans ((my_fr.at frh12 is_94 rfl).trans (rfl : h 94 13 = h 94 13))))))
          have ce174 : h154 94 14 = h 94 14 := ((my_fr.at frh154 is_94 rfl).trans ((my_up_role fh122 is_94 is_111 rfl).trans ((my_up_role fh118 is_94 is_111 rfl).trans ((my_fr.at frh54 is_94 rfl).trans ((my_fr.at frh12 is_94 rfl).trans (rfl : h 94 14 = h 94 14))))))
          have ce175 : h154 94 15 = h 94 15 := ((my_fr.at frh154 is_94 rfl).trans ((my_up_role fh122 is_94 is_111 rfl).trans ((my_up_role fh118 is_94 is_111 rfl).trans ((my_fr.at frh54 is_94 rfl).trans ((my_fr.at frh12 is_94 rfl).trans (rfl : h 94 15 = h 94 15))))))
          have ce176 : h154 94 16 = h 94 16 := ((my_fr.at frh154 is_94 rfl).trans ((my_up_role fh122 is_94 is_111 rfl).trans ((my_up_role fh118 is_94 is_111 rfl).trans ((my_fr.at frh54 is_94 rfl).trans ((my_fr.at frh12 is_94 rfl).trans (rfl : h 94 16 = h 94 16))))))
          have a99 : ∀ j : Int, h154 99 j = h 99 j := fun j => ((my_fr.at frh154 is_99 rfl).trans ((my_up_role fh122 is_99 is_111 rfl).trans ((my_up_role fh118 is_99 is_111 rfl).trans ((my_fx.at fxh54 (by omega)).trans ((my_fr.at frh12 is_99 rfl).trans (rfl : h 99 j = h 99 j))))))
          have a101 : ∀ j : Int, h154 101 j = h 101 j := fun j => ((my_fr.at frh154 is_101 rfl).trans ((my_up_role fh122 is_101 is_111 rfl).trans ((my_up_role fh118 is_101 is_111 rfl).trans ((my_fx.at fxh54 (by omega)).trans ((my_fr.at frh12 is_101 rfl).trans (rfl : h 101 j = h 101 j))))))
          have a103 : ∀ j : Int, h154 103 j = h 103 j := fun j => ((my_fr.at frh154 is_103 rfl).trans ((my_up_role fh122 is_103 is_111 rfl).trans ((my_up_role fh118 is_103 is_111 rfl).trans ((my_fx.at fxh54 (by omega)).trans ((my_fr.at frh12 is_103 rfl).trans (rfl : h 103 j = h 103 j))))))
          have a110 : ∀ j : Int, h154 110 j = h12 110 j := fun j => ((my_fr.at frh154 is_110 rfl).trans ((my_up_role fh122 is_110 is_111 rfl).trans ((my_up_role fh118 is_110 is_111 rfl).trans ((my_fr.at frh54 is_110 rfl).trans (rfl : h12 110 j = h12 110 j)))))
          have bfR : ∀ k j : Int, 0 ≤ k → (k < 94 ∨ 120 ≤ k ∧ k < 151) → h154 k j = h k j := fun k j k0 k1 => (((bg_fr frh154 (by decide +kernel) k j k0 k1).trans ((my_up_ne fh122 (by omega)).trans ((my_up_ne fh118 (by omega)).trans ((my_fx.at fxh54 (by omega)).trans (bfr k j k0 k1))))).trans rfl)
          exact w_vret gz_105_110 gm_105 (k0 h154 (gh154) (by first | exact Cm_e hk hd (by omega) (by omega) (by omega) | exact ⟨Cm_n (DkE_cg hd kp9) (Q3_no hk (eqL (P := fun L => RcN h h154 L) rc (by first | assumption | omega))), Or.inl (Rn_f hk (eqL (P := fun L => RcN h h154 L) rc (by first | assumption | omega)))⟩ | exact ⟨Cm_n (DkE_cg hd kp9) (Q3_la (fun z => by obtain ⟨p, a, b, c, d, e⟩ := fb; exact d (rla.2.mpr z p a b))), Or.inl (fun c a b => (a110 c).trans (rcf.1 c a b))⟩ | exact ⟨Cm_n (DkE_cg hd kp9) (fun z => sa (qI.mpr z)), Or.inl (fun c a b => (a110 c).trans (rcf.1 c a b))⟩ | exact ⟨Cm_y hd no8 kp7 kpp q7 w2 (by omega) (by omega) (by omega) pr8 (by omega), Or.inl (fun c a b => (a110 c).trans (rcf.1 c a b))⟩ | exact SmV.rf | exact kp9.1 | exact kp7.1.tr sm9 | exact bfR | assumption | omega) (by first | exact Cm_e hk hd (by omega) (by omega) (by omega) | exact ⟨Cm_n (DkE_cg hd kp9) (Q3_no hk (eqL (P := fun L => RcN h h154 L) rc (by first | assumption | omega))), Or.inl (Rn_f hk (eqL (P := fun L => RcN h h154 L) rc (by first | assumption | omega)))⟩ | exact ⟨Cm_n (DkE_cg hd kp9) (Q3_la (fun z => by obtain ⟨p, a, b, c, d, e⟩ := fb; exact d (rla.2.mpr z p a b))), Or.inl (fun c a b => (a110 c).trans (rcf.1 c a b))⟩ | exact ⟨Cm_n (DkE_cg hd kp9) (fun z => sa (qI.mpr z)), Or.inl (fun c a b => (a110 c).trans (rcf.1 c a b))⟩ | exact ⟨Cm_y hd no8 kp7 kpp q7 w2 (by omega) (by omega) (by omega) pr8 (by omega), Or.inl (fun c a b => (a110 c).trans (rcf.1 c a b))⟩ | exact SmV.rf | exact kp9.1 | exact kp7.1.tr sm9 | exact bfR | assumption | omega) (by first | exact Cm_e hk hd (by omega) (by omega) (by omega) | exact ⟨Cm_n (DkE_cg hd kp9) (Q3_no hk (eqL (P := fun L => RcN h h154 L) rc (by first | assumption | omega))), Or.inl (Rn_f hk (eqL (P := fun L => RcN h h154 L) rc (by first | assumption | omega)))⟩ | exact ⟨Cm_n (DkE_cg hd kp9) (Q3_la (fun z => by obtain ⟨p, a, b, c, d, e⟩ := fb; exact d (rla.2.mpr z p a b))), Or.inl (fun c a b => (a110 c).trans (rcf.1 c a b))⟩ | exact ⟨Cm_n (DkE_cg hd kp9) (fun z => sa (qI.mpr z)), Or.inl (fun c a b => (a110 c).trans (rcf.1 c a b))⟩ | exact ⟨Cm_y hd no8 kp7 kpp q7 w2 (by omega) (by omega) (by omega) pr8 (by omega), Or.inl (fun c a b => (a110 c).trans (rcf.1 c a b))⟩ | exact SmV.rf | exact kp9.1 | exact kp7.1.tr sm9 | exact bfR | assumption | omega) Lst_h154t162)
      ·
        show wp l rho (d + 4) 105 31 [(2, 94), (0, x1)] [(0, v46)] h12 Q
        have fb := xp49
        have rcL : RcY h h12 (h 27 x1) := eqL (P := fun L => RcY h h12 L) rc (by first | assumption | omega)
        refine v_knowA (x := 110) is_110 rd_41 (fun kF => ?_)
        have rcf := Rc_add hk rcL
        have rla := Rc_la hk rcL (fun c a b => by have z := kF c a (by omega); omega) (zqCA_e (fun j => my_fr.at gh12 pis_2 rfl) (fun j => my_fr.at gh12 pis_3 rfl) (fun j => my_fr.at gh12 pis_4 rfl) (fun j => my_fr.at gh12 pis_5 rfl) (fun j => my_fr.at gh12 pis_6 rfl))
        refine w_iconst gz_105_31 (by decide) ?_
        refine w_icne (t := 110) gz_105_32 rfl (fun u177 => ?_) (fun u177 => by exfalso; omega)
        have ce178 : h12 94 11 = h 94 11 := ((my_fr.at frh12 is_94 rfl).trans (rfl : h 94 11 = h 94 11))
        have ce179 : h12 94 12 = h 94 12 := ((my_fr.at frh12 is_94 rfl).trans (rfl : h 94 12 = h 94 12))
        have ce180 : h12 94 13 = (h 94 13) := ((my_fr.at frh12 is_94 rfl).trans (rfl : h 94 13 = h 94 13))
        have ce181 : h12 94 14 = h 94 14 := ((my_fr.at frh12 is_94 rfl).trans (rfl : h 94 14 = h 94 14))
        have ce182 : h12 94 15 = h 94 15 := ((my_fr.at frh12 is_94 rfl).trans (rfl : h 94 15 = h 94 15))
        have ce183 : h12 94 16 = h 94 16 := ((my_fr.at frh12 is_94 rfl).trans (rfl : h 94 16 = h 94 16))
        have ce184 : h12 98 0 = h 98 0 := ((my_fr.at frh12 is_98 rfl).trans (rfl : h 98 0 = h 98 0))
        have ce185 : h12 98 1 = h 98 1 := ((my_fr.at frh12 is_98 rfl).trans (rfl : h 98 1 = h 98 1))
        have ce186 : h12 102 0 = h 102 0 := ((my_fr.at frh12 is_102 rfl).trans (rfl : h 102 0 = h 102 0))
        have ce187 : h12 102 1 = h 102 1 := ((my_fr.at frh12 is_102 rfl).trans (rfl : h 102 1 = h 102 1))
        have ce188 : h12 112 0 = h 112 0 := ((my_fr.at frh12 is_112 rfl).trans (rfl : h 112 0 = h 112 0))
        have ce189 : h12 112 1 = h 112 1 := ((my_fr.at frh12 is_112 rfl).trans (rfl : h 112 1 = h 112 1))
        have ce190 : h12 112 2 = h 112 2 := ((my_fr.at frh12 is_112 rfl).trans (rfl : h 112 2 = h 112 2))
        have ce191 : h12 112 3 = h 112 3 := ((my_fr.at frh12 is_112 rfl).trans (rfl : h 112 3 = h 112 3))
        have ce192 : h12 112 4 = h 112 4 := ((my_fr.at frh12 is_112 rfl).trans (rfl : h 112 4 = h 112 4))
        have ce193 : h12 112 5 = h 112 5 := ((my_fr.at frh12 is_112 rfl).trans (rfl : h 112 5 = h 112 5))
        have ce194 : h12 113 0 = h 113 0 := ((my_fr.at frh12 is_113 rfl).trans (rfl : h 113 0 = h 113 0))
        have ce195 : h12 113 1 = h 113 1 := ((my_fr.at frh12 is_113 rfl).trans (rfl : h 113 1 = h 113 1))
        have ce196 : h12 113 2 = h 113 2 := ((my_fr.at frh12 is_113 rfl).trans (rfl : h 113 2 = h 113 2))
        have ce197 : h12 113 3 = h 113 3 := ((my_fr.at frh12 is_113 rfl).trans (rfl : h 113 3 = h 113 3))
        have ce198 : h12 113 4 = h 113 4 := ((my_fr.at frh12 is_113 rfl).trans (rfl : h 113 4 = h 113 4))
        have ce199 : h12 113 5 = h 113 5 := ((my_fr.at frh12 is_113 rfl).trans (rfl : h 113 5 = h 113 5))
        have ce200 : h12 94 13 = (h 94 13) := ((my_fr.at frh12 is_94 rfl).trans (rfl : h 94 13 = h 94 13))
        have ce201 : h12 94 14 = h 94 14 := ((my_fr.at frh12 is_94 rfl).trans (rfl : h 94 14 = h 94 14))
        have ce202 : h12 94 15 = h 94 15 := ((my_fr.at frh12 is_94 rfl).trans (rfl : h 94 15 = h 94 15))
        have ce203 : h12 94 16 = h 94 16 := ((my_fr.at frh12 is_94 rfl).trans (rfl : h 94 16 = h 94 16))
        have a99 : ∀ j : Int, h12 99 j = h 99 j := fun j => ((my_fr.at frh12 is_99 rfl).trans (rfl : h 99 j = h 99 j))
        have a101 : ∀ j : Int, h12 101 j = h 101 j := fun j => ((my_fr.at frh12 is_101 rfl).trans (rfl : h 101 j = h 101 j))
        have a103 : ∀ j : Int, h12 103 j = h 103 j := fun j => ((my_fr.at frh12 is_103 rfl).trans (rfl : h 103 j = h 103 j))
        have a110 : ∀ j : Int, h12 110 j = h12 110 j := fun j => rfl
        have bfR : ∀ k j : Int, 0 ≤ k → (k < 94 ∨ 120 ≤ k ∧ k < 151) → h12 k j = h k j := fun k j k0 k1 => ((bfr k j k0 k1).trans rfl)
        have kp9 : KpS h h12 := ⟨⟨by omega, by omega, by omega, by omega, by omega, by omega, by omega, by omega, a99, a101, a103⟩, ⟨by omega, by omega⟩, ⟨by omega, by omega, by omega, by omega, by omega, by omega⟩, ⟨by omega, by omega, by omega, by omega, by omega, by omega⟩⟩
        exact w_vret gz_105_110 gm_105 (k0 h12 (gh12) (by first | exact Cm_e hk hd (by omega) (by omega) (by omega) | exact ⟨Cm_n (DkE_cg hd kp9) (Q3_no hk (eqL (P := fun L => RcN h h12 L) rc (by first | assumption | omega))), Or.inl (Rn_f hk (eqL (P := fun L => RcN h h12 L) rc (by first | assumption | omega)))⟩ | exact ⟨Cm_n (DkE_cg hd kp9) (Q3_la (fun z => by obtain ⟨p, a, b, c, d, e⟩ := fb; exact d (rla.2.mpr z p a b))), Or.inl (fun c a b => (a110 c).trans (rcf.1 c a b))⟩ | exact ⟨Cm_n (DkE_cg hd kp9) (fun z => sa (qI.mpr z)), Or.inl (fun c a b => (a110 c).trans (rcf.1 c a b))⟩ | exact ⟨Cm_y hd no8 kp7 kpp q7 w2 (by omega) (by omega) (by omega) pr8 (by omega), Or.inl (fun c a b => (a110 c).trans (rcf.1 c a b))⟩ | exact SmV.rf | exact kp9.1 | exact kp7.1.tr sm9 | exact bfR | assumption | omega) (by first | exact Cm_e hk hd (by omega) (by omega) (by omega) | exact ⟨Cm_n (DkE_cg hd kp9) (Q3_no hk (eqL (P := fun L => RcN h h12 L) rc (by first | assumption | omega))), Or.inl (Rn_f hk (eqL (P := fun L => RcN h h12 L) rc (by first | assumption | omega)))⟩ | exact ⟨Cm_n (DkE_cg hd kp9) (Q3_la (fun z => by obtain ⟨p, a, b, c, d, e⟩ := fb; exact d (rla.2.mpr z p a b))), Or.inl (fun c a b => (a110 c).trans (rcf.1 c a b))⟩ | exact ⟨Cm_n (DkE_cg hd kp9) (fun z => sa (qI.mpr z)), Or.inl (fun c a b => (a110 c).trans (rcf.1 c a b))⟩ | exact ⟨Cm_y hd no8 kp7 kpp q7 w2 (by omega) (by omega) (by omega) pr8 (by omega), Or.inl (fun c a b => (a110 c).trans (rcf.1 c a b))⟩ | exact SmV.rf | exact kp9.1 | exact kp7.1.tr sm9 | exact bfR | assumption | omega) (by first | exact Cm_e hk hd (by omega) (by omega) (by omega) | exact ⟨Cm_n (DkE_cg hd kp9) (Q3_no hk (eqL (P := fun L => RcN h h12 L) rc (by first | assumption | omega))), Or.inl (Rn_f hk (eqL (P := fun L => RcN h h12 L) rc (by first | assumption | omega)))⟩ | exact ⟨Cm_n (DkE_cg hd kp9) (Q3_la (fun z => by obtain ⟨p, a, b, c, d, e⟩ := fb; exact d (rla.2.mpr z p a b))), Or.inl (fun c a b => (a110 c).trans (rcf.1 c a b))⟩ | exact ⟨Cm_n (DkE_cg hd kp9) (fun z => sa (qI.mpr z)), Or.inl (fun c a b => (a110 c).trans (rcf.1 c a b))⟩ | exact ⟨Cm_y hd no8 kp7 kpp q7 w2 (by omega) (by omega) (by omega) pr8 (by omega), Or.inl (fun c a b => (a110 c).trans (rcf.1 c a b))⟩ | exact SmV.rf | exact kp9.1 | exact kp7.1.tr sm9 | exact bfR | assumption | omega) Lst_h12)
  ·
    show wp l rho (d + 4) 105 4 [(2, 94), (0, x1)] [(0, 1)] h Q
    have en8 := xp5
    refine w_ifne (t := 110) gz_105_4 rfl (fun u204 => ?_) (fun u204 => by exfalso; omega)
    have ce205 : h 94 13 = 1 := w4
    have ce206 : h 94 13 = 1 := w4
    have a99 : ∀ j : Int, h 99 j = h 99 j := fun _ => rfl
    have a101 : ∀ j : Int, h 101 j = h 101 j := fun _ => rfl
    have a103 : ∀ j : Int, h 103 j = h 103 j := fun _ => rfl
    have a110 : ∀ j : Int, h 110 j = h 110 j := fun _ => rfl
    have bfR : ∀ k j : Int, 0 ≤ k → (k < 94 ∨ 120 ≤ k ∧ k < 151) → h k j = h k j := fun k j k0 k1 => rfl
    have kp9 : KpS h h := KpS.rf
    exact w_vret gz_105_110 gm_105 (k0 h (my_fr.rf) (by first | exact Cm_e hk hd (by omega) (by omega) (by omega) | exact ⟨Cm_n (DkE_cg hd kp9) (Q3_no hk (eqL (P := fun L => RcN h h L) rc (by first | assumption | omega))), Or.inl (Rn_f hk (eqL (P := fun L => RcN h h L) rc (by first | assumption | omega)))⟩ | exact ⟨Cm_n (DkE_cg hd kp9) (Q3_la (fun z => by obtain ⟨p, a, b, c, d, e⟩ := fb; exact d (rla.2.mpr z p a b))), Or.inl (fun c a b => (a110 c).trans (rcf.1 c a b))⟩ | exact ⟨Cm_n (DkE_cg hd kp9) (fun z => sa (qI.mpr z)), Or.inl (fun c a b => (a110 c).trans (rcf.1 c a b))⟩ | exact ⟨Cm_y hd no8 kp7 kpp q7 w2 (by omega) (by omega) (by omega) pr8 (by omega), Or.inl (fun c a b => (a110 c).trans (rcf.1 c a b))⟩ | exact SmV.rf | exact kp9.1 | exact kp7.1.tr sm9 | exact bfR | assumption | omega) (by first | exact Cm_e hk hd (by omega) (by omega) (by omega) | exact ⟨Cm_n (DkE_cg hd kp9) (Q3_no hk (eqL (P := fun L => RcN h h L) rc (by first | assumption | omega))), Or.inl (Rn_f hk (eqL (P := fun L => RcN h h L) rc (by first | assumption | omega)))⟩ | exact ⟨Cm_n (DkE_cg hd kp9) (Q3_la (fun z => by obtain ⟨p, a, b, c, d, e⟩ := fb; exact d (rla.2.mpr z p a b))), Or.inl (fun c a b => (a110 c).trans (rcf.1 c a b))⟩ | exact ⟨Cm_n (DkE_cg hd kp9) (fun z => sa (qI.mpr z)), Or.inl (fun c a b => (a110 c).trans (rcf.1 c a b))⟩ | exact ⟨Cm_y hd no8 kp7 kpp q7 w2 (by omega) (by omega) (by omega) pr8 (by omega), Or.inl (fun c a b => (a110 c).trans (rcf.1 c a b))⟩ | exact SmV.rf | exact kp9.1 | exact kp7.1.tr sm9 | exact bfR | assumption | omega) (by first | exact Cm_e hk hd (by omega) (by omega) (by omega) | exact ⟨Cm_n (DkE_cg hd kp9) (Q3_no hk (eqL (P := fun L => RcN h h L) rc (by first | assumption | omega))), Or.inl (Rn_f hk (eqL (P := fun L => RcN h h L) rc (by first | assumption | omega)))⟩ | exact ⟨Cm_n (DkE_cg hd kp9) (Q3_la (fun z => by obtain ⟨p, a, b, c, d, e⟩ := fb; exact d (rla.2.mpr z p a b))), Or.inl (fun c a b => (a110 c).trans (rcf.1 c a b))⟩ | exact ⟨Cm_n (DkE_cg hd kp9) (fun z => sa (qI.mpr z)), Or.inl (fun c a b => (a110 c).trans (rcf.1 c a b))⟩ | exact ⟨Cm_y hd no8 kp7 kpp q7 w2 (by omega) (by omega) (by omega) pr8 (by omega), Or.inl (fun c a b => (a110 c).trans (rcf.1 c a b))⟩ | exact SmV.rf | exact kp9.1 | exact kp7.1.tr sm9 | exact bfR | assumption | omega) n_Lst)
theorem c_Desk_search5 {l : Launch} {rho : Nat → Int32} {d : Nat} {h : my_H} {Q : my_H → my_V → Prop} {x1 x2 x3 x4 : Int} (t1 : my_is 6 x1) (a2 : 0 ≤ x2) (b2 : x2 ≤ 5) (a3 : (-1) ≤ x3) (a4 : 0 ≤ x4) (b4 : x4 ≤ 1) (n_Ln : Ln h) (n_Td : Td h x2) (hor : h 94 15 ≠ 2 → 0 ≤ h 94 16 ∧ h 94 16 ≤ 9) (hk : SrP h x1 x2) (xb : zqXf x1) (k0 : ∀ (h' : my_H), my_fr [(2, 11), (2, 12), (2, 13), (2, 14), (7, 0), (7, 1), (7, 2), (7, 3), (7, 4), (7, 5), (8, 0), (8, 1), (30, -1), (31, -1), (41, -1), (42, -1), (43, -1), (44, -1)] h h' → (-1) ≤ h' 94 12 → 0 ≤ h' 94 14 → h' 94 14 ≤ 1 → DkE h' (h 2) (AlH h x1 x2) ∧ FrH h h' x1 x2 → SmW h h' ∧ h' 94 13 = x4 ∧ h' 94 12 = x3 → (∀ k j : Int, 0 ≤ k → (k < 94 ∨ 120 ≤ k ∧ k < 151) → h' k j = h k j) → Lst h' → Q h' (9, 0)) : wp l rho (d + 5) 92 0 [(2, 94), (2, x1), (0, x2), (0, x3), (0, x4), (9, 0), (9, 0)] [] h Q := by
  have xb0 := t1.1
  have xbu : (x1 ≤ 91 ∨ 120 ≤ x1) ∧ x1 ≤ 148 ∧ 0 ≤ x1 := xb
  refine v_knowA (x := 93) pis_93 rd_23 (fun kD => ?_)
  refine v_knowA (x := (h 27 x2 + 7)) (pix_7z (n_Ln.2.2.1 _ (by omega) (by omega))) rd_38 (fun kL => ?_)
  refine w_aload_n gz_92_0 rfl ?_
  refine w_iload gz_92_1 rfl ?_
  refine v_putB (j := 13) gz_92_3 rfl is_94 rd_2 rfl (by omega) (by omega) rfl (fun h1 fh1 => ?_)
  have gh1 : my_fr [(2, 11), (2, 12), (2, 13), (2, 14), (7, 0), (7, 1), (7, 2), (7, 3), (7, 4), (7, 5), (8, 0), (8, 1), (30, -1), (31, -1), (41, -1), (42, -1), (43, -1), (44, -1)] h h1 := my_fr.up my_fr.rf is_94 fh1 rfl
  have Ln_h1 : Ln h1 := Ln_ag (my_ag.up fh1 is_94 rfl) n_Ln
  have Td_h1 : Td h1 x2 := Td_ag (my_ag.up fh1 is_94 rfl) n_Ln n_Td
  refine w_aload_n gz_92_6 rfl ?_
  refine w_iconst gz_92_7 (by decide) ?_
  refine v_putA (j := 11) gz_92_8 rfl is_94 rd_2 rfl rfl (fun h2 fh2 => ?_)
  have gh2 : my_fr [(2, 11), (2, 12), (2, 13), (2, 14), (7, 0), (7, 1), (7, 2), (7, 3), (7, 4), (7, 5), (8, 0), (8, 1), (30, -1), (31, -1), (41, -1), (42, -1), (43, -1), (44, -1)] h h2 := my_fr.up gh1 is_94 fh2 rfl
  have Ln_h2 : Ln h2 := Ln_ag (my_ag.up fh2 is_94 rfl) Ln_h1
  have Td_h2 : Td h2 x2 := Td_ag (my_ag.up fh2 is_94 rfl) Ln_h1 Td_h1
  refine w_aload_n gz_92_11 rfl ?_
  refine w_iload_n gz_92_12 rfl ?_
  refine v_putA (j := 12) gz_92_13 rfl is_94 rd_2 rfl rfl (fun h3 fh3 => ?_)
  have gh3 : my_fr [(2, 11), (2, 12), (2, 13), (2, 14), (7, 0), (7, 1), (7, 2), (7, 3), (7, 4), (7, 5), (8, 0), (8, 1), (30, -1), (31, -1), (41, -1), (42, -1), (43, -1), (44, -1)] h h3 := my_fr.up gh2 is_94 fh3 rfl
  have Ln_h3 : Ln h3 := Ln_ag (my_ag.up fh3 is_94 rfl) Ln_h2
  have Td_h3 : Td h3 x2 := Td_ag (my_ag.up fh3 is_94 rfl) Ln_h2 Td_h2
  refine w_aload_n gz_92_16 rfl ?_
  refine w_getX (v := 112) gz_92_17 is_94 rd_2 rfl (by decide) rfl ?_
  refine w_inv (k := 0) (as := []) (r := []) (x := 112) (ls0 := [(2, 112)]) gz_92_20 gm_9 rfl is_112 rd_7 rfl rfl rfl rfl rfl ?_
  refine w_aload_n gz_9_0 rfl ?_
  refine w_iconst gz_9_1 (by decide) ?_
  refine v_putA (j := 0) gz_9_2 rfl is_112 rd_7 rfl rfl (fun h5 fh5 => ?_)
  have gh5 : my_fr [(2, 11), (2, 12), (2, 13), (2, 14), (7, 0), (7, 1), (7, 2), (7, 3), (7, 4), (7, 5), (8, 0), (8, 1), (30, -1), (31, -1), (41, -1), (42, -1), (43, -1), (44, -1)] h h5 := my_fr.up gh3 is_112 fh5 rfl
  have Ln_h5 : Ln h5 := Ln_ag (my_ag.up fh5 is_112 rfl) Ln_h3
  have Td_h5 : Td h5 x2 := Td_ag (my_ag.up fh5 is_112 rfl) Ln_h3 Td_h3
  refine w_aload_n gz_9_5 rfl ?_
  refine w_iconst gz_9_6 (by decide) ?_
  refine v_putI (j := 1) gz_9_7 rfl is_112 rd_7 rfl (by omega) (by omega) rfl (fun h6 fh6 => ?_)
  have gh6 : my_fr [(2, 11), (2, 12), (2, 13), (2, 14), (7, 0), (7, 1), (7, 2), (7, 3), (7, 4), (7, 5), (8, 0), (8, 1), (30, -1), (31, -1), (41, -1), (42, -1), (43, -1), (44, -1)] h h6 := my_fr.up gh5 is_112 fh6 rfl
  have Ln_h6 : Ln h6 := Ln_ag (my_ag.up fh6 is_112 rfl) Ln_h5
  have Td_h6 : Td h6 x2 := Td_ag (my_ag.up fh6 is_112 rfl) Ln_h5 Td_h5
  refine w_aload_n gz_9_10 rfl ?_
  refine w_iconst gz_9_11 (by decide) ?_
  refine v_putI (j := 2) gz_9_12 rfl is_112 rd_7 rfl (by omega) (by omega) rfl (fun h7 fh7 => ?_)
  have gh7 : my_fr [(2, 11), (2, 12), (2, 13), (2, 14), (7, 0), (7, 1), (7, 2), (7, 3), (7, 4), (7, 5), (8, 0), (8, 1), (30, -1), (31, -1), (41, -1), (42, -1), (43, -1), (44, -1)] h h7 := my_fr.up gh6 is_112 fh7 rfl
  have Ln_h7 : Ln h7 := Ln_ag (my_ag.up fh7 is_112 rfl) Ln_h6
  have Td_h7 : Td h7 x2 := Td_ag (my_ag.up fh7 is_112 rfl) Ln_h6 Td_h6
  refine w_aload_n gz_9_15 rfl ?_
  refine w_iconst gz_9_16 (by decide) ?_
  refine v_putI (j := 3) gz_9_17 rfl is_112 rd_7 rfl (by omega) (by omega) rfl (fun h8 fh8 => ?_)
  have gh8 : my_fr [(2, 11), (2, 12), (2, 13), (2, 14), (7, 0), (7, 1), (7, 2), (7, 3), (7, 4), (7, 5), (8, 0), (8, 1), (30, -1), (31, -1), (41, -1), (42, -1), (43, -1), (44, -1)] h h8 := my_fr.up gh7 is_112 fh8 rfl
  have Ln_h8 : Ln h8 := Ln_ag (my_ag.up fh8 is_112 rfl) Ln_h7
  have Td_h8 : Td h8 x2 := Td_ag (my_ag.up fh8 is_112 rfl) Ln_h7 Td_h7
  refine w_aload_n gz_9_20 rfl ?_
  refine w_iconst gz_9_21 (by decide) ?_
  refine v_putI (j := 4) gz_9_22 rfl is_112 rd_7 rfl (by omega) (by omega) rfl (fun h9 fh9 => ?_)
  have gh9 : my_fr [(2, 11), (2, 12), (2, 13), (2, 14), (7, 0), (7, 1), (7, 2), (7, 3), (7, 4), (7, 5), (8, 0), (8, 1), (30, -1), (31, -1), (41, -1), (42, -1), (43, -1), (44, -1)] h h9 := my_fr.up gh8 is_112 fh9 rfl
  have Ln_h9 : Ln h9 := Ln_ag (my_ag.up fh9 is_112 rfl) Ln_h8
  have Td_h9 : Td h9 x2 := Td_ag (my_ag.up fh9 is_112 rfl) Ln_h8 Td_h8
  refine w_aload_n gz_9_25 rfl ?_
  refine w_iconst gz_9_26 (by decide) ?_
  refine v_putI (j := 5) gz_9_27 rfl is_112 rd_7 rfl (by omega) (by omega) rfl (fun h10 fh10 => ?_)
  have gh10 : my_fr [(2, 11), (2, 12), (2, 13), (2, 14), (7, 0), (7, 1), (7, 2), (7, 3), (7, 4), (7, 5), (8, 0), (8, 1), (30, -1), (31, -1), (41, -1), (42, -1), (43, -1), (44, -1)] h h10 := my_fr.up gh9 is_112 fh10 rfl
  have Ln_h10 : Ln h10 := Ln_ag (my_ag.up fh10 is_112 rfl) Ln_h9
  have Td_h10 : Td h10 x2 := Td_ag (my_ag.up fh10 is_112 rfl) Ln_h9 Td_h9
  refine w_vret gz_9_30 gm_9 ?_
  show wp l rho (d + 5) 92 23 [(2, 94), (2, x1), (0, x2), (0, x3), (0, x4), (9, 0), (9, 0)] [] h10 Q
  have ce11 : h10 112 1 = (-1) := ((my_up_fld fh10 (by decide)).trans ((my_up_fld fh9 (by decide)).trans ((my_up_fld fh8 (by decide)).trans ((my_up_fld fh7 (by decide)).trans (my_up_self fh6)))))
  have Lst_h10t12 : Lst h10 := by unfold Lst; omega
  refine w_aload_n gz_92_23 rfl ?_
  refine w_getX (v := 113) gz_92_24 is_94 rd_2 rfl (by decide) rfl ?_
  refine w_inv (k := 0) (as := []) (r := []) (x := 113) (ls0 := [(2, 113)]) gz_92_27 gm_9 rfl is_113 rd_7 rfl rfl rfl rfl rfl ?_
  refine w_aload_n gz_9_0 rfl ?_
  refine w_iconst gz_9_1 (by decide) ?_
  refine v_putA (j := 0) gz_9_2 rfl is_113 rd_7 rfl rfl (fun h14 fh14 => ?_)
  have gh14 : my_fr [(2, 11), (2, 12), (2, 13), (2, 14), (7, 0), (7, 1), (7, 2), (7, 3), (7, 4), (7, 5), (8, 0), (8, 1), (30, -1), (31, -1), (41, -1), (42, -1), (43, -1), (44, -1)] h h14 := my_fr.up gh10 is_113 fh14 rfl
  have Ln_h14 : Ln h14 := Ln_ag (my_ag.up fh14 is_113 rfl) Ln_h10
  have Td_h14 : Td h14 x2 := Td_ag (my_ag.up fh14 is_113 rfl) Ln_h10 Td_h10
  have Lst_h14 : Lst h14 := Lst_ne fh14 (by decide) Lst_h10t12
  refine w_aload_n gz_9_5 rfl ?_
  refine w_iconst gz_9_6 (by decide) ?_
  refine v_putI (j := 1) gz_9_7 rfl is_113 rd_7 rfl (by omega) (by omega) rfl (fun h15 fh15 => ?_)
  have gh15 : my_fr [(2, 11), (2, 12), (2, 13), (2, 14), (7, 0), (7, 1), (7, 2), (7, 3), (7, 4), (7, 5), (8, 0), (8, 1), (30, -1), (31, -1), (41, -1), (42, -1), (43, -1), (44, -1)] h h15 := my_fr.up gh14 is_113 fh15 rfl
  have Ln_h15 : Ln h15 := Ln_ag (my_ag.up fh15 is_113 rfl) Ln_h14
  have Td_h15 : Td h15 x2 := Td_ag (my_ag.up fh15 is_113 rfl) Ln_h14 Td_h14
  have Lst_h15 : Lst h15 := Lst_ne fh15 (by decide) Lst_h14
  refine w_aload_n gz_9_10 rfl ?_
  refine w_iconst gz_9_11 (by decide) ?_
  refine v_putI (j := 2) gz_9_12 rfl is_113 rd_7 rfl (by omega) (by omega) rfl (fun h16 fh16 => ?_)
  have gh16 : my_fr [(2, 11), (2, 12), (2, 13), (2, 14), (7, 0), (7, 1), (7, 2), (7, 3), (7, 4), (7, 5), (8, 0), (8, 1), (30, -1), (31, -1), (41, -1), (42, -1), (43, -1), (44, -1)] h h16 := my_fr.up gh15 is_113 fh16 rfl
  have Ln_h16 : Ln h16 := Ln_ag (my_ag.up fh16 is_113 rfl) Ln_h15
  have Td_h16 : Td h16 x2 := Td_ag (my_ag.up fh16 is_113 rfl) Ln_h15 Td_h15
  have Lst_h16 : Lst h16 := Lst_ne fh16 (by decide) Lst_h15
  refine w_aload_n gz_9_15 rfl ?_
  refine w_iconst gz_9_16 (by decide) ?_
  refine v_putI (j := 3) gz_9_17 rfl is_113 rd_7 rfl (by omega) (by omega) rfl (fun h17 fh17 => ?_)
  have gh17 : my_fr [(2, 11), (2, 12), (2, 13), (2, 14), (7, 0), (7, 1), (7, 2), (7, 3), (7, 4), (7, 5), (8, 0), (8, 1), (30, -1), (31, -1), (41, -1), (42, -1), (43, -1), (44, -1)] h h17 := my_fr.up gh16 is_113 fh17 rfl
  have Ln_h17 : Ln h17 := Ln_ag (my_ag.up fh17 is_113 rfl) Ln_h16
  have Td_h17 : Td h17 x2 := Td_ag (my_ag.up fh17 is_113 rfl) Ln_h16 Td_h16
  have Lst_h17 : Lst h17 := Lst_ne fh17 (by decide) Lst_h16
  refine w_aload_n gz_9_20 rfl ?_
  refine w_iconst gz_9_21 (by decide) ?_
  refine v_putI (j := 4) gz_9_22 rfl is_113 rd_7 rfl (by omega) (by omega) rfl (fun h18 fh18 => ?_)
  have gh18 : my_fr [(2, 11), (2, 12), (2, 13), (2, 14), (7, 0), (7, 1), (7, 2), (7, 3), (7, 4), (7, 5), (8, 0), (8, 1), (30, -1), (31, -1), (41, -1), (42, -1), (43, -1), (44, -1)] h h18 := my_fr.up gh17 is_113 fh18 rfl
  have Ln_h18 : Ln h18 := Ln_ag (my_ag.up fh18 is_113 rfl) Ln_h17
  have Td_h18 : Td h18 x2 := Td_ag (my_ag.up fh18 is_113 rfl) Ln_h17 Td_h17
  have Lst_h18 : Lst h18 := Lst_ne fh18 (by decide) Lst_h17
  refine w_aload_n gz_9_25 rfl ?_
  refine w_iconst gz_9_26 (by decide) ?_
  refine v_putI (j := 5) gz_9_27 rfl is_113 rd_7 rfl (by omega) (by omega) rfl (fun h19 fh19 => ?_)
  have gh19 : my_fr [(2, 11), (2, 12), (2, 13), (2, 14), (7, 0), (7, 1), (7, 2), (7, 3), (7, 4), (7, 5), (8, 0), (8, 1), (30, -1), (31, -1), (41, -1), (42, -1), (43, -1), (44, -1)] h h19 := my_fr.up gh18 is_113 fh19 rfl
  have Ln_h19 : Ln h19 := Ln_ag (my_ag.up fh19 is_113 rfl) Ln_h18
  have Td_h19 : Td h19 x2 := Td_ag (my_ag.up fh19 is_113 rfl) Ln_h18 Td_h18
  have Lst_h19 : Lst h19 := Lst_ne fh19 (by decide) Lst_h18
  refine w_vret gz_9_30 gm_9 ?_
  show wp l rho (d + 5) 92 30 [(2, 94), (2, x1), (0, x2), (0, x3), (0, x4), (9, 0), (9, 0)] [] h19 Q
  refine w_aload_n gz_92_30 rfl ?_
  refine w_getX (v := 111) gz_92_31 is_94 rd_2 rfl (by decide) rfl ?_
  refine w_inv (k := 0) (as := []) (r := []) (x := 111) (ls0 := [(2, 111)]) gz_92_34 gm_9 rfl is_111 rd_7 rfl rfl rfl rfl rfl ?_
  refine w_aload_n gz_9_0 rfl ?_
  refine w_iconst gz_9_1 (by decide) ?_
  refine v_putA (j := 0) gz_9_2 rfl is_111 rd_7 rfl rfl (fun h21 fh21 => ?_)
  have gh21 : my_fr [(2, 11), (2, 12), (2, 13), (2, 14), (7, 0), (7, 1), (7, 2), (7, 3), (7, 4), (7, 5), (8, 0), (8, 1), (30, -1), (31, -1), (41, -1), (42, -1), (43, -1), (44, -1)] h h21 := my_fr.up gh19 is_111 fh21 rfl
  have Ln_h21 : Ln h21 := Ln_ag (my_ag.up fh21 is_111 rfl) Ln_h19
  have Td_h21 : Td h21 x2 := Td_ag (my_ag.up fh21 is_111 rfl) Ln_h19 Td_h19
  have Lst_h21 : Lst h21 := Lst_ne fh21 (by decide) Lst_h19
  refine w_aload_n gz_9_5 rfl ?_
  refine w_iconst gz_9_6 (by decide) ?_
  refine v_putI (j := 1) gz_9_7 rfl is_111 rd_7 rfl (by omega) (by omega) rfl (fun h22 fh22 => ?_)
  have gh22 : my_fr [(2, 11), (2, 12), (2, 13), (2, 14), (7, 0), (7, 1), (7, 2), (7, 3), (7, 4), (7, 5), (8, 0), (8, 1), (30, -1), (31, -1), (41, -1), (42, -1), (43, -1), (44, -1)] h h22 := my_fr.up gh21 is_111 fh22 rfl
  have Ln_h22 : Ln h22 := Ln_ag (my_ag.up fh22 is_111 rfl) Ln_h21
  have Td_h22 : Td h22 x2 := Td_ag (my_ag.up fh22 is_111 rfl) Ln_h21 Td_h21
  have Lst_h22 : Lst h22 := Lst_ne fh22 (by decide) Lst_h21
  refine w_aload_n gz_9_10 rfl ?_
  refine w_iconst gz_9_11 (by decide) ?_
  refine v_putI (j := 2) gz_9_12 rfl is_111 rd_7 rfl (by omega) (by omega) rfl (fun h23 fh23 => ?_)
  have gh23 : my_fr [(2, 11), (2, 12), (2, 13), (2, 14), (7, 0), (7, 1), (7, 2), (7, 3), (7, 4), (7, 5), (8, 0), (8, 1), (30, -1), (31, -1), (41, -1), (42, -1), (43, -1), (44, -1)] h h23 := my_fr.up gh22 is_111 fh23 rfl
  have Ln_h23 : Ln h23 := Ln_ag (my_ag.up fh23 is_111 rfl) Ln_h22
  have Td_h23 : Td h23 x2 := Td_ag (my_ag.up fh23 is_111 rfl) Ln_h22 Td_h22
  have Lst_h23 : Lst h23 := Lst_ne fh23 (by decide) Lst_h22
  refine w_aload_n gz_9_15 rfl ?_
  refine w_iconst gz_9_16 (by decide) ?_
  refine v_putI (j := 3) gz_9_17 rfl is_111 rd_7 rfl (by omega) (by omega) rfl (fun h24 fh24 => ?_)
  have gh24 : my_fr [(2, 11), (2, 12), (2, 13), (2, 14), (7, 0), (7, 1), (7, 2), (7, 3), (7, 4), (7, 5), (8, 0), (8, 1), (30, -1), (31, -1), (41, -1), (42, -1), (43, -1), (44, -1)] h h24 := my_fr.up gh23 is_111 fh24 rfl
  have Ln_h24 : Ln h24 := Ln_ag (my_ag.up fh24 is_111 rfl) Ln_h23
  have Td_h24 : Td h24 x2 := Td_ag (my_ag.up fh24 is_111 rfl) Ln_h23 Td_h23
  have Lst_h24 : Lst h24 := Lst_ne fh24 (by decide) Lst_h23
  refine w_aload_n gz_9_20 rfl ?_
  refine w_iconst gz_9_21 (by decide) ?_
  refine v_putI (j := 4) gz_9_22 rfl is_111 rd_7 rfl (by omega) (by omega) rfl (fun h25 fh25 => ?_)
  have gh25 : my_fr [(2, 11), (2, 12), (2, 13), (2, 14), (7, 0), (7, 1), (7, 2), (7, 3), (7, 4), (7, 5), (8, 0), (8, 1), (30, -1), (31, -1), (41, -1), (42, -1), (43, -1), (44, -1)] h h25 := my_fr.up gh24 is_111 fh25 rfl
  have Ln_h25 : Ln h25 := Ln_ag (my_ag.up fh25 is_111 rfl) Ln_h24
  have Td_h25 : Td h25 x2 := Td_ag (my_ag.up fh25 is_111 rfl) Ln_h24 Td_h24
  have Lst_h25 : Lst h25 := Lst_ne fh25 (by decide) Lst_h24
  refine w_aload_n gz_9_25 rfl ?_
  refine w_iconst gz_9_26 (by decide) ?_
  refine v_putI (j := 5) gz_9_27 rfl is_111 rd_7 rfl (by omega) (by omega) rfl (fun h26 fh26 => ?_)
  have gh26 : my_fr [(2, 11), (2, 12), (2, 13), (2, 14), (7, 0), (7, 1), (7, 2), (7, 3), (7, 4), (7, 5), (8, 0), (8, 1), (30, -1), (31, -1), (41, -1), (42, -1), (43, -1), (44, -1)] h h26 := my_fr.up gh25 is_111 fh26 rfl
  have Ln_h26 : Ln h26 := Ln_ag (my_ag.up fh26 is_111 rfl) Ln_h25
  have Td_h26 : Td h26 x2 := Td_ag (my_ag.up fh26 is_111 rfl) Ln_h25 Td_h25
  have Lst_h26 : Lst h26 := Lst_ne fh26 (by decide) Lst_h25
  refine w_vret gz_9_30 gm_9 ?_
  show wp l rho (d + 5) 92 37 [(2, 94), (2, x1), (0, x2), (0, x3), (0, x4), (9, 0), (9, 0)] [] h26 Q
  refine w_aload_n gz_92_37 rfl ?_
  refine w_aload_n gz_92_38 rfl ?_
  refine w_getX (v := 98) gz_92_39 is_94 rd_2 rfl (by decide) rfl ?_
  refine w_aload_n gz_92_42 rfl ?_
  refine w_getX (v := 102) gz_92_43 is_94 rd_2 rfl (by decide) rfl ?_
  have ce29 : h26 94 15 = h 94 15 := ((my_up_role fh26 is_94 is_111 rfl).trans ((my_up_role fh25 is_94 is_111 rfl).trans ((my_up_role fh24 is_94 is_111 rfl).trans ((my_up_role fh23 is_94 is_111 rfl).trans ((my_up_role fh22 is_94 is_111 rfl).trans ((my_up_role fh21 is_94 is_111 rfl).trans ((my_up_role fh19 is_94 is_113 rfl).trans ((my_up_role fh18 is_94 is_113 rfl).trans ((my_up_role fh17 is_94 is_113 rfl).trans ((my_up_role fh16 is_94 is_113 rfl).trans ((my_up_role fh15 is_94 is_113 rfl).trans ((my_up_role fh14 is_94 is_113 rfl).trans ((my_up_role fh10 is_94 is_112 rfl).trans ((my_up_role fh9 is_94 is_112 rfl).trans ((my_up_role fh8 is_94 is_112 rfl).trans ((my_up_role fh7 is_94 is_112 rfl).trans ((my_up_role fh6 is_94 is_112 rfl).trans ((my_up_role fh5 is_94 is_112 rfl).trans ((my_up_fld fh3 (by decide)).trans ((my_up_fld fh2 (by decide)).trans ((my_up_fld fh1 (by decide)).trans (rfl : h 94 15 = h 94 15))))))))))))))))))))))
  have ce30 : h26 94 16 = h 94 16 := ((my_up_role fh26 is_94 is_111 rfl).trans ((my_up_role fh25 is_94 is_111 rfl).trans ((my_up_role fh24 is_94 is_111 rfl).trans ((my_up_role fh23 is_94 is_111 rfl).trans ((my_up_role fh22 is_94 is_111 rfl).trans ((my_up_role fh21 is_94 is_111 rfl).trans ((my_up_role fh19 is_94 is_113 rfl).trans ((my_up_role fh18 is_94 is_113 rfl).trans ((my_up_role fh17 is_94 is_113 rfl).trans ((my_up_role fh16 is_94 is_113 rfl).trans ((my_up_role fh15 is_94 is_113 rfl).trans ((my_up_role fh14 is_94 is_113 rfl).trans ((my_up_role fh10 is_94 is_112 rfl).trans ((my_up_role fh9 is_94 is_112 rfl).trans ((my_up_role fh8 is_94 is_112 rfl).trans ((my_up_role fh7 is_94 is_112 rfl).trans ((my_up_role fh6 is_94 is_112 rfl).trans ((my_up_role fh5 is_94 is_112 rfl).trans ((my_up_fld fh3 (by decide)).trans ((my_up_fld fh2 (by decide)).trans ((my_up_fld fh1 (by decide)).trans (rfl : h 94 16 = h 94 16))))))))))))))))))))))
  have ce31 : h26 98 0 = h 98 0 := ((my_up_role fh26 is_98 is_111 rfl).trans ((my_up_role fh25 is_98 is_111 rfl).trans ((my_up_role fh24 is_98 is_111 rfl).trans ((my_up_role fh23 is_98 is_111 rfl).trans ((my_up_role fh22 is_98 is_111 rfl).trans ((my_up_role fh21 is_98 is_111 rfl).trans ((my_up_role fh19 is_98 is_113 rfl).trans ((my_up_role fh18 is_98 is_113 rfl).trans ((my_up_role fh17 is_98 is_113 rfl).trans ((my_up_role fh16 is_98 is_113 rfl).trans ((my_up_role fh15 is_98 is_113 rfl).trans ((my_up_role fh14 is_98 is_113 rfl).trans ((my_up_role fh10 is_98 is_112 rfl).trans ((my_up_role fh9 is_98 is_112 rfl).trans ((my_up_role fh8 is_98 is_112 rfl).trans ((my_up_role fh7 is_98 is_112 rfl).trans ((my_up_role fh6 is_98 is_112 rfl).trans ((my_up_role fh5 is_98 is_112 rfl).trans ((my_up_role fh3 is_98 is_94 rfl).trans ((my_up_role fh2 is_98 is_94 rfl).trans ((my_up_role fh1 is_98 is_94 rfl).trans (rfl : h 98 0 = h 98 0))))))))))))))))))))))
  have ce32 : h26 98 1 = h 98 1 := ((my_up_role fh26 is_98 is_111 rfl).trans ((my_up_role fh25 is_98 is_111 rfl).trans ((my_up_role fh24 is_98 is_111 rfl).trans ((my_up_role fh23 is_98 is_111 rfl).trans ((my_up_role fh22 is_98 is_111 rfl).trans ((my_up_role fh21 is_98 is_111 rfl).trans ((my_up_role fh19 is_98 is_113 rfl).trans ((my_up_role fh18 is_98 is_113 rfl).trans ((my_up_role fh17 is_98 is_113 rfl).trans ((my_up_role fh16 is_98 is_113 rfl).trans ((my_up_role fh15 is_98 is_113 rfl).trans ((my_up_role fh14 is_98 is_113 rfl).trans ((my_up_role fh10 is_98 is_112 rfl).trans ((my_up_role fh9 is_98 is_112 rfl).trans ((my_up_role fh8 is_98 is_112 rfl).trans ((my_up_role fh7 is_98 is_112 rfl).trans ((my_up_role fh6 is_98 is_112 rfl).trans ((my_up_role fh5 is_98 is_112 rfl).trans ((my_up_role fh3 is_98 is_94 rfl).trans ((my_up_role fh2 is_98 is_94 rfl).trans ((my_up_role fh1 is_98 is_94 rfl).trans (rfl : h 98 1 = h 98 1))))))))))))))))))))))
  have ce33 : h26 102 0 = h 102 0 := ((my_up_role fh26 is_102 is_111 rfl).trans ((my_up_role fh25 is_102 is_111 rfl).trans ((my_up_role fh24 is_102 is_111 rfl).trans ((my_up_role fh23 is_102 is_111 rfl).trans ((my_up_role fh22 is_102 is_111 rfl).trans ((my_up_role fh21 is_102 is_111 rfl).trans ((my_up_role fh19 is_102 is_113 rfl).trans ((my_up_role fh18 is_102 is_113 rfl).trans ((my_up_role fh17 is_102 is_113 rfl).trans ((my_up_role fh16 is_102 is_113 rfl).trans ((my_up_role fh15 is_102 is_113 rfl).trans ((my_up_role fh14 is_102 is_113 rfl).trans ((my_up_role fh10 is_102 is_112 rfl).trans ((my_up_role fh9 is_102 is_112 rfl).trans ((my_up_role fh8 is_102 is_112 rfl).trans ((my_up_role fh7 is_102 is_112 rfl).trans ((my_up_role fh6 is_102 is_112 rfl).trans ((my_up_role fh5 is_102 is_112 rfl).trans ((my_up_role fh3 is_102 is_94 rfl).trans ((my_up_role fh2 is_102 is_94 rfl).trans ((my_up_role fh1 is_102 is_94 rfl).trans (rfl : h 102 0 = h 102 0))))))))))))))))))))))
  have ce34 : h26 102 1 = h 102 1 := ((my_up_role fh26 is_102 is_111 rfl).trans ((my_up_role fh25 is_102 is_111 rfl).trans ((my_up_role fh24 is_102 is_111 rfl).trans ((my_up_role fh23 is_102 is_111 rfl).trans ((my_up_role fh22 is_102 is_111 rfl).trans ((my_up_role fh21 is_102 is_111 rfl).trans ((my_up_role fh19 is_102 is_113 rfl).trans ((my_up_role fh18 is_102 is_113 rfl).trans ((my_up_role fh17 is_102 is_113 rfl).trans ((my_up_role fh16 is_102 is_113 rfl).trans ((my_up_role fh15 is_102 is_113 rfl).trans ((my_up_role fh14 is_102 is_113 rfl).trans ((my_up_role fh10 is_102 is_112 rfl).trans ((my_up_role fh9 is_102 is_112 rfl).trans ((my_up_role fh8 is_102 is_112 rfl).trans ((my_up_role fh7 is_102 is_112 rfl).trans ((my_up_role fh6 is_102 is_112 rfl).trans ((my_up_role fh5 is_102 is_112 rfl).trans ((my_up_role fh3 is_102 is_94 rfl).trans ((my_up_role fh2 is_102 is_94 rfl).trans ((my_up_role fh1 is_102 is_94 rfl).trans (rfl : h 102 1 = h 102 1))))))))))))))))))))))
  have a99 : ∀ j : Int, h26 99 j = h 99 j := fun j => ((my_up_role fh26 is_99 is_111 rfl).trans ((my_up_role fh25 is_99 is_111 rfl).trans ((my_up_role fh24 is_99 is_111 rfl).trans ((my_up_role fh23 is_99 is_111 rfl).trans ((my_up_role fh22 is_99 is_111 rfl).trans ((my_up_role fh21 is_99 is_111 rfl).trans ((my_up_role fh19 is_99 is_113 rfl).trans ((my_up_role fh18 is_99 is_113 rfl).trans ((my_up_role fh17 is_99 is_113 rfl).trans ((my_up_role fh16 is_99 is_113 rfl).trans ((my_up_role fh15 is_99 is_113 rfl).trans ((my_up_role fh14 is_99 is_113 rfl).trans ((my_up_role fh10 is_99 is_112 rfl).trans ((my_up_role fh9 is_99 is_112 rfl).trans ((my_up_role fh8 is_99 is_112 rfl).trans ((my_up_role fh7 is_99 is_112 rfl).trans ((my_up_role fh6 is_99 is_112 rfl).trans ((my_up_role fh5 is_99 is_112 rfl).trans ((my_up_role fh3 is_99 is_94 rfl).trans ((my_up_role fh2 is_99 is_94 rfl).trans ((my_up_role fh1 is_99 is_94 rfl).trans (rfl : h 99 j = h 99 j))))))))))))))))))))))
  have a101 : ∀ j : Int, h26 101 j = h 101 j := fun j => ((my_up_role fh26 is_101 is_111 rfl).trans ((my_up_role fh25 is_101 is_111 rfl).trans ((my_up_role fh24 is_101 is_111 rfl).trans ((my_up_role fh23 is_101 is_111 rfl).trans ((my_up_role fh22 is_101 is_111 rfl).trans ((my_up_role fh21 is_101 is_111 rfl).trans ((my_up_role fh19 is_101 is_113 rfl).trans ((my_up_role fh18 is_101 is_113 rfl).trans ((my_up_role fh17 is_101 is_113 rfl).trans ((my_up_role fh16 is_101 is_113 rfl).trans ((my_up_role fh15 is_101 is_113 rfl).trans ((my_up_role fh14 is_101 is_113 rfl).trans ((my_up_role fh10 is_101 is_112 rfl).trans ((my_up_role fh9 is_101 is_112 rfl).trans ((my_up_role fh8 is_101 is_112 rfl).trans ((my_up_role fh7 is_101 is_112 rfl).trans ((my_up_role fh6 is_101 is_112 rfl).trans ((my_up_role fh5 is_101 is_112 rfl).trans ((my_up_role fh3 is_101 is_94 rfl).trans ((my_up_role fh2 is_101 is_94 rfl).trans ((my_up_role fh1 is_101 is_94 rfl).trans (rfl : h 101 j = h 101 j))))))))))))))))))))))
  have a103 : ∀ j : Int, h26 103 j = h 103 j := fun j => ((my_up_role fh26 is_103 is_111 rfl).trans ((my_up_role fh25 is_103 is_111 rfl).trans ((my_up_role fh24 is_103 is_111 rfl).trans ((my_up_role fh23 is_103 is_111 rfl).trans ((my_up_role fh22 is_103 is_111 rfl).trans ((my_up_role fh21 is_103 is_111 rfl).trans ((my_up_role fh19 is_103 is_113 rfl).trans ((my_up_role fh18 is_103 is_113 rfl).trans ((my_up_role fh17 is_103 is_113 rfl).trans ((my_up_role fh16 is_103 is_113 rfl).trans ((my_up_role fh15 is_103 is_113 rfl).trans ((my_up_role fh14 is_103 is_113 rfl).trans ((my_up_role fh10 is_103 is_112 rfl).trans ((my_up_role fh9 is_103 is_112 rfl).trans ((my_up_role fh8 is_103 is_112 rfl).trans ((my_up_role fh7 is_103 is_112 rfl).trans ((my_up_role fh6 is_103 is_112 rfl).trans ((my_up_role fh5 is_103 is_112 rfl).trans ((my_up_role fh3 is_103 is_94 rfl).trans ((my_up_role fh2 is_103 is_94 rfl).trans ((my_up_role fh1 is_103 is_94 rfl).trans (rfl : h 103 j = h 103 j))))))))))))))))))))))
  have sw6 : SmW h h26 := ⟨by omega, by omega, by omega, by omega, by omega, by omega, a99, a101, a103⟩
  have kw6 := SrP_w hk
  have kk6 := hk.2.2.2.2.2.2.2.1
  refine w_inv (k := 1) (as := [(2, 102)]) (r := [(2, 94)]) (x := 98) (ls0 := [(2, 98), (2, 102), (9, 0)]) gz_92_46 gm_93 rfl is_98 rd_8 rfl rfl rfl rfl rfl (c_View_same5 (d := (d + 3)) (x0 := 98) (x1 := 102) is_98 is_102 ((fun i hi => by rw [zqE_98 sw6.2.2.1 sw6.2.2.2.1 (by omega) sw6.2.2.2.2.2.2.1 i]; exact SrP_be hk i (by omega))) (WtB_cg hk.2.2.2.2.2.2.1 sw6.2.2.2.2.1 sw6.2.2.2.2.2.1 (by omega) sw6.2.2.2.2.2.2.2.2) (fun xp35 => ?_) (fun xp36 => ?_))
  ·
    show wp l rho (d + 5) 92 49 [(2, 94), (2, x1), (0, x2), (0, x3), (0, x4), (9, 0), (9, 0)] [(0, 0), (2, 94)] h26 Q
    have sa := xp35
    have sI := (Same_w sw6 kw6.1 kk6).trans (zqSame_as hk)
    refine v_putB (j := 14) gz_92_49 rfl is_94 rd_2 rfl (by omega) (by omega) rfl (fun h37 fh37 => ?_)
    have gh37 : my_fr [(2, 11), (2, 12), (2, 13), (2, 14), (7, 0), (7, 1), (7, 2), (7, 3), (7, 4), (7, 5), (8, 0), (8, 1), (30, -1), (31, -1), (41, -1), (42, -1), (43, -1), (44, -1)] h h37 := my_fr.up gh26 is_94 fh37 rfl
    have Ln_h37 : Ln h37 := Ln_ag (my_ag.up fh37 is_94 rfl) Ln_h26
    have Td_h37 : Td h37 x2 := Td_ag (my_ag.up fh37 is_94 rfl) Ln_h26 Td_h26
    have Lst_h37 : Lst h37 := Lst_ag (my_ag.up fh37 is_94 rfl) Lst_h26
    refine w_aload_n gz_92_52 rfl ?_
    refine v_getI (j := 14) gz_92_53 rfl is_94 rd_2 rfl (fun v38 ev38 pv38 qv38 => ?_)
    have zv38 := ev38.trans (my_up_self fh37)
    have ce39 : h37 111 2 = (-1) := ((my_up_role fh37 is_111 is_94 rfl).trans ((my_up_fld fh26 (by decide)).trans ((my_up_fld fh25 (by decide)).trans ((my_up_fld fh24 (by decide)).trans (my_up_self fh23)))))
    have ce40 : h37 111 3 = (-1) := ((my_up_role fh37 is_111 is_94 rfl).trans ((my_up_fld fh26 (by decide)).trans ((my_up_fld fh25 (by decide)).trans (my_up_self fh24))))
    have ce41 : h37 111 4 = (-1) := ((my_up_role fh37 is_111 is_94 rfl).trans ((my_up_fld fh26 (by decide)).trans (my_up_self fh25)))
    have ce42 : h37 111 5 = (-1) := ((my_up_role fh37 is_111 is_94 rfl).trans (my_up_self fh26))
    have ce43 : h37 112 0 = (-1) := ((my_up_role fh37 is_112 is_94 rfl).trans ((my_up_fld fh26 (by decide)).trans ((my_up_fld fh25 (by decide)).trans ((my_up_fld fh24 (by decide)).trans ((my_up_fld fh23 (by decide)).trans ((my_up_fld fh22 (by decide)).trans ((my_up_ne fh21 (by omega)).trans ((my_up_fld fh19 (by decide)).trans ((my_up_fld fh18 (by decide)).trans ((my_up_fld fh17 (by decide)).trans ((my_up_fld fh16 (by decide)).trans ((my_up_fld fh15 (by decide)).trans ((my_up_ne fh14 (by omega)).trans ((my_up_fld fh10 (by decide)).trans ((my_up_fld fh9 (by decide)).trans ((my_up_fld fh8 (by decide)).trans ((my_up_fld fh7 (by decide)).trans ((my_up_fld fh6 (by decide)).trans (my_up_self fh5)))))))))))))))))))
    have ce44 : h37 112 1 = (-1) := ((my_up_role fh37 is_112 is_94 rfl).trans ((my_up_fld fh26 (by decide)).trans ((my_up_fld fh25 (by decide)).trans ((my_up_fld fh24 (by decide)).trans ((my_up_fld fh23 (by decide)).trans ((my_up_ne fh22 (by omega)).trans ((my_up_fld fh21 (by decide)).trans ((my_up_fld fh19 (by decide)).trans ((my_up_fld fh18 (by decide)).trans ((my_up_fld fh17 (by decide)).trans ((my_up_fld fh16 (by decide)).trans ((my_up_ne fh15 (by omega)).trans ((my_up_fld fh14 (by decide)).trans ((my_up_fld fh10 (by decide)).trans ((my_up_fld fh9 (by decide)).trans ((my_up_fld fh8 (by decide)).trans ((my_up_fld fh7 (by decide)).trans (my_up_self fh6))))))))))))))))))
    have ce45 : h37 112 2 = (-1) := ((my_up_role fh37 is_112 is_94 rfl).trans ((my_up_fld fh26 (by decide)).trans ((my_up_fld fh25 (by decide)).trans ((my_up_fld fh24 (by decide)).trans ((my_up_ne fh23 (by omega)).trans ((my_up_fld fh22 (by decide)).trans ((my_up_fld fh21 (by decide)).trans ((my_up_fld fh19 (by decide)).trans ((my_up_fld fh18 (by decide)).trans ((my_up_fld fh17 (by decide)).trans ((my_up_ne fh16 (by omega)).trans ((my_up_fld fh15 (by decide)).trans ((my_up_fld fh14 (by decide)).trans ((my_up_fld fh10 (by decide)).trans ((my_up_fld fh9 (by decide)).trans ((my_up_fld fh8 (by decide)).trans (my_up_self fh7)))))))))))))))))
    have ce46 : h37 112 3 = (-1) := ((my_up_role fh37 is_112 is_94 rfl).trans ((my_up_fld fh26 (by decide)).trans ((my_up_fld fh25 (by decide)).trans ((my_up_ne fh24 (by omega)).trans ((my_up_fld fh23 (by decide)).trans ((my_up_fld fh22 (by decide)).trans ((my_up_fld fh21 (by decide)).trans ((my_up_fld fh19 (by decide)).trans ((my_up_fld fh18 (by decide)).trans ((my_up_ne fh17 (by omega)).trans ((my_up_fld fh16 (by decide)).trans ((my_up_fld fh15 (by decide)).trans ((my_up_fld fh14 (by decide)).trans ((my_up_fld fh10 (by decide)).trans ((my_up_fld fh9 (by decide)).trans (my_up_self fh8))))))))))))))))
    have ce47 : h37 112 4 = (-1) := ((my_up_role fh37 is_112 is_94 rfl).trans ((my_up_fld fh26 (by decide)).trans ((my_up_ne fh25 (by omega)).trans ((my_up_fld fh24 (by decide)).trans ((my_up_fld fh23 (by decide)).trans ((my_up_fld fh22 (by decide)).trans ((my_up_fld fh21 (by decide)).trans ((my_up_fld fh19 (by decide)).trans ((my_up_ne fh18 (by omega)).trans ((my_up_fld fh17 (by decide)).trans ((my_up_fld fh16 (by decide)).trans ((my_up_fld fh15 (by decide)).trans ((my_up_fld fh14 (by decide)).trans ((my_up_fld fh10 (by decide)).trans (my_up_self fh9)))))))))))))))
    have ce48 : h37 112 5 = (-1) := ((my_up_role fh37 is_112 is_94 rfl).trans ((my_up_ne fh26 (by omega)).trans ((my_up_fld fh25 (by decide)).trans ((my_up_fld fh24 (by decide)).trans ((my_up_fld fh23 (by decide)).trans ((my_up_fld fh22 (by decide)).trans ((my_up_fld fh21 (by decide)).trans ((my_up_ne fh19 (by omega)).trans ((my_up_fld fh18 (by decide)).trans ((my_up_fld fh17 (by decide)).trans ((my_up_fld fh16 (by decide)).trans ((my_up_fld fh15 (by decide)).trans ((my_up_fld fh14 (by decide)).trans (my_up_self fh10))))))))))))))
    have ce49 : h37 113 0 = (-1) := ((my_up_role fh37 is_113 is_94 rfl).trans ((my_up_fld fh26 (by decide)).trans ((my_up_fld fh25 (by decide)).trans ((my_up_fld fh24 (by decide)).trans ((my_up_fld fh23 (by decide)).trans ((my_up_fld fh22 (by decide)).trans ((my_up_ne fh21 (by omega)).trans ((my_up_fld fh19 (by decide)).trans ((my_up_fld fh18 (by decide)).trans ((my_up_fld fh17 (by decide)).trans ((my_up_fld fh16 (by decide)).trans ((my_up_fld fh15 (by decide)).trans (my_up_self fh14)))))))))))))
    have ce50 : h37 113 1 = (-1) := ((my_up_role fh37 is_113 is_94 rfl).trans ((my_up_fld fh26 (by decide)).trans ((my_up_fld fh25 (by decide)).trans ((my_up_fld fh24 (by decide)).trans ((my_up_fld fh23 (by decide)).trans ((my_up_ne fh22 (by omega)).trans ((my_up_fld fh21 (by decide)).trans ((my_up_fld fh19 (by decide)).trans ((my_up_fld fh18 (by decide)).trans ((my_up_fld fh17 (by decide)).trans ((my_up_fld fh16 (by decide)).trans (my_up_self fh15))))))))))))
    have ce51 : h37 113 2 = (-1) := ((my_up_role fh37 is_113 is_94 rfl).trans ((my_up_fld fh26 (by decide)).trans ((my_up_fld fh25 (by decide)).trans ((my_up_fld fh24 (by decide)).trans ((my_up_ne fh23 (by omega)).trans ((my_up_fld fh22 (by decide)).trans ((my_up_fld fh21 (by decide)).trans ((my_up_fld fh19 (by decide)).trans ((my_up_fld fh18 (by decide)).trans ((my_up_fld fh17 (by decide)).trans (my_up_self fh16)))))))))))
    have ce52 : h37 113 3 = (-1) := ((my_up_role fh37 is_113 is_94 rfl).trans ((my_up_fld fh26 (by decide)).trans ((my_up_fld fh25 (by decide)).trans ((my_up_ne fh24 (by omega)).trans ((my_up_fld fh23 (by decide)).trans ((my_up_fld fh22 (by decide)).trans ((my_up_fld fh21 (by decide)).trans ((my_up_fld fh19 (by decide)).trans ((my_up_fld fh18 (by decide)).trans (my_up_self fh17))))))))))
    have ce53 : h37 113 4 = (-1) := ((my_up_role fh37 is_113 is_94 rfl).trans ((my_up_fld fh26 (by decide)).trans ((my_up_ne fh25 (by omega)).trans ((my_up_fld fh24 (by decide)).trans ((my_up_fld fh23 (by decide)).trans ((my_up_fld fh22 (by decide)).trans ((my_up_fld fh21 (by decide)).trans ((my_up_fld fh19 (by decide)).trans (my_up_self fh18)))))))))
    have ce54 : h37 113 5 = (-1) := ((my_up_role fh37 is_113 is_94 rfl).trans ((my_up_ne fh26 (by omega)).trans ((my_up_fld fh25 (by decide)).trans ((my_up_fld fh24 (by decide)).trans ((my_up_fld fh23 (by decide)).trans ((my_up_fld fh22 (by decide)).trans ((my_up_fld fh21 (by decide)).trans (my_up_self fh19))))))))
    have ce55 : h37 94 11 = 0 := ((my_up_fld fh37 (by decide)).trans ((my_up_role fh26 is_94 is_111 rfl).trans ((my_up_role fh25 is_94 is_111 rfl).trans ((my_up_role fh24 is_94 is_111 rfl).trans ((my_up_role fh23 is_94 is_111 rfl).trans ((my_up_role fh22 is_94 is_111 rfl).trans ((my_up_role fh21 is_94 is_111 rfl).trans ((my_up_role fh19 is_94 is_113 rfl).trans ((my_up_role fh18 is_94 is_113 rfl).trans ((my_up_role fh17 is_94 is_113 rfl).trans ((my_up_role fh16 is_94 is_113 rfl).trans ((my_up_role fh15 is_94 is_113 rfl).trans ((my_up_role fh14 is_94 is_113 rfl).trans ((my_up_role fh10 is_94 is_112 rfl).trans ((my_up_role fh9 is_94 is_112 rfl).trans ((my_up_role fh8 is_94 is_112 rfl).trans ((my_up_role fh7 is_94 is_112 rfl).trans ((my_up_role fh6 is_94 is_112 rfl).trans ((my_up_role fh5 is_94 is_112 rfl).trans ((my_up_fld fh3 (by decide)).trans (my_up_self fh2)))))))))))))))))))))
    have d0 : DkL h37 (h 2) [] := DkL_0 (by omega) ⟨by omega, by omega, by omega, by omega, by omega, by omega⟩ ⟨by omega, by omega, by omega, by omega, by omega, by omega⟩
    refine w_ifeq (t := 65) gz_92_56 rfl (fun u56 => ?_) (fun u56 => by exfalso; omega)
    have bfB : ∀ k j : Int, 0 ≤ k → (k < 94 ∨ 120 ≤ k ∧ k < 151) → h37 k j = h k j := fun k j k0 k1 => (((my_up_ne fh37 (by omega)).trans ((my_up_ne fh26 (by omega)).trans ((my_up_ne fh25 (by omega)).trans ((my_up_ne fh24 (by omega)).trans ((my_up_ne fh23 (by omega)).trans ((my_up_ne fh22 (by omega)).trans ((my_up_ne fh21 (by omega)).trans ((my_up_ne fh19 (by omega)).trans ((my_up_ne fh18 (by omega)).trans ((my_up_ne fh17 (by omega)).trans ((my_up_ne fh16 (by omega)).trans ((my_up_ne fh15 (by omega)).trans ((my_up_ne fh14 (by omega)).trans ((my_up_ne fh10 (by omega)).trans ((my_up_ne fh9 (by omega)).trans ((my_up_ne fh8 (by omega)).trans ((my_up_ne fh7 (by omega)).trans ((my_up_ne fh6 (by omega)).trans ((my_up_ne fh5 (by omega)).trans ((my_up_ne fh3 (by omega)).trans ((my_up_ne fh2 (by omega)).trans (my_up_ne fh1 (by omega))))))))))))))))))))))).trans rfl)
    refine w_aload_n gz_92_65 rfl ?_
    refine w_getX (v := 95) gz_92_66 is_94 rd_2 rfl (by decide) rfl ?_
    refine w_aload_n gz_92_69 rfl ?_
    refine w_inv (k := 0) (as := [(2, x1)]) (r := []) (x := 95) (ls0 := [(2, 95), (2, x1)]) gz_92_70 gm_25 rfl is_95 rd_6 rfl rfl rfl rfl rfl ?_
    refine w_aload_n gz_25_0 rfl ?_
    refine w_getX (v := (x1 + 1)) gz_25_1 t1 rd_6 rfl (by decide) rfl ?_
    refine w_iconst gz_25_4 (by decide) ?_
    refine w_aload_n gz_25_5 rfl ?_
    refine w_getX (v := 96) gz_25_6 is_95 rd_6 rfl (by decide) rfl ?_
    refine w_iconst gz_25_9 (by decide) ?_
    refine w_aload_n gz_25_10 rfl ?_
    refine w_getX (v := 96) gz_25_11 is_95 rd_6 rfl (by decide) rfl ?_
    refine v_alen (j := 240) gz_25_14 rfl is_96 rd_30 (by decide) ?_
    refine w_cpU gz_25_15 (ix_6_1 t1) rd_30 is_96 rd_30 (by omega) (by omega) (by omega) (by omega) (by omega) rfl (by decide) (by decide) (fun h61 fh61 => ?_)
    have gh61 : my_fr [(2, 11), (2, 12), (2, 13), (2, 14), (7, 0), (7, 1), (7, 2), (7, 3), (7, 4), (7, 5), (8, 0), (8, 1), (30, -1), (31, -1), (41, -1), (42, -1), (43, -1), (44, -1)] h h61 := my_fr.cp gh37 is_96 fh61 rfl
    have Ln_h61 : Ln h61 := Ln_ag (my_ag.cp fh61 is_96 rfl) Ln_h37
    have Td_h61 : Td h61 x2 := Td_ag (my_ag.cp fh61 is_96 rfl) Ln_h37 Td_h37
    have Lst_h61 : Lst h61 := Lst_ag (my_ag.cp fh61 is_96 rfl) Lst_h37
    have fc96 := fh61
    refine w_aload_n gz_25_18 rfl ?_
    refine w_getX (v := (x1 + 2)) gz_25_19 t1 rd_6 rfl (by decide) rfl ?_
    refine w_iconst gz_25_22 (by decide) ?_
    refine w_aload_n gz_25_23 rfl ?_
    refine w_getX (v := 97) gz_25_24 is_95 rd_6 rfl (by decide) rfl ?_
    refine w_iconst gz_25_27 (by decide) ?_
    refine w_aload_n gz_25_28 rfl ?_
    refine w_getX (v := 97) gz_25_29 is_95 rd_6 rfl (by decide) rfl ?_
    refine v_alen (j := 3) gz_25_32 rfl is_97 rd_31 (by decide) ?_
    refine w_cpU gz_25_33 (ix_6_2 t1) rd_31 is_97 rd_31 (by omega) (by omega) (by omega) (by omega) (by omega) rfl (by decide) (by decide) (fun h65 fh65 => ?_)
    have gh65 : my_fr [(2, 11), (2, 12), (2, 13), (2, 14), (7, 0), (7, 1), (7, 2), (7, 3), (7, 4), (7, 5), (8, 0), (8, 1), (30, -1), (31, -1), (41, -1), (42, -1), (43, -1), (44, -1)] h h65 := my_fr.cp gh61 is_97 fh65 rfl
    have Ln_h65 : Ln h65 := Ln_ag (my_ag.cp fh65 is_97 rfl) Ln_h61
    have Td_h65 : Td h65 x2 := Td_ag (my_ag.cp fh65 is_97 rfl) Ln_h61 Td_h61
    have Lst_h65 : Lst h65 := Lst_ag (my_ag.cp fh65 is_97 rfl) Lst_h61
    have fc97 := fh65
    refine w_vret gz_25_36 gm_25 ?_
    show wp l rho (d + 5) 92 73 [(2, 94), (2, x1), (0, x2), (0, x3), (0, x4), (9, 0), (9, 0)] [] h65 Q
    refine w_aload_n gz_92_73 rfl ?_
    refine w_aload_n gz_92_74 rfl ?_
    refine w_getX (v := 27) gz_92_75 is_94 rd_2 rfl (by decide) rfl ?_
    refine w_iload_n gz_92_78 rfl ?_
    refine w_aald gz_92_79 is_27 rd_22 rfl (by omega) (by omega) (fun v67 ev67 tv67 => ?_)
    have ce68 : h65 94 15 = h 94 15 := ((my_cp_role fh65 is_94 is_97 rfl).trans ((my_cp_role fh61 is_94 is_96 rfl).trans ((my_up_fld fh37 (by decide)).trans ((my_up_role fh26 is_94 is_111 rfl).trans ((my_up_role fh25 is_94 is_111 rfl).trans ((my_up_role fh24 is_94 is_111 rfl).trans ((my_up_role fh23 is_94 is_111 rfl).trans ((my_up_role fh22 is_94 is_111 rfl).trans ((my_up_role fh21 is_94 is_111 rfl).trans ((my_up_role fh19 is_94 is_113 rfl).trans ((my_up_role fh18 is_94 is_113 rfl).trans ((my_up_role fh17 is_94 is_113 rfl).trans ((my_up_role fh16 is_94 is_113 rfl).trans ((my_up_role fh15 is_94 is_113 rfl).trans ((my_up_role fh14 is_94 is_113 rfl).trans ((my_up_role fh10 is_94 is_112 rfl).trans ((my_up_role fh9 is_94 is_112 rfl).trans ((my_up_role fh8 is_94 is_112 rfl).trans ((my_up_role fh7 is_94 is_112 rfl).trans ((my_up_role fh6 is_94 is_112 rfl).trans ((my_up_role fh5 is_94 is_112 rfl).trans ((my_up_fld fh3 (by decide)).trans ((my_up_fld fh2 (by decide)).trans ((my_up_fld fh1 (by decide)).trans (rfl : h 94 15 = h 94 15)))))))))))))))))))))))))
    have ce69 : h65 94 16 = h 94 16 := ((my_cp_role fh65 is_94 is_97 rfl).trans ((my_cp_role fh61 is_94 is_96 rfl).trans ((my_up_fld fh37 (by decide)).trans ((my_up_role fh26 is_94 is_111 rfl).trans ((my_up_role fh25 is_94 is_111 rfl).trans ((my_up_role fh24 is_94 is_111 rfl).trans ((my_up_role fh23 is_94 is_111 rfl).trans ((my_up_role fh22 is_94 is_111 rfl).trans ((my_up_role fh21 is_94 is_111 rfl).trans ((my_up_role fh19 is_94 is_113 rfl).trans ((my_up_role fh18 is_94 is_113 rfl).trans ((my_up_role fh17 is_94 is_113 rfl).trans ((my_up_role fh16 is_94 is_113 rfl).trans ((my_up_role fh15 is_94 is_113 rfl).trans ((my_up_role fh14 is_94 is_113 rfl).trans ((my_up_role fh10 is_94 is_112 rfl).trans ((my_up_role fh9 is_94 is_112 rfl).trans ((my_up_role fh8 is_94 is_112 rfl).trans ((my_up_role fh7 is_94 is_112 rfl).trans ((my_up_role fh6 is_94 is_112 rfl).trans ((my_up_role fh5 is_94 is_112 rfl).trans ((my_up_fld fh3 (by decide)).trans ((my_up_fld fh2 (by decide)).trans ((my_up_fld fh1 (by decide)).trans (rfl : h 94 16 = h 94 16)))))))))))))))))))))))))
    have ce70 : h65 94 12 = x3 := ((my_cp_role fh65 is_94 is_97 rfl).trans ((my_cp_role fh61 is_94 is_96 rfl).trans ((my_up_fld fh37 (by decide)).trans ((my_up_role fh26 is_94 is_111 rfl).trans ((my_up_role fh25 is_94 is_111 rfl).trans ((my_up_role fh24 is_94 is_111 rfl).trans ((my_up_role fh23 is_94 is_111 rfl).trans ((my_up_role fh22 is_94 is_111 rfl).trans ((my_up_role fh21 is_94 is_111 rfl).trans ((my_up_role fh19 is_94 is_113 rfl).trans ((my_up_role fh18 is_94 is_113 rfl).trans ((my_up_role fh17 is_94 is_113 rfl).trans ((my_up_role fh16 is_94 is_113 rfl).trans ((my_up_role fh15 is_94 is_113 rfl).trans ((my_up_role fh14 is_94 is_113 rfl).trans ((my_up_role fh10 is_94 is_112 rfl).trans ((my_up_role fh9 is_94 is_112 rfl).trans ((my_up_role fh8 is_94 is_112 rfl).trans ((my_up_role fh7 is_94 is_112 rfl).trans ((my_up_role fh6 is_94 is_112 rfl).trans ((my_up_role fh5 is_94 is_112 rfl).trans (my_up_self fh3))))))))))))))))))))))
    have ce71 : h65 94 13 = x4 := ((my_cp_role fh65 is_94 is_97 rfl).trans ((my_cp_role fh61 is_94 is_96 rfl).trans ((my_up_fld fh37 (by decide)).trans ((my_up_role fh26 is_94 is_111 rfl).trans ((my_up_role fh25 is_94 is_111 rfl).trans ((my_up_role fh24 is_94 is_111 rfl).trans ((my_up_role fh23 is_94 is_111 rfl).trans ((my_up_role fh22 is_94 is_111 rfl).trans ((my_up_role fh21 is_94 is_111 rfl).trans ((my_up_role fh19 is_94 is_113 rfl).trans ((my_up_role fh18 is_94 is_113 rfl).trans ((my_up_role fh17 is_94 is_113 rfl).trans ((my_up_role fh16 is_94 is_113 rfl).trans ((my_up_role fh15 is_94 is_113 rfl).trans ((my_up_role fh14 is_94 is_113 rfl).trans ((my_up_role fh10 is_94 is_112 rfl).trans ((my_up_role fh9 is_94 is_112 rfl).trans ((my_up_role fh8 is_94 is_112 rfl).trans ((my_up_role fh7 is_94 is_112 rfl).trans ((my_up_role fh6 is_94 is_112 rfl).trans ((my_up_role fh5 is_94 is_112 rfl).trans ((my_up_fld fh3 (by decide)).trans ((my_up_fld fh2 (by decide)).trans (my_up_self fh1))))))))))))))))))))))))
    have ce72 : h65 94 14 = v38 := ((my_cp_role fh65 is_94 is_97 rfl).trans ((my_cp_role fh61 is_94 is_96 rfl).trans ev38.symm))
    have ce73 : h65 94 15 = h 94 15 := ((my_cp_role fh65 is_94 is_97 rfl).trans ((my_cp_role fh61 is_94 is_96 rfl).trans ((my_up_fld fh37 (by decide)).trans ((my_up_role fh26 is_94 is_111 rfl).trans ((my_up_role fh25 is_94 is_111 rfl).trans ((my_up_role fh24 is_94 is_111 rfl).trans ((my_up_role fh23 is_94 is_111 rfl).trans ((my_up_role fh22 is_94 is_111 rfl).trans ((my_up_role fh21 is_94 is_111 rfl).trans ((my_up_role fh19 is_94 is_113 rfl).trans ((my_up_role fh18 is_94 is_113 rfl).trans ((my_up_role fh17 is_94 is_113 rfl).trans ((my_up_role fh16 is_94 is_113 rfl).trans ((my_up_role fh15 is_94 is_113 rfl).trans ((my_up_role fh14 is_94 is_113 rfl).trans ((my_up_role fh10 is_94 is_112 rfl).trans ((my_up_role fh9 is_94 is_112 rfl).trans ((my_up_role fh8 is_94 is_112 rfl).trans ((my_up_role fh7 is_94 is_112 rfl).trans ((my_up_role fh6 is_94 is_112 rfl).trans ((my_up_role fh5 is_94 is_112 rfl).trans ((my_up_fld fh3 (by decide)).trans ((my_up_fld fh2 (by decide)).trans ((my_up_fld fh1 (by decide)).trans (rfl : h 94 15 = h 94 15)))))))))))))))))))))))))
    have ce74 : h65 94 16 = h 94 16 := ((my_cp_role fh65 is_94 is_97 rfl).trans ((my_cp_role fh61 is_94 is_96 rfl).trans ((my_up_fld fh37 (by decide)).trans ((my_up_role fh26 is_94 is_111 rfl).trans ((my_up_role fh25 is_94 is_111 rfl).trans ((my_up_role fh24 is_94 is_111 rfl).trans ((my_up_role fh23 is_94 is_111 rfl).trans ((my_up_role fh22 is_94 is_111 rfl).trans ((my_up_role fh21 is_94 is_111 rfl).trans ((my_up_role fh19 is_94 is_113 rfl).trans ((my_up_role fh18 is_94 is_113 rfl).trans ((my_up_role fh17 is_94 is_113 rfl).trans ((my_up_role fh16 is_94 is_113 rfl).trans ((my_up_role fh15 is_94 is_113 rfl).trans ((my_up_role fh14 is_94 is_113 rfl).trans ((my_up_role fh10 is_94 is_112 rfl).trans ((my_up_role fh9 is_94 is_112 rfl).trans ((my_up_role fh8 is_94 is_112 rfl).trans ((my_up_role fh7 is_94 is_112 rfl).trans ((my_up_role fh6 is_94 is_112 rfl).trans ((my_up_role fh5 is_94 is_112 rfl).trans ((my_up_fld fh3 (by decide)).trans ((my_up_fld fh2 (by decide)).trans ((my_up_fld fh1 (by decide)).trans (rfl : h 94 16 = h 94 16)))))))))))))))))))))))))
    have ce75 : h65 98 0 = h 98 0 := ((my_cp_role fh65 is_98 is_97 rfl).trans ((my_cp_role fh61 is_98 is_96 rfl).trans ((my_up_role fh37 is_98 is_94 rfl).trans ((my_up_role fh26 is_98 is_111 rfl).trans ((my_up_role fh25 is_98 is_111 rfl).trans ((my_up_role fh24 is_98 is_111 rfl).trans ((my_up_role fh23 is_98 is_111 rfl).trans ((my_up_role fh22 is_98 is_111 rfl).trans ((my_up_role fh21 is_98 is_111 rfl).trans ((my_up_role fh19 is_98 is_113 rfl).trans ((my_up_role fh18 is_98 is_113 rfl).trans ((my_up_role fh17 is_98 is_113 rfl).trans ((my_up_role fh16 is_98 is_113 rfl).trans ((my_up_role fh15 is_98 is_113 rfl).trans ((my_up_role fh14 is_98 is_113 rfl).trans ((my_up_role fh10 is_98 is_112 rfl).trans ((my_up_role fh9 is_98 is_112 rfl).trans ((my_up_role fh8 is_98 is_112 rfl).trans ((my_up_role fh7 is_98 is_112 rfl).trans ((my_up_role fh6 is_98 is_112 rfl).trans ((my_up_role fh5 is_98 is_112 rfl).trans ((my_up_role fh3 is_98 is_94 rfl).trans ((my_up_role fh2 is_98 is_94 rfl).trans ((my_up_role fh1 is_98 is_94 rfl).trans (rfl : h 98 0 = h 98 0)))))))))))))))))))))))))
    have ce76 : h65 98 1 = h 98 1 := ((my_cp_role fh65 is_98 is_97 rfl).trans ((my_cp_role fh61 is_98 is_96 rfl).trans ((my_up_role fh37 is_98 is_94 rfl).trans ((my_up_role fh26 is_98 is_111 rfl).trans ((my_up_role fh25 is_98 is_111 rfl).trans ((my_up_role fh24 is_98 is_111 rfl).trans ((my_up_role fh23 is_98 is_111 rfl).trans ((my_up_role fh22 is_98 is_111 rfl).trans ((my_up_role fh21 is_98 is_111 rfl).trans ((my_up_role fh19 is_98 is_113 rfl).trans ((my_up_role fh18 is_98 is_113 rfl).trans ((my_up_role fh17 is_98 is_113 rfl).trans ((my_up_role fh16 is_98 is_113 rfl).trans ((my_up_role fh15 is_98 is_113 rfl).trans ((my_up_role fh14 is_98 is_113 rfl).trans ((my_up_role fh10 is_98 is_112 rfl).trans ((my_up_role fh9 is_98 is_112 rfl).trans ((my_up_role fh8 is_98 is_112 rfl).trans ((my_up_role fh7 is_98 is_112 rfl).trans ((my_up_role fh6 is_98 is_112 rfl).trans ((my_up_role fh5 is_98 is_112 rfl).trans ((my_up_role fh3 is_98 is_94 rfl).trans ((my_up_role fh2 is_98 is_94 rfl).trans ((my_up_role fh1 is_98 is_94 rfl).trans (rfl : h 98 1 = h 98 1)))))))))))))))))))))))))
    have ce77 : h65 102 0 = h 102 0 := ((my_cp_role fh65 is_102 is_97 rfl).trans ((my_cp_role fh61 is_102 is_96 rfl).trans ((my_up_role fh37 is_102 is_94 rfl).trans ((my_up_role fh26 is_102 is_111 rfl).trans ((my_up_role fh25 is_102 is_111 rfl).trans ((my_up_role fh24 is_102 is_111 rfl).trans ((my_up_role fh23 is_102 is_111 rfl).trans ((my_up_role fh22 is_102 is_111 rfl).trans ((my_up_role fh21 is_102 is_111 rfl).trans ((my_up_role fh19 is_102 is_113 rfl).trans ((my_up_role fh18 is_102 is_113 rfl).trans ((my_up_role fh17 is_102 is_113 rfl).trans ((my_up_role fh16 is_102 is_113 rfl).trans ((my_up_role fh15 is_102 is_113 rfl).trans ((my_up_role fh14 is_102 is_113 rfl).trans ((my_up_role fh10 is_102 is_112 rfl).trans ((my_up_role fh9 is_102 is_112 rfl).trans ((my_up_role fh8 is_102 is_112 rfl).trans ((my_up_role fh7 is_102 is_112 rfl).trans ((my_up_role fh6 is_102 is_112 rfl).trans ((my_up_role fh5 is_102 is_112 rfl).trans ((my_up_role fh3 is_102 is_94 rfl).trans ((my_up_role fh2 is_102 is_94 rfl).trans ((my_up_role fh1 is_102 is_94 rfl).trans (rfl : h 102 0 = h 102 0)))))))))))))))))))))))))
    have ce78 : h65 102 1 = h 102 1 := ((my_cp_role fh65 is_102 is_97 rfl).trans ((my_cp_role fh61 is_102 is_96 rfl).trans ((my_up_role fh37 is_102 is_94 rfl).trans ((my_up_role fh26 is_102 is_111 rfl).trans ((my_up_role fh25 is_102 is_111 rfl).trans ((my_up_role fh24 is_102 is_111 rfl).trans ((my_up_role fh23 is_102 is_111 rfl).trans ((my_up_role fh22 is_102 is_111 rfl).trans ((my_up_role fh21 is_102 is_111 rfl).trans ((my_up_role fh19 is_102 is_113 rfl).trans ((my_up_role fh18 is_102 is_113 rfl).trans ((my_up_role fh17 is_102 is_113 rfl).trans ((my_up_role fh16 is_102 is_113 rfl).trans ((my_up_role fh15 is_102 is_113 rfl).trans ((my_up_role fh14 is_102 is_113 rfl).trans ((my_up_role fh10 is_102 is_112 rfl).trans ((my_up_role fh9 is_102 is_112 rfl).trans ((my_up_role fh8 is_102 is_112 rfl).trans ((my_up_role fh7 is_102 is_112 rfl).trans ((my_up_role fh6 is_102 is_112 rfl).trans ((my_up_role fh5 is_102 is_112 rfl).trans ((my_up_role fh3 is_102 is_94 rfl).trans ((my_up_role fh2 is_102 is_94 rfl).trans ((my_up_role fh1 is_102 is_94 rfl).trans (rfl : h 102 1 = h 102 1)))))))))))))))))))))))))
    have a99 : ∀ j : Int, h65 99 j = h 99 j := fun j => ((my_cp_role fh65 is_99 is_97 rfl).trans ((my_cp_role fh61 is_99 is_96 rfl).trans ((my_up_role fh37 is_99 is_94 rfl).trans ((my_up_role fh26 is_99 is_111 rfl).trans ((my_up_role fh25 is_99 is_111 rfl).trans ((my_up_role fh24 is_99 is_111 rfl).trans ((my_up_role fh23 is_99 is_111 rfl).trans ((my_up_role fh22 is_99 is_111 rfl).trans ((my_up_role fh21 is_99 is_111 rfl).trans ((my_up_role fh19 is_99 is_113 rfl).trans ((my_up_role fh18 is_99 is_113 rfl).trans ((my_up_role fh17 is_99 is_113 rfl).trans ((my_up_role fh16 is_99 is_113 rfl).trans ((my_up_role fh15 is_99 is_113 rfl).trans ((my_up_role fh14 is_99 is_113 rfl).trans ((my_up_role fh10 is_99 is_112 rfl).trans ((my_up_role fh9 is_99 is_112 rfl).trans ((my_up_role fh8 is_99 is_112 rfl).trans ((my_up_role fh7 is_99 is_112 rfl).trans ((my_up_role fh6 is_99 is_112 rfl).trans ((my_up_role fh5 is_99 is_112 rfl).trans ((my_up_role fh3 is_99 is_94 rfl).trans ((my_up_role fh2 is_99 is_94 rfl).trans ((my_up_role fh1 is_99 is_94 rfl).trans (rfl : h 99 j = h 99 j)))))))))))))))))))))))))
    have a101 : ∀ j : Int, h65 101 j = h 101 j := fun j => ((my_cp_role fh65 is_101 is_97 rfl).trans ((my_cp_role fh61 is_101 is_96 rfl).trans ((my_up_role fh37 is_101 is_94 rfl).trans ((my_up_role fh26 is_101 is_111 rfl).trans ((my_up_role fh25 is_101 is_111 rfl).trans ((my_up_role fh24 is_101 is_111 rfl).trans ((my_up_role fh23 is_101 is_111 rfl).trans ((my_up_role fh22 is_101 is_111 rfl).trans ((my_up_role fh21 is_101 is_111 rfl).trans ((my_up_role fh19 is_101 is_113 rfl).trans ((my_up_role fh18 is_101 is_113 rfl).trans ((my_up_role fh17 is_101 is_113 rfl).trans ((my_up_role fh16 is_101 is_113 rfl).trans ((my_up_role fh15 is_101 is_113 rfl).trans ((my_up_role fh14 is_101 is_113 rfl).trans ((my_up_role fh10 is_101 is_112 rfl).trans ((my_up_role fh9 is_101 is_112 rfl).trans ((my_up_role fh8 is_101 is_112 rfl).trans ((my_up_role fh7 is_101 is_112 rfl).trans ((my_up_role fh6 is_101 is_112 rfl).trans ((my_up_role fh5 is_101 is_112 rfl).trans ((my_up_role fh3 is_101 is_94 rfl).trans ((my_up_role fh2 is_101 is_94 rfl).trans ((my_up_role fh1 is_101 is_94 rfl).trans (rfl : h 101 j = h 101 j)))))))))))))))))))))))))
    have a103 : ∀ j : Int, h65 103 j = h 103 j := fun j => ((my_cp_role fh65 is_103 is_97 rfl).trans ((my_cp_role fh61 is_103 is_96 rfl).trans ((my_up_role fh37 is_103 is_94 rfl).trans ((my_up_role fh26 is_103 is_111 rfl).trans ((my_up_role fh25 is_103 is_111 rfl).trans ((my_up_role fh24 is_103 is_111 rfl).trans ((my_up_role fh23 is_103 is_111 rfl).trans ((my_up_role fh22 is_103 is_111 rfl).trans ((my_up_role fh21 is_103 is_111 rfl).trans ((my_up_role fh19 is_103 is_113 rfl).trans ((my_up_role fh18 is_103 is_113 rfl).trans ((my_up_role fh17 is_103 is_113 rfl).trans ((my_up_role fh16 is_103 is_113 rfl).trans ((my_up_role fh15 is_103 is_113 rfl).trans ((my_up_role fh14 is_103 is_113 rfl).trans ((my_up_role fh10 is_103 is_112 rfl).trans ((my_up_role fh9 is_103 is_112 rfl).trans ((my_up_role fh8 is_103 is_112 rfl).trans ((my_up_role fh7 is_103 is_112 rfl).trans ((my_up_role fh6 is_103 is_112 rfl).trans ((my_up_role fh5 is_103 is_112 rfl).trans ((my_up_role fh3 is_103 is_94 rfl).trans ((my_up_role fh2 is_103 is_94 rfl).trans ((my_up_role fh1 is_103 is_94 rfl).trans (rfl : h 103 j = h 103 j)))))))))))))))))))))))))
    have sw8 : SmW h h65 := ⟨by omega, by omega, by omega, by omega, by omega, by omega, a99, a101, a103⟩
    have bf8 : ∀ k j : Int, 0 ≤ k → (k < 94 ∨ 120 ≤ k ∧ k < 151) → h65 k j = h k j := fun k j k0 k1 => (((my_cp_ne fh65 (by omega)).trans ((my_cp_ne fh61 (by omega)).trans ((my_up_ne fh37 (by omega)).trans ((my_up_ne fh26 (by omega)).trans ((my_up_ne fh25 (by omega)).trans ((my_up_ne fh24 (by omega)).trans ((my_up_ne fh23 (by omega)).trans ((my_up_ne fh22 (by omega)).trans ((my_up_ne fh21 (by omega)).trans ((my_up_ne fh19 (by omega)).trans ((my_up_ne fh18 (by omega)).trans ((my_up_ne fh17 (by omega)).trans ((my_up_ne fh16 (by omega)).trans ((my_up_ne fh15 (by omega)).trans ((my_up_ne fh14 (by omega)).trans ((my_up_ne fh10 (by omega)).trans ((my_up_ne fh9 (by omega)).trans ((my_up_ne fh8 (by omega)).trans ((my_up_ne fh7 (by omega)).trans ((my_up_ne fh6 (by omega)).trans ((my_up_ne fh5 (by omega)).trans ((my_up_ne fh3 (by omega)).trans ((my_up_ne fh2 (by omega)).trans (my_up_ne fh1 (by omega))))))))))))))))))))))))).trans rfl)
    have e96 : zqAg (h (x1 + 1)) (h65 96) := fun j a b => (my_cp_ne fc97 (by omega)).trans ((my_cp_in fc96 (by omega) (by omega)).trans (by rw [show (0 : Int) + (j - 0) = j by omega]; exact bfB _ j xb.z1 xb.f1))
    have e97 : ∀ u : Int, 0 ≤ u → u ≤ 2 → h65 97 u = h (x1 + 2) u := fun u a b => (my_cp_in fc97 (by omega) (by omega)).trans (by rw [show (0 : Int) + (u - 0) = u by omega]; exact (my_cp_ne fc96 (by omega)).trans (bfB _ u xb.z2 xb.f2))
    have as8 : h65 94 14 ≠ 0 ↔ (NLs h65).Perm (WLs h65) := by
      rw [NLs_cg sw8.2.2.1 sw8.2.2.2.1 (by omega) sw8.2.2.2.2.2.2.1, WLs_cg sw8.2.2.2.2.1 sw8.2.2.2.2.2.1 (by omega) sw8.2.2.2.2.2.2.2.2]
      first | exact ⟨fun _ => sI.mp sa, fun _ => by omega⟩ | exact ⟨fun z => absurd z (by omega), fun z => absurd (sI.mpr z) sa⟩
    have K8 := SrC_mk n_Ln (my_ag.fr (F := F5) gh65 rfl) sw8 e96 e97 as8 hk
    have c08 := cmR_bd (c := 0) hk.1.1 hk.1.2.1 hk.1.2.2 hk.2.1 hk.2.2.1 (fun j a b => by have z := kD j a (by omega); omega) (fun j a b => by have z := kL j a (by omega); omega) (by omega) (by omega)
    have LA8 := LA_mk n_Ln (my_ag.fr (F := F5) gh65 rfl) sw8 e96 hk c08 K8
    have e28 : h65 2 = h 2 := funext fun j => my_fr.at gh65 pis_2 rfl
    have d8 : DkL h65 (h65 2) (L0h h65) := by
      rw [e28]
      first | exact DkL_L0 d0 kpp (by omega) (by omega) (by omega) (by omega) (KpS_cp fc96 fc97) (by omega) | exact DkL_N0 d0 (KpS_cp fc96 fc97) (by omega)
    have n98 := SrC_98 K8
    refine w_inv (k := 4) (as := [(2, v67)]) (r := []) (x := 94) (ls0 := [(2, 94), (2, v67), (9, 0), (9, 0), (9, 0), (9, 0)]) gz_92_80 gm_96 rfl is_94 rd_2 rfl rfl rfl rfl rfl (c_Desk_tellingRows5 (d := (d + 2)) (x1 := v67) tv67 ((fun z => by have q := K8.2.2.2.2.2.2.2.2.2.2.1 z; omega)) ((fun z => (K8.2.2.2.2.2.2.2.2.2.2.1 z).2)) (SrC_be K8) (fun v79 xp80 => ?_))
    show wp l rho (d + 5) 92 83 [(2, 94), (2, x1), (0, x2), (0, x3), (0, x4), (9, 0), (9, 0)] [(1, v79)] h65 Q
    have tp8 : TlP h65 x2 v79 := TlP_mk xp80 (by first | assumption | omega)
    refine w_lstore (ls' := [(2, 94), (2, x1), (0, x2), (0, x3), (0, x4), (1, v79), (9, 0)]) gz_92_83 gm_92 rfl rfl rfl ?_
    refine w_aload_n gz_92_85 rfl ?_
    refine w_iload_n gz_92_86 rfl ?_
    refine w_lload gz_92_87 rfl ?_
    refine w_inv (k := 6) (as := [(1, v79), (0, x2)]) (r := []) (x := 94) (ls0 := [(2, 94), (0, x2), (1, v79), (9, 0), (9, 0), (9, 0), (9, 0), (9, 0), (9, 0), (9, 0)]) gz_92_89 gm_98 rfl is_94 rd_2 rfl rfl rfl rfl rfl (c_Desk_tryOtherValues5 (d := d) (x1 := x2) (x2 := v79) (by omega) (by omega) Lst_h65 Ln_h65 Td_h65 (K8) (tp8) (d8) (fun h81 frh81 xp82 xp83 Lst_h81t84 => ?_))
    have gh81 : my_fr [(2, 11), (2, 12), (2, 13), (2, 14), (7, 0), (7, 1), (7, 2), (7, 3), (7, 4), (7, 5), (8, 0), (8, 1), (30, -1), (31, -1), (41, -1), (42, -1), (43, -1), (44, -1)] h h81 := my_fr.tr gh65 (frh81.mo rfl)
    have Ln_h81 : Ln h81 := Ln_ag (my_ag.fr frh81 rfl) Ln_h65
    have Td_h81 : Td h81 x2 := Td_ag (my_ag.fr frh81 rfl) Ln_h65 Td_h65
    show wp l rho (d + 5) 92 92 [(2, 94), (2, x1), (0, x2), (0, x3), (0, x4), (1, v79), (9, 0)] [] h81 Q
    have tv := xp82
    have bf1 := xp83
    have K9 := SrC_cg Ln_h65 (my_ag.fr (F := F5) frh81 rfl) tv.2.1 tv.1 (fun j => my_fr.at frh81 pis_97 rfl) K8
    have L9 := LL_cg Ln_h65 (my_ag.fr (F := F5) frh81 rfl) tv.2.1 tv.1 K8
    have tp9 := TlP_cg Ln_h65 (my_ag.fr (F := F5) frh81 rfl) K8.1.1 K8.1.2.1 K8.1.2.2 tv.2.1 (by omega) tv.1 tp8
    have e29 : h81 2 = h65 2 := funext fun j => my_fr.at frh81 pis_2 rfl
    have d9 : DkE h81 (h81 2) (LLh h81 x2) := by
      rw [e29, L9.1]
      exact tv.2.2
    have hw9 : ∀ j : Int, 0 ≤ j → j < 240 → h81 (x1 + 1) j = h81 96 j := fun j a b => ((bf1 _ j xb.z1 xb.f1).trans (bf8 _ j xb.z1 xb.f1)).trans ((tv.1 j).trans (e96 j a b)).symm
    have hz9 : ∀ j : Int, 0 ≤ j → j < 3 → h81 (x1 + 2) j = h81 97 j := fun j a b => ((bf1 _ j xb.z2 xb.f2).trans (bf8 _ j xb.z2 xb.f2)).trans ((my_fr.at frh81 pis_97 rfl).trans (e97 j a (by omega))).symm
    refine w_aload_n gz_92_92 rfl ?_
    refine w_aload_n gz_92_93 rfl ?_
    refine w_iload_n gz_92_94 rfl ?_
    refine w_lload gz_92_95 rfl ?_
    refine w_inv (k := 4) (as := [(1, v79), (0, x2), (2, x1)]) (r := []) (x := 94) (ls0 := [(2, 94), (2, x1), (0, x2), (1, v79), (9, 0), (9, 0), (9, 0), (9, 0), (9, 0)]) gz_92_97 gm_104 rfl is_94 rd_2 rfl rfl rfl rfl rfl (c_Desk_tryRowsThatGo5 (d := d) (x1 := x1) (x2 := x2) (x3 := v79) t1 (by omega) (by omega) Lst_h81t84 Ln_h81 Td_h81 (K9) (tp9) (d9) (hw9) (hz9) (by first | assumption | exact no_such_saying | exact Fp_told (by omega) (by omega) | omega | (subst_vars; omega) | omega) (fun h85 frh85 xp86 xp87 xp88 Lst_h85t89 => ?_))
    have gh85 : my_fr [(2, 11), (2, 12), (2, 13), (2, 14), (7, 0), (7, 1), (7, 2), (7, 3), (7, 4), (7, 5), (8, 0), (8, 1), (30, -1), (31, -1), (41, -1), (42, -1), (43, -1), (44, -1)] h h85 := my_fr.tr gh81 (frh85.mo rfl)
    have Ln_h85 : Ln h85 := Ln_ag (my_ag.fr frh85 rfl) Ln_h81
    have Td_h85 : Td h85 x2 := Td_ag (my_ag.fr frh85 rfl) Ln_h81 Td_h81
    show wp l rho (d + 5) 92 100 [(2, 94), (2, x1), (0, x2), (0, x3), (0, x4), (1, v79), (9, 0)] [] h85 Q
    have tg := xp86
    have k45 := xp87
    have bf2 := xp88
    have K10 := SrC_cg Ln_h81 (my_ag.fr (F := F5) frh85 rfl) tg.2.2.1 tg.1 tg.2.1 K9
    have L10 := LL_cg Ln_h81 (my_ag.fr (F := F5) frh85 rfl) tg.2.2.1 tg.1 K9
    have e210 : h85 2 = h81 2 := funext fun j => my_fr.at frh85 pis_2 rfl
    have d10 : DkE h85 (h85 2) (LGh h85 x2) := by
      rw [e210, L10.2.1]
      exact tg.2.2.2
    refine w_aload_n gz_92_100 rfl ?_
    refine w_iload_n gz_92_101 rfl ?_
    have cm10 := cmR_cg n_Ln (my_ag.fr (F := F5) gh85 rfl) hk.1.1 hk.1.2.1 hk.1.2.2
    have e2h : h85 2 = h 2 := funext fun j => my_fr.at gh85 pis_2 rfl
    have LAe : LAh h85 x2 = AlH h x1 x2 := L10.2.2.trans (L9.2.2.trans LA8.1)
    refine w_inv (k := 0) (as := [(0, x2)]) (r := []) (x := 94) (ls0 := [(2, 94), (0, x2)]) gz_92_102 gm_105 rfl is_94 rd_2 rfl rfl rfl rfl rfl (c_Desk_tryRowThatComes5 (d := d) (x1 := x2) (by omega) (by omega) Lst_h85t89 Ln_h85 Td_h85 (K10) (d10) (k45.1) (k45.2) (fun h90 frh90 xp91 xp92 xp93 Lst_h90t94 => ?_))
    have gh90 : my_fr [(2, 11), (2, 12), (2, 13), (2, 14), (7, 0), (7, 1), (7, 2), (7, 3), (7, 4), (7, 5), (8, 0), (8, 1), (30, -1), (31, -1), (41, -1), (42, -1), (43, -1), (44, -1)] h h90 := my_fr.tr gh85 (frh90.mo rfl)
    have Ln_h90 : Ln h90 := Ln_ag (my_ag.fr frh90 rfl) Ln_h85
    have Td_h90 : Td h90 x2 := Td_ag (my_ag.fr frh90 rfl) Ln_h85 Td_h85
    show wp l rho (d + 5) 92 105 [(2, 94), (2, x1), (0, x2), (0, x3), (0, x4), (1, v79), (9, 0)] [] h90 Q
    have tc := xp91
    have smc := xp92
    have bf3 := xp93
    have ce95 : h90 94 12 = x3 := ((my_fr.at frh90 is_94 rfl).trans ((my_fr.at frh85 is_94 rfl).trans ((my_fr.at frh81 is_94 rfl).trans ((my_cp_role fh65 is_94 is_97 rfl).trans ((my_cp_role fh61 is_94 is_96 rfl).trans ((my_up_fld fh37 (by decide)).trans ((my_up_role fh26 is_94 is_111 rfl).trans ((my_up_role fh25 is_94 is_111 rfl).trans ((my_up_role fh24 is_94 is_111 rfl).trans ((my_up_role fh23 is_94 is_111 rfl).trans ((my_up_role fh22 is_94 is_111 rfl).trans ((my_up_role fh21 is_94 is_111 rfl).trans ((my_up_role fh19 is_94 is_113 rfl).trans ((my_up_role fh18 is_94 is_113 rfl).trans ((my_up_role fh17 is_94 is_113 rfl).trans ((my_up_role fh16 is_94 is_113 rfl).trans ((my_up_role fh15 is_94 is_113 rfl).trans ((my_up_role fh14 is_94 is_113 rfl).trans ((my_up_role fh10 is_94 is_112 rfl).trans ((my_up_role fh9 is_94 is_112 rfl).trans ((my_up_role fh8 is_94 is_112 rfl).trans ((my_up_role fh7 is_94 is_112 rfl).trans ((my_up_role fh6 is_94 is_112 rfl).trans ((my_up_role fh5 is_94 is_112 rfl).trans (my_up_self fh3)))))))))))))))))))))))))
    have fin := Fin_mk tc e2h LAe cm10
    have c96 := ((my_fr.at frh90 is_94 rfl).trans ((my_fr.at frh85 is_94 rfl).trans ((my_fr.at frh81 is_94 rfl).trans ((my_cp_role fh65 is_94 is_97 rfl).trans ((my_cp_role fh61 is_94 is_96 rfl).trans ((my_up_fld fh37 (by decide)).trans ((my_up_role fh26 is_94 is_111 rfl).trans ((my_up_role fh25 is_94 is_111 rfl).trans ((my_up_role fh24 is_94 is_111 rfl).trans ((my_up_role fh23 is_94 is_111 rfl).trans ((my_up_role fh22 is_94 is_111 rfl).trans ((my_up_role fh21 is_94 is_111 rfl).trans ((my_up_role fh19 is_94 is_113 rfl).trans ((my_up_role fh18 is_94 is_113 rfl).trans ((my_up_role fh17 is_94 is_113 rfl).trans ((my_up_role fh16 is_94 is_113 rfl).trans ((my_up_role fh15 is_94 is_113 rfl).trans ((my_up_role fh14 is_94 is_113 rfl).trans ((my_up_role fh10 is_94 is_112 rfl).trans ((my_up_role fh9 is_94 is_112 rfl).trans ((my_up_role fh8 is_94 is_112 rfl).trans ((my_up_role fh7 is_94 is_112 rfl).trans ((my_up_role fh6 is_94 is_112 rfl).trans ((my_up_role fh5 is_94 is_112 rfl).trans (my_up_self fh3)))))))))))))))))))))))))
    have c97 := ((my_fr.at frh90 is_94 rfl).trans ((my_fr.at frh85 is_94 rfl).trans ((my_fr.at frh81 is_94 rfl).trans ((my_cp_role fh65 is_94 is_97 rfl).trans ((my_cp_role fh61 is_94 is_96 rfl).trans ev38.symm)))))
    exact w_vret gz_92_105 gm_92 (k0 h90 (gh90) (by omega) (by omega) (by omega) (by first | exact fin | exact ⟨SmW_V (SmW_V (SmW_V sw8 tv.2.1) tg.2.2.1) smc, by have q1 := tv.2.1.1; have q2 := tg.2.2.1.1; have q3 := smc.1; omega, by omega⟩ | exact (fun k j a b => (bf3 k j a b).trans ((bf2 k j a b).trans ((bf1 k j a b).trans (bf8 k j a b)))) | assumption | omega) (by first | exact fin | exact ⟨SmW_V (SmW_V (SmW_V sw8 tv.2.1) tg.2.2.1) smc, by have q1 := tv.2.1.1; have q2 := tg.2.2.1.1; have q3 := smc.1; omega, by omega⟩ | exact (fun k j a b => (bf3 k j a b).trans ((bf2 k j a b).trans ((bf1 k j a b).trans (bf8 k j a b)))) | assumption | omega) (by first | exact fin | exact ⟨SmW_V (SmW_V (SmW_V sw8 tv.2.1) tg.2.2.1) smc, by have q1 := tv.2.1.1; have q2 := tg.2.2.1.1; have q3 := smc.1; omega, by omega⟩ | exact (fun k j a b => (bf3 k j a b).trans ((bf2 k j a b).trans ((bf1 k j a b).trans (bf8 k j a b)))) | assumption | omega) Lst_h90t94)
  ·
    show wp l rho (d + 5) 92 49 [(2, 94), (2, x1), (0, x2), (0, x3), (0, x4), (9, 0), (9, 0)] [(0, 1), (2, 94)] h26 Q
    have sa := xp36
    have sI := (Same_w sw6 kw6.1 kk6).trans (zqSame_as hk)
    refine v_putB (j := 14) gz_92_49 rfl is_94 rd_2 rfl (by omega) (by omega) rfl (fun h98 fh98 => ?_)
    have gh98 : my_fr [(2, 11), (2, 12), (2, 13), (2, 14), (7, 0), (7, 1), (7, 2), (7, 3), (7, 4), (7, 5), (8, 0), (8, 1), (30, -1), (31, -1), (41, -1), (42, -1), (43, -1), (44, -1)] h h98 := my_fr.up gh26 is_94 fh98 rfl
    have Ln_h98 : Ln h98 := Ln_ag (my_ag.up fh98 is_94 rfl) Ln_h26
    have Td_h98 : Td h98 x2 := Td_ag (my_ag.up fh98 is_94 rfl) Ln_h26 Td_h26
    have Lst_h98 : Lst h98 := Lst_ag (my_ag.up fh98 is_94 rfl) Lst_h26
    refine w_aload_n gz_92_52 rfl ?_
    refine v_getI (j := 14) gz_92_53 rfl is_94 rd_2 rfl (fun v99 ev99 pv99 qv99 => ?_)
    have zv99 := ev99.trans (my_up_self fh98)
    have ce100 : h98 111 2 = (-1) := ((my_up_role fh98 is_111 is_94 rfl).trans ((my_up_fld fh26 (by decide)).trans ((my_up_fld fh25 (by decide)).trans ((my_up_fld fh24 (by decide)).trans (my_up_self fh23)))))
    have ce101 : h98 111 3 = (-1) := ((my_up_role fh98 is_111 is_94 rfl).trans ((my_up_fld fh26 (by decide)).trans ((my_up_fld fh25 (by decide)).trans (my_up_self fh24))))
    have ce102 : h98 111 4 = (-1) := ((my_up_role fh98 is_111 is_94 rfl).trans ((my_up_fld fh26 (by decide)).trans (my_up_self fh25)))
    have ce103 : h98 111 5 = (-1) := ((my_up_role fh98 is_111 is_94 rfl).trans (my_up_self fh26))
    have ce104 : h98 112 0 = (-1) := ((my_up_role fh98 is_112 is_94 rfl).trans ((my_up_fld fh26 (by decide)).trans ((my_up_fld fh25 (by decide)).trans ((my_up_fld fh24 (by decide)).trans ((my_up_fld fh23 (by decide)).trans ((my_up_fld fh22 (by decide)).trans ((my_up_ne fh21 (by omega)).trans ((my_up_fld fh19 (by decide)).trans ((my_up_fld fh18 (by decide)).trans ((my_up_fld fh17 (by decide)).trans ((my_up_fld fh16 (by decide)).trans ((my_up_fld fh15 (by decide)).trans ((my_up_ne fh14 (by omega)).trans ((my_up_fld fh10 (by decide)).trans ((my_up_fld fh9 (by decide)).trans ((my_up_fld fh8 (by decide)).trans ((my_up_fld fh7 (by decide)).trans ((my_up_fld fh6 (by decide)).trans (my_up_self fh5)))))))))))))))))))
    have ce105 : h98 112 1 = (-1) := ((my_up_role fh98 is_112 is_94 rfl).trans ((my_up_fld fh26 (by decide)).trans ((my_up_fld fh25 (by decide)).trans ((my_up_fld fh24 (by decide)).trans ((my_up_fld fh23 (by decide)).trans ((my_up_ne fh22 (by omega)).trans ((my_up_fld fh21 (by decide)).trans ((my_up_fld fh19 (by decide)).trans ((my_up_fld fh18 (by decide)).trans ((my_up_fld fh17 (by decide)).trans ((my_up_fld fh16 (by decide)).trans ((my_up_ne fh15 (by omega)).trans ((my_up_fld fh14 (by decide)).trans ((my_up_fld fh10 (by decide)).trans ((my_up_fld fh9 (by decide)).trans ((my_up_fld fh8 (by decide)).trans ((my_up_fld fh7 (by decide)).trans (my_up_self fh6))))))))))))))))))
    have ce106 : h98 112 2 = (-1) := ((my_up_role fh98 is_112 is_94 rfl).trans ((my_up_fld fh26 (by decide)).trans ((my_up_fld fh25 (by decide)).trans ((my_up_fld fh24 (by decide)).trans ((my_up_ne fh23 (by omega)).trans ((my_up_fld fh22 (by decide)).trans ((my_up_fld fh21 (by decide)).trans ((my_up_fld fh19 (by decide)).trans ((my_up_fld fh18 (by decide)).trans ((my_up_fld fh17 (by decide)).trans ((my_up_ne fh16 (by omega)).trans ((my_up_fld fh15 (by decide)).trans ((my_up_fld fh14 (by decide)).trans ((my_up_fld fh10 (by decide)).trans ((my_up_fld fh9 (by decide)).trans ((my_up_fld fh8 (by decide)).trans (my_up_self fh7)))))))))))))))))
    have ce107 : h98 112 3 = (-1) := ((my_up_role fh98 is_112 is_94 rfl).trans ((my_up_fld fh26 (by decide)).trans ((my_up_fld fh25 (by decide)).trans ((my_up_ne fh24 (by omega)).trans ((my_up_fld fh23 (by decide)).trans ((my_up_fld fh22 (by decide)).trans ((my_up_fld fh21 (by decide)).trans ((my_up_fld fh19 (by decide)).trans ((my_up_fld fh18 (by decide)).trans ((my_up_ne fh17 (by omega)).trans ((my_up_fld fh16 (by decide)).trans ((my_up_fld fh15 (by decide)).trans ((my_up_fld fh14 (by decide)).trans ((my_up_fld fh10 (by decide)).trans ((my_up_fld fh9 (by decide)).trans (my_up_self fh8))))))))))))))))
    have ce108 : h98 112 4 = (-1) := ((my_up_role fh98 is_112 is_94 rfl).trans ((my_up_fld fh26 (by decide)).trans ((my_up_ne fh25 (by omega)).trans ((my_up_fld fh24 (by decide)).trans ((my_up_fld fh23 (by decide)).trans ((my_up_fld fh22 (by decide)).trans ((my_up_fld fh21 (by decide)).trans ((my_up_fld fh19 (by decide)).trans ((my_up_ne fh18 (by omega)).trans ((my_up_fld fh17 (by decide)).trans ((my_up_fld fh16 (by decide)).trans ((my_up_fld fh15 (by decide)).trans ((my_up_fld fh14 (by decide)).trans ((my_up_fld fh10 (by decide)).trans (my_up_self fh9)))))))))))))))
    have ce109 : h98 112 5 = (-1) := ((my_up_role fh98 is_112 is_94 rfl).trans ((my_up_ne fh26 (by omega)).trans ((my_up_fld fh25 (by decide)).trans ((my_up_fld fh24 (by decide)).trans ((my_up_fld fh23 (by decide)).trans ((my_up_fld fh22 (by decide)).trans ((my_up_fld fh21 (by decide)).trans ((my_up_ne fh19 (by omega)).trans ((my_up_fld fh18 (by decide)).trans ((my_up_fld fh17 (by decide)).trans ((my_up_fld fh16 (by decide)).trans ((my_up_fld fh15 (by decide)).trans ((my_up_fld fh14 (by decide)).trans (my_up_self fh10))))))))))))))
    have ce110 : h98 113 0 = (-1) := ((my_up_role fh98 is_113 is_94 rfl).trans ((my_up_fld fh26 (by decide)).trans ((my_up_fld fh25 (by decide)).trans ((my_up_fld fh24 (by decide)).trans ((my_up_fld fh23 (by decide)).trans ((my_up_fld fh22 (by decide)).trans ((my_up_ne fh21 (by omega)).trans ((my_up_fld fh19 (by decide)).trans ((my_up_fld fh18 (by decide)).trans ((my_up_fld fh17 (by decide)).trans ((my_up_fld fh16 (by decide)).trans ((my_up_fld fh15 (by decide)).trans (my_up_self fh14)))))))))))))
    have ce111 : h98 113 1 = (-1) := ((my_up_role fh98 is_113 is_94 rfl).trans ((my_up_fld fh26 (by decide)).trans ((my_up_fld fh25 (by decide)).trans ((my_up_fld fh24 (by decide)).trans ((my_up_fld fh23 (by decide)).trans ((my_up_ne fh22 (by omega)).trans ((my_up_fld fh21 (by decide)).trans ((my_up_fld fh19 (by decide)).trans ((my_up_fld fh18 (by decide)).trans ((my_up_fld fh17 (by decide)).trans ((my_up_fld fh16 (by decide)).trans (my_up_self fh15))))))))))))
    have ce112 : h98 113 2 = (-1) := ((my_up_role fh98 is_113 is_94 rfl).trans ((my_up_fld fh26 (by decide)).trans ((my_up_fld fh25 (by decide)).trans ((my_up_fld fh24 (by decide)).trans ((my_up_ne fh23 (by omega)).trans ((my_up_fld fh22 (by decide)).trans ((my_up_fld fh21 (by decide)).trans ((my_up_fld fh19 (by decide)).trans ((my_up_fld fh18 (by decide)).trans ((my_up_fld fh17 (by decide)).trans (my_up_self fh16)))))))))))
    have ce113 : h98 113 3 = (-1) := ((my_up_role fh98 is_113 is_94 rfl).trans ((my_up_fld fh26 (by decide)).trans ((my_up_fld fh25 (by decide)).trans ((my_up_ne fh24 (by omega)).trans ((my_up_fld fh23 (by decide)).trans ((my_up_fld fh22 (by decide)).trans ((my_up_fld fh21 (by decide)).trans ((my_up_fld fh19 (by decide)).trans ((my_up_fld fh18 (by decide)).trans (my_up_self fh17))))))))))
    have ce114 : h98 113 4 = (-1) := ((my_up_role fh98 is_113 is_94 rfl).trans ((my_up_fld fh26 (by decide)).trans ((my_up_ne fh25 (by omega)).trans ((my_up_fld fh24 (by decide)).trans ((my_up_fld fh23 (by decide)).trans ((my_up_fld fh22 (by decide)).trans ((my_up_fld fh21 (by decide)).trans ((my_up_fld fh19 (by decide)).trans (my_up_self fh18)))))))))
    have ce115 : h98 113 5 = (-1) := ((my_up_role fh98 is_113 is_94 rfl).trans ((my_up_ne fh26 (by omega)).trans ((my_up_fld fh25 (by decide)).trans ((my_up_fld fh24 (by decide)).trans ((my_up_fld fh23 (by decide)).trans ((my_up_fld fh22 (by decide)).trans ((my_up_fld fh21 (by decide)).trans (my_up_self fh19))))))))
    have ce116 : h98 94 11 = 0 := ((my_up_fld fh98 (by decide)).trans ((my_up_role fh26 is_94 is_111 rfl).trans ((my_up_role fh25 is_94 is_111 rfl).trans ((my_up_role fh24 is_94 is_111 rfl).trans ((my_up_role fh23 is_94 is_111 rfl).trans ((my_up_role fh22 is_94 is_111 rfl).trans ((my_up_role fh21 is_94 is_111 rfl).trans ((my_up_role fh19 is_94 is_113 rfl).trans ((my_up_role fh18 is_94 is_113 rfl).trans ((my_up_role fh17 is_94 is_113 rfl).trans ((my_up_role fh16 is_94 is_113 rfl).trans ((my_up_role fh15 is_94 is_113 rfl).trans ((my_up_role fh14 is_94 is_113 rfl).trans ((my_up_role fh10 is_94 is_112 rfl).trans ((my_up_role fh9 is_94 is_112 rfl).trans ((my_up_role fh8 is_94 is_112 rfl).trans ((my_up_role fh7 is_94 is_112 rfl).trans ((my_up_role fh6 is_94 is_112 rfl).trans ((my_up_role fh5 is_94 is_112 rfl).trans ((my_up_fld fh3 (by decide)).trans (my_up_self fh2)))))))))))))))))))))
    have d0 : DkL h98 (h 2) [] := DkL_0 (by omega) ⟨by omega, by omega, by omega, by omega, by omega, by omega⟩ ⟨by omega, by omega, by omega, by omega, by omega, by omega⟩
    refine w_ifeq (t := 65) gz_92_56 rfl (fun u117 => by exfalso; omega) (fun u117 => ?_)
    refine w_aload_n gz_92_59 rfl ?_
    refine w_iconst gz_92_60 (by decide) ?_
    refine w_iconst gz_92_61 (by decide) ?_
    refine w_inv (k := 0) (as := [(0, 0), (0, 0)]) (r := []) (x := 94) (ls0 := [(2, 94), (0, 0), (0, 0)]) gz_92_62 gm_94 rfl is_94 rd_2 rfl rfl rfl rfl rfl (c_Desk_keep5 (d := (d + 3)) (x1 := 0) (x2 := 0) (by omega) (by omega) (by omega) (by omega) Lst_h98 (by first | assumption | exact no_such_saying | exact Fp_told (by omega) (by omega) | omega | (subst_vars; omega) | omega) (by first | assumption | exact no_such_saying | exact Fp_told (by omega) (by omega) | omega | (subst_vars; omega) | omega) (by first | assumption | exact no_such_saying | exact Fp_told (by omega) (by omega) | omega | (subst_vars; omega) | omega) (⟨by omega, by omega⟩) (fun h118 frh118 w119 w120 xp121 xp122 xp123 xp124 xp125 Lst_h118t126 => ?_))
    have gh118 : my_fr [(2, 11), (2, 12), (2, 13), (2, 14), (7, 0), (7, 1), (7, 2), (7, 3), (7, 4), (7, 5), (8, 0), (8, 1), (30, -1), (31, -1), (41, -1), (42, -1), (43, -1), (44, -1)] h h118 := my_fr.tr gh98 (frh118.mo rfl)
    have Ln_h118 : Ln h118 := Ln_ag (my_ag.fr frh118 rfl) Ln_h98
    have Td_h118 : Td h118 x2 := Td_ag (my_ag.fr frh118 rfl) Ln_h98 Td_h98
    show wp l rho (d + 5) 92 65 [(2, 94), (2, x1), (0, x2), (0, x3), (0, x4), (9, 0), (9, 0)] [] h118 Q
    have kpp := xp125
    have bfB : ∀ k j : Int, 0 ≤ k → (k < 94 ∨ 120 ≤ k ∧ k < 151) → h118 k j = h k j := fun k j k0 k1 => (((bg_fr frh118 (by decide +kernel) k j k0 k1).trans ((my_up_ne fh98 (by omega)).trans ((my_up_ne fh26 (by omega)).trans ((my_up_ne fh25 (by omega)).trans ((my_up_ne fh24 (by omega)).trans ((my_up_ne fh23 (by omega)).trans ((my_up_ne fh22 (by omega)).trans ((my_up_ne fh21 (by omega)).trans ((my_up_ne fh19 (by omega)).trans ((my_up_ne fh18 (by omega)).trans ((my_up_ne fh17 (by omega)).trans ((my_up_ne fh16 (by omega)).trans ((my_up_ne fh15 (by omega)).trans ((my_up_ne fh14 (by omega)).trans ((my_up_ne fh10 (by omega)).trans ((my_up_ne fh9 (by omega)).trans ((my_up_ne fh8 (by omega)).trans ((my_up_ne fh7 (by omega)).trans ((my_up_ne fh6 (by omega)).trans ((my_up_ne fh5 (by omega)).trans ((my_up_ne fh3 (by omega)).trans ((my_up_ne fh2 (by omega)).trans (my_up_ne fh1 (by omega)))))))))))))))))))))))).trans rfl)
    refine w_aload_n gz_92_65 rfl ?_
    refine w_getX (v := 95) gz_92_66 is_94 rd_2 rfl (by decide) rfl ?_
    refine w_aload_n gz_92_69 rfl ?_
    refine w_inv (k := 0) (as := [(2, x1)]) (r := []) (x := 95) (ls0 := [(2, 95), (2, x1)]) gz_92_70 gm_25 rfl is_95 rd_6 rfl rfl rfl rfl rfl ?_
    refine w_aload_n gz_25_0 rfl ?_
    refine w_getX (v := (x1 + 1)) gz_25_1 t1 rd_6 rfl (by decide) rfl ?_
    refine w_iconst gz_25_4 (by decide) ?_
    refine w_aload_n gz_25_5 rfl ?_
    refine w_getX (v := 96) gz_25_6 is_95 rd_6 rfl (by decide) rfl ?_
    refine w_iconst gz_25_9 (by decide) ?_
    refine w_aload_n gz_25_10 rfl ?_
    refine w_getX (v := 96) gz_25_11 is_95 rd_6 rfl (by decide) rfl ?_
    refine v_alen (j := 240) gz_25_14 rfl is_96 rd_30 (by decide) ?_
    refine w_cpU gz_25_15 (ix_6_1 t1) rd_30 is_96 rd_30 (by omega) (by omega) (by omega) (by omega) (by omega) rfl (by decide) (by decide) (fun h131 fh131 => ?_)
    have gh131 : my_fr [(2, 11), (2, 12), (2, 13), (2, 14), (7, 0), (7, 1), (7, 2), (7, 3), (7, 4), (7, 5), (8, 0), (8, 1), (30, -1), (31, -1), (41, -1), (42, -1), (43, -1), (44, -1)] h h131 := my_fr.cp gh118 is_96 fh131 rfl
    have Ln_h131 : Ln h131 := Ln_ag (my_ag.cp fh131 is_96 rfl) Ln_h118
    have Td_h131 : Td h131 x2 := Td_ag (my_ag.cp fh131 is_96 rfl) Ln_h118 Td_h118
    have Lst_h131 : Lst h131 := Lst_ag (my_ag.cp fh131 is_96 rfl) Lst_h118t126
    have fc96 := fh131
    refine w_aload_n gz_25_18 rfl ?_
    refine w_getX (v := (x1 + 2)) gz_25_19 t1 rd_6 rfl (by decide) rfl ?_
    refine w_iconst gz_25_22 (by decide) ?_
    refine w_aload_n gz_25_23 rfl ?_
    refine w_getX (v := 97) gz_25_24 is_95 rd_6 rfl (by decide) rfl ?_
    refine w_iconst gz_25_27 (by decide) ?_
    refine w_aload_n gz_25_28 rfl ?_
    refine w_getX (v := 97) gz_25_29 is_95 rd_6 rfl (by decide) rfl ?_
    refine v_alen (j := 3) gz_25_32 rfl is_97 rd_31 (by decide) ?_
    refine w_cpU gz_25_33 (ix_6_2 t1) rd_31 is_97 rd_31 (by omega) (by omega) (by omega) (by omega) (by omega) rfl (by decide) (by decide) (fun h135 fh135 => ?_)
    have gh135 : my_fr [(2, 11), (2, 12), (2, 13), (2, 14), (7, 0), (7, 1), (7, 2), (7, 3), (7, 4), (7, 5), (8, 0), (8, 1), (30, -1), (31, -1), (41, -1), (42, -1), (43, -1), (44, -1)] h h135 := my_fr.cp gh131 is_97 fh135 rfl
    have Ln_h135 : Ln h135 := Ln_ag (my_ag.cp fh135 is_97 rfl) Ln_h131
    have Td_h135 : Td h135 x2 := Td_ag (my_ag.cp fh135 is_97 rfl) Ln_h131 Td_h131
    have Lst_h135 : Lst h135 := Lst_ag (my_ag.cp fh135 is_97 rfl) Lst_h131
    have fc97 := fh135
    refine w_vret gz_25_36 gm_25 ?_
    show wp l rho (d + 5) 92 73 [(2, 94), (2, x1), (0, x2), (0, x3), (0, x4), (9, 0), (9, 0)] [] h135 Q
    refine w_aload_n gz_92_73 rfl ?_
    refine w_aload_n gz_92_74 rfl ?_
    refine w_getX (v := 27) gz_92_75 is_94 rd_2 rfl (by decide) rfl ?_
    refine w_iload_n gz_92_78 rfl ?_
    refine w_aald gz_92_79 is_27 rd_22 rfl (by omega) (by omega) (fun v137 ev137 tv137 => ?_)
    have ce138 : h135 94 15 = h 94 15 := ((my_cp_role fh135 is_94 is_97 rfl).trans ((my_cp_role fh131 is_94 is_96 rfl).trans ((my_fr.at frh118 is_94 rfl).trans ((my_up_fld fh98 (by decide)).trans ((my_up_role fh26 is_94 is_111 rfl).trans ((my_up_role fh25 is_94 is_111 rfl).trans ((my_up_role fh24 is_94 is_111 rfl).trans ((my_up_role fh23 is_94 is_111 rfl).trans ((my_up_role fh22 is_94 is_111 rfl).trans ((my_up_role fh21 is_94 is_111 rfl).trans ((my_up_role fh19 is_94 is_113 rfl).trans ((my_up_role fh18 is_94 is_113 rfl).trans ((my_up_role fh17 is_94 is_113 rfl).trans ((my_up_role fh16 is_94 is_113 rfl).trans ((my_up_role fh15 is_94 is_113 rfl).trans ((my_up_role fh14 is_94 is_113 rfl).trans ((my_up_role fh10 is_94 is_112 rfl).trans ((my_up_role fh9 is_94 is_112 rfl).trans ((my_up_role fh8 is_94 is_112 rfl).trans ((my_up_role fh7 is_94 is_112 rfl).trans ((my_up_role fh6 is_94 is_112 rfl).trans ((my_up_role fh5 is_94 is_112 rfl).trans ((my_up_fld fh3 (by decide)).trans ((my_up_fld fh2 (by decide)).trans ((my_up_fld fh1 (by decide)).trans (rfl : h 94 15 = h 94 15))))))))))))))))))))))))))
    have ce139 : h135 94 16 = h 94 16 := ((my_cp_role fh135 is_94 is_97 rfl).trans ((my_cp_role fh131 is_94 is_96 rfl).trans ((my_fr.at frh118 is_94 rfl).trans ((my_up_fld fh98 (by decide)).trans ((my_up_role fh26 is_94 is_111 rfl).trans ((my_up_role fh25 is_94 is_111 rfl).trans ((my_up_role fh24 is_94 is_111 rfl).trans ((my_up_role fh23 is_94 is_111 rfl).trans ((my_up_role fh22 is_94 is_111 rfl).trans ((my_up_role fh21 is_94 is_111 rfl).trans ((my_up_role fh19 is_94 is_113 rfl).trans ((my_up_role fh18 is_94 is_113 rfl).trans ((my_up_role fh17 is_94 is_113 rfl).trans ((my_up_role fh16 is_94 is_113 rfl).trans ((my_up_role fh15 is_94 is_113 rfl).trans ((my_up_role fh14 is_94 is_113 rfl).trans ((my_up_role fh10 is_94 is_112 rfl).trans ((my_up_role fh9 is_94 is_112 rfl).trans ((my_up_role fh8 is_94 is_112 rfl).trans ((my_up_role fh7 is_94 is_112 rfl).trans ((my_up_role fh6 is_94 is_112 rfl).trans ((my_up_role fh5 is_94 is_112 rfl).trans ((my_up_fld fh3 (by decide)).trans ((my_up_fld fh2 (by decide)).trans ((my_up_fld fh1 (by decide)).trans (rfl : h 94 16 = h 94 16))))))))))))))))))))))))))
    have ce140 : h135 94 12 = x3 := ((my_cp_role fh135 is_94 is_97 rfl).trans ((my_cp_role fh131 is_94 is_96 rfl).trans ((my_fr.at frh118 is_94 rfl).trans ((my_up_fld fh98 (by decide)).trans ((my_up_role fh26 is_94 is_111 rfl).trans ((my_up_role fh25 is_94 is_111 rfl).trans ((my_up_role fh24 is_94 is_111 rfl).trans ((my_up_role fh23 is_94 is_111 rfl).trans ((my_up_role fh22 is_94 is_111 rfl).trans ((my_up_role fh21 is_94 is_111 rfl).trans ((my_up_role fh19 is_94 is_113 rfl).trans ((my_up_role fh18 is_94 is_113 rfl).trans ((my_up_role fh17 is_94 is_113 rfl).trans ((my_up_role fh16 is_94 is_113 rfl).trans ((my_up_role fh15 is_94 is_113 rfl).trans ((my_up_role fh14 is_94 is_113 rfl).trans ((my_up_role fh10 is_94 is_112 rfl).trans ((my_up_role fh9 is_94 is_112 rfl).trans ((my_up_role fh8 is_94 is_112 rfl).trans ((my_up_role fh7 is_94 is_112 rfl).trans ((my_up_role fh6 is_94 is_112 rfl).trans ((my_up_role fh5 is_94 is_112 rfl).trans (my_up_self fh3)))))))))))))))))))))))
    have ce141 : h135 94 13 = x4 := ((my_cp_role fh135 is_94 is_97 rfl).trans ((my_cp_role fh131 is_94 is_96 rfl).trans ((my_fr.at frh118 is_94 rfl).trans ((my_up_fld fh98 (by decide)).trans ((my_up_role fh26 is_94 is_111 rfl).trans ((my_up_role fh25 is_94 is_111 rfl).trans ((my_up_role fh24 is_94 is_111 rfl).trans ((my_up_role fh23 is_94 is_111 rfl).trans ((my_up_role fh22 is_94 is_111 rfl).trans ((my_up_role fh21 is_94 is_111 rfl).trans ((my_up_role fh19 is_94 is_113 rfl).trans ((my_up_role fh18 is_94 is_113 rfl).trans ((my_up_role fh17 is_94 is_113 rfl).trans ((my_up_role fh16 is_94 is_113 rfl).trans ((my_up_role fh15 is_94 is_113 rfl).trans ((my_up_role fh14 is_94 is_113 rfl).trans ((my_up_role fh10 is_94 is_112 rfl).trans ((my_up_role fh9 is_94 is_112 rfl).trans ((my_up_role fh8 is_94 is_112 rfl).trans ((my_up_role fh7 is_94 is_112 rfl).trans ((my_up_role fh6 is_94 is_112 rfl).trans ((my_up_role fh5 is_94 is_112 rfl).trans ((my_up_fld fh3 (by decide)).trans ((my_up_fld fh2 (by decide)).trans (my_up_self fh1)))))))))))))))))))))))))
    have ce142 : h135 94 14 = v99 := ((my_cp_role fh135 is_94 is_97 rfl).trans ((my_cp_role fh131 is_94 is_96 rfl).trans ((my_fr.at frh118 is_94 rfl).trans ev99.symm)))
    have ce143 : h135 94 15 = h 94 15 := ((my_cp_role fh135 is_94 is_97 rfl).trans ((my_cp_role fh131 is_94 is_96 rfl).trans ((my_fr.at frh118 is_94 rfl).trans ((my_up_fld fh98 (by decide)).trans ((my_up_role fh26 is_94 is_111 rfl).trans ((my_up_role fh25 is_94 is_111 rfl).trans ((my_up_role fh24 is_94 is_111 rfl).trans ((my_up_role fh23 is_94 is_111 rfl).trans ((my_up_role fh22 is_94 is_111 rfl).trans ((my_up_role fh21 is_94 is_111 rfl).trans ((my_up_role fh19 is_94 is_113 rfl).trans ((my_up_role fh18 is_94 is_113 rfl).trans ((my_up_role fh17 is_94 is_113 rfl).trans ((my_up_role fh16 is_94 is_113 rfl).trans ((my_up_role fh15 is_94 is_113 rfl).trans ((my_up_role fh14 is_94 is_113 rfl).trans ((my_up_role fh10 is_94 is_112 rfl).trans ((my_up_role fh9 is_94 is_112 rfl).trans ((my_up_role fh8 is_94 is_112 rfl).trans ((my_up_role fh7 is_94 is_112 rfl).trans ((my_up_role fh6 is_94 is_112 rfl).trans ((my_up_role fh5 is_94 is_112 rfl).trans ((my_up_fld fh3 (by decide)).trans ((my_up_fld fh2 (by decide)).trans ((my_up_fld fh1 (by decide)).trans (rfl : h 94 15 = h 94 15))))))))))))))))))))))))))
    have ce144 : h135 94 16 = h 94 16 := ((my_cp_role fh135 is_94 is_97 rfl).trans ((my_cp_role fh131 is_94 is_96 rfl).trans ((my_fr.at frh118 is_94 rfl).trans ((my_up_fld fh98 (by decide)).trans ((my_up_role fh26 is_94 is_111 rfl).trans ((my_up_role fh25 is_94 is_111 rfl).trans ((my_up_role fh24 is_94 is_111 rfl).trans ((my_up_role fh23 is_94 is_111 rfl).trans ((my_up_role fh22 is_94 is_111 rfl).trans ((my_up_role fh21 is_94 is_111 rfl).trans ((my_up_role fh19 is_94 is_113 rfl).trans ((my_up_role fh18 is_94 is_113 rfl).trans ((my_up_role fh17 is_94 is_113 rfl).trans ((my_up_role fh16 is_94 is_113 rfl).trans ((my_up_role fh15 is_94 is_113 rfl).trans ((my_up_role fh14 is_94 is_113 rfl).trans ((my_up_role fh10 is_94 is_112 rfl).trans ((my_up_role fh9 is_94 is_112 rfl).trans ((my_up_role fh8 is_94 is_112 rfl).trans ((my_up_role fh7 is_94 is_112 rfl).trans ((my_up_role fh6 is_94 is_112 rfl).trans ((my_up_role fh5 is_94 is_112 rfl).trans ((my_up_fld fh3 (by decide)).trans ((my_up_fld fh2 (by decide)).trans ((my_up_fld fh1 (by decide)).trans (rfl : h 94 16 = h 94 16))))))))))))))))))))))))))
    have ce145 : h135 98 0 = h 98 0 := ((my_cp_role fh135 is_98 is_97 rfl).trans ((my_cp_role fh131 is_98 is_96 rfl).trans ((my_fr.at frh118 is_98 rfl).trans ((my_up_role fh98 is_98 is_94 rfl).trans ((my_up_role fh26 is_98 is_111 rfl).trans ((my_up_role fh25 is_98 is_111 rfl).trans ((my_up_role fh24 is_98 is_111 rfl).trans ((my_up_role fh23 is_98 is_111 rfl).trans ((my_up_role fh22 is_98 is_111 rfl).trans ((my_up_role fh21 is_98 is_111 rfl).trans ((my_up_role fh19 is_98 is_113 rfl).trans ((my_up_role fh18 is_98 is_113 rfl).trans ((my_up_role fh17 is_98 is_113 rfl).trans ((my_up_role fh16 is_98 is_113 rfl).trans ((my_up_role fh15 is_98 is_113 rfl).trans ((my_up_role fh14 is_98 is_113 rfl).trans ((my_up_role fh10 is_98 is_112 rfl).trans ((my_up_role fh9 is_98 is_112 rfl).trans ((my_up_role fh8 is_98 is_112 rfl).trans ((my_up_role fh7 is_98 is_112 rfl).trans ((my_up_role fh6 is_98 is_112 rfl).trans ((my_up_role fh5 is_98 is_112 rfl).trans ((my_up_role fh3 is_98 is_94 rfl).trans ((my_up_role fh2 is_98 is_94 rfl).trans ((my_up_role fh1 is_98 is_94 rfl).trans (rfl : h 98 0 = h 98 0))))))))))))))))))))))))))
    have ce146 : h135 98 1 = h 98 1 := ((my_cp_role fh135 is_98 is_97 rfl).trans ((my_cp_role fh131 is_98 is_96 rfl).trans ((my_fr.at frh118 is_98 rfl).trans ((my_up_role fh98 is_98 is_94 rfl).trans ((my_up_role fh26 is_98 is_111 rfl).trans ((my_up_role fh25 is_98 is_111 rfl).trans ((my_up_role fh24 is_98 is_111 rfl).trans ((my_up_role fh23 is_98 is_111 rfl).trans ((my_up_role fh22 is_98 is_111 rfl).trans ((my_up_role fh21 is_98 is_111 rfl).trans ((my_up_role fh19 is_98 is_113 rfl).trans ((my_up_role fh18 is_98 is_113 rfl).trans ((my_up_role fh17 is_98 is_113 rfl).trans ((my_up_role fh16 is_98 is_113 rfl).trans ((my_up_role fh15 is_98 is_113 rfl).trans ((my_up_role fh14 is_98 is_113 rfl).trans ((my_up_role fh10 is_98 is_112 rfl).trans ((my_up_role fh9 is_98 is_112 rfl).trans ((my_up_role fh8 is_98 is_112 rfl).trans ((my_up_role fh7 is_98 is_112 rfl).trans ((my_up_role fh6 is_98 is_112 rfl).trans ((my_up_role fh5 is_98 is_112 rfl).trans ((my_up_role fh3 is_98 is_94 rfl).trans ((my_up_role fh2 is_98 is_94 rfl).trans ((my_up_role fh1 is_98 is_94 rfl).trans (rfl : h 98 1 = h 98 1))))))))))))))))))))))))))
    have ce147 : h135 102 0 = h 102 0 := ((my_cp_role fh135 is_102 is_97 rfl).trans ((my_cp_role fh131 is_102 is_96 rfl).trans ((my_fr.at frh118 is_102 rfl).trans ((my_up_role fh98 is_102 is_94 rfl).trans ((my_up_role fh26 is_102 is_111 rfl).trans ((my_up_role fh25 is_102 is_111 rfl).trans ((my_up_role fh24 is_102 is_111 rfl).trans ((my_up_role fh23 is_102 is_111 rfl).trans ((my_up_role fh22 is_102 is_111 rfl).trans ((my_up_role fh21 is_102 is_111 rfl).trans ((my_up_role fh19 is_102 is_113 rfl).trans ((my_up_role fh18 is_102 is_113 rfl).trans ((my_up_role fh17 is_102 is_113 rfl).trans ((my_up_role fh16 is_102 is_113 rfl).trans ((my_up_role fh15 is_102 is_113 rfl).trans ((my_up_role fh14 is_102 is_113 rfl).trans ((my_up_role fh10 is_102 is_112 rfl).trans ((my_up_role fh9 is_102 is_112 rfl).trans ((my_up_role fh8 is_102 is_112 rfl).trans ((my_up_role fh7 is_102 is_112 rfl).trans ((my_up_role fh6 is_102 is_112 rfl).trans ((my_up_role fh5 is_102 is_112 rfl).trans ((my_up_role fh3 is_102 is_94 rfl).trans ((my_up_role fh2 is_102 is_94 rfl).trans ((my_up_role fh1 is_102 is_94 rfl).trans (rfl : h 102 0 = h 102 0))))))))))))))))))))))))))
    have ce148 : h135 102 1 = h 102 1 := ((my_cp_role fh135 is_102 is_97 rfl).trans ((my_cp_role fh131 is_102 is_96 rfl).trans ((my_fr.at frh118 is_102 rfl).trans ((my_up_role fh98 is_102 is_94 rfl).trans ((my_up_role fh26 is_102 is_111 rfl).trans ((my_up_role fh25 is_102 is_111 rfl).trans ((my_up_role fh24 is_102 is_111 rfl).trans ((my_up_role fh23 is_102 is_111 rfl).trans ((my_up_role fh22 is_102 is_111 rfl).trans ((my_up_role fh21 is_102 is_111 rfl).trans ((my_up_role fh19 is_102 is_113 rfl).trans ((my_up_role fh18 is_102 is_113 rfl).trans ((my_up_role fh17 is_102 is_113 rfl).trans ((my_up_role fh16 is_102 is_113 rfl).trans ((my_up_role fh15 is_102 is_113 rfl).trans ((my_up_role fh14 is_102 is_113 rfl).trans ((my_up_role fh10 is_102 is_112 rfl).trans ((my_up_role fh9 is_102 is_112 rfl).trans ((my_up_role fh8 is_102 is_112 rfl).trans ((my_up_role fh7 is_102 is_112 rfl).trans ((my_up_role fh6 is_102 is_112 rfl).trans ((my_up_role fh5 is_102 is_112 rfl).trans ((my_up_role fh3 is_102 is_94 rfl).trans ((my_up_role fh2 is_102 is_94 rfl).trans ((my_up_role fh1 is_102 is_94 rfl).trans (rfl : h 102 1 = h 102 1))))))))))))))))))))))))))
    have a99 : ∀ j : Int, h135 99 j = h 99 j := fun j => ((my_cp_role fh135 is_99 is_97 rfl).trans ((my_cp_role fh131 is_99 is_96 rfl).trans ((my_fr.at frh118 is_99 rfl).trans ((my_up_role fh98 is_99 is_94 rfl).trans ((my_up_role fh26 is_99 is_111 rfl).trans ((my_up_role fh25 is_99 is_111 rfl).trans ((my_up_role fh24 is_99 is_111 rfl).trans ((my_up_role fh23 is_99 is_111 rfl).trans ((my_up_role fh22 is_99 is_111 rfl).trans ((my_up_role fh21 is_99 is_111 rfl).trans ((my_up_role fh19 is_99 is_113 rfl).trans ((my_up_role fh18 is_99 is_113 rfl).trans ((my_up_role fh17 is_99 is_113 rfl).trans ((my_up_role fh16 is_99 is_113 rfl).trans ((my_up_role fh15 is_99 is_113 rfl).trans ((my_up_role fh14 is_99 is_113 rfl).trans ((my_up_role fh10 is_99 is_112 rfl).trans ((my_up_role fh9 is_99 is_112 rfl).trans ((my_up_role fh8 is_99 is_112 rfl).trans ((my_up_role fh7 is_99 is_112 rfl).trans ((my_up_role fh6 is_99 is_112 rfl).trans ((my_up_role fh5 is_99 is_112 rfl).trans ((my_up_role fh3 is_99 is_94 rfl).trans ((my_up_role fh2 is_99 is_94 rfl).trans ((my_up_role fh1 is_99 is_94 rfl).trans (rfl : h 99 j = h 99 j))))))))))))))))))))))))))
    have a101 : ∀ j : Int, h135 101 j = h 101 j := fun j => ((my_cp_role fh135 is_101 is_97 rfl).trans ((my_cp_role fh131 is_101 is_96 rfl).trans ((my_fr.at frh118 is_101 rfl).trans ((my_up_role fh98 is_101 is_94 rfl).trans ((my_up_role fh26 is_101 is_111 rfl).trans ((my_up_role fh25 is_101 is_111 rfl).trans ((my_up_role fh24 is_101 is_111 rfl).trans ((my_up_role fh23 is_101 is_111 rfl).trans ((my_up_role fh22 is_101 is_111 rfl).trans ((my_up_role fh21 is_101 is_111 rfl).trans ((my_up_role fh19 is_101 is_113 rfl).trans ((my_up_role fh18 is_101 is_113 rfl).trans ((my_up_role fh17 is_101 is_113 rfl).trans ((my_up_role fh16 is_101 is_113 rfl).trans ((my_up_role fh15 is_101 is_113 rfl).trans ((my_up_role fh14 is_101 is_113 rfl).trans ((my_up_role fh10 is_101 is_112 rfl).trans ((my_up_role fh9 is_101 is_112 rfl).trans ((my_up_role fh8 is_101 is_112 rfl).trans ((my_up_role fh7 is_101 is_112 rfl).trans ((my_up_role fh6 is_101 is_112 rfl).trans ((my_up_role fh5 is_101 is_112 rfl).trans ((my_up_role fh3 is_101 is_94 rfl).trans ((my_up_role fh2 is_101 is_94 rfl).trans ((my_up_role fh1 is_101 is_94 rfl).trans (rfl : h 101 j = h 101 j))))))))))))))))))))))))))
    have a103 : ∀ j : Int, h135 103 j = h 103 j := fun j => ((my_cp_role fh135 is_103 is_97 rfl).trans ((my_cp_role fh131 is_103 is_96 rfl).trans ((my_fr.at frh118 is_103 rfl).trans ((my_up_role fh98 is_103 is_94 rfl).trans ((my_up_role fh26 is_103 is_111 rfl).trans ((my_up_role fh25 is_103 is_111 rfl).trans ((my_up_role fh24 is_103 is_111 rfl).trans ((my_up_role fh23 is_103 is_111 rfl).trans ((my_up_role fh22 is_103 is_111 rfl).trans ((my_up_role fh21 is_103 is_111 rfl).trans ((my_up_role fh19 is_103 is_113 rfl).trans ((my_up_role fh18 is_103 is_113 rfl).trans ((my_up_role fh17 is_103 is_113 rfl).trans ((my_up_role fh16 is_103 is_113 rfl).trans ((my_up_role fh15 is_103 is_113 rfl).trans ((my_up_role fh14 is_103 is_113 rfl).trans ((my_up_role fh10 is_103 is_112 rfl).trans ((my_up_role fh9 is_103 is_112 rfl).trans ((my_up_role fh8 is_103 is_112 rfl).trans ((my_up_role fh7 is_103 is_112 rfl).trans ((my_up_role fh6 is_103 is_112 rfl).trans ((my_up_role fh5 is_103 is_112 rfl).trans ((my_up_role fh3 is_103 is_94 rfl).trans ((my_up_role fh2 is_103 is_94 rfl).trans ((my_up_role fh1 is_103 is_94 rfl).trans (rfl : h 103 j = h 103 j))))))))))))))))))))))))))
    have sw8 : SmW h h135 := ⟨by omega, by omega, by omega, by omega, by omega, by omega, a99, a101, a103⟩
    have bf8 : ∀ k j : Int, 0 ≤ k → (k < 94 ∨ 120 ≤ k ∧ k < 151) → h135 k j = h k j := fun k j k0 k1 => (((my_cp_ne fh135 (by omega)).trans ((my_cp_ne fh131 (by omega)).trans ((bg_fr frh118 (by decide +kernel) k j k0 k1).trans ((my_up_ne fh98 (by omega)).trans ((my_up_ne fh26 (by omega)).trans ((my_up_ne fh25 (by omega)).trans ((my_up_ne fh24 (by omega)).trans ((my_up_ne fh23 (by omega)).trans ((my_up_ne fh22 (by omega)).trans ((my_up_ne fh21 (by omega)).trans ((my_up_ne fh19 (by omega)).trans ((my_up_ne fh18 (by omega)).trans ((my_up_ne fh17 (by omega)).trans ((my_up_ne fh16 (by omega)).trans ((my_up_ne fh15 (by omega)).trans ((my_up_ne fh14 (by omega)).trans ((my_up_ne fh10 (by omega)).trans ((my_up_ne fh9 (by omega)).trans ((my_up_ne fh8 (by omega)).trans ((my_up_ne fh7 (by omega)).trans ((my_up_ne fh6 (by omega)).trans ((my_up_ne fh5 (by omega)).trans ((my_up_ne fh3 (by omega)).trans ((my_up_ne fh2 (by omega)).trans (my_up_ne fh1 (by omega)))))))))))))))))))))))))).trans rfl)
    have e96 : zqAg (h (x1 + 1)) (h135 96) := fun j a b => (my_cp_ne fc97 (by omega)).trans ((my_cp_in fc96 (by omega) (by omega)).trans (by rw [show (0 : Int) + (j - 0) = j by omega]; exact bfB _ j xb.z1 xb.f1))
    have e97 : ∀ u : Int, 0 ≤ u → u ≤ 2 → h135 97 u = h (x1 + 2) u := fun u a b => (my_cp_in fc97 (by omega) (by omega)).trans (by rw [show (0 : Int) + (u - 0) = u by omega]; exact (my_cp_ne fc96 (by omega)).trans (bfB _ u xb.z2 xb.f2))
    have as8 : h135 94 14 ≠ 0 ↔ (NLs h135).Perm (WLs h135) := by
      rw [NLs_cg sw8.2.2.1 sw8.2.2.2.1 (by omega) sw8.2.2.2.2.2.2.1, WLs_cg sw8.2.2.2.2.1 sw8.2.2.2.2.2.1 (by omega) sw8.2.2.2.2.2.2.2.2]
      first | exact ⟨fun _ => sI.mp sa, fun _ => by omega⟩ | exact ⟨fun z => absurd z (by omega), fun z => absurd (sI.mpr z) sa⟩
    have K8 := SrC_mk n_Ln (my_ag.fr (F := F5) gh135 rfl) sw8 e96 e97 as8 hk
    have c08 := cmR_bd (c := 0) hk.1.1 hk.1.2.1 hk.1.2.2 hk.2.1 hk.2.2.1 (fun j a b => by have z := kD j a (by omega); omega) (fun j a b => by have z := kL j a (by omega); omega) (by omega) (by omega)
    have LA8 := LA_mk n_Ln (my_ag.fr (F := F5) gh135 rfl) sw8 e96 hk c08 K8
    have e28 : h135 2 = h 2 := funext fun j => my_fr.at gh135 pis_2 rfl
    have d8 : DkL h135 (h135 2) (L0h h135) := by
      rw [e28]
      first | exact DkL_L0 d0 kpp (by omega) (by omega) (by omega) (by omega) (KpS_cp fc96 fc97) (by omega) | exact DkL_N0 d0 (KpS_cp fc96 fc97) (by omega)
    have n98 := SrC_98 K8
    refine w_inv (k := 4) (as := [(2, v137)]) (r := []) (x := 94) (ls0 := [(2, 94), (2, v137), (9, 0), (9, 0), (9, 0), (9, 0)]) gz_92_80 gm_96 rfl is_94 rd_2 rfl rfl rfl rfl rfl (c_Desk_tellingRows5 (d := (d + 2)) (x1 := v137) tv137 ((fun z => by have q := K8.2.2.2.2.2.2.2.2.2.2.1 z; omega)) ((fun z => (K8.2.2.2.2.2.2.2.2.2.2.1 z).2)) (SrC_be K8) (fun v149 xp150 => ?_))
    show wp l rho (d + 5) 92 83 [(2, 94), (2, x1), (0, x2), (0, x3), (0, x4), (9, 0), (9, 0)] [(1, v149)] h135 Q
    have tp8 : TlP h135 x2 v149 := TlP_mk xp150 (by first | assumption | omega)
    refine w_lstore (ls' := [(2, 94), (2, x1), (0, x2), (0, x3), (0, x4), (1, v149), (9, 0)]) gz_92_83 gm_92 rfl rfl rfl ?_
    refine w_aload_n gz_92_85 rfl ?_
    refine w_iload_n gz_92_86 rfl ?_
    refine w_lload gz_92_87 rfl ?_
    refine w_inv (k := 6) (as := [(1, v149), (0, x2)]) (r := []) (x := 94) (ls0 := [(2, 94), (0, x2), (1, v149), (9, 0), (9, 0), (9, 0), (9, 0), (9, 0), (9, 0), (9, 0)]) gz_92_89 gm_98 rfl is_94 rd_2 rfl rfl rfl rfl rfl (c_Desk_tryOtherValues5 (d := d) (x1 := x2) (x2 := v149) (by omega) (by omega) Lst_h135 Ln_h135 Td_h135 (K8) (tp8) (d8) (fun h151 frh151 xp152 xp153 Lst_h151t154 => ?_))
    have gh151 : my_fr [(2, 11), (2, 12), (2, 13), (2, 14), (7, 0), (7, 1), (7, 2), (7, 3), (7, 4), (7, 5), (8, 0), (8, 1), (30, -1), (31, -1), (41, -1), (42, -1), (43, -1), (44, -1)] h h151 := my_fr.tr gh135 (frh151.mo rfl)
    have Ln_h151 : Ln h151 := Ln_ag (my_ag.fr frh151 rfl) Ln_h135
    have Td_h151 : Td h151 x2 := Td_ag (my_ag.fr frh151 rfl) Ln_h135 Td_h135
    show wp l rho (d + 5) 92 92 [(2, 94), (2, x1), (0, x2), (0, x3), (0, x4), (1, v149), (9, 0)] [] h151 Q
    have tv := xp152
    have bf1 := xp153
    have K9 := SrC_cg Ln_h135 (my_ag.fr (F := F5) frh151 rfl) tv.2.1 tv.1 (fun j => my_fr.at frh151 pis_97 rfl) K8
    have L9 := LL_cg Ln_h135 (my_ag.fr (F := F5) frh151 rfl) tv.2.1 tv.1 K8
    have tp9 := TlP_cg Ln_h135 (my_ag.fr (F := F5) frh151 rfl) K8.1.1 K8.1.2.1 K8.1.2.2 tv.2.1 (by omega) tv.1 tp8
    have e29 : h151 2 = h135 2 := funext fun j => my_fr.at frh151 pis_2 rfl
    have d9 : DkE h151 (h151 2) (LLh h151 x2) := by
      rw [e29, L9.1]
      exact tv.2.2
    have hw9 : ∀ j : Int, 0 ≤ j → j < 240 → h151 (x1 + 1) j = h151 96 j := fun j a b => ((bf1 _ j xb.z1 xb.f1).trans (bf8 _ j xb.z1 xb.f1)).trans ((tv.1 j).trans (e96 j a b)).symm
    have hz9 : ∀ j : Int, 0 ≤ j → j < 3 → h151 (x1 + 2) j = h151 97 j := fun j a b => ((bf1 _ j xb.z2 xb.f2).trans (bf8 _ j xb.z2 xb.f2)).trans ((my_fr.at frh151 pis_97 rfl).trans (e97 j a (by omega))).symm
    refine w_aload_n gz_92_92 rfl ?_
    refine w_aload_n gz_92_93 rfl ?_
    refine w_iload_n gz_92_94 rfl ?_
    refine w_lload gz_92_95 rfl ?_
    refine w_inv (k := 4) (as := [(1, v149), (0, x2), (2, x1)]) (r := []) (x := 94) (ls0 := [(2, 94), (2, x1), (0, x2), (1, v149), (9, 0), (9, 0), (9, 0), (9, 0), (9, 0)]) gz_92_97 gm_104 rfl is_94 rd_2 rfl rfl rfl rfl rfl (c_Desk_tryRowsThatGo5 (d := d) (x1 := x1) (x2 := x2) (x3 := v149) t1 (by omega) (by omega) Lst_h151t154 Ln_h151 Td_h151 (K9) (tp9) (d9) (hw9) (hz9) (by first | assumption | exact no_such_saying | exact Fp_told (by omega) (by omega) | omega | (subst_vars; omega) | omega) (fun h155 frh155 xp156 xp157 xp158 Lst_h155t159 => ?_))
    have gh155 : my_fr [(2, 11), (2, 12), (2, 13), (2, 14), (7, 0), (7, 1), (7, 2), (7, 3), (7, 4), (7, 5), (8, 0), (8, 1), (30, -1), (31, -1), (41, -1), (42, -1), (43, -1), (44, -1)] h h155 := my_fr.tr gh151 (frh155.mo rfl)
    have Ln_h155 : Ln h155 := Ln_ag (my_ag.fr frh155 rfl) Ln_h151
    have Td_h155 : Td h155 x2 := Td_ag (my_ag.fr frh155 rfl) Ln_h151 Td_h151
    show wp l rho (d + 5) 92 100 [(2, 94), (2, x1), (0, x2), (0, x3), (0, x4), (1, v149), (9, 0)] [] h155 Q
    have tg := xp156
    have k45 := xp157
    have bf2 := xp158
    have K10 := SrC_cg Ln_h151 (my_ag.fr (F := F5) frh155 rfl) tg.2.2.1 tg.1 tg.2.1 K9
    have L10 := LL_cg Ln_h151 (my_ag.fr (F := F5) frh155 rfl) tg.2.2.1 tg.1 K9
    have e210 : h155 2 = h151 2 := funext fun j => my_fr.at frh155 pis_2 rfl
    have d10 : DkE h155 (h155 2) (LGh h155 x2) := by
      rw [e210, L10.2.1]
      exact tg.2.2.2
    refine w_aload_n gz_92_100 rfl ?_
    refine w_iload_n gz_92_101 rfl ?_
    have cm10 := cmR_cg n_Ln (my_ag.fr (F := F5) gh155 rfl) hk.1.1 hk.1.2.1 hk.1.2.2
    have e2h : h155 2 = h 2 := funext fun j => my_fr.at gh155 pis_2 rfl
    have LAe : LAh h155 x2 = AlH h x1 x2 := L10.2.2.trans (L9.2.2.trans LA8.1)
    refine w_inv (k := 0) (as := [(0, x2)]) (r := []) (x := 94) (ls0 := [(2, 94), (0, x2)]) gz_92_102 gm_105 rfl is_94 rd_2 rfl rfl rfl rfl rfl (c_Desk_tryRowThatComes5 (d := d) (x1 := x2) (by omega) (by omega) Lst_h155t159 Ln_h155 Td_h155 (K10) (d10) (k45.1) (k45.2) (fun h160 frh160 xp161 xp162 xp163 Lst_h160t164 => ?_))
    have gh160 : my_fr [(2, 11), (2, 12), (2, 13), (2, 14), (7, 0), (7, 1), (7, 2), (7, 3), (7, 4), (7, 5), (8, 0), (8, 1), (30, -1), (31, -1), (41, -1), (42, -1), (43, -1), (44, -1)] h h160 := my_fr.tr gh155 (frh160.mo rfl)
    have Ln_h160 : Ln h160 := Ln_ag (my_ag.fr frh160 rfl) Ln_h155
    have Td_h160 : Td h160 x2 := Td_ag (my_ag.fr frh160 rfl) Ln_h155 Td_h155
    show wp l rho (d + 5) 92 105 [(2, 94), (2, x1), (0, x2), (0, x3), (0, x4), (1, v149), (9, 0)] [] h160 Q
    have tc := xp161
    have smc := xp162
    have bf3 := xp163
    have ce165 : h160 94 12 = x3 := ((my_fr.at frh160 is_94 rfl).trans ((my_fr.at frh155 is_94 rfl).trans ((my_fr.at frh151 is_94 rfl).trans ((my_cp_role fh135 is_94 is_97 rfl).trans ((my_cp_role fh131 is_94 is_96 rfl).trans ((my_fr.at frh118 is_94 rfl).trans ((my_up_fld fh98 (by decide)).trans ((my_up_role fh26 is_94 is_111 rfl).trans ((my_up_role fh25 is_94 is_111 rfl).trans ((my_up_role fh24 is_94 is_111 rfl).trans ((my_up_role fh23 is_94 is_111 rfl).trans ((my_up_role fh22 is_94 is_111 rfl).trans ((my_up_role fh21 is_94 is_111 rfl).trans ((my_up_role fh19 is_94 is_113 rfl).trans ((my_up_role fh18 is_94 is_113 rfl).trans ((my_up_role fh17 is_94 is_113 rfl).trans ((my_up_role fh16 is_94 is_113 rfl).trans ((my_up_role fh15 is_94 is_113 rfl).trans ((my_up_role fh14 is_94 is_113 rfl).trans ((my_up_role fh10 is_94 is_112 rfl).trans ((my_up_role fh9 is_94 is_112 rfl).trans ((my_up_role fh8 is_94 is_112 rfl).trans ((my_up_role fh7 is_94 is_112 rfl).trans ((my_up_role fh6 is_94 is_112 rfl).trans ((my_up_role fh5 is_94 is_112 rfl).trans (my_up_self fh3))))))))))))))))))))))))))
    have fin := Fin_mk tc e2h LAe cm10
    have c166 := ((my_fr.at frh160 is_94 rfl).trans ((my_fr.at frh155 is_94 rfl).trans ((my_fr.at frh151 is_94 rfl).trans ((my_cp_role fh135 is_94 is_97 rfl).trans ((my_cp_role fh131 is_94 is_96 rfl).trans ((my_fr.at frh118 is_94 rfl).trans ((my_up_fld fh98 (by decide)).trans ((my_up_role fh26 is_94 is_111 rfl).trans ((my_up_role fh25 is_94 is_111 rfl).trans ((my_up_role fh24 is_94 is_111 rfl).trans ((my_up_role fh23 is_94 is_111 rfl).trans ((my_up_role fh22 is_94 is_111 rfl).trans ((my_up_role fh21 is_94 is_111 rfl).trans ((my_up_role fh19 is_94 is_113 rfl).trans ((my_up_role fh18 is_94 is_113 rfl).trans ((my_up_role fh17 is_94 is_113 rfl).trans ((my_up_role fh16 is_94 is_113 rfl).trans ((my_up_role fh15 is_94 is_113 rfl).trans ((my_up_role fh14 is_94 is_113 rfl).trans ((my_up_role fh10 is_94 is_112 rfl).trans ((my_up_role fh9 is_94 is_112 rfl).trans ((my_up_role fh8 is_94 is_112 rfl).trans ((my_up_role fh7 is_94 is_112 rfl).trans ((my_up_role fh6 is_94 is_112 rfl).trans ((my_up_role fh5 is_94 is_112 rfl).trans (my_up_self fh3))))))))))))))))))))))))))
    have c167 := ((my_fr.at frh160 is_94 rfl).trans ((my_fr.at frh155 is_94 rfl).trans ((my_fr.at frh151 is_94 rfl).trans ((my_cp_role fh135 is_94 is_97 rfl).trans ((my_cp_role fh131 is_94 is_96 rfl).trans ((my_fr.at frh118 is_94 rfl).trans ev99.symm))))))
    exact w_vret gz_92_105 gm_92 (k0 h160 (gh160) (by omega) (by omega) (by omega) (by first | exact fin | exact ⟨SmW_V (SmW_V (SmW_V sw8 tv.2.1) tg.2.2.1) smc, by have q1 := tv.2.1.1; have q2 := tg.2.2.1.1; have q3 := smc.1; omega, by omega⟩ | exact (fun k j a b => (bf3 k j a b).trans ((bf2 k j a b).trans ((bf1 k j a b).trans (bf8 k j a b)))) | assumption | omega) (by first | exact fin | exact ⟨SmW_V (SmW_V (SmW_V sw8 tv.2.1) tg.2.2.1) smc, by have q1 := tv.2.1.1; have q2 := tg.2.2.1.1; have q3 := smc.1; omega, by omega⟩ | exact (fun k j a b => (bf3 k j a b).trans ((bf2 k j a b).trans ((bf1 k j a b).trans (bf8 k j a b)))) | assumption | omega) (by first | exact fin | exact ⟨SmW_V (SmW_V (SmW_V sw8 tv.2.1) tg.2.2.1) smc, by have q1 := tv.2.1.1; have q2 := tg.2.2.1.1; have q3 := smc.1; omega, by omega⟩ | exact (fun k j a b => (bf3 k j a b).trans ((bf2 k j a b).trans ((bf1 k j a b).trans (bf8 k j a b)))) | assumption | omega) Lst_h160t164)
end MYNDesk_tryRowThatComes5
