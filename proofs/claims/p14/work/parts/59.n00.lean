/-! contracts, printed by wip/gen/gy.py -/
section MYNDesk_keep
theorem c_Desk_keep {l : Launch} {rho : Nat → Int32} {d : Nat} {h : my_H} {Q : my_H → my_V → Prop} {x1 x2 : Int} (a1 : 0 ≤ x1) (b1 : x1 ≤ 3) (a2 : 0 ≤ x2) (b2 : x2 ≤ 4) (n_Lst : Lst h) (hk1 : x1 = 1 → 0 ≤ h 111 2 ∧ 0 ≤ h 111 3 ∧ 0 ≤ h 111 4 ∧ 0 ≤ h 111 5) (hk2 : x1 = 2 → 0 ≤ h 111 2 ∧ 0 ≤ h 111 3) (hk3 : x1 = 3 → 0 ≤ h 111 2) (k0 : ∀ (h' : my_H), my_fr [(2, 11), (7, 0), (7, 1), (7, 2), (7, 3), (7, 4), (7, 5)] h h' → h' 111 2 = h 111 2 → h' 111 3 = h 111 3 → h' 111 4 = h 111 4 → Lst h' → Q h' (9, 0)) : wp l rho (d + 1) 94 0 [(2, 94), (0, x1), (0, x2)] [] h Q := by
  refine v_know (x := 111) (j := 2) (b := 2) rfl is_111 rd_7 rfl (fun k111_2 ek111_2 pk111_2 qk111_2 => ?_)
  refine v_know (x := 111) (j := 3) (b := 3) rfl is_111 rd_7 rfl (fun k111_3 ek111_3 pk111_3 qk111_3 => ?_)
  refine v_know (x := 111) (j := 4) (b := 4) rfl is_111 rd_7 rfl (fun k111_4 ek111_4 pk111_4 qk111_4 => ?_)
  refine v_know (x := 111) (j := 5) (b := 5) rfl is_111 rd_7 rfl (fun k111_5 ek111_5 pk111_5 qk111_5 => ?_)
  refine v_know (x := 112) (j := 1) (b := 1) rfl is_112 rd_7 rfl (fun k112_1 ek112_1 pk112_1 qk112_1 => ?_)
  refine v_know (x := 112) (j := 2) (b := 2) rfl is_112 rd_7 rfl (fun k112_2 ek112_2 pk112_2 qk112_2 => ?_)
  refine v_know (x := 112) (j := 3) (b := 3) rfl is_112 rd_7 rfl (fun k112_3 ek112_3 pk112_3 qk112_3 => ?_)
  refine v_know (x := 112) (j := 4) (b := 4) rfl is_112 rd_7 rfl (fun k112_4 ek112_4 pk112_4 qk112_4 => ?_)
  refine v_know (x := 112) (j := 5) (b := 5) rfl is_112 rd_7 rfl (fun k112_5 ek112_5 pk112_5 qk112_5 => ?_)
  refine w_aload_n gz_94_0 rfl ?_
  refine w_getX (v := 111) gz_94_1 is_94 rd_2 rfl (by decide) rfl ?_
  refine w_iload_n gz_94_4 rfl ?_
  refine v_putI (j := 1) gz_94_5 rfl is_111 rd_7 rfl (by omega) (by omega) rfl (fun h2 fh2 => ?_)
  have gh2 : my_fr [(2, 11), (7, 0), (7, 1), (7, 2), (7, 3), (7, 4), (7, 5)] h h2 := my_fr.up my_fr.rf is_111 fh2 rfl
  have Lst_h2 : Lst h2 := Lst_ne fh2 (by decide) n_Lst
  refine w_aload_n gz_94_8 rfl ?_
  refine w_getX (v := 111) gz_94_9 is_94 rd_2 rfl (by decide) rfl ?_
  refine w_iload_n gz_94_12 rfl ?_
  refine v_putA (j := 0) gz_94_13 rfl is_111 rd_7 rfl rfl (fun h4 fh4 => ?_)
  have gh4 : my_fr [(2, 11), (7, 0), (7, 1), (7, 2), (7, 3), (7, 4), (7, 5)] h h4 := my_fr.up gh2 is_111 fh4 rfl
  have Lst_h4 : Lst h4 := Lst_ne fh4 (by decide) Lst_h2
  refine w_aload_n gz_94_16 rfl ?_
  refine w_getX (v := 112) gz_94_17 is_94 rd_2 rfl (by decide) rfl ?_
  refine v_getI (j := 0) gz_94_20 rfl is_112 rd_7 rfl (fun v6 ev6 pv6 qv6 => ?_)
  refine w_iconst gz_94_23 (by decide) ?_
  refine w_iceq (t := 38) gz_94_24 rfl (fun u7 => ?_) (fun u7 => ?_)
  ·
    refine w_aload_n gz_94_38 rfl ?_
    refine w_getX (v := 112) gz_94_39 is_94 rd_2 rfl (by decide) rfl ?_
    refine w_aload_n gz_94_42 rfl ?_
    refine w_getX (v := 111) gz_94_43 is_94 rd_2 rfl (by decide) rfl ?_
    refine w_inv (k := 0) (as := [(2, 111)]) (r := []) (x := 112) (ls0 := [(2, 112), (2, 111)]) gz_94_46 gm_95 rfl is_112 rd_7 rfl rfl rfl rfl rfl ?_
    refine w_aload_n gz_95_0 rfl ?_
    refine w_aload_n gz_95_1 rfl ?_
    refine v_getI (j := 0) gz_95_2 rfl is_111 rd_7 rfl (fun v10 ev10 pv10 qv10 => ?_)
    have zv10 := ev10.trans (my_up_self fh4)
    refine v_putA (j := 0) gz_95_5 rfl is_112 rd_7 rfl rfl (fun h11 fh11 => ?_)
    have gh11 : my_fr [(2, 11), (7, 0), (7, 1), (7, 2), (7, 3), (7, 4), (7, 5)] h h11 := my_fr.up gh4 is_112 fh11 rfl
    refine w_aload_n gz_95_8 rfl ?_
    refine w_aload_n gz_95_9 rfl ?_
    refine v_getI (j := 1) gz_95_10 rfl is_111 rd_7 rfl (fun v12 ev12 pv12 qv12 => ?_)
    have zv12 := ev12.trans ((my_up_fld fh11 (by decide)).trans ((my_up_fld fh4 (by decide)).trans (my_up_self fh2)))
    refine v_putI (j := 1) gz_95_13 rfl is_112 rd_7 rfl (by omega) (by omega) rfl (fun h13 fh13 => ?_)
    have gh13 : my_fr [(2, 11), (7, 0), (7, 1), (7, 2), (7, 3), (7, 4), (7, 5)] h h13 := my_fr.up gh11 is_112 fh13 rfl
    refine w_aload_n gz_95_16 rfl ?_
    refine w_aload_n gz_95_17 rfl ?_
    refine v_getI (j := 2) gz_95_18 rfl is_111 rd_7 rfl (fun v14 ev14 pv14 qv14 => ?_)
    have zv14 := ev14.trans ((my_up_fld fh13 (by decide)).trans ((my_up_fld fh11 (by decide)).trans ((my_up_fld fh4 (by decide)).trans ((my_up_fld fh2 (by decide)).trans ek111_2.symm))))
    refine v_putI (j := 2) gz_95_21 rfl is_112 rd_7 rfl (by omega) (by omega) rfl (fun h15 fh15 => ?_)
    have gh15 : my_fr [(2, 11), (7, 0), (7, 1), (7, 2), (7, 3), (7, 4), (7, 5)] h h15 := my_fr.up gh13 is_112 fh15 rfl
    refine w_aload_n gz_95_24 rfl ?_
    refine w_aload_n gz_95_25 rfl ?_
    refine v_getI (j := 3) gz_95_26 rfl is_111 rd_7 rfl (fun v16 ev16 pv16 qv16 => ?_)
    have zv16 := ev16.trans ((my_up_fld fh15 (by decide)).trans ((my_up_fld fh13 (by decide)).trans ((my_up_fld fh11 (by decide)).trans ((my_up_fld fh4 (by decide)).trans ((my_up_fld fh2 (by decide)).trans ek111_3.symm)))))
    refine v_putI (j := 3) gz_95_29 rfl is_112 rd_7 rfl (by omega) (by omega) rfl (fun h17 fh17 => ?_)
    have gh17 : my_fr [(2, 11), (7, 0), (7, 1), (7, 2), (7, 3), (7, 4), (7, 5)] h h17 := my_fr.up gh15 is_112 fh17 rfl
    refine w_aload_n gz_95_32 rfl ?_
    refine w_aload_n gz_95_33 rfl ?_
    refine v_getI (j := 4) gz_95_34 rfl is_111 rd_7 rfl (fun v18 ev18 pv18 qv18 => ?_)
    have zv18 := ev18.trans ((my_up_fld fh17 (by decide)).trans ((my_up_fld fh15 (by decide)).trans ((my_up_fld fh13 (by decide)).trans ((my_up_fld fh11 (by decide)).trans ((my_up_fld fh4 (by decide)).trans ((my_up_fld fh2 (by decide)).trans ek111_4.symm))))))
    refine v_putI (j := 4) gz_95_37 rfl is_112 rd_7 rfl (by omega) (by omega) rfl (fun h19 fh19 => ?_)
    have gh19 : my_fr [(2, 11), (7, 0), (7, 1), (7, 2), (7, 3), (7, 4), (7, 5)] h h19 := my_fr.up gh17 is_112 fh19 rfl
    refine w_aload_n gz_95_40 rfl ?_
    refine w_aload_n gz_95_41 rfl ?_
    refine v_getI (j := 5) gz_95_42 rfl is_111 rd_7 rfl (fun v20 ev20 pv20 qv20 => ?_)
    have zv20 := ev20.trans ((my_up_fld fh19 (by decide)).trans ((my_up_fld fh17 (by decide)).trans ((my_up_fld fh15 (by decide)).trans ((my_up_fld fh13 (by decide)).trans ((my_up_fld fh11 (by decide)).trans ((my_up_fld fh4 (by decide)).trans ((my_up_fld fh2 (by decide)).trans ek111_5.symm)))))))
    refine v_putI (j := 5) gz_95_45 rfl is_112 rd_7 rfl (by omega) (by omega) rfl (fun h21 fh21 => ?_)
    have gh21 : my_fr [(2, 11), (7, 0), (7, 1), (7, 2), (7, 3), (7, 4), (7, 5)] h h21 := my_fr.up gh19 is_112 fh21 rfl
    refine w_vret gz_95_48 gm_95 ?_
    show wp l rho (d + 1) 94 49 [(2, 94), (0, x1), (0, x2)] [] h21 Q
    refine w_aload_n gz_94_49 rfl ?_
    refine v_getI (j := 11) gz_94_50 rfl is_94 rd_2 rfl (fun v22 ev22 pv22 qv22 => ?_)
    refine w_aload_n gz_94_53 rfl ?_
    refine v_getI (j := 12) gz_94_54 rfl is_94 rd_2 rfl (fun v23 ev23 pv23 qv23 => ?_)
    refine w_icne (t := 71) gz_94_57 rfl (fun u24 => ?_) (fun u24 => ?_)
    ·
      refine w_aload_n gz_94_71 rfl ?_
      refine w_dup gz_94_72 rfl ?_
      refine v_getI (j := 11) gz_94_73 rfl is_94 rd_2 rfl (fun v25 ev25 pv25 qv25 => ?_)
      have zv25 := ev25.trans ev22.symm
      refine w_iconst gz_94_76 (by decide) ?_
      refine w_ianyA gz_94_77 (fun v26 pv26 qv26 => ?_)
      refine v_putA (j := 11) gz_94_78 rfl is_94 rd_2 rfl rfl (fun h27 fh27 => ?_)
      have gh27 : my_fr [(2, 11), (7, 0), (7, 1), (7, 2), (7, 3), (7, 4), (7, 5)] h h27 := my_fr.up gh21 is_94 fh27 rfl
      have ce28 : h27 111 2 = v14 := ((my_up_role fh27 is_111 is_94 rfl).trans ((my_up_fld fh21 (by decide)).trans ((my_up_fld fh19 (by decide)).trans ((my_up_fld fh17 (by decide)).trans ((my_up_ne fh15 (by omega)).trans ev14.symm)))))
      have ce29 : h27 111 3 = v16 := ((my_up_role fh27 is_111 is_94 rfl).trans ((my_up_fld fh21 (by decide)).trans ((my_up_fld fh19 (by decide)).trans ((my_up_ne fh17 (by omega)).trans ev16.symm))))
      have ce30 : h27 111 4 = v18 := ((my_up_role fh27 is_111 is_94 rfl).trans ((my_up_fld fh21 (by decide)).trans ((my_up_ne fh19 (by omega)).trans ev18.symm)))
      have ce31 : h27 112 1 = v12 := ((my_up_role fh27 is_112 is_94 rfl).trans ((my_up_fld fh21 (by decide)).trans ((my_up_fld fh19 (by decide)).trans ((my_up_fld fh17 (by decide)).trans ((my_up_fld fh15 (by decide)).trans (my_up_self fh13))))))
      have ce32 : h27 112 2 = v14 := ((my_up_role fh27 is_112 is_94 rfl).trans ((my_up_fld fh21 (by decide)).trans ((my_up_fld fh19 (by decide)).trans ((my_up_fld fh17 (by decide)).trans (my_up_self fh15)))))
      have ce33 : h27 112 3 = v16 := ((my_up_role fh27 is_112 is_94 rfl).trans ((my_up_fld fh21 (by decide)).trans ((my_up_fld fh19 (by decide)).trans (my_up_self fh17))))
      have ce34 : h27 112 4 = v18 := ((my_up_role fh27 is_112 is_94 rfl).trans ((my_up_fld fh21 (by decide)).trans (my_up_self fh19)))
      have ce35 : h27 112 5 = v20 := ((my_up_role fh27 is_112 is_94 rfl).trans (my_up_self fh21))
      have Lst_h27t36 : Lst h27 := by have q := n_Lst; unfold Lst at q ⊢; omega
      exact w_vret gz_94_81 gm_94 (k0 h27 (gh27) (by first | assumption | omega | (subst_vars; omega)) (by first | assumption | omega | (subst_vars; omega)) (by first | assumption | omega | (subst_vars; omega)) Lst_h27t36)
    ·
      refine w_aload_n gz_94_60 rfl ?_
      refine w_getX (v := 113) gz_94_61 is_94 rd_2 rfl (by decide) rfl ?_
      refine w_aload_n gz_94_64 rfl ?_
      refine w_getX (v := 111) gz_94_65 is_94 rd_2 rfl (by decide) rfl ?_
      refine w_inv (k := 0) (as := [(2, 111)]) (r := []) (x := 113) (ls0 := [(2, 113), (2, 111)]) gz_94_68 gm_95 rfl is_113 rd_7 rfl rfl rfl rfl rfl ?_
      refine w_aload_n gz_95_0 rfl ?_
      refine w_aload_n gz_95_1 rfl ?_
      refine v_getI (j := 0) gz_95_2 rfl is_111 rd_7 rfl (fun v39 ev39 pv39 qv39 => ?_)
      have zv39 := ev39.trans ((my_up_fld fh21 (by decide)).trans ((my_up_fld fh19 (by decide)).trans ((my_up_fld fh17 (by decide)).trans ((my_up_fld fh15 (by decide)).trans ((my_up_fld fh13 (by decide)).trans ((my_up_ne fh11 (by omega)).trans ev10.symm))))))
      refine v_putA (j := 0) gz_95_5 rfl is_113 rd_7 rfl rfl (fun h40 fh40 => ?_)
      have gh40 : my_fr [(2, 11), (7, 0), (7, 1), (7, 2), (7, 3), (7, 4), (7, 5)] h h40 := my_fr.up gh21 is_113 fh40 rfl
      refine w_aload_n gz_95_8 rfl ?_
      refine w_aload_n gz_95_9 rfl ?_
      refine v_getI (j := 1) gz_95_10 rfl is_111 rd_7 rfl (fun v41 ev41 pv41 qv41 => ?_)
      have zv41 := ev41.trans ((my_up_fld fh40 (by decide)).trans ((my_up_fld fh21 (by decide)).trans ((my_up_fld fh19 (by decide)).trans ((my_up_fld fh17 (by decide)).trans ((my_up_fld fh15 (by decide)).trans ((my_up_ne fh13 (by omega)).trans ev12.symm))))))
      refine v_putI (j := 1) gz_95_13 rfl is_113 rd_7 rfl (by omega) (by omega) rfl (fun h42 fh42 => ?_)
      have gh42 : my_fr [(2, 11), (7, 0), (7, 1), (7, 2), (7, 3), (7, 4), (7, 5)] h h42 := my_fr.up gh40 is_113 fh42 rfl
      refine w_aload_n gz_95_16 rfl ?_
      refine w_aload_n gz_95_17 rfl ?_
      refine v_getI (j := 2) gz_95_18 rfl is_111 rd_7 rfl (fun v43 ev43 pv43 qv43 => ?_)
      have zv43 := ev43.trans ((my_up_fld fh42 (by decide)).trans ((my_up_fld fh40 (by decide)).trans ((my_up_fld fh21 (by decide)).trans ((my_up_fld fh19 (by decide)).trans ((my_up_fld fh17 (by decide)).trans ((my_up_ne fh15 (by omega)).trans ev14.symm))))))
      refine v_putI (j := 2) gz_95_21 rfl is_113 rd_7 rfl (by omega) (by omega) rfl (fun h44 fh44 => ?_)
      have gh44 : my_fr [(2, 11), (7, 0), (7, 1), (7, 2), (7, 3), (7, 4), (7, 5)] h h44 := my_fr.up gh42 is_113 fh44 rfl
      refine w_aload_n gz_95_24 rfl ?_
      refine w_aload_n gz_95_25 rfl ?_
      refine v_getI (j := 3) gz_95_26 rfl is_111 rd_7 rfl (fun v45 ev45 pv45 qv45 => ?_)
      have zv45 := ev45.trans ((my_up_fld fh44 (by decide)).trans ((my_up_fld fh42 (by decide)).trans ((my_up_fld fh40 (by decide)).trans ((my_up_fld fh21 (by decide)).trans ((my_up_fld fh19 (by decide)).trans ((my_up_ne fh17 (by omega)).trans ev16.symm))))))
      refine v_putI (j := 3) gz_95_29 rfl is_113 rd_7 rfl (by omega) (by omega) rfl (fun h46 fh46 => ?_)
      have gh46 : my_fr [(2, 11), (7, 0), (7, 1), (7, 2), (7, 3), (7, 4), (7, 5)] h h46 := my_fr.up gh44 is_113 fh46 rfl
      refine w_aload_n gz_95_32 rfl ?_
      refine w_aload_n gz_95_33 rfl ?_
      refine v_getI (j := 4) gz_95_34 rfl is_111 rd_7 rfl (fun v47 ev47 pv47 qv47 => ?_)
      have zv47 := ev47.trans ((my_up_fld fh46 (by decide)).trans ((my_up_fld fh44 (by decide)).trans ((my_up_fld fh42 (by decide)).trans ((my_up_fld fh40 (by decide)).trans ((my_up_fld fh21 (by decide)).trans ((my_up_ne fh19 (by omega)).trans ev18.symm))))))
      refine v_putI (j := 4) gz_95_37 rfl is_113 rd_7 rfl (by omega) (by omega) rfl (fun h48 fh48 => ?_)
      have gh48 : my_fr [(2, 11), (7, 0), (7, 1), (7, 2), (7, 3), (7, 4), (7, 5)] h h48 := my_fr.up gh46 is_113 fh48 rfl
      refine w_aload_n gz_95_40 rfl ?_
      refine w_aload_n gz_95_41 rfl ?_
      refine v_getI (j := 5) gz_95_42 rfl is_111 rd_7 rfl (fun v49 ev49 pv49 qv49 => ?_)
      have zv49 := ev49.trans ((my_up_fld fh48 (by decide)).trans ((my_up_fld fh46 (by decide)).trans ((my_up_fld fh44 (by decide)).trans ((my_up_fld fh42 (by decide)).trans ((my_up_fld fh40 (by decide)).trans ((my_up_ne fh21 (by omega)).trans ev20.symm))))))
      refine v_putI (j := 5) gz_95_45 rfl is_113 rd_7 rfl (by omega) (by omega) rfl (fun h50 fh50 => ?_)
      have gh50 : my_fr [(2, 11), (7, 0), (7, 1), (7, 2), (7, 3), (7, 4), (7, 5)] h h50 := my_fr.up gh48 is_113 fh50 rfl
      refine w_vret gz_95_48 gm_95 ?_
      show wp l rho (d + 1) 94 71 [(2, 94), (0, x1), (0, x2)] [] h50 Q
      refine w_aload_n gz_94_71 rfl ?_
      refine w_dup gz_94_72 rfl ?_
      refine v_getI (j := 11) gz_94_73 rfl is_94 rd_2 rfl (fun v51 ev51 pv51 qv51 => ?_)
      have zv51 := ev51.trans ((my_up_role fh50 is_94 is_113 rfl).trans ((my_up_role fh48 is_94 is_113 rfl).trans ((my_up_role fh46 is_94 is_113 rfl).trans ((my_up_role fh44 is_94 is_113 rfl).trans ((my_up_role fh42 is_94 is_113 rfl).trans ((my_up_role fh40 is_94 is_113 rfl).trans ev22.symm))))))
      refine w_iconst gz_94_76 (by decide) ?_
      refine w_ianyA gz_94_77 (fun v52 pv52 qv52 => ?_)
      refine v_putA (j := 11) gz_94_78 rfl is_94 rd_2 rfl rfl (fun h53 fh53 => ?_)
      have gh53 : my_fr [(2, 11), (7, 0), (7, 1), (7, 2), (7, 3), (7, 4), (7, 5)] h h53 := my_fr.up gh50 is_94 fh53 rfl
      have ce54 : h53 111 2 = v43 := ((my_up_role fh53 is_111 is_94 rfl).trans ((my_up_fld fh50 (by decide)).trans ((my_up_fld fh48 (by decide)).trans ((my_up_fld fh46 (by decide)).trans ((my_up_ne fh44 (by omega)).trans ev43.symm)))))
      have ce55 : h53 111 3 = v45 := ((my_up_role fh53 is_111 is_94 rfl).trans ((my_up_fld fh50 (by decide)).trans ((my_up_fld fh48 (by decide)).trans ((my_up_ne fh46 (by omega)).trans ev45.symm))))
      have ce56 : h53 111 4 = v47 := ((my_up_role fh53 is_111 is_94 rfl).trans ((my_up_fld fh50 (by decide)).trans ((my_up_ne fh48 (by omega)).trans ev47.symm)))
      have ce57 : h53 112 1 = v12 := ((my_up_role fh53 is_112 is_94 rfl).trans ((my_up_fld fh50 (by decide)).trans ((my_up_fld fh48 (by decide)).trans ((my_up_fld fh46 (by decide)).trans ((my_up_fld fh44 (by decide)).trans ((my_up_ne fh42 (by omega)).trans ((my_up_fld fh40 (by decide)).trans ((my_up_fld fh21 (by decide)).trans ((my_up_fld fh19 (by decide)).trans ((my_up_fld fh17 (by decide)).trans ((my_up_fld fh15 (by decide)).trans (my_up_self fh13))))))))))))
      have ce58 : h53 112 2 = v14 := ((my_up_role fh53 is_112 is_94 rfl).trans ((my_up_fld fh50 (by decide)).trans ((my_up_fld fh48 (by decide)).trans ((my_up_fld fh46 (by decide)).trans ((my_up_ne fh44 (by omega)).trans ((my_up_fld fh42 (by decide)).trans ((my_up_fld fh40 (by decide)).trans ((my_up_fld fh21 (by decide)).trans ((my_up_fld fh19 (by decide)).trans ((my_up_fld fh17 (by decide)).trans (my_up_self fh15)))))))))))
      have ce59 : h53 112 3 = v16 := ((my_up_role fh53 is_112 is_94 rfl).trans ((my_up_fld fh50 (by decide)).trans ((my_up_fld fh48 (by decide)).trans ((my_up_ne fh46 (by omega)).trans ((my_up_fld fh44 (by decide)).trans ((my_up_fld fh42 (by decide)).trans ((my_up_fld fh40 (by decide)).trans ((my_up_fld fh21 (by decide)).trans ((my_up_fld fh19 (by decide)).trans (my_up_self fh17))))))))))
      have ce60 : h53 112 4 = v18 := ((my_up_role fh53 is_112 is_94 rfl).trans ((my_up_fld fh50 (by decide)).trans ((my_up_ne fh48 (by omega)).trans ((my_up_fld fh46 (by decide)).trans ((my_up_fld fh44 (by decide)).trans ((my_up_fld fh42 (by decide)).trans ((my_up_fld fh40 (by decide)).trans ((my_up_fld fh21 (by decide)).trans (my_up_self fh19)))))))))
      have ce61 : h53 112 5 = v20 := ((my_up_role fh53 is_112 is_94 rfl).trans ((my_up_ne fh50 (by omega)).trans ((my_up_fld fh48 (by decide)).trans ((my_up_fld fh46 (by decide)).trans ((my_up_fld fh44 (by decide)).trans ((my_up_fld fh42 (by decide)).trans ((my_up_fld fh40 (by decide)).trans (my_up_self fh21))))))))
      have Lst_h53t62 : Lst h53 := by have q := n_Lst; unfold Lst at q ⊢; omega
      exact w_vret gz_94_81 gm_94 (k0 h53 (gh53) (by first | assumption | omega | (subst_vars; omega)) (by first | assumption | omega | (subst_vars; omega)) (by first | assumption | omega | (subst_vars; omega)) Lst_h53t62)
  ·
    refine w_iload_n gz_94_27 rfl ?_
    refine w_aload_n gz_94_28 rfl ?_
    refine w_getX (v := 112) gz_94_29 is_94 rd_2 rfl (by decide) rfl ?_
    refine v_getI (j := 0) gz_94_32 rfl is_112 rd_7 rfl (fun v64 ev64 pv64 qv64 => ?_)
    have zv64 := ev64.trans ev6.symm
    refine w_icge (t := 49) gz_94_35 rfl (fun u65 => ?_) (fun u65 => ?_)
    ·
      refine w_aload_n gz_94_49 rfl ?_
      refine v_getI (j := 11) gz_94_50 rfl is_94 rd_2 rfl (fun v66 ev66 pv66 qv66 => ?_)
      refine w_aload_n gz_94_53 rfl ?_
      refine v_getI (j := 12) gz_94_54 rfl is_94 rd_2 rfl (fun v67 ev67 pv67 qv67 => ?_)
      refine w_icne (t := 71) gz_94_57 rfl (fun u68 => ?_) (fun u68 => ?_)
      ·
        refine w_aload_n gz_94_71 rfl ?_
        refine w_dup gz_94_72 rfl ?_
        refine v_getI (j := 11) gz_94_73 rfl is_94 rd_2 rfl (fun v69 ev69 pv69 qv69 => ?_)
        have zv69 := ev69.trans ev66.symm
        refine w_iconst gz_94_76 (by decide) ?_
        refine w_ianyA gz_94_77 (fun v70 pv70 qv70 => ?_)
        refine v_putA (j := 11) gz_94_78 rfl is_94 rd_2 rfl rfl (fun h71 fh71 => ?_)
        have gh71 : my_fr [(2, 11), (7, 0), (7, 1), (7, 2), (7, 3), (7, 4), (7, 5)] h h71 := my_fr.up gh4 is_94 fh71 rfl
        have Lst_h71 : Lst h71 := Lst_ag (my_ag.up fh71 is_94 rfl) Lst_h4
        have ce72 : h71 111 2 = k111_2 := ((my_up_role fh71 is_111 is_94 rfl).trans ((my_up_fld fh4 (by decide)).trans ((my_up_fld fh2 (by decide)).trans ek111_2.symm)))
        have ce73 : h71 111 3 = k111_3 := ((my_up_role fh71 is_111 is_94 rfl).trans ((my_up_fld fh4 (by decide)).trans ((my_up_fld fh2 (by decide)).trans ek111_3.symm)))
        have ce74 : h71 111 4 = k111_4 := ((my_up_role fh71 is_111 is_94 rfl).trans ((my_up_fld fh4 (by decide)).trans ((my_up_fld fh2 (by decide)).trans ek111_4.symm)))
        have ce75 : h71 112 1 = k112_1 := ((my_up_role fh71 is_112 is_94 rfl).trans ((my_up_fld fh4 (by decide)).trans ((my_up_ne fh2 (by omega)).trans ek112_1.symm)))
        have ce76 : h71 112 2 = k112_2 := ((my_up_role fh71 is_112 is_94 rfl).trans ((my_up_fld fh4 (by decide)).trans ((my_up_fld fh2 (by decide)).trans ek112_2.symm)))
        have ce77 : h71 112 3 = k112_3 := ((my_up_role fh71 is_112 is_94 rfl).trans ((my_up_fld fh4 (by decide)).trans ((my_up_fld fh2 (by decide)).trans ek112_3.symm)))
        have ce78 : h71 112 4 = k112_4 := ((my_up_role fh71 is_112 is_94 rfl).trans ((my_up_fld fh4 (by decide)).trans ((my_up_fld fh2 (by decide)).trans ek112_4.symm)))
        have ce79 : h71 112 5 = k112_5 := ((my_up_role fh71 is_112 is_94 rfl).trans ((my_up_fld fh4 (by decide)).trans ((my_up_fld fh2 (by decide)).trans ek112_5.symm)))
        have Lst_h71t80 : Lst h71 := by have q := n_Lst; unfold Lst at q ⊢; omega
        exact w_vret gz_94_81 gm_94 (k0 h71 (gh71) (by first | assumption | omega | (subst_vars; omega)) (by first | assumption | omega | (subst_vars; omega)) (by first | assumption | omega | (subst_vars; omega)) Lst_h71t80)
      ·
        refine w_aload_n gz_94_60 rfl ?_
        refine w_getX (v := 113) gz_94_61 is_94 rd_2 rfl (by decide) rfl ?_
        refine w_aload_n gz_94_64 rfl ?_
        refine w_getX (v := 111) gz_94_65 is_94 rd_2 rfl (by decide) rfl ?_
        refine w_inv (k := 0) (as := [(2, 111)]) (r := []) (x := 113) (ls0 := [(2, 113), (2, 111)]) gz_94_68 gm_95 rfl is_113 rd_7 rfl rfl rfl rfl rfl ?_
        refine w_aload_n gz_95_0 rfl ?_
        refine w_aload_n gz_95_1 rfl ?_
        refine v_getI (j := 0) gz_95_2 rfl is_111 rd_7 rfl (fun v83 ev83 pv83 qv83 => ?_)
        have zv83 := ev83.trans (my_up_self fh4)
        refine v_putA (j := 0) gz_95_5 rfl is_113 rd_7 rfl rfl (fun h84 fh84 => ?_)
        have gh84 : my_fr [(2, 11), (7, 0), (7, 1), (7, 2), (7, 3), (7, 4), (7, 5)] h h84 := my_fr.up gh4 is_113 fh84 rfl
        have Lst_h84 : Lst h84 := Lst_ne fh84 (by decide) Lst_h4
        refine w_aload_n gz_95_8 rfl ?_
        refine w_aload_n gz_95_9 rfl ?_
        refine v_getI (j := 1) gz_95_10 rfl is_111 rd_7 rfl (fun v85 ev85 pv85 qv85 => ?_)
        have zv85 := ev85.trans ((my_up_fld fh84 (by decide)).trans ((my_up_fld fh4 (by decide)).trans (my_up_self fh2)))
        refine v_putI (j := 1) gz_95_13 rfl is_113 rd_7 rfl (by omega) (by omega) rfl (fun h86 fh86 => ?_)
        have gh86 : my_fr [(2, 11), (7, 0), (7, 1), (7, 2), (7, 3), (7, 4), (7, 5)] h h86 := my_fr.up gh84 is_113 fh86 rfl
        have Lst_h86 : Lst h86 := Lst_ne fh86 (by decide) Lst_h84
        refine w_aload_n gz_95_16 rfl ?_
        refine w_aload_n gz_95_17 rfl ?_
        refine v_getI (j := 2) gz_95_18 rfl is_111 rd_7 rfl (fun v87 ev87 pv87 qv87 => ?_)
        have zv87 := ev87.trans ((my_up_fld fh86 (by decide)).trans ((my_up_fld fh84 (by decide)).trans ((my_up_fld fh4 (by decide)).trans ((my_up_fld fh2 (by decide)).trans ek111_2.symm))))
        refine v_putI (j := 2) gz_95_21 rfl is_113 rd_7 rfl (by omega) (by omega) rfl (fun h88 fh88 => ?_)
        have gh88 : my_fr [(2, 11), (7, 0), (7, 1), (7, 2), (7, 3), (7, 4), (7, 5)] h h88 := my_fr.up gh86 is_113 fh88 rfl
        have Lst_h88 : Lst h88 := Lst_ne fh88 (by decide) Lst_h86
        refine w_aload_n gz_95_24 rfl ?_
        refine w_aload_n gz_95_25 rfl ?_
        refine v_getI (j := 3) gz_95_26 rfl is_111 rd_7 rfl (fun v89 ev89 pv89 qv89 => ?_)
        have zv89 := ev89.trans ((my_up_fld fh88 (by decide)).trans ((my_up_fld fh86 (by decide)).trans ((my_up_fld fh84 (by decide)).trans ((my_up_fld fh4 (by decide)).trans ((my_up_fld fh2 (by decide)).trans ek111_3.symm)))))
        refine v_putI (j := 3) gz_95_29 rfl is_113 rd_7 rfl (by omega) (by omega) rfl (fun h90 fh90 => ?_)
        have gh90 : my_fr [(2, 11), (7, 0), (7, 1), (7, 2), (7, 3), (7, 4), (7, 5)] h h90 := my_fr.up gh88 is_113 fh90 rfl
        have Lst_h90 : Lst h90 := Lst_ne fh90 (by decide) Lst_h88
        refine w_aload_n gz_95_32 rfl ?_
        refine w_aload_n gz_95_33 rfl ?_
        refine v_getI (j := 4) gz_95_34 rfl is_111 rd_7 rfl (fun v91 ev91 pv91 qv91 => ?_)
        have zv91 := ev91.trans ((my_up_fld fh90 (by decide)).trans ((my_up_fld fh88 (by decide)).trans ((my_up_fld fh86 (by decide)).trans ((my_up_fld fh84 (by decide)).trans ((my_up_fld fh4 (by decide)).trans ((my_up_fld fh2 (by decide)).trans ek111_4.symm))))))
        refine v_putI (j := 4) gz_95_37 rfl is_113 rd_7 rfl (by omega) (by omega) rfl (fun h92 fh92 => ?_)
        have gh92 : my_fr [(2, 11), (7, 0), (7, 1), (7, 2), (7, 3), (7, 4), (7, 5)] h h92 := my_fr.up gh90 is_113 fh92 rfl
        have Lst_h92 : Lst h92 := Lst_ne fh92 (by decide) Lst_h90
        refine w_aload_n gz_95_40 rfl ?_
        refine w_aload_n gz_95_41 rfl ?_
        refine v_getI (j := 5) gz_95_42 rfl is_111 rd_7 rfl (fun v93 ev93 pv93 qv93 => ?_)
        have zv93 := ev93.trans ((my_up_fld fh92 (by decide)).trans ((my_up_fld fh90 (by decide)).trans ((my_up_fld fh88 (by decide)).trans ((my_up_fld fh86 (by decide)).trans ((my_up_fld fh84 (by decide)).trans ((my_up_fld fh4 (by decide)).trans ((my_up_fld fh2 (by decide)).trans ek111_5.symm)))))))
        refine v_putI (j := 5) gz_95_45 rfl is_113 rd_7 rfl (by omega) (by omega) rfl (fun h94 fh94 => ?_)
        have gh94 : my_fr [(2, 11), (7, 0), (7, 1), (7, 2), (7, 3), (7, 4), (7, 5)] h h94 := my_fr.up gh92 is_113 fh94 rfl
        have Lst_h94 : Lst h94 := Lst_ne fh94 (by decide) Lst_h92
        refine w_vret gz_95_48 gm_95 ?_
        show wp l rho (d + 1) 94 71 [(2, 94), (0, x1), (0, x2)] [] h94 Q
        refine w_aload_n gz_94_71 rfl ?_
        refine w_dup gz_94_72 rfl ?_
        refine v_getI (j := 11) gz_94_73 rfl is_94 rd_2 rfl (fun v95 ev95 pv95 qv95 => ?_)
        have zv95 := ev95.trans ((my_up_role fh94 is_94 is_113 rfl).trans ((my_up_role fh92 is_94 is_113 rfl).trans ((my_up_role fh90 is_94 is_113 rfl).trans ((my_up_role fh88 is_94 is_113 rfl).trans ((my_up_role fh86 is_94 is_113 rfl).trans ((my_up_role fh84 is_94 is_113 rfl).trans ev66.symm))))))
        refine w_iconst gz_94_76 (by decide) ?_
        refine w_ianyA gz_94_77 (fun v96 pv96 qv96 => ?_)
        refine v_putA (j := 11) gz_94_78 rfl is_94 rd_2 rfl rfl (fun h97 fh97 => ?_)
        have gh97 : my_fr [(2, 11), (7, 0), (7, 1), (7, 2), (7, 3), (7, 4), (7, 5)] h h97 := my_fr.up gh94 is_94 fh97 rfl
        have Lst_h97 : Lst h97 := Lst_ag (my_ag.up fh97 is_94 rfl) Lst_h94
        have ce98 : h97 111 2 = v87 := ((my_up_role fh97 is_111 is_94 rfl).trans ((my_up_fld fh94 (by decide)).trans ((my_up_fld fh92 (by decide)).trans ((my_up_fld fh90 (by decide)).trans ((my_up_ne fh88 (by omega)).trans ev87.symm)))))
        have ce99 : h97 111 3 = v89 := ((my_up_role fh97 is_111 is_94 rfl).trans ((my_up_fld fh94 (by decide)).trans ((my_up_fld fh92 (by decide)).trans ((my_up_ne fh90 (by omega)).trans ev89.symm))))
        have ce100 : h97 111 4 = v91 := ((my_up_role fh97 is_111 is_94 rfl).trans ((my_up_fld fh94 (by decide)).trans ((my_up_ne fh92 (by omega)).trans ev91.symm)))
        have ce101 : h97 112 1 = k112_1 := ((my_up_role fh97 is_112 is_94 rfl).trans ((my_up_fld fh94 (by decide)).trans ((my_up_fld fh92 (by decide)).trans ((my_up_fld fh90 (by decide)).trans ((my_up_fld fh88 (by decide)).trans ((my_up_ne fh86 (by omega)).trans ((my_up_fld fh84 (by decide)).trans ((my_up_fld fh4 (by decide)).trans ((my_up_ne fh2 (by omega)).trans ek112_1.symm)))))))))
        have ce102 : h97 112 2 = k112_2 := ((my_up_role fh97 is_112 is_94 rfl).trans ((my_up_fld fh94 (by decide)).trans ((my_up_fld fh92 (by decide)).trans ((my_up_fld fh90 (by decide)).trans ((my_up_ne fh88 (by omega)).trans ((my_up_fld fh86 (by decide)).trans ((my_up_fld fh84 (by decide)).trans ((my_up_fld fh4 (by decide)).trans ((my_up_fld fh2 (by decide)).trans ek112_2.symm)))))))))
        have ce103 : h97 112 3 = k112_3 := ((my_up_role fh97 is_112 is_94 rfl).trans ((my_up_fld fh94 (by decide)).trans ((my_up_fld fh92 (by decide)).trans ((my_up_ne fh90 (by omega)).trans ((my_up_fld fh88 (by decide)).trans ((my_up_fld fh86 (by decide)).trans ((my_up_fld fh84 (by decide)).trans ((my_up_fld fh4 (by decide)).trans ((my_up_fld fh2 (by decide)).trans ek112_3.symm)))))))))
        have ce104 : h97 112 4 = k112_4 := ((my_up_role fh97 is_112 is_94 rfl).trans ((my_up_fld fh94 (by decide)).trans ((my_up_ne fh92 (by omega)).trans ((my_up_fld fh90 (by decide)).trans ((my_up_fld fh88 (by decide)).trans ((my_up_fld fh86 (by decide)).trans ((my_up_fld fh84 (by decide)).trans ((my_up_fld fh4 (by decide)).trans ((my_up_fld fh2 (by decide)).trans ek112_4.symm)))))))))
        have ce105 : h97 112 5 = k112_5 := ((my_up_role fh97 is_112 is_94 rfl).trans ((my_up_ne fh94 (by omega)).trans ((my_up_fld fh92 (by decide)).trans ((my_up_fld fh90 (by decide)).trans ((my_up_fld fh88 (by decide)).trans ((my_up_fld fh86 (by decide)).trans ((my_up_fld fh84 (by decide)).trans ((my_up_fld fh4 (by decide)).trans ((my_up_fld fh2 (by decide)).trans ek112_5.symm)))))))))
        have Lst_h97t106 : Lst h97 := by have q := n_Lst; unfold Lst at q ⊢; omega
        exact w_vret gz_94_81 gm_94 (k0 h97 (gh97) (by first | assumption | omega | (subst_vars; omega)) (by first | assumption | omega | (subst_vars; omega)) (by first | assumption | omega | (subst_vars; omega)) Lst_h97t106)
    ·
      refine w_aload_n gz_94_38 rfl ?_
      refine w_getX (v := 112) gz_94_39 is_94 rd_2 rfl (by decide) rfl ?_
      refine w_aload_n gz_94_42 rfl ?_
      refine w_getX (v := 111) gz_94_43 is_94 rd_2 rfl (by decide) rfl ?_
      refine w_inv (k := 0) (as := [(2, 111)]) (r := []) (x := 112) (ls0 := [(2, 112), (2, 111)]) gz_94_46 gm_95 rfl is_112 rd_7 rfl rfl rfl rfl rfl ?_
      refine w_aload_n gz_95_0 rfl ?_
      refine w_aload_n gz_95_1 rfl ?_
      refine v_getI (j := 0) gz_95_2 rfl is_111 rd_7 rfl (fun v109 ev109 pv109 qv109 => ?_)
      have zv109 := ev109.trans (my_up_self fh4)
      refine v_putA (j := 0) gz_95_5 rfl is_112 rd_7 rfl rfl (fun h110 fh110 => ?_)
      have gh110 : my_fr [(2, 11), (7, 0), (7, 1), (7, 2), (7, 3), (7, 4), (7, 5)] h h110 := my_fr.up gh4 is_112 fh110 rfl
      refine w_aload_n gz_95_8 rfl ?_
      refine w_aload_n gz_95_9 rfl ?_
      refine v_getI (j := 1) gz_95_10 rfl is_111 rd_7 rfl (fun v111 ev111 pv111 qv111 => ?_)
      have zv111 := ev111.trans ((my_up_fld fh110 (by decide)).trans ((my_up_fld fh4 (by decide)).trans (my_up_self fh2)))
      refine v_putI (j := 1) gz_95_13 rfl is_112 rd_7 rfl (by omega) (by omega) rfl (fun h112 fh112 => ?_)
      have gh112 : my_fr [(2, 11), (7, 0), (7, 1), (7, 2), (7, 3), (7, 4), (7, 5)] h h112 := my_fr.up gh110 is_112 fh112 rfl
      refine w_aload_n gz_95_16 rfl ?_
      refine w_aload_n gz_95_17 rfl ?_
      refine v_getI (j := 2) gz_95_18 rfl is_111 rd_7 rfl (fun v113 ev113 pv113 qv113 => ?_)
      have zv113 := ev113.trans ((my_up_fld fh112 (by decide)).trans ((my_up_fld fh110 (by decide)).trans ((my_up_fld fh4 (by decide)).trans ((my_up_fld fh2 (by decide)).trans ek111_2.symm))))
      refine v_putI (j := 2) gz_95_21 rfl is_112 rd_7 rfl (by omega) (by omega) rfl (fun h114 fh114 => ?_)
      have gh114 : my_fr [(2, 11), (7, 0), (7, 1), (7, 2), (7, 3), (7, 4), (7, 5)] h h114 := my_fr.up gh112 is_112 fh114 rfl
      refine w_aload_n gz_95_24 rfl ?_
      refine w_aload_n gz_95_25 rfl ?_
      refine v_getI (j := 3) gz_95_26 rfl is_111 rd_7 rfl (fun v115 ev115 pv115 qv115 => ?_)
      have zv115 := ev115.trans ((my_up_fld fh114 (by decide)).trans ((my_up_fld fh112 (by decide)).trans ((my_up_fld fh110 (by decide)).trans ((my_up_fld fh4 (by decide)).trans ((my_up_fld fh2 (by decide)).trans ek111_3.symm)))))
      refine v_putI (j := 3) gz_95_29 rfl is_112 rd_7 rfl (by omega) (by omega) rfl (fun h116 fh116 => ?_)
      have gh116 : my_fr [(2, 11), (7, 0), (7, 1), (7, 2), (7, 3), (7, 4), (7, 5)] h h116 := my_fr.up gh114 is_112 fh116 rfl
      refine w_aload_n gz_95_32 rfl ?_
      refine w_aload_n gz_95_33 rfl ?_
      refine v_getI (j := 4) gz_95_34 rfl is_111 rd_7 rfl (fun v117 ev117 pv117 qv117 => ?_)
      have zv117 := ev117.trans ((my_up_fld fh116 (by decide)).trans ((my_up_fld fh114 (by decide)).trans ((my_up_fld fh112 (by decide)).trans ((my_up_fld fh110 (by decide)).trans ((my_up_fld fh4 (by decide)).trans ((my_up_fld fh2 (by decide)).trans ek111_4.symm))))))
      refine v_putI (j := 4) gz_95_37 rfl is_112 rd_7 rfl (by omega) (by omega) rfl (fun h118 fh118 => ?_)
      have gh118 : my_fr [(2, 11), (7, 0), (7, 1), (7, 2), (7, 3), (7, 4), (7, 5)] h h118 := my_fr.up gh116 is_112 fh118 rfl
      refine w_aload_n gz_95_40 rfl ?_
      refine w_aload_n gz_95_41 rfl ?_
      refine v_getI (j := 5) gz_95_42 rfl is_111 rd_7 rfl (fun v119 ev119 pv119 qv119 => ?_)
      have zv119 := ev119.trans ((my_up_fld fh118 (by decide)).trans ((my_up_fld fh116 (by decide)).trans ((my_up_fld fh114 (by decide)).trans ((my_up_fld fh112 (by decide)).trans ((my_up_fld fh110 (by decide)).trans ((my_up_fld fh4 (by decide)).trans ((my_up_fld fh2 (by decide)).trans ek111_5.symm)))))))
      refine v_putI (j := 5) gz_95_45 rfl is_112 rd_7 rfl (by omega) (by omega) rfl (fun h120 fh120 => ?_)
      have gh120 : my_fr [(2, 11), (7, 0), (7, 1), (7, 2), (7, 3), (7, 4), (7, 5)] h h120 := my_fr.up gh118 is_112 fh120 rfl
      refine w_vret gz_95_48 gm_95 ?_
      show wp l rho (d + 1) 94 49 [(2, 94), (0, x1), (0, x2)] [] h120 Q
      refine w_aload_n gz_94_49 rfl ?_
      refine v_getI (j := 11) gz_94_50 rfl is_94 rd_2 rfl (fun v121 ev121 pv121 qv121 => ?_)
      refine w_aload_n gz_94_53 rfl ?_
      refine v_getI (j := 12) gz_94_54 rfl is_94 rd_2 rfl (fun v122 ev122 pv122 qv122 => ?_)
      refine w_icne (t := 71) gz_94_57 rfl (fun u123 => ?_) (fun u123 => ?_)
      ·
        refine w_aload_n gz_94_71 rfl ?_
        refine w_dup gz_94_72 rfl ?_
        refine v_getI (j := 11) gz_94_73 rfl is_94 rd_2 rfl (fun v124 ev124 pv124 qv124 => ?_)
        have zv124 := ev124.trans ev121.symm
        refine w_iconst gz_94_76 (by decide) ?_
        refine w_ianyA gz_94_77 (fun v125 pv125 qv125 => ?_)
        refine v_putA (j := 11) gz_94_78 rfl is_94 rd_2 rfl rfl (fun h126 fh126 => ?_)
        have gh126 : my_fr [(2, 11), (7, 0), (7, 1), (7, 2), (7, 3), (7, 4), (7, 5)] h h126 := my_fr.up gh120 is_94 fh126 rfl
        have ce127 : h126 111 2 = v113 := ((my_up_role fh126 is_111 is_94 rfl).trans ((my_up_fld fh120 (by decide)).trans ((my_up_fld fh118 (by decide)).trans ((my_up_fld fh116 (by decide)).trans ((my_up_ne fh114 (by omega)).trans ev113.symm)))))
        have ce128 : h126 111 3 = v115 := ((my_up_role fh126 is_111 is_94 rfl).trans ((my_up_fld fh120 (by decide)).trans ((my_up_fld fh118 (by decide)).trans ((my_up_ne fh116 (by omega)).trans ev115.symm))))
        have ce129 : h126 111 4 = v117 := ((my_up_role fh126 is_111 is_94 rfl).trans ((my_up_fld fh120 (by decide)).trans ((my_up_ne fh118 (by omega)).trans ev117.symm)))
        have ce130 : h126 112 1 = v111 := ((my_up_role fh126 is_112 is_94 rfl).trans ((my_up_fld fh120 (by decide)).trans ((my_up_fld fh118 (by decide)).trans ((my_up_fld fh116 (by decide)).trans ((my_up_fld fh114 (by decide)).trans (my_up_self fh112))))))
        have ce131 : h126 112 2 = v113 := ((my_up_role fh126 is_112 is_94 rfl).trans ((my_up_fld fh120 (by decide)).trans ((my_up_fld fh118 (by decide)).trans ((my_up_fld fh116 (by decide)).trans (my_up_self fh114)))))
        have ce132 : h126 112 3 = v115 := ((my_up_role fh126 is_112 is_94 rfl).trans ((my_up_fld fh120 (by decide)).trans ((my_up_fld fh118 (by decide)).trans (my_up_self fh116))))
        have ce133 : h126 112 4 = v117 := ((my_up_role fh126 is_112 is_94 rfl).trans ((my_up_fld fh120 (by decide)).trans (my_up_self fh118)))
        have ce134 : h126 112 5 = v119 := ((my_up_role fh126 is_112 is_94 rfl).trans (my_up_self fh120))
        have Lst_h126t135 : Lst h126 := by have q := n_Lst; unfold Lst at q ⊢; omega
        exact w_vret gz_94_81 gm_94 (k0 h126 (gh126) (by first | assumption | omega | (subst_vars; omega)) (by first | assumption | omega | (subst_vars; omega)) (by first | assumption | omega | (subst_vars; omega)) Lst_h126t135)
      ·
        refine w_aload_n gz_94_60 rfl ?_
        refine w_getX (v := 113) gz_94_61 is_94 rd_2 rfl (by decide) rfl ?_
        refine w_aload_n gz_94_64 rfl ?_
        refine w_getX (v := 111) gz_94_65 is_94 rd_2 rfl (by decide) rfl ?_
        refine w_inv (k := 0) (as := [(2, 111)]) (r := []) (x := 113) (ls0 := [(2, 113), (2, 111)]) gz_94_68 gm_95 rfl is_113 rd_7 rfl rfl rfl rfl rfl ?_
        refine w_aload_n gz_95_0 rfl ?_
        refine w_aload_n gz_95_1 rfl ?_
        refine v_getI (j := 0) gz_95_2 rfl is_111 rd_7 rfl (fun v138 ev138 pv138 qv138 => ?_)
        have zv138 := ev138.trans ((my_up_fld fh120 (by decide)).trans ((my_up_fld fh118 (by decide)).trans ((my_up_fld fh116 (by decide)).trans ((my_up_fld fh114 (by decide)).trans ((my_up_fld fh112 (by decide)).trans ((my_up_ne fh110 (by omega)).trans ev109.symm))))))
        refine v_putA (j := 0) gz_95_5 rfl is_113 rd_7 rfl rfl (fun h139 fh139 => ?_)
        have gh139 : my_fr [(2, 11), (7, 0), (7, 1), (7, 2), (7, 3), (7, 4), (7, 5)] h h139 := my_fr.up gh120 is_113 fh139 rfl
        refine w_aload_n gz_95_8 rfl ?_
        refine w_aload_n gz_95_9 rfl ?_
        refine v_getI (j := 1) gz_95_10 rfl is_111 rd_7 rfl (fun v140 ev140 pv140 qv140 => ?_)
        have zv140 := ev140.trans ((my_up_fld fh139 (by decide)).trans ((my_up_fld fh120 (by decide)).trans ((my_up_fld fh118 (by decide)).trans ((my_up_fld fh116 (by decide)).trans ((my_up_fld fh114 (by decide)).trans ((my_up_ne fh112 (by omega)).trans ev111.symm))))))
        refine v_putI (j := 1) gz_95_13 rfl is_113 rd_7 rfl (by omega) (by omega) rfl (fun h141 fh141 => ?_)
        have gh141 : my_fr [(2, 11), (7, 0), (7, 1), (7, 2), (7, 3), (7, 4), (7, 5)] h h141 := my_fr.up gh139 is_113 fh141 rfl
        refine w_aload_n gz_95_16 rfl ?_
        refine w_aload_n gz_95_17 rfl ?_
        refine v_getI (j := 2) gz_95_18 rfl is_111 rd_7 rfl (fun v142 ev142 pv142 qv142 => ?_)
        have zv142 := ev142.trans ((my_up_fld fh141 (by decide)).trans ((my_up_fld fh139 (by decide)).trans ((my_up_fld fh120 (by decide)).trans ((my_up_fld fh118 (by decide)).trans ((my_up_fld fh116 (by decide)).trans ((my_up_ne fh114 (by omega)).trans ev113.symm))))))
        refine v_putI (j := 2) gz_95_21 rfl is_113 rd_7 rfl (by omega) (by omega) rfl (fun h143 fh143 => ?_)
        have gh143 : my_fr [(2, 11), (7, 0), (7, 1), (7, 2), (7, 3), (7, 4), (7, 5)] h h143 := my_fr.up gh141 is_113 fh143 rfl
        refine w_aload_n gz_95_24 rfl ?_
        refine w_aload_n gz_95_25 rfl ?_
        refine v_getI (j := 3) gz_95_26 rfl is_111 rd_7 rfl (fun v144 ev144 pv144 qv144 => ?_)
        have zv144 := ev144.trans ((my_up_fld fh143 (by decide)).trans ((my_up_fld fh141 (by decide)).trans ((my_up_fld fh139 (by decide)).trans ((my_up_fld fh120 (by decide)).trans ((my_up_fld fh118 (by decide)).trans ((my_up_ne fh116 (by omega)).trans ev115.symm))))))
        refine v_putI (j := 3) gz_95_29 rfl is_113 rd_7 rfl (by omega) (by omega) rfl (fun h145 fh145 => ?_)
        have gh145 : my_fr [(2, 11), (7, 0), (7, 1), (7, 2), (7, 3), (7, 4), (7, 5)] h h145 := my_fr.up gh143 is_113 fh145 rfl
        refine w_aload_n gz_95_32 rfl ?_
        refine w_aload_n gz_95_33 rfl ?_
        refine v_getI (j := 4) gz_95_34 rfl is_111 rd_7 rfl (fun v146 ev146 pv146 qv146 => ?_)
        have zv146 := ev146.trans ((my_up_fld fh145 (by decide)).trans ((my_up_fld fh143 (by decide)).trans ((my_up_fld fh141 (by decide)).trans ((my_up_fld fh139 (by decide)).trans ((my_up_fld fh120 (by decide)).trans ((my_up_ne fh118 (by omega)).trans ev117.symm))))))
        refine v_putI (j := 4) gz_95_37 rfl is_113 rd_7 rfl (by omega) (by omega) rfl (fun h147 fh147 => ?_)
        have gh147 : my_fr [(2, 11), (7, 0), (7, 1), (7, 2), (7, 3), (7, 4), (7, 5)] h h147 := my_fr.up gh145 is_113 fh147 rfl
        refine w_aload_n gz_95_40 rfl ?_
        refine w_aload_n gz_95_41 rfl ?_
        refine v_getI (j := 5) gz_95_42 rfl is_111 rd_7 rfl (fun v148 ev148 pv148 qv148 => ?_)
        have zv148 := ev148.trans ((my_up_fld fh147 (by decide)).trans ((my_up_fld fh145 (by decide)).trans ((my_up_fld fh143 (by decide)).trans ((my_up_fld fh141 (by decide)).trans ((my_up_fld fh139 (by decide)).trans ((my_up_ne fh120 (by omega)).trans ev119.symm))))))
        refine v_putI (j := 5) gz_95_45 rfl is_113 rd_7 rfl (by omega) (by omega) rfl (fun h149 fh149 => ?_)
        have gh149 : my_fr [(2, 11), (7, 0), (7, 1), (7, 2), (7, 3), (7, 4), (7, 5)] h h149 := my_fr.up gh147 is_113 fh149 rfl
        refine w_vret gz_95_48 gm_95 ?_
        show wp l rho (d + 1) 94 71 [(2, 94), (0, x1), (0, x2)] [] h149 Q
        refine w_aload_n gz_94_71 rfl ?_
        refine w_dup gz_94_72 rfl ?_
        refine v_getI (j := 11) gz_94_73 rfl is_94 rd_2 rfl (fun v150 ev150 pv150 qv150 => ?_)
        have zv150 := ev150.trans ((my_up_role fh149 is_94 is_113 rfl).trans ((my_up_role fh147 is_94 is_113 rfl).trans ((my_up_role fh145 is_94 is_113 rfl).trans ((my_up_role fh143 is_94 is_113 rfl).trans ((my_up_role fh141 is_94 is_113 rfl).trans ((my_up_role fh139 is_94 is_113 rfl).trans ev121.symm))))))
        refine w_iconst gz_94_76 (by decide) ?_
        refine w_ianyA gz_94_77 (fun v151 pv151 qv151 => ?_)
        refine v_putA (j := 11) gz_94_78 rfl is_94 rd_2 rfl rfl (fun h152 fh152 => ?_)
        have gh152 : my_fr [(2, 11), (7, 0), (7, 1), (7, 2), (7, 3), (7, 4), (7, 5)] h h152 := my_fr.up gh149 is_94 fh152 rfl
        have ce153 : h152 111 2 = v142 := ((my_up_role fh152 is_111 is_94 rfl).trans ((my_up_fld fh149 (by decide)).trans ((my_up_fld fh147 (by decide)).trans ((my_up_fld fh145 (by decide)).trans ((my_up_ne fh143 (by omega)).trans ev142.symm)))))
        have ce154 : h152 111 3 = v144 := ((my_up_role fh152 is_111 is_94 rfl).trans ((my_up_fld fh149 (by decide)).trans ((my_up_fld fh147 (by decide)).trans ((my_up_ne fh145 (by omega)).trans ev144.symm))))
        have ce155 : h152 111 4 = v146 := ((my_up_role fh152 is_111 is_94 rfl).trans ((my_up_fld fh149 (by decide)).trans ((my_up_ne fh147 (by omega)).trans ev146.symm)))
        have ce156 : h152 112 1 = v111 := ((my_up_role fh152 is_112 is_94 rfl).trans ((my_up_fld fh149 (by decide)).trans ((my_up_fld fh147 (by decide)).trans ((my_up_fld fh145 (by decide)).trans ((my_up_fld fh143 (by decide)).trans ((my_up_ne fh141 (by omega)).trans ((my_up_fld fh139 (by decide)).trans ((my_up_fld fh120 (by decide)).trans ((my_up_fld fh118 (by decide)).trans ((my_up_fld fh116 (by decide)).trans ((my_up_fld fh114 (by decide)).trans (my_up_self fh112))))))))))))
        have ce157 : h152 112 2 = v113 := ((my_up_role fh152 is_112 is_94 rfl).trans ((my_up_fld fh149 (by decide)).trans ((my_up_fld fh147 (by decide)).trans ((my_up_fld fh145 (by decide)).trans ((my_up_ne fh143 (by omega)).trans ((my_up_fld fh141 (by decide)).trans ((my_up_fld fh139 (by decide)).trans ((my_up_fld fh120 (by decide)).trans ((my_up_fld fh118 (by decide)).trans ((my_up_fld fh116 (by decide)).trans (my_up_self fh114)))))))))))
        have ce158 : h152 112 3 = v115 := ((my_up_role fh152 is_112 is_94 rfl).trans ((my_up_fld fh149 (by decide)).trans ((my_up_fld fh147 (by decide)).trans ((my_up_ne fh145 (by omega)).trans ((my_up_fld fh143 (by decide)).trans ((my_up_fld fh141 (by decide)).trans ((my_up_fld fh139 (by decide)).trans ((my_up_fld fh120 (by decide)).trans ((my_up_fld fh118 (by decide)).trans (my_up_self fh116))))))))))
        have ce159 : h152 112 4 = v117 := ((my_up_role fh152 is_112 is_94 rfl).trans ((my_up_fld fh149 (by decide)).trans ((my_up_ne fh147 (by omega)).trans ((my_up_fld fh145 (by decide)).trans ((my_up_fld fh143 (by decide)).trans ((my_up_fld fh141 (by decide)).trans ((my_up_fld fh139 (by decide)).trans ((my_up_fld fh120 (by decide)).trans (my_up_self fh118)))))))))
        have ce160 : h152 112 5 = v119 := ((my_up_role fh152 is_112 is_94 rfl).trans ((my_up_ne fh149 (by omega)).trans ((my_up_fld fh147 (by decide)).trans ((my_up_fld fh145 (by decide)).trans ((my_up_fld fh143 (by decide)).trans ((my_up_fld fh141 (by decide)).trans ((my_up_fld fh139 (by decide)).trans (my_up_self fh120))))))))
        have Lst_h152t161 : Lst h152 := by have q := n_Lst; unfold Lst at q ⊢; omega
        exact w_vret gz_94_81 gm_94 (k0 h152 (gh152) (by first | assumption | omega | (subst_vars; omega)) (by first | assumption | omega | (subst_vars; omega)) (by first | assumption | omega | (subst_vars; omega)) Lst_h152t161)
theorem c_Desk_goesStraight {l : Launch} {rho : Nat → Int32} {d : Nat} {h : my_H} {Q : my_H → my_V → Prop} {x1 x2 x3 x4 x5 x6 : Int} (t1 : my_is 6 x1) (a2 : 0 ≤ x2) (b2 : x2 ≤ 5) (a3 : 0 ≤ x3) (b3 : x3 ≤ 2) (hi1 : x3 ≠ 2 → 0 ≤ x4 ∧ x4 ≤ 9) (hi0 : x3 = 0 → 0 ≤ x5 ∧ x5 ≤ 7 ∧ 0 ≤ x6 ∧ x6 ≤ 199) (k0 : ∀ (h' : my_H), my_fr [(30, -1), (31, -1), (41, -1)] h h' → Q h' (0, 0)) (k1 : ∀ (h' : my_H), my_fr [(30, -1), (31, -1), (41, -1)] h h' → Q h' (0, 1)) : wp l rho (d + 3) 110 0 [(2, 94), (2, x1), (0, x2), (0, x3), (0, x4), (0, x5), (0, x6), (9, 0), (9, 0)] [] h Q := by
  refine w_aload_n gz_110_0 rfl ?_
  refine w_getX (v := 27) gz_110_1 is_94 rd_2 rfl (by decide) rfl ?_
  refine w_iload_n gz_110_4 rfl ?_
  refine w_aald gz_110_5 is_27 rd_22 rfl (by omega) (by omega) (fun v2 ev2 tv2 => ?_)
  refine w_astore (ls' := [(2, 94), (2, x1), (0, x2), (0, x3), (0, x4), (0, x5), (0, x6), (2, v2), (9, 0)]) gz_110_6 gm_110 rfl rfl rfl ?_
  refine w_aload_n gz_110_8 rfl ?_
  refine w_getX (v := 95) gz_110_9 is_94 rd_2 rfl (by decide) rfl ?_
  refine w_aload_n gz_110_12 rfl ?_
  refine w_inv (k := 0) (as := [(2, x1)]) (r := []) (x := 95) (ls0 := [(2, 95), (2, x1)]) gz_110_13 gm_25 rfl is_95 rd_6 rfl rfl rfl rfl rfl ?_
  refine w_aload_n gz_25_0 rfl ?_
  refine w_getX (v := (x1 + 1)) gz_25_1 t1 rd_6 rfl (by decide) rfl ?_
  refine w_iconst gz_25_4 (by decide) ?_
  refine w_aload_n gz_25_5 rfl ?_
  refine w_getX (v := 96) gz_25_6 is_95 rd_6 rfl (by decide) rfl ?_
  refine w_iconst gz_25_9 (by decide) ?_
  refine w_aload_n gz_25_10 rfl ?_
  refine w_getX (v := 96) gz_25_11 is_95 rd_6 rfl (by decide) rfl ?_
  refine v_alen (j := 240) gz_25_14 rfl is_96 rd_30 (by decide) ?_
  refine w_cpU gz_25_15 (ix_6_1 t1) rd_30 is_96 rd_30 (by omega) (by omega) (by omega) (by omega) (by omega) rfl (by decide) (by decide) (fun h7 fh7 => ?_)
  have gh7 : my_fr [(30, -1), (31, -1), (41, -1)] h h7 := my_fr.cp my_fr.rf is_96 fh7 rfl
  refine w_aload_n gz_25_18 rfl ?_
  refine w_getX (v := (x1 + 2)) gz_25_19 t1 rd_6 rfl (by decide) rfl ?_
  refine w_iconst gz_25_22 (by decide) ?_
  refine w_aload_n gz_25_23 rfl ?_
  refine w_getX (v := 97) gz_25_24 is_95 rd_6 rfl (by decide) rfl ?_
  refine w_iconst gz_25_27 (by decide) ?_
  refine w_aload_n gz_25_28 rfl ?_
  refine w_getX (v := 97) gz_25_29 is_95 rd_6 rfl (by decide) rfl ?_
  refine v_alen (j := 3) gz_25_32 rfl is_97 rd_31 (by decide) ?_
  refine w_cpU gz_25_33 (ix_6_2 t1) rd_31 is_97 rd_31 (by omega) (by omega) (by omega) (by omega) (by omega) rfl (by decide) (by decide) (fun h11 fh11 => ?_)
  have gh11 : my_fr [(30, -1), (31, -1), (41, -1)] h h11 := my_fr.cp gh7 is_97 fh11 rfl
  refine w_vret gz_25_36 gm_25 ?_
  show wp l rho (d + 3) 110 16 [(2, 94), (2, x1), (0, x2), (0, x3), (0, x4), (0, x5), (0, x6), (2, v2), (9, 0)] [] h11 Q
  refine w_iload_n gz_110_16 rfl ?_
  refine w_iconst gz_110_17 (by decide) ?_
  refine w_icne (t := 28) gz_110_18 rfl (fun u12 => ?_) (fun u12 => ?_)
  ·
    refine w_iload_n gz_110_28 rfl ?_
    refine w_iconst gz_110_29 (by decide) ?_
    refine w_icne (t := 76) gz_110_30 rfl (fun u13 => ?_) (fun u13 => ?_)
    ·
      have hi14 : 0 ≤ x4 := by omega
      have hi15 : x4 ≤ 9 := by omega
      have hi16 : 0 ≤ x5 := by omega
      have hi17 : x5 ≤ 7 := by omega
      have hi18 : 0 ≤ x6 := by omega
      have hi19 : x6 ≤ 199 := by omega
      refine w_aload_n gz_110_76 rfl ?_
      refine w_getX (v := 98) gz_110_77 is_94 rd_2 rfl (by decide) rfl ?_
      refine w_iload gz_110_80 rfl ?_
      refine w_iload gz_110_82 rfl ?_
      refine w_inv (k := 0) (as := [(0, x5), (0, x4)]) (r := []) (x := 98) (ls0 := [(2, 98), (0, x4), (0, x5)]) gz_110_84 gm_83 rfl is_98 rd_8 rfl rfl rfl rfl rfl ?_
      refine w_aload_n gz_83_0 rfl ?_
      refine w_getX (v := 99) gz_83_1 is_98 rd_8 rfl (by decide) rfl ?_
      refine w_iload_n gz_83_4 rfl ?_
      refine w_bipush gz_83_5 (by decide) ?_
      refine w_imul gz_83_7 ⟨by omega, by omega⟩ ?_
      refine w_bipush gz_83_8 (by decide) ?_
      refine w_iadd gz_83_10 ⟨by omega, by omega⟩ ?_
      refine w_iload_n gz_83_11 rfl ?_
      refine w_iadd gz_83_12 ⟨by omega, by omega⟩ ?_
      refine w_gldS gz_83_13 is_99 rd_42 (by omega) (by omega) (by omega) (by omega) (fun v22 ev22 pv22 qv22 => ?_)
      refine w_iret gz_83_14 gm_83 ?_
      show wp l rho (d + 3) 110 87 [(2, 94), (2, x1), (0, x2), (0, x3), (0, x4), (0, x5), (0, x6), (2, v2), (9, 0)] [(0, v22)] h11 Q
      refine w_istore (ls' := [(2, 94), (2, x1), (0, x2), (0, x3), (0, x4), (0, x5), (0, x6), (2, v2), (0, v22)]) gz_110_87 gm_110 rfl rfl rfl ?_
      refine w_iload gz_110_89 rfl ?_
      refine w_iconst gz_110_91 (by decide) ?_
      refine w_iceq (t := 109) gz_110_92 rfl (fun u23 => ?_) (fun u23 => ?_)
      ·
        refine w_iconst gz_110_109 (by decide) ?_
        exact w_bret gz_110_110 gm_110 (by omega) (by omega) (k0 h11 (gh11))
      ·
        refine w_iload gz_110_95 rfl ?_
        refine w_iconst gz_110_97 (by decide) ?_
        refine w_irem gz_110_98 (by omega) (by decide) ?_
        refine w_ifeq (t := 109) gz_110_99 rfl (fun u24 => ?_) (fun u24 => ?_)
        ·
          refine w_iconst gz_110_109 (by decide) ?_
          exact w_bret gz_110_110 gm_110 (by omega) (by omega) (k0 h11 (gh11))
        ·
          refine w_iload gz_110_102 rfl ?_
          refine w_bipush gz_110_104 (by decide) ?_
          refine w_iclt (t := 111) gz_110_106 rfl (fun u25 => ?_) (fun u25 => ?_)
          ·
            refine w_aload_n gz_110_111 rfl ?_
            refine w_getX (v := 95) gz_110_112 is_94 rd_2 rfl (by decide) rfl ?_
            refine w_getX (v := 96) gz_110_115 is_95 rd_6 rfl (by decide) rfl ?_
            refine w_iload gz_110_118 rfl ?_
            refine w_iload gz_110_120 rfl ?_
            refine w_iast gz_110_122 is_96 rd_30 (by omega) (by omega) (by omega) (by omega) (fun h28 fh28 => ?_)
            have gh28 : my_fr [(30, -1), (31, -1), (41, -1)] h h28 := my_fr.up gh11 is_96 fh28 rfl
            refine w_iconst gz_110_123 (by decide) ?_
            exact w_bret gz_110_124 gm_110 (by omega) (by omega) (k1 h28 (gh28))
          ·
            refine w_iconst gz_110_109 (by decide) ?_
            exact w_bret gz_110_110 gm_110 (by omega) (by omega) (k0 h11 (gh11))
    ·
      have hi29 : 0 ≤ x4 := by omega
      have hi30 : x4 ≤ 9 := by omega
      refine w_aload gz_110_33 rfl ?_
      refine v_getI (j := 7) gz_110_35 rfl tv2 rd_4 rfl (fun v31 ev31 pv31 qv31 => ?_)
      refine w_ifne (t := 62) gz_110_38 rfl (fun u32 => ?_) (fun u32 => ?_)
      ·
        refine w_aload gz_110_62 rfl ?_
        refine v_getI (j := 7) gz_110_64 rfl tv2 rd_4 rfl (fun v33 ev33 pv33 qv33 => ?_)
        have zv33 := ev33.trans ev31.symm
        refine w_ifne (t := 74) gz_110_67 rfl (fun u34 => ?_) (fun u34 => by exfalso; omega)
        refine w_iconst gz_110_74 (by decide) ?_
        exact w_bret gz_110_75 gm_110 (by omega) (by omega) (k0 h11 (gh11))
      ·
        refine w_aload_n gz_110_41 rfl ?_
        refine w_getX (v := 95) gz_110_42 is_94 rd_2 rfl (by decide) rfl ?_
        refine w_aload gz_110_45 rfl ?_
        refine v_getI (j := 2) gz_110_47 rfl tv2 rd_4 rfl (fun v36 ev36 pv36 qv36 => ?_)
        refine w_aload_n gz_110_50 rfl ?_
        refine w_getX (v := 98) gz_110_51 is_94 rd_2 rfl (by decide) rfl ?_
        refine w_iload gz_110_54 rfl ?_
        refine w_inv (k := 0) (as := [(0, x4)]) (r := [(0, v36), (2, 95)]) (x := 98) (ls0 := [(2, 98), (0, x4)]) gz_110_56 gm_75 rfl is_98 rd_8 rfl rfl rfl rfl rfl ?_
        refine w_aload_n gz_75_0 rfl ?_
        refine w_getX (v := 99) gz_75_1 is_98 rd_8 rfl (by decide) rfl ?_
        refine w_iload_n gz_75_4 rfl ?_
        refine w_bipush gz_75_5 (by decide) ?_
        refine w_imul gz_75_7 ⟨by omega, by omega⟩ ?_
        refine w_bipush gz_75_8 (by decide) ?_
        refine w_iadd gz_75_10 ⟨by omega, by omega⟩ ?_
        refine w_gldT gz_75_11 is_99 rd_42 (by omega) (by omega) (by omega) (fun v39 ev39 pv39 qv39 => ?_)
        refine w_iret gz_75_12 gm_75 ?_
        show wp l rho (d + 3) 110 59 [(2, 94), (2, x1), (0, x2), (0, x3), (0, x4), (0, x5), (0, x6), (2, v2), (9, 0)] [(0, v39), (0, v36), (2, 95)] h11 Q
        refine w_inv (k := 2) (as := [(0, v39), (0, v36)]) (r := []) (x := 95) (ls0 := [(2, 95), (0, v36), (0, v39), (9, 0), (9, 0)]) gz_110_59 gm_23 rfl is_95 rd_6 rfl rfl rfl rfl rfl (c_Rows_drop (d := (d + 1)) (x0 := 95) (x1 := v36) (x2 := v39) is_95 (by omega) (by omega) (by omega) (by omega) (fun h40 frh40 fxh40 => ?_))
        have gh40 : my_fr [(30, -1), (31, -1), (41, -1)] h h40 := my_fr.tr gh11 (frh40.mo rfl)
        show wp l rho (d + 3) 110 62 [(2, 94), (2, x1), (0, x2), (0, x3), (0, x4), (0, x5), (0, x6), (2, v2), (9, 0)] [] h40 Q
        refine w_aload gz_110_62 rfl ?_
        refine v_getI (j := 7) gz_110_64 rfl tv2 rd_4 rfl (fun v41 ev41 pv41 qv41 => ?_)
        have zv41 := ev41.trans ((my_fr.at frh40 tv2 rfl).trans ev31.symm)
        refine w_ifne (t := 74) gz_110_67 rfl (fun u42 => by exfalso; omega) (fun u42 => ?_)
        refine w_iconst gz_110_70 (by decide) ?_
        refine w_goto (t := 75) gz_110_71 rfl ?_
        exact w_bret gz_110_75 gm_110 (by omega) (by omega) (k1 h40 (gh40))
  ·
    refine w_aload_n gz_110_21 rfl ?_
    refine w_aload gz_110_22 rfl ?_
    refine w_inv (k := 2) (as := [(2, v2)]) (r := []) (x := 94) (ls0 := [(2, 94), (2, v2), (9, 0), (9, 0)]) gz_110_24 gm_106 rfl is_94 rd_2 rfl rfl rfl rfl rfl (c_Desk_rowComes (d := d) (x1 := v2) tv2 (fun h43 frh43 => ?_) (fun h44 frh44 => ?_))
    ·
      have gh43 : my_fr [(30, -1), (31, -1), (41, -1)] h h43 := my_fr.tr gh11 (frh43.mo rfl)
      show wp l rho (d + 3) 110 27 [(2, 94), (2, x1), (0, x2), (0, x3), (0, x4), (0, x5), (0, x6), (2, v2), (9, 0)] [(0, 0)] h43 Q
      exact w_bret gz_110_27 gm_110 (by omega) (by omega) (k0 h43 (gh43))
    ·
      have gh44 : my_fr [(30, -1), (31, -1), (41, -1)] h h44 := my_fr.tr gh11 (frh44.mo rfl)
      show wp l rho (d + 3) 110 27 [(2, 94), (2, x1), (0, x2), (0, x3), (0, x4), (0, x5), (0, x6), (2, v2), (9, 0)] [(0, 1)] h44 Q
      exact w_bret gz_110_27 gm_110 (by omega) (by omega) (k1 h44 (gh44))
theorem c_Model_findColumns_f0 {l : Launch} {rho : Nat → Int32} {d : Nat} {h : my_H} {Q : my_H → my_V → Prop} {x1 : Int} (a1 : 0 ≤ x1) (b1 : x1 ≤ 6) (cf : h 151 8 = 0) (n_Mw : Mw h) (hfp : Fp h x1) (h6 : x1 = 6 → h 167 6 = 0) (k0 : ∀ (h' : my_H), my_fr [(10, 27), (10, 32), (10, 33), (73, -1), (74, -1), (75, -1), (76, -1), (77, -1), (78, -1), (79, -1)] h h' → h' 151 8 = 0 → (∃ W : Int → Int, MwW h W ∧ h' 151 27 = mwf h x1 (mst h W x1) (h 167 x1).toNat) → Fc h h' (h' 151 32) (-1) x1 → 1 ≤ h' 151 32 → Q h' (9, 0)) : wp l rho (d + 1) 179 0 [(2, 151), (0, x1), (9, 0), (9, 0)] [] h Q := by
  obtain ⟨W, hW⟩ := n_Mw
  have J11_0 : ∀ (n : Nat) (p11_0 : Int) (h11_0 : my_H), my_fr [(10, 27), (10, 32), (10, 33), (73, -1), (74, -1), (75, -1), (76, -1), (77, -1), (78, -1), (79, -1)] h h11_0 → 0 ≤ p11_0 → p11_0 ≤ 6 → h11_0 151 8 = 0 → Mw h11_0 → Fc h h11_0 (h11_0 151 32) (-1) x1 → 1 ≤ h11_0 151 32 → p11_0 ≤ h11_0 151 32 → h11_0 151 27 = (if p11_0 < h11_0 151 32 then mst h W (h11_0 177 p11_0) else mwf h x1 (mst h W x1) (h 167 x1).toNat) → 7 - p11_0 ≤ (n : Int) → wp l rho (d + 1) 179 11 [(2, 151), (0, x1), (0, p11_0), (9, 0)] [] h11_0 Q := by
    intro n
    induction n with
    | zero => intro p11_0 h11_0 gh_11_0 q0_11_0 q1_11_0 c151_8_11_0 n_Mw_11_0 fc_11_0 c1_11_0 lk_11_0 wk_11_0 hm_11_0; exfalso; omega
    | succ n ih_11_0 =>
      intro p11_0 h11_0 gh_11_0 q0_11_0 q1_11_0 c151_8_11_0 n_Mw_11_0 fc_11_0 c1_11_0 lk_11_0 wk_11_0 hm_11_0
      have J21_0 : ∀ (n : Nat) (p21_0 p21_1 : Int) (h21_0 : my_H), my_fr [(10, 27), (10, 32), (10, 33), (73, -1), (74, -1), (75, -1), (76, -1), (77, -1), (78, -1), (79, -1)] h h21_0 → p11_0 ≤ 5 → 0 ≤ p21_0 → p21_0 ≤ 6 → 1 ≤ p21_1 → p21_1 ≤ 6 → p11_0 ≤ (p21_1 - 1) → h21_0 151 32 = p21_1 → h21_0 151 8 = 0 → Mw h21_0 → Fc h h21_0 (h21_0 151 32) (-1) x1 → 1 ≤ h21_0 151 32 → p11_0 < h21_0 151 32 → h21_0 151 27 = mwf h (h21_0 177 p11_0) (mst h W (h21_0 177 p11_0)) p21_0.toNat → p21_0 ≤ h 167 (h21_0 177 p11_0) → 7 - p21_0 ≤ (n : Int) → wp l rho (d + 1) 179 21 [(2, 151), (0, x1), (0, p11_0), (0, p21_0)] [] h21_0 Q := by
        intro n
        induction n with
        | zero => intro p21_0 p21_1 h21_0 gh_21_0 q0_21_0 q1_21_0 q2_21_0 q3_21_0 q4_21_0 q5_21_0 c151_32_21_0 c151_8_21_0 n_Mw_21_0 fc_21_0 c1_21_0 lk_21_0 wp_21_0 lp_21_0 hm_21_0; exfalso; omega
        | succ n ih_21_0 =>
          intro p21_0 p21_1 h21_0 gh_21_0 q0_21_0 q1_21_0 q2_21_0 q3_21_0 q4_21_0 q5_21_0 c151_32_21_0 c151_8_21_0 n_Mw_21_0 fc_21_0 c1_21_0 lk_21_0 wp_21_0 lp_21_0 hm_21_0
          have qr := fc_21_0.2.2.2.2.2 p11_0 (by omega) lk_21_0
          have qm := Fc_mok hW h6 hfp.1 fc_21_0 (by omega : 0 ≤ p11_0) lk_21_0
          have f167 : ∀ j : Int, h21_0 167 j = h 167 j := fun j => my_fr.at gh_21_0 is_167 rfl
          refine w_iload_n gz_179_21 rfl ?_
          refine w_aload_n gz_179_22 rfl ?_
          refine w_getX (v := 167) gz_179_23 is_151 rd_10 rfl (by decide) rfl ?_
          refine w_aload_n gz_179_26 rfl ?_
          refine w_getX (v := 177) gz_179_27 is_151 rd_10 rfl (by decide) rfl ?_
          refine w_iload_n gz_179_30 rfl ?_
          refine w_iald gz_179_31 is_177 rd_76 (by omega) (by omega) (fun v3 ev3 pv3 qv3 => ?_)
          have e32 : v3 = h21_0 177 p11_0 := by omega
          have f32 := f167 v3
          refine w_iald gz_179_32 is_167 rd_66 (by omega) (by omega) (fun v4 ev4 pv4 qv4 => ?_)
          have e33 : v4 = h 167 (h21_0 177 p11_0) := by rw [← e32]; omega
          refine w_icge (t := 57) gz_179_33 rfl (fun u5 => ?_) (fun u5 => ?_)
          ·
            have e57 : h 167 (h21_0 177 p11_0) = p21_0 := by omega
            refine w_iinc (ls' := [(2, 151), (0, x1), (0, (p11_0 + 1)), (0, p21_0)]) gz_179_57 rfl gm_179 rfl rfl rfl ⟨by omega, by omega⟩ ?_
            refine w_goto (t := 11) gz_179_60 rfl ?_
            have ca : ∀ j : Int, h21_0 177 j = h21_0 177 j := fun _ => rfl
            have ce6 : h21_0 151 32 = p21_1 := c151_32_21_0
            refine w_weak (ls' := [(2, 151), (0, x1), (0, (p11_0 + 1)), (9, 0)]) (wk_e (wk_e (wk_e (wk_9 wk_n)))) ?_
            exact ih_11_0 ((p11_0 + 1)) h21_0 (gh_21_0) (by omega) (by omega) (c151_8_21_0.trans (by omega)) n_Mw_21_0 (by first | exact Fc_cg ca (by omega) fc_21_0 | exact Fc_cg ca (by omega) fc_11_0 | exact fc_11_0 | (rw [show h21_0 151 32 = _ by omega]; exact Fc_cg ca (by omega) fc0)) (by first | assumption | omega | (subst_vars; omega)) (by first | assumption | omega | (subst_vars; omega)) (by first | (rw [if_pos (by omega), ca, Fc_first (W := W) fc0 (by omega)]; omega) | (by_cases q : (p11_0 + 1) < h21_0 151 32; (rw [if_pos q, ca, Fc_next hW fc_21_0 (by omega) (by omega), e57]; exact wp_21_0); (rw [if_neg q]; have q2 := Fc_last fc_21_0 (by omega); rw [show h21_0 151 32 - 1 = p11_0 by omega] at q2; rw [← q2, e57]; exact wp_21_0))) (by omega)
          ·
            refine w_aload_n gz_179_36 rfl ?_
            refine w_bipush gz_179_37 (by decide) ?_
            refine w_aload_n gz_179_39 rfl ?_
            refine w_getX (v := 177) gz_179_40 is_151 rd_10 rfl (by decide) rfl ?_
            refine w_iload_n gz_179_43 rfl ?_
            refine w_iald gz_179_44 is_177 rd_76 (by omega) (by omega) (fun v8 ev8 pv8 qv8 => ?_)
            have zv8 := ev8.trans ev3.symm
            refine w_imul gz_179_45 ⟨by omega, by omega⟩ ?_
            refine w_iload_n gz_179_46 rfl ?_
            refine w_iadd gz_179_47 ⟨by omega, by omega⟩ ?_
            have qa := mok_at qm (s := p21_0) (by omega) (by omega)
            have qs := mwf_at (h := h) (w := h21_0 177 p11_0) (c := mst h W (h21_0 177 p11_0)) (s := p21_0) (by omega)
            have f168 : ∀ j : Int, h21_0 168 j = h 168 j := fun j => my_fr.at gh_21_0 is_168 rfl
            have f170 : ∀ j : Int, h21_0 170 j = h 170 j := fun j => my_fr.at gh_21_0 is_170 rfl
            have f157 : ∀ j : Int, h21_0 157 j = h 157 j := fun j => my_fr.at gh_21_0 is_157 rfl
            have f171 : ∀ j : Int, h21_0 171 j = h 171 j := fun j => my_fr.at gh_21_0 is_171 rfl
            have ep : ((6 * v8) + p21_0) = 6 * h21_0 177 p11_0 + p21_0 := by omega
            refine w_inv (k := 1) (as := [(0, ((6 * v8) + p21_0))]) (r := []) (x := 151) (ls0 := [(2, 151), (0, ((6 * v8) + p21_0)), (9, 0)]) gz_179_48 gm_182 rfl is_151 rd_10 rfl rfl rfl rfl rfl (c_Model_pane_f0 (d := d) (x1 := ((6 * v8) + p21_0)) (by omega) (by omega) (c151_8_21_0.trans (by omega)) (by rw [ep, f168, f170, f157]; intro q; have := qa.1 q; omega) (fun h9 frh9 w10 xp11 => ?_))
            have gh9 : my_fr [(10, 27), (10, 32), (10, 33), (73, -1), (74, -1), (75, -1), (76, -1), (77, -1), (78, -1), (79, -1)] h h9 := my_fr.tr gh_21_0 (frh9.mo rfl)
            have Mw_h9 : Mw h9 := Mw_ag (my_ag.fr frh9 rfl) n_Mw_21_0
            show wp l rho (d + 1) 179 51 [(2, 151), (0, x1), (0, p11_0), (0, p21_0)] [] h9 Q
            refine w_iinc (ls' := [(2, 151), (0, x1), (0, p11_0), (0, (p21_0 + 1))]) gz_179_51 rfl gm_179 rfl rfl rfl ⟨by omega, by omega⟩ ?_
            refine w_goto (t := 21) gz_179_54 rfl ?_
            have ca : ∀ j : Int, h9 177 j = h21_0 177 j := fun j => ((my_fr.at frh9 is_177 rfl).trans (rfl : h21_0 177 j = h21_0 177 j))
            have ce12 : h9 151 32 = p21_1 := ((my_fr.at frh9 is_151 rfl).trans c151_32_21_0)
            have ce13 : h9 151 33 = h21_0 151 33 := ((my_fr.at frh9 is_151 rfl).trans (rfl : h21_0 151 33 = h21_0 151 33))
            exact ih_21_0 ((p21_0 + 1)) (p21_1) h9 (gh9) (by omega) (by omega) (by omega) (by omega) (by omega) (by omega) (((my_fr.at frh9 is_151 rfl).trans c151_32_21_0).trans (by omega)) (((my_fr.at frh9 is_151 rfl).trans c151_8_21_0).trans (by omega)) Mw_h9 (by first | exact Fc_cg ca (by omega) fc_21_0 | exact Fc_cg ca (by omega) fc_11_0 | exact fc_11_0 | (rw [show h9 151 32 = _ by omega]; exact Fc_cg ca (by omega) fc0)) (by first | assumption | omega | (subst_vars; omega)) (by first | assumption | omega | (subst_vars; omega)) (by first | (rw [qs]; omega) | (rw [ca]; have q := wk_11_0; rw [if_pos (by omega)] at q; exact q) | (have q := wk_11_0; rw [if_pos (by omega)] at q; exact q)) (by omega) (by omega)
      refine w_iload_n gz_179_11 rfl ?_
      refine w_aload_n gz_179_12 rfl ?_
      refine v_getI (j := 32) gz_179_13 rfl is_151 rd_10 rfl (fun v14 ev14 pv14 qv14 => ?_)
      refine w_icge (t := 63) gz_179_16 rfl (fun u15 => ?_) (fun u15 => ?_)
      ·
        have c16 := c151_8_11_0
        exact w_vret gz_179_63 gm_179 (k0 h11_0 (gh_11_0) (by omega) (by first | assumption | omega | (subst_vars; omega)) (by first | assumption | omega | (subst_vars; omega)) (by first | assumption | omega | (subst_vars; omega)))
      ·
        refine w_iconst gz_179_19 (by decide) ?_
        refine w_istore_n (ls' := [(2, 151), (0, x1), (0, p11_0), (0, 0)]) gz_179_20 gm_179 rfl rfl rfl ?_
        have ca : ∀ j : Int, h11_0 177 j = h11_0 177 j := fun _ => rfl
        have ce17 : h11_0 151 32 = v14 := ev14.symm
        exact J21_0 7 (0) (v14) h11_0 (gh_11_0) (by omega) (by omega) (by omega) (by omega) (by omega) (by omega) (ev14.symm.trans (by omega)) (c151_8_11_0.trans (by omega)) n_Mw_11_0 (by first | exact Fc_cg ca (by omega) fc_21_0 | exact Fc_cg ca (by omega) fc_11_0 | exact fc_11_0 | (rw [show h11_0 151 32 = _ by omega]; exact Fc_cg ca (by omega) fc0)) (by first | assumption | omega | (subst_vars; omega)) (by first | assumption | omega | (subst_vars; omega)) (by first | (rw [qs]; omega) | (rw [ca]; have q := wk_11_0; rw [if_pos (by omega)] at q; exact q) | (have q := wk_11_0; rw [if_pos (by omega)] at q; exact q)) (by omega) (by omega)
  refine w_aload_n gz_179_0 rfl ?_
  refine w_iload_n gz_179_1 rfl ?_
  refine w_inv (k := 2) (as := [(0, x1)]) (r := []) (x := 151) (ls0 := [(2, 151), (0, x1), (9, 0), (9, 0)]) gz_179_2 gm_180 rfl is_151 rd_10 rfl rfl rfl rfl rfl (c_Model_findChain_f0 (d := d) (x1 := x1) (by omega) (by omega) (cf.trans (by omega)) n_Mw (by first | assumption | omega | (subst_vars; omega)) (fun h18 frh18 w19 xp20 xp21 xp22 => ?_))
  have gh18 : my_fr [(10, 27), (10, 32), (10, 33), (73, -1), (74, -1), (75, -1), (76, -1), (77, -1), (78, -1), (79, -1)] h h18 := my_fr.tr my_fr.rf (frh18.mo rfl)
  have Mw_h18 : Mw h18 := Mw_ag (my_ag.fr frh18 rfl) n_Mw
  show wp l rho (d + 1) 179 5 [(2, 151), (0, x1), (9, 0), (9, 0)] [] h18 Q
  have fc0 := xp20
  have fc1 := xp21
  have fc2 := xp22
  refine w_aload_n gz_179_5 rfl ?_
  refine w_inv (k := 1) (as := []) (r := []) (x := 151) (ls0 := [(2, 151), (9, 0)]) gz_179_6 gm_181 rfl is_151 rd_10 rfl rfl rfl rfl rfl (c_Model_beginsColumns2_f0 (d := d)  (((my_fr.at frh18 is_151 rfl).trans cf).trans (by omega)) (fun h23 frh23 w24 w25 w26 xp27 => ?_))
  have gh23 : my_fr [(10, 27), (10, 32), (10, 33), (73, -1), (74, -1), (75, -1), (76, -1), (77, -1), (78, -1), (79, -1)] h h23 := my_fr.tr gh18 (frh23.mo rfl)
  have Mw_h23 : Mw h23 := Mw_ag (my_ag.fr frh23 rfl) Mw_h18
  show wp l rho (d + 1) 179 9 [(2, 151), (0, x1), (9, 0), (9, 0)] [] h23 Q
  refine w_iconst gz_179_9 (by decide) ?_
  refine w_istore_n (ls' := [(2, 151), (0, x1), (0, 0), (9, 0)]) gz_179_10 gm_179 rfl rfl rfl ?_
  have ca : ∀ j : Int, h23 177 j = h18 177 j := fun j => ((my_fr.at frh23 is_177 rfl).trans (rfl : h18 177 j = h18 177 j))
  have ce28 : h23 151 32 = h18 151 32 := ((my_fr.at frh23 is_151 rfl).trans (rfl : h18 151 32 = h18 151 32))
  have ce29 : h23 151 33 = h18 151 33 := ((my_fr.at frh23 is_151 rfl).trans (rfl : h18 151 33 = h18 151 33))
  have ce30 : h23 151 27 = (h23 151 27) := (rfl : h23 151 27 = h23 151 27)
  exact J11_0 7 (0) h23 (gh23) (by omega) (by omega) (((my_fr.at frh23 is_151 rfl).trans ((my_fr.at frh18 is_151 rfl).trans cf)).trans (by omega)) Mw_h23 (by first | exact Fc_cg ca (by omega) fc_21_0 | exact Fc_cg ca (by omega) fc_11_0 | exact fc_11_0 | (rw [show h23 151 32 = _ by omega]; exact Fc_cg ca (by omega) fc0)) (by first | assumption | omega | (subst_vars; omega)) (by first | assumption | omega | (subst_vars; omega)) (by first | (rw [if_pos (by omega), ca, Fc_first (W := W) fc0 (by omega)]; omega) | (by_cases q : 0 < h23 151 32; (rw [if_pos q, ca, Fc_next hW fc_21_0 (by omega) (by omega), e57]; exact wp_21_0); (rw [if_neg q]; have q2 := Fc_last fc_21_0 (by omega); rw [show h23 151 32 - 1 = p11_0 by omega] at q2; rw [← q2, e57]; exact wp_21_0))) (by omega)
theorem c_Model_findColumns {l : Launch} {rho : Nat → Int32} {d : Nat} {h : my_H} {Q : my_H → my_V → Prop} {x1 : Int} (a1 : 0 ≤ x1) (b1 : x1 ≤ 6) (n_Mw : Mw h) (hfp : Fp h x1) (h6 : x1 = 6 → h 167 6 = 0) (k0 : ∀ (h' : my_H), my_fr [(10, 27), (10, 32), (10, 33), (73, -1), (74, -1), (75, -1), (76, -1), (77, -1), (78, -1), (79, -1)] h h' → (∃ W : Int → Int, MwW h W ∧ h' 151 27 = mwf h x1 (mst h W x1) (h 167 x1).toNat) → Fc h h' (h' 151 32) (-1) x1 → 1 ≤ h' 151 32 → Q h' (9, 0)) : wp l rho (d + 1) 179 0 [(2, 151), (0, x1), (9, 0), (9, 0)] [] h Q := by
  obtain ⟨W, hW⟩ := n_Mw
  have J11_0 : ∀ (n : Nat) (p11_0 : Int) (h11_0 : my_H), my_fr [(10, 27), (10, 32), (10, 33), (73, -1), (74, -1), (75, -1), (76, -1), (77, -1), (78, -1), (79, -1)] h h11_0 → 0 ≤ p11_0 → p11_0 ≤ 6 → Mw h11_0 → Fc h h11_0 (h11_0 151 32) (-1) x1 → 1 ≤ h11_0 151 32 → p11_0 ≤ h11_0 151 32 → h11_0 151 27 = (if p11_0 < h11_0 151 32 then mst h W (h11_0 177 p11_0) else mwf h x1 (mst h W x1) (h 167 x1).toNat) → 7 - p11_0 ≤ (n : Int) → wp l rho (d + 1) 179 11 [(2, 151), (0, x1), (0, p11_0), (9, 0)] [] h11_0 Q := by
    intro n
    induction n with
    | zero => intro p11_0 h11_0 gh_11_0 q0_11_0 q1_11_0 n_Mw_11_0 fc_11_0 c1_11_0 lk_11_0 wk_11_0 hm_11_0; exfalso; omega
    | succ n ih_11_0 =>
      intro p11_0 h11_0 gh_11_0 q0_11_0 q1_11_0 n_Mw_11_0 fc_11_0 c1_11_0 lk_11_0 wk_11_0 hm_11_0
      have J21_0 : ∀ (n : Nat) (p21_0 p21_1 : Int) (h21_0 : my_H), my_fr [(10, 27), (10, 32), (10, 33), (73, -1), (74, -1), (75, -1), (76, -1), (77, -1), (78, -1), (79, -1)] h h21_0 → p11_0 ≤ 5 → 0 ≤ p21_0 → p21_0 ≤ 6 → 1 ≤ p21_1 → p21_1 ≤ 6 → p11_0 ≤ (p21_1 - 1) → h21_0 151 32 = p21_1 → Mw h21_0 → Fc h h21_0 (h21_0 151 32) (-1) x1 → 1 ≤ h21_0 151 32 → p11_0 < h21_0 151 32 → h21_0 151 27 = mwf h (h21_0 177 p11_0) (mst h W (h21_0 177 p11_0)) p21_0.toNat → p21_0 ≤ h 167 (h21_0 177 p11_0) → 7 - p21_0 ≤ (n : Int) → wp l rho (d + 1) 179 21 [(2, 151), (0, x1), (0, p11_0), (0, p21_0)] [] h21_0 Q := by
        intro n
        induction n with
        | zero => intro p21_0 p21_1 h21_0 gh_21_0 q0_21_0 q1_21_0 q2_21_0 q3_21_0 q4_21_0 q5_21_0 c151_32_21_0 n_Mw_21_0 fc_21_0 c1_21_0 lk_21_0 wp_21_0 lp_21_0 hm_21_0; exfalso; omega
        | succ n ih_21_0 =>
          intro p21_0 p21_1 h21_0 gh_21_0 q0_21_0 q1_21_0 q2_21_0 q3_21_0 q4_21_0 q5_21_0 c151_32_21_0 n_Mw_21_0 fc_21_0 c1_21_0 lk_21_0 wp_21_0 lp_21_0 hm_21_0
          have qr := fc_21_0.2.2.2.2.2 p11_0 (by omega) lk_21_0
          have qm := Fc_mok hW h6 hfp.1 fc_21_0 (by omega : 0 ≤ p11_0) lk_21_0
          have f167 : ∀ j : Int, h21_0 167 j = h 167 j := fun j => my_fr.at gh_21_0 is_167 rfl
          refine w_iload_n gz_179_21 rfl ?_
          refine w_aload_n gz_179_22 rfl ?_
          refine w_getX (v := 167) gz_179_23 is_151 rd_10 rfl (by decide) rfl ?_
          refine w_aload_n gz_179_26 rfl ?_
          refine w_getX (v := 177) gz_179_27 is_151 rd_10 rfl (by decide) rfl ?_
          refine w_iload_n gz_179_30 rfl ?_
          refine w_iald gz_179_31 is_177 rd_76 (by omega) (by omega) (fun v3 ev3 pv3 qv3 => ?_)
          have e32 : v3 = h21_0 177 p11_0 := by omega
          have f32 := f167 v3
          refine w_iald gz_179_32 is_167 rd_66 (by omega) (by omega) (fun v4 ev4 pv4 qv4 => ?_)
          have e33 : v4 = h 167 (h21_0 177 p11_0) := by rw [← e32]; omega
          refine w_icge (t := 57) gz_179_33 rfl (fun u5 => ?_) (fun u5 => ?_)
          ·
            have e57 : h 167 (h21_0 177 p11_0) = p21_0 := by omega
            refine w_iinc (ls' := [(2, 151), (0, x1), (0, (p11_0 + 1)), (0, p21_0)]) gz_179_57 rfl gm_179 rfl rfl rfl ⟨by omega, by omega⟩ ?_
            refine w_goto (t := 11) gz_179_60 rfl ?_
            have ca : ∀ j : Int, h21_0 177 j = h21_0 177 j := fun _ => rfl
            have ce6 : h21_0 151 32 = p21_1 := c151_32_21_0
            refine w_weak (ls' := [(2, 151), (0, x1), (0, (p11_0 + 1)), (9, 0)]) (wk_e (wk_e (wk_e (wk_9 wk_n)))) ?_
            exact ih_11_0 ((p11_0 + 1)) h21_0 (gh_21_0) (by omega) (by omega) n_Mw_21_0 (by first | exact Fc_cg ca (by omega) fc_21_0 | exact Fc_cg ca (by omega) fc_11_0 | exact fc_11_0 | (rw [show h21_0 151 32 = _ by omega]; exact Fc_cg ca (by omega) fc0)) (by first | assumption | omega | (subst_vars; omega)) (by first | assumption | omega | (subst_vars; omega)) (by first | (rw [if_pos (by omega), ca, Fc_first (W := W) fc0 (by omega)]; omega) | (by_cases q : (p11_0 + 1) < h21_0 151 32; (rw [if_pos q, ca, Fc_next hW fc_21_0 (by omega) (by omega), e57]; exact wp_21_0); (rw [if_neg q]; have q2 := Fc_last fc_21_0 (by omega); rw [show h21_0 151 32 - 1 = p11_0 by omega] at q2; rw [← q2, e57]; exact wp_21_0))) (by omega)
          ·
            refine w_aload_n gz_179_36 rfl ?_
            refine w_bipush gz_179_37 (by decide) ?_
            refine w_aload_n gz_179_39 rfl ?_
            refine w_getX (v := 177) gz_179_40 is_151 rd_10 rfl (by decide) rfl ?_
            refine w_iload_n gz_179_43 rfl ?_
            refine w_iald gz_179_44 is_177 rd_76 (by omega) (by omega) (fun v8 ev8 pv8 qv8 => ?_)
            have zv8 := ev8.trans ev3.symm
            refine w_imul gz_179_45 ⟨by omega, by omega⟩ ?_
            refine w_iload_n gz_179_46 rfl ?_
            refine w_iadd gz_179_47 ⟨by omega, by omega⟩ ?_
            have qa := mok_at qm (s := p21_0) (by omega) (by omega)
            have qs := mwf_at (h := h) (w := h21_0 177 p11_0) (c := mst h W (h21_0 177 p11_0)) (s := p21_0) (by omega)
            have f168 : ∀ j : Int, h21_0 168 j = h 168 j := fun j => my_fr.at gh_21_0 is_168 rfl
            have f170 : ∀ j : Int, h21_0 170 j = h 170 j := fun j => my_fr.at gh_21_0 is_170 rfl
            have f157 : ∀ j : Int, h21_0 157 j = h 157 j := fun j => my_fr.at gh_21_0 is_157 rfl
            have f171 : ∀ j : Int, h21_0 171 j = h 171 j := fun j => my_fr.at gh_21_0 is_171 rfl
            have ep : ((6 * v8) + p21_0) = 6 * h21_0 177 p11_0 + p21_0 := by omega
            refine w_inv (k := 1) (as := [(0, ((6 * v8) + p21_0))]) (r := []) (x := 151) (ls0 := [(2, 151), (0, ((6 * v8) + p21_0)), (9, 0)]) gz_179_48 gm_182 rfl is_151 rd_10 rfl rfl rfl rfl rfl (c_Model_pane (d := d) (x1 := ((6 * v8) + p21_0)) (by omega) (by omega) (by rw [ep, f168, f170, f157]; intro q; have := qa.1 q; omega) (fun h9 frh9 xp10 => ?_))
            have gh9 : my_fr [(10, 27), (10, 32), (10, 33), (73, -1), (74, -1), (75, -1), (76, -1), (77, -1), (78, -1), (79, -1)] h h9 := my_fr.tr gh_21_0 (frh9.mo rfl)
            have Mw_h9 : Mw h9 := Mw_ag (my_ag.fr frh9 rfl) n_Mw_21_0
            show wp l rho (d + 1) 179 51 [(2, 151), (0, x1), (0, p11_0), (0, p21_0)] [] h9 Q
            refine w_iinc (ls' := [(2, 151), (0, x1), (0, p11_0), (0, (p21_0 + 1))]) gz_179_51 rfl gm_179 rfl rfl rfl ⟨by omega, by omega⟩ ?_
            refine w_goto (t := 21) gz_179_54 rfl ?_
            have ca : ∀ j : Int, h9 177 j = h21_0 177 j := fun j => ((my_fr.at frh9 is_177 rfl).trans (rfl : h21_0 177 j = h21_0 177 j))
            have ce11 : h9 151 32 = p21_1 := ((my_fr.at frh9 is_151 rfl).trans c151_32_21_0)
            have ce12 : h9 151 33 = h21_0 151 33 := ((my_fr.at frh9 is_151 rfl).trans (rfl : h21_0 151 33 = h21_0 151 33))
            exact ih_21_0 ((p21_0 + 1)) (p21_1) h9 (gh9) (by omega) (by omega) (by omega) (by omega) (by omega) (by omega) (((my_fr.at frh9 is_151 rfl).trans c151_32_21_0).trans (by omega)) Mw_h9 (by first | exact Fc_cg ca (by omega) fc_21_0 | exact Fc_cg ca (by omega) fc_11_0 | exact fc_11_0 | (rw [show h9 151 32 = _ by omega]; exact Fc_cg ca (by omega) fc0)) (by first | assumption | omega | (subst_vars; omega)) (by first | assumption | omega | (subst_vars; omega)) (by first | (rw [qs]; omega) | (rw [ca]; have q := wk_11_0; rw [if_pos (by omega)] at q; exact q) | (have q := wk_11_0; rw [if_pos (by omega)] at q; exact q)) (by omega) (by omega)
      refine w_iload_n gz_179_11 rfl ?_
      refine w_aload_n gz_179_12 rfl ?_
      refine v_getI (j := 32) gz_179_13 rfl is_151 rd_10 rfl (fun v13 ev13 pv13 qv13 => ?_)
      refine w_icge (t := 63) gz_179_16 rfl (fun u14 => ?_) (fun u14 => ?_)
      ·
        exact w_vret gz_179_63 gm_179 (k0 h11_0 (gh_11_0) (by first | assumption | omega | (subst_vars; omega)) (by first | assumption | omega | (subst_vars; omega)) (by first | assumption | omega | (subst_vars; omega)))
      ·
        refine w_iconst gz_179_19 (by decide) ?_
        refine w_istore_n (ls' := [(2, 151), (0, x1), (0, p11_0), (0, 0)]) gz_179_20 gm_179 rfl rfl rfl ?_
        have ca : ∀ j : Int, h11_0 177 j = h11_0 177 j := fun _ => rfl
        have ce15 : h11_0 151 32 = v13 := ev13.symm
        exact J21_0 7 (0) (v13) h11_0 (gh_11_0) (by omega) (by omega) (by omega) (by omega) (by omega) (by omega) (ev13.symm.trans (by omega)) n_Mw_11_0 (by first | exact Fc_cg ca (by omega) fc_21_0 | exact Fc_cg ca (by omega) fc_11_0 | exact fc_11_0 | (rw [show h11_0 151 32 = _ by omega]; exact Fc_cg ca (by omega) fc0)) (by first | assumption | omega | (subst_vars; omega)) (by first | assumption | omega | (subst_vars; omega)) (by first | (rw [qs]; omega) | (rw [ca]; have q := wk_11_0; rw [if_pos (by omega)] at q; exact q) | (have q := wk_11_0; rw [if_pos (by omega)] at q; exact q)) (by omega) (by omega)
  refine w_aload_n gz_179_0 rfl ?_
  refine w_iload_n gz_179_1 rfl ?_
  refine w_inv (k := 2) (as := [(0, x1)]) (r := []) (x := 151) (ls0 := [(2, 151), (0, x1), (9, 0), (9, 0)]) gz_179_2 gm_180 rfl is_151 rd_10 rfl rfl rfl rfl rfl (c_Model_findChain (d := d) (x1 := x1) (by omega) (by omega) n_Mw (by first | assumption | omega | (subst_vars; omega)) (fun h16 frh16 xp17 xp18 xp19 => ?_))
  have gh16 : my_fr [(10, 27), (10, 32), (10, 33), (73, -1), (74, -1), (75, -1), (76, -1), (77, -1), (78, -1), (79, -1)] h h16 := my_fr.tr my_fr.rf (frh16.mo rfl)
  have Mw_h16 : Mw h16 := Mw_ag (my_ag.fr frh16 rfl) n_Mw
  show wp l rho (d + 1) 179 5 [(2, 151), (0, x1), (9, 0), (9, 0)] [] h16 Q
  have fc0 := xp17
  have fc1 := xp18
  have fc2 := xp19
  refine w_aload_n gz_179_5 rfl ?_
  refine w_inv (k := 1) (as := []) (r := []) (x := 151) (ls0 := [(2, 151), (9, 0)]) gz_179_6 gm_181 rfl is_151 rd_10 rfl rfl rfl rfl rfl (c_Model_beginsColumns2 (d := d)   (fun h20 frh20 w21 w22 xp23 => ?_))
  have gh20 : my_fr [(10, 27), (10, 32), (10, 33), (73, -1), (74, -1), (75, -1), (76, -1), (77, -1), (78, -1), (79, -1)] h h20 := my_fr.tr gh16 (frh20.mo rfl)
  have Mw_h20 : Mw h20 := Mw_ag (my_ag.fr frh20 rfl) Mw_h16
  show wp l rho (d + 1) 179 9 [(2, 151), (0, x1), (9, 0), (9, 0)] [] h20 Q
  refine w_iconst gz_179_9 (by decide) ?_
  refine w_istore_n (ls' := [(2, 151), (0, x1), (0, 0), (9, 0)]) gz_179_10 gm_179 rfl rfl rfl ?_
  have ca : ∀ j : Int, h20 177 j = h16 177 j := fun j => ((my_fr.at frh20 is_177 rfl).trans (rfl : h16 177 j = h16 177 j))
  have ce24 : h20 151 32 = h16 151 32 := ((my_fr.at frh20 is_151 rfl).trans (rfl : h16 151 32 = h16 151 32))
  have ce25 : h20 151 33 = h16 151 33 := ((my_fr.at frh20 is_151 rfl).trans (rfl : h16 151 33 = h16 151 33))
  have ce26 : h20 151 27 = (h20 151 27) := (rfl : h20 151 27 = h20 151 27)
  exact J11_0 7 (0) h20 (gh20) (by omega) (by omega) Mw_h20 (by first | exact Fc_cg ca (by omega) fc_21_0 | exact Fc_cg ca (by omega) fc_11_0 | exact fc_11_0 | (rw [show h20 151 32 = _ by omega]; exact Fc_cg ca (by omega) fc0)) (by first | assumption | omega | (subst_vars; omega)) (by first | assumption | omega | (subst_vars; omega)) (by first | (rw [if_pos (by omega), ca, Fc_first (W := W) fc0 (by omega)]; omega) | (by_cases q : 0 < h20 151 32; (rw [if_pos q, ca, Fc_next hW fc_21_0 (by omega) (by omega), e57]; exact wp_21_0); (rw [if_neg q]; have q2 := Fc_last fc_21_0 (by omega); rw [show h20 151 32 - 1 = p11_0 by omega] at q2; rw [← q2, e57]; exact wp_21_0))) (by omega)
theorem c_Model_sortShown {l : Launch} {rho : Nat → Int32} {d : Nat} {h : my_H} {Q : my_H → my_V → Prop} (k0 : ∀ (h' : my_H), my_fr [(80, -1), (81, -1), (82, -1)] h h' → Q h' (9, 0)) : wp l rho (d + 1) 199 0 [(2, 151), (9, 0), (9, 0)] [] h Q := by
  have J2_0 : ∀ (n : Nat) (p2_0 : Int) (h2_0 : my_H), my_fr [(80, -1), (81, -1), (82, -1)] h h2_0 → 0 ≤ p2_0 → p2_0 ≤ 10 → 11 - p2_0 ≤ (n : Int) → wp l rho (d + 1) 199 2 [(2, 151), (0, p2_0), (9, 0)] [] h2_0 Q := by
    intro n
    induction n with
    | zero => intro p2_0 h2_0 gh_2_0 q0_2_0 q1_2_0 hm_2_0; exfalso; omega
    | succ n ih_2_0 =>
      intro p2_0 h2_0 gh_2_0 q0_2_0 q1_2_0 hm_2_0
      have J14_0 : ∀ (n : Nat) (p14_0 p14_1 : Int) (h14_0 : my_H), my_fr [(80, -1), (81, -1), (82, -1)] h h14_0 → p2_0 ≤ 9 → 1 ≤ p14_0 → p14_0 ≤ 10 → 1 ≤ p14_1 → p14_1 ≤ 10 → p14_0 ≤ p14_1 → p2_0 ≤ (p14_0 - 1) → p2_0 ≤ (p14_1 - 1) → h14_0 151 37 = p14_1 → 11 - p14_0 ≤ (n : Int) → wp l rho (d + 1) 199 14 [(2, 151), (0, p2_0), (0, p14_0)] [] h14_0 Q := by
        intro n
        induction n with
        | zero => intro p14_0 p14_1 h14_0 gh_14_0 q0_14_0 q1_14_0 q2_14_0 q3_14_0 q4_14_0 q5_14_0 q6_14_0 q7_14_0 c151_37_14_0 hm_14_0; exfalso; omega
        | succ n ih_14_0 =>
          intro p14_0 p14_1 h14_0 gh_14_0 q0_14_0 q1_14_0 q2_14_0 q3_14_0 q4_14_0 q5_14_0 q6_14_0 q7_14_0 c151_37_14_0 hm_14_0
          have J37_0 : ∀ (h37_0 : my_H), my_fr [(80, -1), (81, -1), (82, -1)] h h37_0 → p2_0 ≤ 8 → p14_0 ≤ 9 → 2 ≤ p14_1 → p2_0 ≤ (p14_0 - 1) → p2_0 ≤ (p14_1 - 2) → p14_0 ≤ (p14_1 - 1) → h37_0 151 37 = p14_1 → wp l rho (d + 1) 199 37 [(2, 151), (0, p2_0), (0, p14_0)] [] h37_0 Q := by
            intro h37_0 gh_37_0 q0_37_0 q1_37_0 q2_37_0 q3_37_0 q4_37_0 q5_37_0 c151_37_37_0
            refine w_iinc (ls' := [(2, 151), (0, p2_0), (0, (p14_0 + 1))]) gz_199_37 rfl gm_199 rfl rfl rfl ⟨by omega, by omega⟩ ?_
            refine w_goto (t := 14) gz_199_40 rfl ?_
            exact ih_14_0 ((p14_0 + 1)) (p14_1) h37_0 (gh_37_0) (by omega) (by omega) (by omega) (by omega) (by omega) (by omega) (by omega) (by omega) (c151_37_37_0.trans (by omega)) (by omega)
          refine w_iload_n gz_199_14 rfl ?_
          refine w_aload_n gz_199_15 rfl ?_
          refine v_getI (j := 37) gz_199_16 rfl is_151 rd_10 rfl (fun v1 ev1 pv1 qv1 => ?_)
          have zv1 := ev1.trans c151_37_14_0
          refine w_icge (t := 43) gz_199_19 rfl (fun u2 => ?_) (fun u2 => ?_)
          ·
            refine w_iinc (ls' := [(2, 151), (0, (p2_0 + 1)), (0, p14_0)]) gz_199_43 rfl gm_199 rfl rfl rfl ⟨by omega, by omega⟩ ?_
            refine w_goto (t := 2) gz_199_46 rfl ?_
            refine w_weak (ls' := [(2, 151), (0, (p2_0 + 1)), (9, 0)]) (wk_e (wk_e (wk_9 wk_n))) ?_
            exact ih_2_0 ((p2_0 + 1)) h14_0 (gh_14_0) (by omega) (by omega) (by omega)
          ·
            refine w_aload_n gz_199_22 rfl ?_
            refine w_iload_n gz_199_23 rfl ?_
            refine w_iload_n gz_199_24 rfl ?_
            refine w_inv (k := 1) (as := [(0, p2_0), (0, p14_0)]) (r := []) (x := 151) (ls0 := [(2, 151), (0, p14_0), (0, p2_0), (9, 0)]) gz_199_25 gm_200 rfl is_151 rd_10 rfl rfl rfl rfl rfl (c_Model_isBefore (d := d) (x1 := p14_0) (x2 := p2_0) (by omega) (by omega) (by omega) (by omega) ?_ ?_)
            ·
              show wp l rho (d + 1) 199 28 [(2, 151), (0, p2_0), (0, p14_0)] [(0, 0)] h14_0 Q
              refine w_ifeq (t := 37) gz_199_28 rfl (fun u3 => ?_) (fun u3 => by exfalso; omega)
              exact J37_0 h14_0 (gh_14_0) (by omega) (by omega) (by omega) (by omega) (by omega) (by omega) (ev1.symm.trans (by omega))
            ·
              show wp l rho (d + 1) 199 28 [(2, 151), (0, p2_0), (0, p14_0)] [(0, 1)] h14_0 Q
              refine w_ifeq (t := 37) gz_199_28 rfl (fun u4 => by exfalso; omega) (fun u4 => ?_)
              refine w_aload_n gz_199_31 rfl ?_
              refine w_iload_n gz_199_32 rfl ?_
              refine w_iload_n gz_199_33 rfl ?_
              refine w_inv (k := 4) (as := [(0, p14_0), (0, p2_0)]) (r := []) (x := 151) (ls0 := [(2, 151), (0, p2_0), (0, p14_0), (9, 0), (9, 0), (9, 0), (9, 0)]) gz_199_34 gm_201 rfl is_151 rd_10 rfl rfl rfl rfl rfl (c_Model_swaps (d := d) (x1 := p2_0) (x2 := p14_0) (by omega) (by omega) (by omega) (by omega) (fun h5 frh5 => ?_))
              have gh5 : my_fr [(80, -1), (81, -1), (82, -1)] h h5 := my_fr.tr gh_14_0 (frh5.mo rfl)
              show wp l rho (d + 1) 199 37 [(2, 151), (0, p2_0), (0, p14_0)] [] h5 Q
              exact J37_0 h5 (gh5) (by omega) (by omega) (by omega) (by omega) (by omega) (by omega) (((my_fr.at frh5 is_151 rfl).trans ev1.symm).trans (by omega))
      refine w_iload_n gz_199_2 rfl ?_
      refine w_aload_n gz_199_3 rfl ?_
      refine v_getI (j := 37) gz_199_4 rfl is_151 rd_10 rfl (fun v6 ev6 pv6 qv6 => ?_)
      refine w_icge (t := 49) gz_199_7 rfl (fun u7 => ?_) (fun u7 => ?_)
      ·
        exact w_vret gz_199_49 gm_199 (k0 h2_0 (gh_2_0))
      ·
        refine w_iload_n gz_199_10 rfl ?_
        refine w_iconst gz_199_11 (by decide) ?_
        refine w_iadd gz_199_12 ⟨by omega, by omega⟩ ?_
        refine w_istore_n (ls' := [(2, 151), (0, p2_0), (0, (p2_0 + 1))]) gz_199_13 gm_199 rfl rfl rfl ?_
        exact J14_0 10 ((p2_0 + 1)) (v6) h2_0 (gh_2_0) (by omega) (by omega) (by omega) (by omega) (by omega) (by omega) (by omega) (by omega) (ev6.symm.trans (by omega)) (by omega)
  refine w_iconst gz_199_0 (by decide) ?_
  refine w_istore_n (ls' := [(2, 151), (0, 0), (9, 0)]) gz_199_1 gm_199 rfl rfl rfl ?_
  exact J2_0 11 (0) h (my_fr.rf) (by omega) (by omega) (by omega)
theorem c_Reader_takeWord_f0 {l : Launch} {rho : Nat → Int32} {d : Nat} {h : my_H} {Q : my_H → my_V → Prop} {x1 : Int} (s1 : 1 ≤ x1 ∧ x1 ≤ 12) (cf : h 82 9 = 0) (k0 : ∀ (h' : my_H), my_fr [(5, 5), (5, 6), (5, 7), (5, 8), (5, 9)] h h' → 1 ≤ h' 82 9 → h' 82 9 ≤ 16001 → Q h' (0, 0)) (k1 : ∀ (h' : my_H), my_fr [(5, 5), (5, 6), (5, 7), (5, 8), (5, 9)] h h' → h' 82 9 = 0 → Q h' (0, 1)) : wp l rho (d + 2) 40 0 [(2, 82), (3, x1)] [] h Q := by
  refine w_aload_n gz_40_0 rfl ?_
  refine w_aload3_n gz_40_1 rfl ?_
  refine w_inv (k := 1) (as := [(3, x1)]) (r := []) (x := 82) (ls0 := [(2, 82), (3, x1), (9, 0)]) gz_40_2 gm_41 rfl is_82 rd_5 rfl rfl rfl rfl rfl (c_Reader_isWord_f0 (d := (d + 1)) (x1 := x1) s1 (cf.trans (by omega)) (fun w1 => ?_) (fun w2 w3 => ?_))
  ·
    show wp l rho (d + 2) 40 5 [(2, 82), (3, x1)] [(0, 0)] h Q
    refine w_ifne (t := 15) gz_40_5 rfl (fun u4 => by exfalso; omega) (fun u4 => ?_)
    refine w_aload_n gz_40_8 rfl ?_
    refine w_iconst gz_40_9 (by decide) ?_
    refine w_inv (k := 0) (as := [(0, 1)]) (r := []) (x := 82) (ls0 := [(2, 82), (0, 1)]) gz_40_10 gm_42 rfl is_82 rd_5 rfl rfl rfl rfl rfl ?_
    refine w_aload_n gz_42_0 rfl ?_
    refine v_getI (j := 9) gz_42_1 rfl is_82 rd_5 rfl (fun v5 ev5 pv5 qv5 => ?_)
    have zv5 := ev5.trans cf
    refine w_ifne (t := 20) gz_42_4 rfl (fun u6 => by exfalso; omega) (fun u6 => ?_)
    refine w_aload_n gz_42_7 rfl ?_
    refine w_iload_n gz_42_8 rfl ?_
    refine w_bipush gz_42_9 (by decide) ?_
    refine w_aload_n gz_42_11 rfl ?_
    refine v_getI (j := 7) gz_42_12 rfl is_82 rd_5 rfl (fun v7 ev7 pv7 qv7 => ?_)
    refine w_imul gz_42_15 ⟨by omega, by omega⟩ ?_
    refine w_iadd gz_42_16 ⟨by omega, by omega⟩ ?_
    refine v_putI (j := 9) gz_42_17 rfl is_82 rd_5 rfl (by omega) (by omega) rfl (fun h8 fh8 => ?_)
    have gh8 : my_fr [(5, 5), (5, 6), (5, 7), (5, 8), (5, 9)] h h8 := my_fr.up my_fr.rf is_82 fh8 rfl
    refine w_vret gz_42_20 gm_42 ?_
    show wp l rho (d + 2) 40 13 [(2, 82), (3, x1)] [] h8 Q
    refine w_iconst gz_40_13 (by decide) ?_
    have c9 := (my_up_self fh8)
    exact w_bret gz_40_14 gm_40 (by omega) (by omega) (k0 h8 (gh8) (by omega) (by omega))
  ·
    show wp l rho (d + 2) 40 5 [(2, 82), (3, x1)] [(0, 1)] h Q
    refine w_ifne (t := 15) gz_40_5 rfl (fun u10 => ?_) (fun u10 => by exfalso; omega)
    refine w_aload_n gz_40_15 rfl ?_
    refine w_inv (k := 2) (as := []) (r := []) (x := 82) (ls0 := [(2, 82), (9, 0), (9, 0)]) gz_40_16 gm_37 rfl is_82 rd_5 rfl rfl rfl rfl rfl (c_Reader_nextToken_f0 (d := d)  (cf.trans (by omega)) (fun h11 frh11 w12 w13 w14 => ?_))
    have gh11 : my_fr [(5, 5), (5, 6), (5, 7), (5, 8), (5, 9)] h h11 := my_fr.tr my_fr.rf (frh11.mo rfl)
    show wp l rho (d + 2) 40 19 [(2, 82), (3, x1)] [] h11 Q
    refine w_iconst gz_40_19 (by decide) ?_
    have c15 := ((my_fr.at frh11 is_82 rfl).trans cf)
    exact w_bret gz_40_20 gm_40 (by omega) (by omega) (k1 h11 (gh11) (by omega))
theorem c_Reader_endPart_f0 {l : Launch} {rho : Nat → Int32} {d : Nat} {h : my_H} {Q : my_H → my_V → Prop} (cf : h 82 9 = 0) (k0 : ∀ (h' : my_H), my_fr [(5, 5), (5, 6), (5, 7), (5, 8), (5, 9)] h h' → 1 ≤ h' 82 9 → h' 82 9 ≤ 16001 → Q h' (9, 0)) (k1 : ∀ (h' : my_H), my_fr [(5, 5), (5, 6), (5, 7), (5, 8), (5, 9)] h h' → h' 82 9 = 0 → Q h' (9, 0)) : wp l rho (d + 3) 46 0 [(2, 82)] [] h Q := by
  refine w_aload_n gz_46_0 rfl ?_
  refine w_inv (k := 2) (as := []) (r := []) (x := 82) (ls0 := [(2, 82), (9, 0), (9, 0)]) gz_46_1 gm_37 rfl is_82 rd_5 rfl rfl rfl rfl rfl (c_Reader_nextToken_f0 (d := (d + 1))  (cf.trans (by omega)) (fun h1 frh1 w2 w3 w4 => ?_))
  have gh1 : my_fr [(5, 5), (5, 6), (5, 7), (5, 8), (5, 9)] h h1 := my_fr.tr my_fr.rf (frh1.mo rfl)
  show wp l rho (d + 3) 46 4 [(2, 82)] [] h1 Q
  refine w_aload_n gz_46_4 rfl ?_
  refine w_inv (k := 0) (as := []) (r := []) (x := 82) (ls0 := [(2, 82)]) gz_46_5 gm_47 rfl is_82 rd_5 rfl rfl rfl rfl rfl (c_Reader_endsHere_f0 (d := d)  (((my_fr.at frh1 is_82 rfl).trans cf).trans (by omega)) (fun h5 frh5 w6 w7 => ?_) (fun h8 frh8 w9 => ?_))
  ·
    have gh5 : my_fr [(5, 5), (5, 6), (5, 7), (5, 8), (5, 9)] h h5 := my_fr.tr gh1 (frh5.mo rfl)
    show wp l rho (d + 3) 46 8 [(2, 82)] [(0, 0)] h5 Q
    refine w_pop gz_46_8 rfl ?_
    have c10 := (rfl : h5 82 9 = h5 82 9)
    exact w_vret gz_46_9 gm_46 (k0 h5 (gh5) (by omega) (by omega))
  ·
    have gh8 : my_fr [(5, 5), (5, 6), (5, 7), (5, 8), (5, 9)] h h8 := my_fr.tr gh1 (frh8.mo rfl)
    show wp l rho (d + 3) 46 8 [(2, 82)] [(0, 1)] h8 Q
    refine w_pop gz_46_8 rfl ?_
    have c11 := w9
    exact w_vret gz_46_9 gm_46 (k1 h8 (gh8) (by omega))
theorem c_Reader_readFill_f0 {l : Launch} {rho : Nat → Int32} {d : Nat} {h : my_H} {Q : my_H → my_V → Prop} (cf : h 82 9 = 0) (k0 : ∀ (h' : my_H), my_fr [(5, 5), (5, 6), (5, 7), (5, 8), (5, 9), (38, -1)] h h' → 1 ≤ h' 82 9 → h' 82 9 ≤ 16004 → Q h' (9, 0)) (k1 : ∀ (h' : my_H), my_fr [(5, 5), (5, 6), (5, 7), (5, 8), (5, 9), (38, -1)] h h' → h' 82 9 = 0 → Q h' (9, 0)) : wp l rho (d + 3) 50 0 [(2, 82), (9, 0), (9, 0)] [] h Q := by
  refine w_aload_n gz_50_0 rfl ?_
  refine w_aload_n gz_50_1 rfl ?_
  refine v_getR (j := 2) gz_50_2 rfl is_82 rd_5 rfl (fun v1 ev1 tv1 => ?_)
  refine v_getI (j := 3) gz_50_5 rfl tv1 rd_4 rfl (fun v2 ev2 pv2 qv2 => ?_)
  refine w_inv (k := 1) (as := [(0, v2)]) (r := []) (x := 82) (ls0 := [(2, 82), (0, v2), (9, 0)]) gz_50_8 gm_51 rfl is_82 rd_5 rfl rfl rfl rfl rfl (c_Reader_takeNumber_f0 (d := d) (x1 := v2) (by omega) (by omega) (cf.trans (by omega)) (fun h3 frh3 w4 w5 => ?_) (fun h6 v7 frh6 w8 w9 w10 w11 w12 => ?_))
  ·
    have gh3 : my_fr [(5, 5), (5, 6), (5, 7), (5, 8), (5, 9), (38, -1)] h h3 := my_fr.tr my_fr.rf (frh3.mo rfl)
    show wp l rho (d + 3) 50 11 [(2, 82), (9, 0), (9, 0)] [(0, (-1))] h3 Q
    refine w_istore_n (ls' := [(2, 82), (0, (-1)), (9, 0)]) gz_50_11 gm_50 rfl rfl rfl ?_
    refine w_aload_n gz_50_12 rfl ?_
    refine w_bipush gz_50_13 (by decide) ?_
    refine w_inv (k := 1) (as := [(0, 20)]) (r := []) (x := 82) (ls0 := [(2, 82), (0, 20), (9, 0)]) gz_50_15 gm_51 rfl is_82 rd_5 rfl rfl rfl rfl rfl (c_Reader_takeNumber_f1 (d := d) (x1 := 20) (by omega) (by omega) ((h3 82 9)) ((rfl : h3 82 9 = h3 82 9)) (by omega) (by omega) (fun w13 w14 => ?_))
    show wp l rho (d + 3) 50 18 [(2, 82), (0, (-1)), (9, 0)] [(0, (-1))] h3 Q
    refine w_istore_n (ls' := [(2, 82), (0, (-1)), (0, (-1))]) gz_50_18 gm_50 rfl rfl rfl ?_
    refine w_aload_n gz_50_19 rfl ?_
    refine v_getI (j := 9) gz_50_20 rfl is_82 rd_5 rfl (fun v15 ev15 pv15 qv15 => ?_)
    have zv15 := ev15.trans (rfl : h3 82 9 = h3 82 9)
    refine w_ifne (t := 43) gz_50_23 rfl (fun u16 => ?_) (fun u16 => by exfalso; omega)
    have c17 := ev15.symm
    exact w_vret gz_50_43 gm_50 (k0 h3 (gh3) (by omega) (by omega))
  ·
    have gh6 : my_fr [(5, 5), (5, 6), (5, 7), (5, 8), (5, 9), (38, -1)] h h6 := my_fr.tr my_fr.rf (frh6.mo rfl)
    show wp l rho (d + 3) 50 11 [(2, 82), (9, 0), (9, 0)] [(0, v7)] h6 Q
    refine w_istore_n (ls' := [(2, 82), (0, v7), (9, 0)]) gz_50_11 gm_50 rfl rfl rfl ?_
    refine w_aload_n gz_50_12 rfl ?_
    refine w_bipush gz_50_13 (by decide) ?_
    refine w_inv (k := 1) (as := [(0, 20)]) (r := []) (x := 82) (ls0 := [(2, 82), (0, 20), (9, 0)]) gz_50_15 gm_51 rfl is_82 rd_5 rfl rfl rfl rfl rfl (c_Reader_takeNumber_f0 (d := d) (x1 := 20) (by omega) (by omega) (w12.trans (by omega)) (fun h18 frh18 w19 w20 => ?_) (fun h21 v22 frh21 w23 w24 w25 w26 w27 => ?_))
    ·
      have gh18 : my_fr [(5, 5), (5, 6), (5, 7), (5, 8), (5, 9), (38, -1)] h h18 := my_fr.tr gh6 (frh18.mo rfl)
      show wp l rho (d + 3) 50 18 [(2, 82), (0, v7), (9, 0)] [(0, (-1))] h18 Q
      refine w_istore_n (ls' := [(2, 82), (0, v7), (0, (-1))]) gz_50_18 gm_50 rfl rfl rfl ?_
      refine w_aload_n gz_50_19 rfl ?_
      refine v_getI (j := 9) gz_50_20 rfl is_82 rd_5 rfl (fun v28 ev28 pv28 qv28 => ?_)
      have zv28 := ev28.trans (rfl : h18 82 9 = h18 82 9)
      refine w_ifne (t := 43) gz_50_23 rfl (fun u29 => ?_) (fun u29 => by exfalso; omega)
      have c30 := ev28.symm
      exact w_vret gz_50_43 gm_50 (k0 h18 (gh18) (by omega) (by omega))
    ·
      have gh21 : my_fr [(5, 5), (5, 6), (5, 7), (5, 8), (5, 9), (38, -1)] h h21 := my_fr.tr gh6 (frh21.mo rfl)
      show wp l rho (d + 3) 50 18 [(2, 82), (0, v7), (9, 0)] [(0, v22)] h21 Q
      refine w_istore_n (ls' := [(2, 82), (0, v7), (0, v22)]) gz_50_18 gm_50 rfl rfl rfl ?_
      refine w_aload_n gz_50_19 rfl ?_
      refine v_getI (j := 9) gz_50_20 rfl is_82 rd_5 rfl (fun v31 ev31 pv31 qv31 => ?_)
      have zv31 := ev31.trans w27
      refine w_ifne (t := 43) gz_50_23 rfl (fun u32 => by exfalso; omega) (fun u32 => ?_)
      refine w_aload_n gz_50_26 rfl ?_
      refine w_inv (k := 0) (as := []) (r := []) (x := 82) (ls0 := [(2, 82)]) gz_50_27 gm_47 rfl is_82 rd_5 rfl rfl rfl rfl rfl (c_Reader_endsHere_f0 (d := d)  (ev31.symm.trans (by omega)) (fun h33 frh33 w34 w35 => ?_) (fun h36 frh36 w37 => ?_))
      ·
        have gh33 : my_fr [(5, 5), (5, 6), (5, 7), (5, 8), (5, 9), (38, -1)] h h33 := my_fr.tr gh21 (frh33.mo rfl)
        show wp l rho (d + 3) 50 30 [(2, 82), (0, v7), (0, v22)] [(0, 0)] h33 Q
        refine w_ifeq (t := 43) gz_50_30 rfl (fun u38 => ?_) (fun u38 => by exfalso; omega)
        have c39 := (rfl : h33 82 9 = h33 82 9)
        exact w_vret gz_50_43 gm_50 (k0 h33 (gh33) (by omega) (by omega))
      ·
        have gh36 : my_fr [(5, 5), (5, 6), (5, 7), (5, 8), (5, 9), (38, -1)] h h36 := my_fr.tr gh21 (frh36.mo rfl)
        show wp l rho (d + 3) 50 30 [(2, 82), (0, v7), (0, v22)] [(0, 1)] h36 Q
        refine w_ifeq (t := 43) gz_50_30 rfl (fun u40 => by exfalso; omega) (fun u40 => ?_)
        refine w_aload_n gz_50_33 rfl ?_
        refine v_getR (j := 2) gz_50_34 rfl is_82 rd_5 rfl (fun v41 ev41 tv41 => ?_)
        have zv41 : v1 = v41 := (ev41.trans ((my_fr.at frh36 is_82 rfl).trans ((my_fr.at frh21 is_82 rfl).trans ((my_fr.at frh6 is_82 rfl).trans ev1.symm)))).symm
        subst zv41
        refine w_getX (v := (v1 + 7)) gz_50_37 tv1 rd_4 rfl (by decide) rfl ?_
        refine w_iload_n gz_50_40 rfl ?_
        refine w_iload_n gz_50_41 rfl ?_
        refine w_iast gz_50_42 (ix_4_7 tv1) rd_38 (by omega) (by omega) (by omega) (by omega) (fun h43 fh43 => ?_)
        have gh43 : my_fr [(5, 5), (5, 6), (5, 7), (5, 8), (5, 9), (38, -1)] h h43 := my_fr.up gh36 (ix_4_7 tv1) fh43 rfl
        have c44 := ((my_up_role fh43 is_82 (ix_4_7 tv1) rfl).trans w37)
        exact w_vret gz_50_43 gm_50 (k1 h43 (gh43) (by omega))
theorem c_Reader_readCut_f0 {l : Launch} {rho : Nat → Int32} {d : Nat} {h : my_H} {Q : my_H → my_V → Prop} {wv : Int} (cf : h 82 9 = 0) (hwv : wv ≤ 5) (hwv0 : 0 ≤ wv) (n_Ln : Ln h) (n_Sp : Sp h wv) (n_St5 : St5 h) (k0 : ∀ (h' : my_H), my_fr [(4, 5), (4, 8), (4, 9), (5, 5), (5, 6), (5, 7), (5, 8), (5, 9), (32, -1), (33, -1), (34, -1), (35, -1)] h h' → 1 ≤ h' 82 9 → h' 82 9 ≤ 16004 → Ln h' → Sp h' wv → Q h' (9, 0)) (k1 : ∀ (h' : my_H), my_fr [(4, 5), (4, 8), (4, 9), (5, 5), (5, 6), (5, 7), (5, 8), (5, 9), (32, -1), (33, -1), (34, -1), (35, -1)] h h' → h' 82 9 = 0 → Ln h' → Sp h' wv → Q h' (9, 0)) : wp l rho (d + 3) 52 0 [(2, 82), (9, 0), (9, 0), (9, 0)] [] h Q := by
  refine w_aload_n gz_52_0 rfl ?_
  refine w_aload_n gz_52_1 rfl ?_
  refine v_getR (j := 2) gz_52_2 rfl is_82 rd_5 rfl (fun v1 ev1 tv1 => ?_)
  refine v_getI (j := 4) gz_52_5 rfl tv1 rd_4 rfl (fun v2 ev2 pv2 qv2 => ?_)
  refine w_inv (k := 1) (as := [(0, v2)]) (r := []) (x := 82) (ls0 := [(2, 82), (0, v2), (9, 0)]) gz_52_8 gm_51 rfl is_82 rd_5 rfl rfl rfl rfl rfl (c_Reader_takeNumber_f0 (d := d) (x1 := v2) (by omega) (by omega) (cf.trans (by omega)) (fun h3 frh3 w4 w5 => ?_) (fun h6 v7 frh6 w8 w9 w10 w11 w12 => ?_))
  ·
    have gh3 : my_fr [(4, 5), (4, 8), (4, 9), (5, 5), (5, 6), (5, 7), (5, 8), (5, 9), (32, -1), (33, -1), (34, -1), (35, -1)] h h3 := my_fr.tr my_fr.rf (frh3.mo rfl)
    have Ln_h3 : Ln h3 := Ln_ag (my_ag.fr frh3 rfl) n_Ln
    have Sp_h3 : Sp h3 wv := Sp_ag (my_ag.fr frh3 rfl) hwv n_Ln n_Sp
    have St5_h3 : St5 h3 := St5_ag (my_ag.fr frh3 rfl) n_Ln n_St5
    show wp l rho (d + 3) 52 11 [(2, 82), (9, 0), (9, 0), (9, 0)] [(0, (-1))] h3 Q
    refine w_istore_n (ls' := [(2, 82), (0, (-1)), (9, 0), (9, 0)]) gz_52_11 gm_52 rfl rfl rfl ?_
    refine w_aload_n gz_52_12 rfl ?_
    refine w_ldcS gz_52_13 (by decide) ?_
    refine w_inv (k := 1) (as := [(3, ((9 : Nat) : Int))]) (r := []) (x := 82) (ls0 := [(2, 82), (3, ((9 : Nat) : Int)), (9, 0)]) gz_52_15 gm_41 rfl is_82 rd_5 rfl rfl rfl rfl rfl (c_Reader_isWord_f1 (d := (d + 2)) (x1 := ((9 : Nat) : Int)) (by decide) ((h3 82 9)) ((rfl : h3 82 9 = h3 82 9)) (by omega) (by omega) (fun w13 w14 => ?_) (fun w15 w16 w17 => ?_))
    ·
      show wp l rho (d + 3) 52 18 [(2, 82), (0, (-1)), (9, 0), (9, 0)] [(0, 0)] h3 Q
      refine w_ifeq (t := 25) gz_52_18 rfl (fun u18 => ?_) (fun u18 => by exfalso; omega)
      refine w_aload_n gz_52_25 rfl ?_
      refine w_ldcS gz_52_26 (by decide) ?_
      refine w_inv (k := 1) (as := [(3, ((10 : Nat) : Int))]) (r := []) (x := 82) (ls0 := [(2, 82), (3, ((10 : Nat) : Int)), (9, 0)]) gz_52_28 gm_41 rfl is_82 rd_5 rfl rfl rfl rfl rfl (c_Reader_isWord_f1 (d := (d + 2)) (x1 := ((10 : Nat) : Int)) (by decide) ((h3 82 9)) ((rfl : h3 82 9 = h3 82 9)) (by omega) (by omega) (fun w19 w20 => ?_) (fun w21 w22 w23 => ?_))
      ·
        show wp l rho (d + 3) 52 31 [(2, 82), (0, (-1)), (9, 0), (9, 0)] [(0, 0)] h3 Q
        refine w_ifeq (t := 38) gz_52_31 rfl (fun u24 => ?_) (fun u24 => by exfalso; omega)
        refine w_aload_n gz_52_38 rfl ?_
        refine w_ldcS gz_52_39 (by decide) ?_
        refine w_inv (k := 1) (as := [(3, ((11 : Nat) : Int))]) (r := []) (x := 82) (ls0 := [(2, 82), (3, ((11 : Nat) : Int)), (9, 0)]) gz_52_41 gm_41 rfl is_82 rd_5 rfl rfl rfl rfl rfl (c_Reader_isWord_f1 (d := (d + 2)) (x1 := ((11 : Nat) : Int)) (by decide) ((h3 82 9)) ((rfl : h3 82 9 = h3 82 9)) (by omega) (by omega) (fun w25 w26 => ?_) (fun w27 w28 w29 => ?_))
        ·
          show wp l rho (d + 3) 52 44 [(2, 82), (0, (-1)), (9, 0), (9, 0)] [(0, 0)] h3 Q
          refine w_ifeq (t := 51) gz_52_44 rfl (fun u30 => ?_) (fun u30 => by exfalso; omega)
          refine w_iconst gz_52_51 (by decide) ?_
          refine w_istore_n (ls' := [(2, 82), (0, (-1)), (0, (-1)), (9, 0)]) gz_52_52 gm_52 rfl rfl rfl ?_
          refine w_iload_n gz_52_53 rfl ?_
          refine w_iconst gz_52_54 (by decide) ?_
          refine w_icne (t := 66) gz_52_55 rfl (fun u31 => by exfalso; omega) (fun u31 => ?_)
          refine w_aload_n gz_52_58 rfl ?_
          refine w_iconst gz_52_59 (by decide) ?_
          refine w_inv (k := 0) (as := [(0, 1)]) (r := []) (x := 82) (ls0 := [(2, 82), (0, 1)]) gz_52_60 gm_42 rfl is_82 rd_5 rfl rfl rfl rfl rfl ?_
          refine w_aload_n gz_42_0 rfl ?_
          refine v_getI (j := 9) gz_42_1 rfl is_82 rd_5 rfl (fun v32 ev32 pv32 qv32 => ?_)
          have zv32 := ev32.trans (rfl : h3 82 9 = h3 82 9)
          refine w_ifne (t := 20) gz_42_4 rfl (fun u33 => ?_) (fun u33 => by exfalso; omega)
          refine w_vret gz_42_20 gm_42 ?_
          show wp l rho (d + 3) 52 63 [(2, 82), (0, (-1)), (0, (-1)), (9, 0)] [] h3 Q
          refine w_goto (t := 70) gz_52_63 rfl ?_
          refine w_aload_n gz_52_70 rfl ?_
          refine w_sipush gz_52_71 (by decide) ?_
          refine w_inv (k := 1) (as := [(0, 200)]) (r := []) (x := 82) (ls0 := [(2, 82), (0, 200), (9, 0)]) gz_52_74 gm_51 rfl is_82 rd_5 rfl rfl rfl rfl rfl (c_Reader_takeNumber_f1 (d := d) (x1 := 200) (by omega) (by omega) (v32) (ev32.symm) (by omega) (by omega) (fun w34 w35 => ?_))
          show wp l rho (d + 3) 52 77 [(2, 82), (0, (-1)), (0, (-1)), (9, 0)] [(0, (-1))] h3 Q
          refine w_istore_n (ls' := [(2, 82), (0, (-1)), (0, (-1)), (0, (-1))]) gz_52_77 gm_52 rfl rfl rfl ?_
          refine w_aload_n gz_52_78 rfl ?_
          refine v_getI (j := 9) gz_52_79 rfl is_82 rd_5 rfl (fun v36 ev36 pv36 qv36 => ?_)
          have zv36 := ev36.trans ev32.symm
          refine w_ifne (t := 102) gz_52_82 rfl (fun u37 => ?_) (fun u37 => by exfalso; omega)
          have c38 := ev36.symm
          exact w_vret gz_52_102 gm_52 (k0 h3 (gh3) (by omega) (by omega) Ln_h3 Sp_h3)
        ·
          show wp l rho (d + 3) 52 44 [(2, 82), (0, (-1)), (9, 0), (9, 0)] [(0, 1)] h3 Q
          refine w_ifeq (t := 51) gz_52_44 rfl (fun u39 => by exfalso; omega) (fun u39 => ?_)
          refine w_iconst gz_52_47 (by decide) ?_
          refine w_goto (t := 52) gz_52_48 rfl ?_
          refine w_istore_n (ls' := [(2, 82), (0, (-1)), (0, 2), (9, 0)]) gz_52_52 gm_52 rfl rfl rfl ?_
          refine w_iload_n gz_52_53 rfl ?_
          refine w_iconst gz_52_54 (by decide) ?_
          refine w_icne (t := 66) gz_52_55 rfl (fun u40 => ?_) (fun u40 => by exfalso; omega)
          refine w_aload_n gz_52_66 rfl ?_
          refine w_inv (k := 2) (as := []) (r := []) (x := 82) (ls0 := [(2, 82), (9, 0), (9, 0)]) gz_52_67 gm_37 rfl is_82 rd_5 rfl rfl rfl rfl rfl (c_Reader_nextToken_f1 (d := (d + 1))  ((h3 82 9)) ((rfl : h3 82 9 = h3 82 9)) (by omega) (by omega) (fun h41 frh41 w42 w43 w44 w45 => ?_))
          have gh41 : my_fr [(4, 5), (4, 8), (4, 9), (5, 5), (5, 6), (5, 7), (5, 8), (5, 9), (32, -1), (33, -1), (34, -1), (35, -1)] h h41 := my_fr.tr gh3 (frh41.mo rfl)
          have Ln_h41 : Ln h41 := Ln_ag (my_ag.fr frh41 rfl) Ln_h3
          have Sp_h41 : Sp h41 wv := Sp_ag (my_ag.fr frh41 rfl) hwv Ln_h3 Sp_h3
          have St5_h41 : St5 h41 := St5_ag (my_ag.fr frh41 rfl) Ln_h3 St5_h3
          show wp l rho (d + 3) 52 70 [(2, 82), (0, (-1)), (0, 2), (9, 0)] [] h41 Q
          refine w_aload_n gz_52_70 rfl ?_
          refine w_sipush gz_52_71 (by decide) ?_
          refine w_inv (k := 1) (as := [(0, 200)]) (r := []) (x := 82) (ls0 := [(2, 82), (0, 200), (9, 0)]) gz_52_74 gm_51 rfl is_82 rd_5 rfl rfl rfl rfl rfl (c_Reader_takeNumber_f1 (d := d) (x1 := 200) (by omega) (by omega) ((h3 82 9)) (((my_fr.at frh41 is_82 rfl).trans (rfl : h3 82 9 = h3 82 9))) (by omega) (by omega) (fun w46 w47 => ?_))
          show wp l rho (d + 3) 52 77 [(2, 82), (0, (-1)), (0, 2), (9, 0)] [(0, (-1))] h41 Q
          refine w_istore_n (ls' := [(2, 82), (0, (-1)), (0, 2), (0, (-1))]) gz_52_77 gm_52 rfl rfl rfl ?_
          refine w_aload_n gz_52_78 rfl ?_
          refine v_getI (j := 9) gz_52_79 rfl is_82 rd_5 rfl (fun v48 ev48 pv48 qv48 => ?_)
          have zv48 := ev48.trans ((my_fr.at frh41 is_82 rfl).trans (rfl : h3 82 9 = h3 82 9))
          refine w_ifne (t := 102) gz_52_82 rfl (fun u49 => ?_) (fun u49 => by exfalso; omega)
          have c50 := ev48.symm
          exact w_vret gz_52_102 gm_52 (k0 h41 (gh41) (by omega) (by omega) Ln_h41 Sp_h41)
      ·
        show wp l rho (d + 3) 52 31 [(2, 82), (0, (-1)), (9, 0), (9, 0)] [(0, 1)] h3 Q
        refine w_ifeq (t := 38) gz_52_31 rfl (fun u51 => by exfalso; omega) (fun u51 => ?_)
        refine w_iconst gz_52_34 (by decide) ?_
        refine w_goto (t := 52) gz_52_35 rfl ?_
        refine w_istore_n (ls' := [(2, 82), (0, (-1)), (0, 1), (9, 0)]) gz_52_52 gm_52 rfl rfl rfl ?_
        refine w_iload_n gz_52_53 rfl ?_
        refine w_iconst gz_52_54 (by decide) ?_
        refine w_icne (t := 66) gz_52_55 rfl (fun u52 => ?_) (fun u52 => by exfalso; omega)
        refine w_aload_n gz_52_66 rfl ?_
        refine w_inv (k := 2) (as := []) (r := []) (x := 82) (ls0 := [(2, 82), (9, 0), (9, 0)]) gz_52_67 gm_37 rfl is_82 rd_5 rfl rfl rfl rfl rfl (c_Reader_nextToken_f1 (d := (d + 1))  ((h3 82 9)) ((rfl : h3 82 9 = h3 82 9)) (by omega) (by omega) (fun h53 frh53 w54 w55 w56 w57 => ?_))
        have gh53 : my_fr [(4, 5), (4, 8), (4, 9), (5, 5), (5, 6), (5, 7), (5, 8), (5, 9), (32, -1), (33, -1), (34, -1), (35, -1)] h h53 := my_fr.tr gh3 (frh53.mo rfl)
        have Ln_h53 : Ln h53 := Ln_ag (my_ag.fr frh53 rfl) Ln_h3
        have Sp_h53 : Sp h53 wv := Sp_ag (my_ag.fr frh53 rfl) hwv Ln_h3 Sp_h3
        have St5_h53 : St5 h53 := St5_ag (my_ag.fr frh53 rfl) Ln_h3 St5_h3
        show wp l rho (d + 3) 52 70 [(2, 82), (0, (-1)), (0, 1), (9, 0)] [] h53 Q
        refine w_aload_n gz_52_70 rfl ?_
        refine w_sipush gz_52_71 (by decide) ?_
        refine w_inv (k := 1) (as := [(0, 200)]) (r := []) (x := 82) (ls0 := [(2, 82), (0, 200), (9, 0)]) gz_52_74 gm_51 rfl is_82 rd_5 rfl rfl rfl rfl rfl (c_Reader_takeNumber_f1 (d := d) (x1 := 200) (by omega) (by omega) ((h3 82 9)) (((my_fr.at frh53 is_82 rfl).trans (rfl : h3 82 9 = h3 82 9))) (by omega) (by omega) (fun w58 w59 => ?_))
        show wp l rho (d + 3) 52 77 [(2, 82), (0, (-1)), (0, 1), (9, 0)] [(0, (-1))] h53 Q
        refine w_istore_n (ls' := [(2, 82), (0, (-1)), (0, 1), (0, (-1))]) gz_52_77 gm_52 rfl rfl rfl ?_
        refine w_aload_n gz_52_78 rfl ?_
        refine v_getI (j := 9) gz_52_79 rfl is_82 rd_5 rfl (fun v60 ev60 pv60 qv60 => ?_)
        have zv60 := ev60.trans ((my_fr.at frh53 is_82 rfl).trans (rfl : h3 82 9 = h3 82 9))
        refine w_ifne (t := 102) gz_52_82 rfl (fun u61 => ?_) (fun u61 => by exfalso; omega)
        have c62 := ev60.symm
        exact w_vret gz_52_102 gm_52 (k0 h53 (gh53) (by omega) (by omega) Ln_h53 Sp_h53)
    ·
      show wp l rho (d + 3) 52 18 [(2, 82), (0, (-1)), (9, 0), (9, 0)] [(0, 1)] h3 Q
      refine w_ifeq (t := 25) gz_52_18 rfl (fun u63 => by exfalso; omega) (fun u63 => ?_)
      refine w_iconst gz_52_21 (by decide) ?_
      refine w_goto (t := 52) gz_52_22 rfl ?_
      refine w_istore_n (ls' := [(2, 82), (0, (-1)), (0, 0), (9, 0)]) gz_52_52 gm_52 rfl rfl rfl ?_
      refine w_iload_n gz_52_53 rfl ?_
      refine w_iconst gz_52_54 (by decide) ?_
      refine w_icne (t := 66) gz_52_55 rfl (fun u64 => ?_) (fun u64 => by exfalso; omega)
      refine w_aload_n gz_52_66 rfl ?_
      refine w_inv (k := 2) (as := []) (r := []) (x := 82) (ls0 := [(2, 82), (9, 0), (9, 0)]) gz_52_67 gm_37 rfl is_82 rd_5 rfl rfl rfl rfl rfl (c_Reader_nextToken_f1 (d := (d + 1))  ((h3 82 9)) ((rfl : h3 82 9 = h3 82 9)) (by omega) (by omega) (fun h65 frh65 w66 w67 w68 w69 => ?_))
      have gh65 : my_fr [(4, 5), (4, 8), (4, 9), (5, 5), (5, 6), (5, 7), (5, 8), (5, 9), (32, -1), (33, -1), (34, -1), (35, -1)] h h65 := my_fr.tr gh3 (frh65.mo rfl)
      have Ln_h65 : Ln h65 := Ln_ag (my_ag.fr frh65 rfl) Ln_h3
      have Sp_h65 : Sp h65 wv := Sp_ag (my_ag.fr frh65 rfl) hwv Ln_h3 Sp_h3
      have St5_h65 : St5 h65 := St5_ag (my_ag.fr frh65 rfl) Ln_h3 St5_h3
      show wp l rho (d + 3) 52 70 [(2, 82), (0, (-1)), (0, 0), (9, 0)] [] h65 Q
      refine w_aload_n gz_52_70 rfl ?_
      refine w_sipush gz_52_71 (by decide) ?_
      refine w_inv (k := 1) (as := [(0, 200)]) (r := []) (x := 82) (ls0 := [(2, 82), (0, 200), (9, 0)]) gz_52_74 gm_51 rfl is_82 rd_5 rfl rfl rfl rfl rfl (c_Reader_takeNumber_f1 (d := d) (x1 := 200) (by omega) (by omega) ((h3 82 9)) (((my_fr.at frh65 is_82 rfl).trans (rfl : h3 82 9 = h3 82 9))) (by omega) (by omega) (fun w70 w71 => ?_))
      show wp l rho (d + 3) 52 77 [(2, 82), (0, (-1)), (0, 0), (9, 0)] [(0, (-1))] h65 Q
      refine w_istore_n (ls' := [(2, 82), (0, (-1)), (0, 0), (0, (-1))]) gz_52_77 gm_52 rfl rfl rfl ?_
      refine w_aload_n gz_52_78 rfl ?_
      refine v_getI (j := 9) gz_52_79 rfl is_82 rd_5 rfl (fun v72 ev72 pv72 qv72 => ?_)
      have zv72 := ev72.trans ((my_fr.at frh65 is_82 rfl).trans (rfl : h3 82 9 = h3 82 9))
      refine w_ifne (t := 102) gz_52_82 rfl (fun u73 => ?_) (fun u73 => by exfalso; omega)
      have c74 := ev72.symm
      exact w_vret gz_52_102 gm_52 (k0 h65 (gh65) (by omega) (by omega) Ln_h65 Sp_h65)
  ·
    have gh6 : my_fr [(4, 5), (4, 8), (4, 9), (5, 5), (5, 6), (5, 7), (5, 8), (5, 9), (32, -1), (33, -1), (34, -1), (35, -1)] h h6 := my_fr.tr my_fr.rf (frh6.mo rfl)
    have Ln_h6 : Ln h6 := Ln_ag (my_ag.fr frh6 rfl) n_Ln
    have Sp_h6 : Sp h6 wv := Sp_ag (my_ag.fr frh6 rfl) hwv n_Ln n_Sp
    have St5_h6 : St5 h6 := St5_ag (my_ag.fr frh6 rfl) n_Ln n_St5
    show wp l rho (d + 3) 52 11 [(2, 82), (9, 0), (9, 0), (9, 0)] [(0, v7)] h6 Q
    refine w_istore_n (ls' := [(2, 82), (0, v7), (9, 0), (9, 0)]) gz_52_11 gm_52 rfl rfl rfl ?_
    refine w_aload_n gz_52_12 rfl ?_
    refine w_ldcS gz_52_13 (by decide) ?_
    refine w_inv (k := 1) (as := [(3, ((9 : Nat) : Int))]) (r := []) (x := 82) (ls0 := [(2, 82), (3, ((9 : Nat) : Int)), (9, 0)]) gz_52_15 gm_41 rfl is_82 rd_5 rfl rfl rfl rfl rfl (c_Reader_isWord_f0 (d := (d + 2)) (x1 := ((9 : Nat) : Int)) (by decide) (w12.trans (by omega)) (fun w75 => ?_) (fun w76 w77 => ?_))
    ·
      show wp l rho (d + 3) 52 18 [(2, 82), (0, v7), (9, 0), (9, 0)] [(0, 0)] h6 Q
      refine w_ifeq (t := 25) gz_52_18 rfl (fun u78 => ?_) (fun u78 => by exfalso; omega)
      refine w_aload_n gz_52_25 rfl ?_
      refine w_ldcS gz_52_26 (by decide) ?_
      refine w_inv (k := 1) (as := [(3, ((10 : Nat) : Int))]) (r := []) (x := 82) (ls0 := [(2, 82), (3, ((10 : Nat) : Int)), (9, 0)]) gz_52_28 gm_41 rfl is_82 rd_5 rfl rfl rfl rfl rfl (c_Reader_isWord_f0 (d := (d + 2)) (x1 := ((10 : Nat) : Int)) (by decide) (w12.trans (by omega)) (fun w79 => ?_) (fun w80 w81 => ?_))
      ·
        show wp l rho (d + 3) 52 31 [(2, 82), (0, v7), (9, 0), (9, 0)] [(0, 0)] h6 Q
        refine w_ifeq (t := 38) gz_52_31 rfl (fun u82 => ?_) (fun u82 => by exfalso; omega)
        refine w_aload_n gz_52_38 rfl ?_
        refine w_ldcS gz_52_39 (by decide) ?_
        refine w_inv (k := 1) (as := [(3, ((11 : Nat) : Int))]) (r := []) (x := 82) (ls0 := [(2, 82), (3, ((11 : Nat) : Int)), (9, 0)]) gz_52_41 gm_41 rfl is_82 rd_5 rfl rfl rfl rfl rfl (c_Reader_isWord_f0 (d := (d + 2)) (x1 := ((11 : Nat) : Int)) (by decide) (w12.trans (by omega)) (fun w83 => ?_) (fun w84 w85 => ?_))
        ·
          show wp l rho (d + 3) 52 44 [(2, 82), (0, v7), (9, 0), (9, 0)] [(0, 0)] h6 Q
          refine w_ifeq (t := 51) gz_52_44 rfl (fun u86 => ?_) (fun u86 => by exfalso; omega)
          refine w_iconst gz_52_51 (by decide) ?_
          refine w_istore_n (ls' := [(2, 82), (0, v7), (0, (-1)), (9, 0)]) gz_52_52 gm_52 rfl rfl rfl ?_
          refine w_iload_n gz_52_53 rfl ?_
          refine w_iconst gz_52_54 (by decide) ?_
          refine w_icne (t := 66) gz_52_55 rfl (fun u87 => by exfalso; omega) (fun u87 => ?_)
          refine w_aload_n gz_52_58 rfl ?_
          refine w_iconst gz_52_59 (by decide) ?_
          refine w_inv (k := 0) (as := [(0, 1)]) (r := []) (x := 82) (ls0 := [(2, 82), (0, 1)]) gz_52_60 gm_42 rfl is_82 rd_5 rfl rfl rfl rfl rfl ?_
          refine w_aload_n gz_42_0 rfl ?_
          refine v_getI (j := 9) gz_42_1 rfl is_82 rd_5 rfl (fun v88 ev88 pv88 qv88 => ?_)
          have zv88 := ev88.trans w12
          refine w_ifne (t := 20) gz_42_4 rfl (fun u89 => by exfalso; omega) (fun u89 => ?_)
          refine w_aload_n gz_42_7 rfl ?_
          refine w_iload_n gz_42_8 rfl ?_
          refine w_bipush gz_42_9 (by decide) ?_
          refine w_aload_n gz_42_11 rfl ?_
          refine v_getI (j := 7) gz_42_12 rfl is_82 rd_5 rfl (fun v90 ev90 pv90 qv90 => ?_)
          refine w_imul gz_42_15 ⟨by omega, by omega⟩ ?_
          refine w_iadd gz_42_16 ⟨by omega, by omega⟩ ?_
          refine v_putI (j := 9) gz_42_17 rfl is_82 rd_5 rfl (by omega) (by omega) rfl (fun h91 fh91 => ?_)
          have gh91 : my_fr [(4, 5), (4, 8), (4, 9), (5, 5), (5, 6), (5, 7), (5, 8), (5, 9), (32, -1), (33, -1), (34, -1), (35, -1)] h h91 := my_fr.up gh6 is_82 fh91 rfl
          have Ln_h91 : Ln h91 := Ln_ag (my_ag.up fh91 is_82 rfl) Ln_h6
          have Sp_h91 : Sp h91 wv := Sp_ag (my_ag.up fh91 is_82 rfl) hwv Ln_h6 Sp_h6
          have St5_h91 : St5 h91 := St5_ag (my_ag.up fh91 is_82 rfl) Ln_h6 St5_h6
          refine w_vret gz_42_20 gm_42 ?_
          show wp l rho (d + 3) 52 63 [(2, 82), (0, v7), (0, (-1)), (9, 0)] [] h91 Q
          refine w_goto (t := 70) gz_52_63 rfl ?_
          refine w_aload_n gz_52_70 rfl ?_
          refine w_sipush gz_52_71 (by decide) ?_
          refine w_inv (k := 1) (as := [(0, 200)]) (r := []) (x := 82) (ls0 := [(2, 82), (0, 200), (9, 0)]) gz_52_74 gm_51 rfl is_82 rd_5 rfl rfl rfl rfl rfl (c_Reader_takeNumber_f1 (d := d) (x1 := 200) (by omega) (by omega) ((1 + (16 * v90))) ((my_up_self fh91)) (by omega) (by omega) (fun w92 w93 => ?_))
          show wp l rho (d + 3) 52 77 [(2, 82), (0, v7), (0, (-1)), (9, 0)] [(0, (-1))] h91 Q
          refine w_istore_n (ls' := [(2, 82), (0, v7), (0, (-1)), (0, (-1))]) gz_52_77 gm_52 rfl rfl rfl ?_
          refine w_aload_n gz_52_78 rfl ?_
          refine v_getI (j := 9) gz_52_79 rfl is_82 rd_5 rfl (fun v94 ev94 pv94 qv94 => ?_)
          have zv94 := ev94.trans (my_up_self fh91)
          refine w_ifne (t := 102) gz_52_82 rfl (fun u95 => ?_) (fun u95 => by exfalso; omega)
          have c96 := ev94.symm
          exact w_vret gz_52_102 gm_52 (k0 h91 (gh91) (by omega) (by omega) Ln_h91 Sp_h91)
        ·
          show wp l rho (d + 3) 52 44 [(2, 82), (0, v7), (9, 0), (9, 0)] [(0, 1)] h6 Q
          refine w_ifeq (t := 51) gz_52_44 rfl (fun u97 => by exfalso; omega) (fun u97 => ?_)
          refine w_iconst gz_52_47 (by decide) ?_
          refine w_goto (t := 52) gz_52_48 rfl ?_
          refine w_istore_n (ls' := [(2, 82), (0, v7), (0, 2), (9, 0)]) gz_52_52 gm_52 rfl rfl rfl ?_
          refine w_iload_n gz_52_53 rfl ?_
          refine w_iconst gz_52_54 (by decide) ?_
          refine w_icne (t := 66) gz_52_55 rfl (fun u98 => ?_) (fun u98 => by exfalso; omega)
          refine w_aload_n gz_52_66 rfl ?_
          refine w_inv (k := 2) (as := []) (r := []) (x := 82) (ls0 := [(2, 82), (9, 0), (9, 0)]) gz_52_67 gm_37 rfl is_82 rd_5 rfl rfl rfl rfl rfl (c_Reader_nextToken_f0 (d := (d + 1))  (w12.trans (by omega)) (fun h99 frh99 w100 w101 w102 => ?_))
          have gh99 : my_fr [(4, 5), (4, 8), (4, 9), (5, 5), (5, 6), (5, 7), (5, 8), (5, 9), (32, -1), (33, -1), (34, -1), (35, -1)] h h99 := my_fr.tr gh6 (frh99.mo rfl)
          have Ln_h99 : Ln h99 := Ln_ag (my_ag.fr frh99 rfl) Ln_h6
          have Sp_h99 : Sp h99 wv := Sp_ag (my_ag.fr frh99 rfl) hwv Ln_h6 Sp_h6
          have St5_h99 : St5 h99 := St5_ag (my_ag.fr frh99 rfl) Ln_h6 St5_h6
          show wp l rho (d + 3) 52 70 [(2, 82), (0, v7), (0, 2), (9, 0)] [] h99 Q
          refine w_aload_n gz_52_70 rfl ?_
          refine w_sipush gz_52_71 (by decide) ?_
          refine w_inv (k := 1) (as := [(0, 200)]) (r := []) (x := 82) (ls0 := [(2, 82), (0, 200), (9, 0)]) gz_52_74 gm_51 rfl is_82 rd_5 rfl rfl rfl rfl rfl (c_Reader_takeNumber_f0 (d := d) (x1 := 200) (by omega) (by omega) (((my_fr.at frh99 is_82 rfl).trans w12).trans (by omega)) (fun h103 frh103 w104 w105 => ?_) (fun h106 v107 frh106 w108 w109 w110 w111 w112 => ?_))
          ·
            have gh103 : my_fr [(4, 5), (4, 8), (4, 9), (5, 5), (5, 6), (5, 7), (5, 8), (5, 9), (32, -1), (33, -1), (34, -1), (35, -1)] h h103 := my_fr.tr gh99 (frh103.mo rfl)
            have Ln_h103 : Ln h103 := Ln_ag (my_ag.fr frh103 rfl) Ln_h99
            have Sp_h103 : Sp h103 wv := Sp_ag (my_ag.fr frh103 rfl) hwv Ln_h99 Sp_h99
            have St5_h103 : St5 h103 := St5_ag (my_ag.fr frh103 rfl) Ln_h99 St5_h99
            show wp l rho (d + 3) 52 77 [(2, 82), (0, v7), (0, 2), (9, 0)] [(0, (-1))] h103 Q
            refine w_istore_n (ls' := [(2, 82), (0, v7), (0, 2), (0, (-1))]) gz_52_77 gm_52 rfl rfl rfl ?_
            refine w_aload_n gz_52_78 rfl ?_
            refine v_getI (j := 9) gz_52_79 rfl is_82 rd_5 rfl (fun v113 ev113 pv113 qv113 => ?_)
            have zv113 := ev113.trans (rfl : h103 82 9 = h103 82 9)
            refine w_ifne (t := 102) gz_52_82 rfl (fun u114 => ?_) (fun u114 => by exfalso; omega)
            have c115 := ev113.symm
            exact w_vret gz_52_102 gm_52 (k0 h103 (gh103) (by omega) (by omega) Ln_h103 Sp_h103)
          ·
            have gh106 : my_fr [(4, 5), (4, 8), (4, 9), (5, 5), (5, 6), (5, 7), (5, 8), (5, 9), (32, -1), (33, -1), (34, -1), (35, -1)] h h106 := my_fr.tr gh99 (frh106.mo rfl)
            have Ln_h106 : Ln h106 := Ln_ag (my_ag.fr frh106 rfl) Ln_h99
            have Sp_h106 : Sp h106 wv := Sp_ag (my_ag.fr frh106 rfl) hwv Ln_h99 Sp_h99
            have St5_h106 : St5 h106 := St5_ag (my_ag.fr frh106 rfl) Ln_h99 St5_h99
            show wp l rho (d + 3) 52 77 [(2, 82), (0, v7), (0, 2), (9, 0)] [(0, v107)] h106 Q
            refine w_istore_n (ls' := [(2, 82), (0, v7), (0, 2), (0, v107)]) gz_52_77 gm_52 rfl rfl rfl ?_
            refine w_aload_n gz_52_78 rfl ?_
            refine v_getI (j := 9) gz_52_79 rfl is_82 rd_5 rfl (fun v116 ev116 pv116 qv116 => ?_)
            have zv116 := ev116.trans w112
            refine w_ifne (t := 102) gz_52_82 rfl (fun u117 => by exfalso; omega) (fun u117 => ?_)
            refine w_aload_n gz_52_85 rfl ?_
            refine w_inv (k := 0) (as := []) (r := []) (x := 82) (ls0 := [(2, 82)]) gz_52_86 gm_47 rfl is_82 rd_5 rfl rfl rfl rfl rfl (c_Reader_endsHere_f0 (d := d)  (ev116.symm.trans (by omega)) (fun h118 frh118 w119 w120 => ?_) (fun h121 frh121 w122 => ?_))
            ·
              have gh118 : my_fr [(4, 5), (4, 8), (4, 9), (5, 5), (5, 6), (5, 7), (5, 8), (5, 9), (32, -1), (33, -1), (34, -1), (35, -1)] h h118 := my_fr.tr gh106 (frh118.mo rfl)
              have Ln_h118 : Ln h118 := Ln_ag (my_ag.fr frh118 rfl) Ln_h106
              have Sp_h118 : Sp h118 wv := Sp_ag (my_ag.fr frh118 rfl) hwv Ln_h106 Sp_h106
              have St5_h118 : St5 h118 := St5_ag (my_ag.fr frh118 rfl) Ln_h106 St5_h106
              show wp l rho (d + 3) 52 89 [(2, 82), (0, v7), (0, 2), (0, v107)] [(0, 0)] h118 Q
              refine w_ifeq (t := 102) gz_52_89 rfl (fun u123 => ?_) (fun u123 => by exfalso; omega)
              have c124 := (rfl : h118 82 9 = h118 82 9)
              exact w_vret gz_52_102 gm_52 (k0 h118 (gh118) (by omega) (by omega) Ln_h118 Sp_h118)
            ·
              have gh121 : my_fr [(4, 5), (4, 8), (4, 9), (5, 5), (5, 6), (5, 7), (5, 8), (5, 9), (32, -1), (33, -1), (34, -1), (35, -1)] h h121 := my_fr.tr gh106 (frh121.mo rfl)
              have Ln_h121 : Ln h121 := Ln_ag (my_ag.fr frh121 rfl) Ln_h106
              have Sp_h121 : Sp h121 wv := Sp_ag (my_ag.fr frh121 rfl) hwv Ln_h106 Sp_h106
              have St5_h121 : St5 h121 := St5_ag (my_ag.fr frh121 rfl) Ln_h106 St5_h106
              show wp l rho (d + 3) 52 89 [(2, 82), (0, v7), (0, 2), (0, v107)] [(0, 1)] h121 Q
              refine w_ifeq (t := 102) gz_52_89 rfl (fun u125 => by exfalso; omega) (fun u125 => ?_)
              refine w_aload_n gz_52_92 rfl ?_
              refine v_getR (j := 2) gz_52_93 rfl is_82 rd_5 rfl (fun v126 ev126 tv126 => ?_)
              have zv126 : v1 = v126 := (ev126.trans ((my_fr.at frh121 is_82 rfl).trans ((my_fr.at frh106 is_82 rfl).trans ((my_fr.at frh99 is_82 rfl).trans ((my_fr.at frh6 is_82 rfl).trans ev1.symm))))).symm
              subst zv126
              refine w_iload_n gz_52_96 rfl ?_
              refine w_iload_n gz_52_97 rfl ?_
              refine w_iload_n gz_52_98 rfl ?_
              have ce127 : h121 82 2 = v1 := ((my_fr.at frh121 is_82 rfl).trans ((my_fr.at frh106 is_82 rfl).trans ((my_fr.at frh99 is_82 rfl).trans ((my_fr.at frh6 is_82 rfl).trans ev1.symm))))
              have s5a := St5_h121
              have s5e : v1 = h121 82 2 := by first | assumption | omega
              unfold St5 at s5a
              rw [← s5e] at s5a
              refine w_inv (k := 0) (as := [(0, v107), (0, v7), (0, 2)]) (r := []) (x := v1) (ls0 := [(2, v1), (0, 2), (0, v7), (0, v107)]) gz_52_99 gm_53 rfl tv1 rd_4 rfl rfl rfl rfl rfl (c_Lens_addCut (d := (d + 1)) (x0 := v1) (x1 := 2) (x2 := v7) (x3 := v107) tv1 (by omega) (by omega) (by omega) (by omega) (by omega) (by omega) (by first | assumption | omega | (subst_vars; omega)) (fun h128 frh128 fxh128 w129 w130 xp131 => ?_))
              have gh128 : my_fr [(4, 5), (4, 8), (4, 9), (5, 5), (5, 6), (5, 7), (5, 8), (5, 9), (32, -1), (33, -1), (34, -1), (35, -1)] h h128 := my_fr.tr gh121 (frh128.mo rfl)
              have Ln_h128 : Ln h128 := Ln_fx fxh128 (by first | assumption | omega) Ln_h121
              show wp l rho (d + 3) 52 102 [(2, 82), (0, v7), (0, 2), (0, v107)] [] h128 Q
              have Sp_h128t132 : Sp h128 wv := Sp_add fxh128 (by first | assumption | omega) hwv Ln_h121 Sp_h121 xp131 (by have := St5_h121.1; omega) (by omega) (by omega)
              have c133 := ((my_fr.at frh128 is_82 rfl).trans w122)
              exact w_vret gz_52_102 gm_52 (k1 h128 (gh128) (by omega) Ln_h128 Sp_h128t132)
      ·
        show wp l rho (d + 3) 52 31 [(2, 82), (0, v7), (9, 0), (9, 0)] [(0, 1)] h6 Q
        refine w_ifeq (t := 38) gz_52_31 rfl (fun u134 => by exfalso; omega) (fun u134 => ?_)
        refine w_iconst gz_52_34 (by decide) ?_
        refine w_goto (t := 52) gz_52_35 rfl ?_
        refine w_istore_n (ls' := [(2, 82), (0, v7), (0, 1), (9, 0)]) gz_52_52 gm_52 rfl rfl rfl ?_
        refine w_iload_n gz_52_53 rfl ?_
        refine w_iconst gz_52_54 (by decide) ?_
        refine w_icne (t := 66) gz_52_55 rfl (fun u135 => ?_) (fun u135 => by exfalso; omega)
        refine w_aload_n gz_52_66 rfl ?_
        refine w_inv (k := 2) (as := []) (r := []) (x := 82) (ls0 := [(2, 82), (9, 0), (9, 0)]) gz_52_67 gm_37 rfl is_82 rd_5 rfl rfl rfl rfl rfl (c_Reader_nextToken_f0 (d := (d + 1))  (w12.trans (by omega)) (fun h136 frh136 w137 w138 w139 => ?_))
        have gh136 : my_fr [(4, 5), (4, 8), (4, 9), (5, 5), (5, 6), (5, 7), (5, 8), (5, 9), (32, -1), (33, -1), (34, -1), (35, -1)] h h136 := my_fr.tr gh6 (frh136.mo rfl)
        have Ln_h136 : Ln h136 := Ln_ag (my_ag.fr frh136 rfl) Ln_h6
        have Sp_h136 : Sp h136 wv := Sp_ag (my_ag.fr frh136 rfl) hwv Ln_h6 Sp_h6
        have St5_h136 : St5 h136 := St5_ag (my_ag.fr frh136 rfl) Ln_h6 St5_h6
        show wp l rho (d + 3) 52 70 [(2, 82), (0, v7), (0, 1), (9, 0)] [] h136 Q
        refine w_aload_n gz_52_70 rfl ?_
        refine w_sipush gz_52_71 (by decide) ?_
        refine w_inv (k := 1) (as := [(0, 200)]) (r := []) (x := 82) (ls0 := [(2, 82), (0, 200), (9, 0)]) gz_52_74 gm_51 rfl is_82 rd_5 rfl rfl rfl rfl rfl (c_Reader_takeNumber_f0 (d := d) (x1 := 200) (by omega) (by omega) (((my_fr.at frh136 is_82 rfl).trans w12).trans (by omega)) (fun h140 frh140 w141 w142 => ?_) (fun h143 v144 frh143 w145 w146 w147 w148 w149 => ?_))
        ·
          have gh140 : my_fr [(4, 5), (4, 8), (4, 9), (5, 5), (5, 6), (5, 7), (5, 8), (5, 9), (32, -1), (33, -1), (34, -1), (35, -1)] h h140 := my_fr.tr gh136 (frh140.mo rfl)
          have Ln_h140 : Ln h140 := Ln_ag (my_ag.fr frh140 rfl) Ln_h136
          have Sp_h140 : Sp h140 wv := Sp_ag (my_ag.fr frh140 rfl) hwv Ln_h136 Sp_h136
          have St5_h140 : St5 h140 := St5_ag (my_ag.fr frh140 rfl) Ln_h136 St5_h136
          show wp l rho (d + 3) 52 77 [(2, 82), (0, v7), (0, 1), (9, 0)] [(0, (-1))] h140 Q
          refine w_istore_n (ls' := [(2, 82), (0, v7), (0, 1), (0, (-1))]) gz_52_77 gm_52 rfl rfl rfl ?_
          refine w_aload_n gz_52_78 rfl ?_
          refine v_getI (j := 9) gz_52_79 rfl is_82 rd_5 rfl (fun v150 ev150 pv150 qv150 => ?_)
          have zv150 := ev150.trans (rfl : h140 82 9 = h140 82 9)
          refine w_ifne (t := 102) gz_52_82 rfl (fun u151 => ?_) (fun u151 => by exfalso; omega)
          have c152 := ev150.symm
          exact w_vret gz_52_102 gm_52 (k0 h140 (gh140) (by omega) (by omega) Ln_h140 Sp_h140)
        ·
          have gh143 : my_fr [(4, 5), (4, 8), (4, 9), (5, 5), (5, 6), (5, 7), (5, 8), (5, 9), (32, -1), (33, -1), (34, -1), (35, -1)] h h143 := my_fr.tr gh136 (frh143.mo rfl)
          have Ln_h143 : Ln h143 := Ln_ag (my_ag.fr frh143 rfl) Ln_h136
          have Sp_h143 : Sp h143 wv := Sp_ag (my_ag.fr frh143 rfl) hwv Ln_h136 Sp_h136
          have St5_h143 : St5 h143 := St5_ag (my_ag.fr frh143 rfl) Ln_h136 St5_h136
          show wp l rho (d + 3) 52 77 [(2, 82), (0, v7), (0, 1), (9, 0)] [(0, v144)] h143 Q
          refine w_istore_n (ls' := [(2, 82), (0, v7), (0, 1), (0, v144)]) gz_52_77 gm_52 rfl rfl rfl ?_
          refine w_aload_n gz_52_78 rfl ?_
          refine v_getI (j := 9) gz_52_79 rfl is_82 rd_5 rfl (fun v153 ev153 pv153 qv153 => ?_)
          have zv153 := ev153.trans w149
          refine w_ifne (t := 102) gz_52_82 rfl (fun u154 => by exfalso; omega) (fun u154 => ?_)
          refine w_aload_n gz_52_85 rfl ?_
          refine w_inv (k := 0) (as := []) (r := []) (x := 82) (ls0 := [(2, 82)]) gz_52_86 gm_47 rfl is_82 rd_5 rfl rfl rfl rfl rfl (c_Reader_endsHere_f0 (d := d)  (ev153.symm.trans (by omega)) (fun h155 frh155 w156 w157 => ?_) (fun h158 frh158 w159 => ?_))
          ·
            have gh155 : my_fr [(4, 5), (4, 8), (4, 9), (5, 5), (5, 6), (5, 7), (5, 8), (5, 9), (32, -1), (33, -1), (34, -1), (35, -1)] h h155 := my_fr.tr gh143 (frh155.mo rfl)
            have Ln_h155 : Ln h155 := Ln_ag (my_ag.fr frh155 rfl) Ln_h143
            have Sp_h155 : Sp h155 wv := Sp_ag (my_ag.fr frh155 rfl) hwv Ln_h143 Sp_h143
            have St5_h155 : St5 h155 := St5_ag (my_ag.fr frh155 rfl) Ln_h143 St5_h143
            show wp l rho (d + 3) 52 89 [(2, 82), (0, v7), (0, 1), (0, v144)] [(0, 0)] h155 Q
            refine w_ifeq (t := 102) gz_52_89 rfl (fun u160 => ?_) (fun u160 => by exfalso; omega)
            have c161 := (rfl : h155 82 9 = h155 82 9)
            exact w_vret gz_52_102 gm_52 (k0 h155 (gh155) (by omega) (by omega) Ln_h155 Sp_h155)
          ·
            have gh158 : my_fr [(4, 5), (4, 8), (4, 9), (5, 5), (5, 6), (5, 7), (5, 8), (5, 9), (32, -1), (33, -1), (34, -1), (35, -1)] h h158 := my_fr.tr gh143 (frh158.mo rfl)
            have Ln_h158 : Ln h158 := Ln_ag (my_ag.fr frh158 rfl) Ln_h143
            have Sp_h158 : Sp h158 wv := Sp_ag (my_ag.fr frh158 rfl) hwv Ln_h143 Sp_h143
            have St5_h158 : St5 h158 := St5_ag (my_ag.fr frh158 rfl) Ln_h143 St5_h143
            show wp l rho (d + 3) 52 89 [(2, 82), (0, v7), (0, 1), (0, v144)] [(0, 1)] h158 Q
            refine w_ifeq (t := 102) gz_52_89 rfl (fun u162 => by exfalso; omega) (fun u162 => ?_)
            refine w_aload_n gz_52_92 rfl ?_
            refine v_getR (j := 2) gz_52_93 rfl is_82 rd_5 rfl (fun v163 ev163 tv163 => ?_)
            have zv163 : v1 = v163 := (ev163.trans ((my_fr.at frh158 is_82 rfl).trans ((my_fr.at frh143 is_82 rfl).trans ((my_fr.at frh136 is_82 rfl).trans ((my_fr.at frh6 is_82 rfl).trans ev1.symm))))).symm
            subst zv163
            refine w_iload_n gz_52_96 rfl ?_
            refine w_iload_n gz_52_97 rfl ?_
            refine w_iload_n gz_52_98 rfl ?_
            have ce164 : h158 82 2 = v1 := ((my_fr.at frh158 is_82 rfl).trans ((my_fr.at frh143 is_82 rfl).trans ((my_fr.at frh136 is_82 rfl).trans ((my_fr.at frh6 is_82 rfl).trans ev1.symm))))
            have s5a := St5_h158
            have s5e : v1 = h158 82 2 := by first | assumption | omega
            unfold St5 at s5a
            rw [← s5e] at s5a
            refine w_inv (k := 0) (as := [(0, v144), (0, v7), (0, 1)]) (r := []) (x := v1) (ls0 := [(2, v1), (0, 1), (0, v7), (0, v144)]) gz_52_99 gm_53 rfl tv1 rd_4 rfl rfl rfl rfl rfl (c_Lens_addCut (d := (d + 1)) (x0 := v1) (x1 := 1) (x2 := v7) (x3 := v144) tv1 (by omega) (by omega) (by omega) (by omega) (by omega) (by omega) (by first | assumption | omega | (subst_vars; omega)) (fun h165 frh165 fxh165 w166 w167 xp168 => ?_))
            have gh165 : my_fr [(4, 5), (4, 8), (4, 9), (5, 5), (5, 6), (5, 7), (5, 8), (5, 9), (32, -1), (33, -1), (34, -1), (35, -1)] h h165 := my_fr.tr gh158 (frh165.mo rfl)
            have Ln_h165 : Ln h165 := Ln_fx fxh165 (by first | assumption | omega) Ln_h158
            show wp l rho (d + 3) 52 102 [(2, 82), (0, v7), (0, 1), (0, v144)] [] h165 Q
            have Sp_h165t169 : Sp h165 wv := Sp_add fxh165 (by first | assumption | omega) hwv Ln_h158 Sp_h158 xp168 (by have := St5_h158.1; omega) (by omega) (by omega)
            have c170 := ((my_fr.at frh165 is_82 rfl).trans w159)
            exact w_vret gz_52_102 gm_52 (k1 h165 (gh165) (by omega) Ln_h165 Sp_h165t169)
    ·
      show wp l rho (d + 3) 52 18 [(2, 82), (0, v7), (9, 0), (9, 0)] [(0, 1)] h6 Q
      refine w_ifeq (t := 25) gz_52_18 rfl (fun u171 => by exfalso; omega) (fun u171 => ?_)
      refine w_iconst gz_52_21 (by decide) ?_
      refine w_goto (t := 52) gz_52_22 rfl ?_
      refine w_istore_n (ls' := [(2, 82), (0, v7), (0, 0), (9, 0)]) gz_52_52 gm_52 rfl rfl rfl ?_
      refine w_iload_n gz_52_53 rfl ?_
      refine w_iconst gz_52_54 (by decide) ?_
      refine w_icne (t := 66) gz_52_55 rfl (fun u172 => ?_) (fun u172 => by exfalso; omega)
      refine w_aload_n gz_52_66 rfl ?_
      refine w_inv (k := 2) (as := []) (r := []) (x := 82) (ls0 := [(2, 82), (9, 0), (9, 0)]) gz_52_67 gm_37 rfl is_82 rd_5 rfl rfl rfl rfl rfl (c_Reader_nextToken_f0 (d := (d + 1))  (w12.trans (by omega)) (fun h173 frh173 w174 w175 w176 => ?_))
      have gh173 : my_fr [(4, 5), (4, 8), (4, 9), (5, 5), (5, 6), (5, 7), (5, 8), (5, 9), (32, -1), (33, -1), (34, -1), (35, -1)] h h173 := my_fr.tr gh6 (frh173.mo rfl)
      have Ln_h173 : Ln h173 := Ln_ag (my_ag.fr frh173 rfl) Ln_h6
      have Sp_h173 : Sp h173 wv := Sp_ag (my_ag.fr frh173 rfl) hwv Ln_h6 Sp_h6
      have St5_h173 : St5 h173 := St5_ag (my_ag.fr frh173 rfl) Ln_h6 St5_h6
      show wp l rho (d + 3) 52 70 [(2, 82), (0, v7), (0, 0), (9, 0)] [] h173 Q
      refine w_aload_n gz_52_70 rfl ?_
      refine w_sipush gz_52_71 (by decide) ?_
      refine w_inv (k := 1) (as := [(0, 200)]) (r := []) (x := 82) (ls0 := [(2, 82), (0, 200), (9, 0)]) gz_52_74 gm_51 rfl is_82 rd_5 rfl rfl rfl rfl rfl (c_Reader_takeNumber_f0 (d := d) (x1 := 200) (by omega) (by omega) (((my_fr.at frh173 is_82 rfl).trans w12).trans (by omega)) (fun h177 frh177 w178 w179 => ?_) (fun h180 v181 frh180 w182 w183 w184 w185 w186 => ?_))
      ·
        have gh177 : my_fr [(4, 5), (4, 8), (4, 9), (5, 5), (5, 6), (5, 7), (5, 8), (5, 9), (32, -1), (33, -1), (34, -1), (35, -1)] h h177 := my_fr.tr gh173 (frh177.mo rfl)
        have Ln_h177 : Ln h177 := Ln_ag (my_ag.fr frh177 rfl) Ln_h173
        have Sp_h177 : Sp h177 wv := Sp_ag (my_ag.fr frh177 rfl) hwv Ln_h173 Sp_h173
        have St5_h177 : St5 h177 := St5_ag (my_ag.fr frh177 rfl) Ln_h173 St5_h173
        show wp l rho (d + 3) 52 77 [(2, 82), (0, v7), (0, 0), (9, 0)] [(0, (-1))] h177 Q
        refine w_istore_n (ls' := [(2, 82), (0, v7), (0, 0), (0, (-1))]) gz_52_77 gm_52 rfl rfl rfl ?_
        refine w_aload_n gz_52_78 rfl ?_
        refine v_getI (j := 9) gz_52_79 rfl is_82 rd_5 rfl (fun v187 ev187 pv187 qv187 => ?_)
        have zv187 := ev187.trans (rfl : h177 82 9 = h177 82 9)
        refine w_ifne (t := 102) gz_52_82 rfl (fun u188 => ?_) (fun u188 => by exfalso; omega)
        have c189 := ev187.symm
        exact w_vret gz_52_102 gm_52 (k0 h177 (gh177) (by omega) (by omega) Ln_h177 Sp_h177)
      ·
        have gh180 : my_fr [(4, 5), (4, 8), (4, 9), (5, 5), (5, 6), (5, 7), (5, 8), (5, 9), (32, -1), (33, -1), (34, -1), (35, -1)] h h180 := my_fr.tr gh173 (frh180.mo rfl)
        have Ln_h180 : Ln h180 := Ln_ag (my_ag.fr frh180 rfl) Ln_h173
        have Sp_h180 : Sp h180 wv := Sp_ag (my_ag.fr frh180 rfl) hwv Ln_h173 Sp_h173
        have St5_h180 : St5 h180 := St5_ag (my_ag.fr frh180 rfl) Ln_h173 St5_h173
        show wp l rho (d + 3) 52 77 [(2, 82), (0, v7), (0, 0), (9, 0)] [(0, v181)] h180 Q
        refine w_istore_n (ls' := [(2, 82), (0, v7), (0, 0), (0, v181)]) gz_52_77 gm_52 rfl rfl rfl ?_
        refine w_aload_n gz_52_78 rfl ?_
        refine v_getI (j := 9) gz_52_79 rfl is_82 rd_5 rfl (fun v190 ev190 pv190 qv190 => ?_)
        have zv190 := ev190.trans w186
        refine w_ifne (t := 102) gz_52_82 rfl (fun u191 => by exfalso; omega) (fun u191 => ?_)
        refine w_aload_n gz_52_85 rfl ?_
        refine w_inv (k := 0) (as := []) (r := []) (x := 82) (ls0 := [(2, 82)]) gz_52_86 gm_47 rfl is_82 rd_5 rfl rfl rfl rfl rfl (c_Reader_endsHere_f0 (d := d)  (ev190.symm.trans (by omega)) (fun h192 frh192 w193 w194 => ?_) (fun h195 frh195 w196 => ?_))
        ·
          have gh192 : my_fr [(4, 5), (4, 8), (4, 9), (5, 5), (5, 6), (5, 7), (5, 8), (5, 9), (32, -1), (33, -1), (34, -1), (35, -1)] h h192 := my_fr.tr gh180 (frh192.mo rfl)
          have Ln_h192 : Ln h192 := Ln_ag (my_ag.fr frh192 rfl) Ln_h180
          have Sp_h192 : Sp h192 wv := Sp_ag (my_ag.fr frh192 rfl) hwv Ln_h180 Sp_h180
          have St5_h192 : St5 h192 := St5_ag (my_ag.fr frh192 rfl) Ln_h180 St5_h180
          show wp l rho (d + 3) 52 89 [(2, 82), (0, v7), (0, 0), (0, v181)] [(0, 0)] h192 Q
          refine w_ifeq (t := 102) gz_52_89 rfl (fun u197 => ?_) (fun u197 => by exfalso; omega)
          have c198 := (rfl : h192 82 9 = h192 82 9)
          exact w_vret gz_52_102 gm_52 (k0 h192 (gh192) (by omega) (by omega) Ln_h192 Sp_h192)
        ·
          have gh195 : my_fr [(4, 5), (4, 8), (4, 9), (5, 5), (5, 6), (5, 7), (5, 8), (5, 9), (32, -1), (33, -1), (34, -1), (35, -1)] h h195 := my_fr.tr gh180 (frh195.mo rfl)
          have Ln_h195 : Ln h195 := Ln_ag (my_ag.fr frh195 rfl) Ln_h180
          have Sp_h195 : Sp h195 wv := Sp_ag (my_ag.fr frh195 rfl) hwv Ln_h180 Sp_h180
          have St5_h195 : St5 h195 := St5_ag (my_ag.fr frh195 rfl) Ln_h180 St5_h180
          show wp l rho (d + 3) 52 89 [(2, 82), (0, v7), (0, 0), (0, v181)] [(0, 1)] h195 Q
          refine w_ifeq (t := 102) gz_52_89 rfl (fun u199 => by exfalso; omega) (fun u199 => ?_)
          refine w_aload_n gz_52_92 rfl ?_
          refine v_getR (j := 2) gz_52_93 rfl is_82 rd_5 rfl (fun v200 ev200 tv200 => ?_)
          have zv200 : v1 = v200 := (ev200.trans ((my_fr.at frh195 is_82 rfl).trans ((my_fr.at frh180 is_82 rfl).trans ((my_fr.at frh173 is_82 rfl).trans ((my_fr.at frh6 is_82 rfl).trans ev1.symm))))).symm
          subst zv200
          refine w_iload_n gz_52_96 rfl ?_
          refine w_iload_n gz_52_97 rfl ?_
          refine w_iload_n gz_52_98 rfl ?_
          have ce201 : h195 82 2 = v1 := ((my_fr.at frh195 is_82 rfl).trans ((my_fr.at frh180 is_82 rfl).trans ((my_fr.at frh173 is_82 rfl).trans ((my_fr.at frh6 is_82 rfl).trans ev1.symm))))
          have s5a := St5_h195
          have s5e : v1 = h195 82 2 := by first | assumption | omega
          unfold St5 at s5a
          rw [← s5e] at s5a
          refine w_inv (k := 0) (as := [(0, v181), (0, v7), (0, 0)]) (r := []) (x := v1) (ls0 := [(2, v1), (0, 0), (0, v7), (0, v181)]) gz_52_99 gm_53 rfl tv1 rd_4 rfl rfl rfl rfl rfl (c_Lens_addCut (d := (d + 1)) (x0 := v1) (x1 := 0) (x2 := v7) (x3 := v181) tv1 (by omega) (by omega) (by omega) (by omega) (by omega) (by omega) (by first | assumption | omega | (subst_vars; omega)) (fun h202 frh202 fxh202 w203 w204 xp205 => ?_))
          have gh202 : my_fr [(4, 5), (4, 8), (4, 9), (5, 5), (5, 6), (5, 7), (5, 8), (5, 9), (32, -1), (33, -1), (34, -1), (35, -1)] h h202 := my_fr.tr gh195 (frh202.mo rfl)
          have Ln_h202 : Ln h202 := Ln_fx fxh202 (by first | assumption | omega) Ln_h195
          show wp l rho (d + 3) 52 102 [(2, 82), (0, v7), (0, 0), (0, v181)] [] h202 Q
          have Sp_h202t206 : Sp h202 wv := Sp_add fxh202 (by first | assumption | omega) hwv Ln_h195 Sp_h195 xp205 (by have := St5_h195.1; omega) (by omega) (by omega)
          have c207 := ((my_fr.at frh202 is_82 rfl).trans w196)
          exact w_vret gz_52_102 gm_52 (k1 h202 (gh202) (by omega) Ln_h202 Sp_h202t206)
theorem c_Reader_readFew_f0 {l : Launch} {rho : Nat → Int32} {d : Nat} {h : my_H} {Q : my_H → my_V → Prop} {wv : Int} (cf : h 82 9 = 0) (hwv : wv ≤ 5) (hwv0 : 0 ≤ wv) (n_Ln : Ln h) (n_Sp : Sp h wv) (n_St5 : St5 h) (k0 : ∀ (h' : my_H), my_fr [(4, 4), (4, 5), (4, 9), (5, 5), (5, 6), (5, 7), (5, 8), (5, 9), (32, -1), (33, -1), (34, -1), (35, -1), (36, -1), (37, -1), (39, -1)] h h' → 1 ≤ h' 82 9 → h' 82 9 ≤ 16004 → Ln h' → Sp h' wv → Q h' (9, 0)) (k1 : ∀ (h' : my_H), my_fr [(4, 4), (4, 5), (4, 9), (5, 5), (5, 6), (5, 7), (5, 8), (5, 9), (32, -1), (33, -1), (34, -1), (35, -1), (36, -1), (37, -1), (39, -1)] h h' → h' 82 9 = 0 → Ln h' → Sp h' wv → Q h' (9, 0)) : wp l rho (d + 2) 56 0 [(2, 82), (9, 0), (9, 0)] [] h Q := by
  have J2_0 : ∀ (n : Nat) (p2_0 : Int) (h2_0 : my_H), my_fr [(4, 4), (4, 5), (4, 9), (5, 5), (5, 6), (5, 7), (5, 8), (5, 9), (32, -1), (33, -1), (34, -1), (35, -1), (36, -1), (37, -1), (39, -1)] h h2_0 → 0 ≤ p2_0 → p2_0 ≤ 8 → h2_0 82 9 = 0 → Ln h2_0 → Sp h2_0 wv → St5 h2_0 → Pk h2_0 p2_0 → 9 - p2_0 ≤ (n : Int) → wp l rho (d + 2) 56 2 [(2, 82), (0, p2_0), (9, 0)] [] h2_0 Q := by
    intro n
    induction n with
    | zero => intro p2_0 h2_0 gh_2_0 q0_2_0 q1_2_0 c82_9_2_0 n_Ln_2_0 n_Sp_2_0 n_St5_2_0 n_Pk_2_0 hm_2_0; exfalso; omega
    | succ n ih_2_0 =>
      intro p2_0 h2_0 gh_2_0 q0_2_0 q1_2_0 c82_9_2_0 n_Ln_2_0 n_Sp_2_0 n_St5_2_0 n_Pk_2_0 hm_2_0
      refine w_aload_n gz_56_2 rfl ?_
      refine w_aload_n gz_56_3 rfl ?_
      refine v_getR (j := 2) gz_56_4 rfl is_82 rd_5 rfl (fun v1 ev1 tv1 => ?_)
      refine v_getI (j := 4) gz_56_7 rfl tv1 rd_4 rfl (fun v2 ev2 pv2 qv2 => ?_)
      refine w_inv (k := 0) (as := [(0, v2)]) (r := []) (x := 82) (ls0 := [(2, 82), (0, v2)]) gz_56_10 gm_44 rfl is_82 rd_5 rfl rfl rfl rfl rfl ?_
      refine w_aload_n gz_44_0 rfl ?_
      refine v_getI (j := 6) gz_44_1 rfl is_82 rd_5 rfl (fun v3 ev3 pv3 qv3 => ?_)
      refine w_iconst gz_44_4 (by decide) ?_
      refine w_iceq (t := 15) gz_44_5 rfl (fun u4 => ?_) (fun u4 => ?_)
      ·
        refine w_aload_n gz_44_15 rfl ?_
        refine v_getI (j := 8) gz_44_16 rfl is_82 rd_5 rfl (fun v5 ev5 pv5 qv5 => ?_)
        refine w_iload_n gz_44_19 rfl ?_
        refine w_iclt (t := 30) gz_44_20 rfl (fun u6 => ?_) (fun u6 => ?_)
        ·
          refine w_aload_n gz_44_30 rfl ?_
          refine v_getI (j := 9) gz_44_31 rfl is_82 rd_5 rfl (fun v7 ev7 pv7 qv7 => ?_)
          have zv7 := ev7.trans c82_9_2_0
          refine w_ifne (t := 44) gz_44_34 rfl (fun u8 => by exfalso; omega) (fun u8 => ?_)
          refine w_aload_n gz_44_37 rfl ?_
          refine v_getI (j := 8) gz_44_38 rfl is_82 rd_5 rfl (fun v9 ev9 pv9 qv9 => ?_)
          have zv9 := ev9.trans ev5.symm
          refine w_goto (t := 45) gz_44_41 rfl ?_
          refine w_iret gz_44_45 gm_44 ?_
          show wp l rho (d + 2) 56 13 [(2, 82), (0, p2_0), (9, 0)] [(0, v9)] h2_0 Q
          refine w_istore_n (ls' := [(2, 82), (0, p2_0), (0, v9)]) gz_56_13 gm_56 rfl rfl rfl ?_
          refine w_iload_n gz_56_14 rfl ?_
          refine w_iconst gz_56_15 (by decide) ?_
          refine w_icne (t := 20) gz_56_16 rfl (fun u10 => ?_) (fun u10 => by exfalso; omega)
          refine w_aload_n gz_56_20 rfl ?_
          refine v_getR (j := 2) gz_56_21 rfl is_82 rd_5 rfl (fun v11 ev11 tv11 => ?_)
          have zv11 : v1 = v11 := (ev11.trans ev1.symm).symm
          subst zv11
          refine w_iload_n gz_56_24 rfl ?_
          refine w_iload_n gz_56_25 rfl ?_
          have ce12 : h2_0 82 2 = v1 := ev1.symm
          have s5a := n_St5_2_0
          have s5e : v1 = h2_0 82 2 := by first | assumption | omega
          unfold St5 at s5a
          rw [← s5e] at s5a
          refine w_inv (k := 1) (as := [(0, p2_0), (0, v9)]) (r := []) (x := v1) (ls0 := [(2, v1), (0, v9), (0, p2_0), (9, 0)]) gz_56_26 gm_57 rfl tv1 rd_4 rfl rfl rfl rfl rfl (c_Lens_isPicked (d := (d + 1)) (x0 := v1) (x1 := v9) (x2 := p2_0) tv1 (by omega) (by omega) (by omega) (by omega) (by first | assumption | omega | (subst_vars; omega)) (fun xp13 => ?_) (fun w14 => ?_))
          ·
            show wp l rho (d + 2) 56 29 [(2, 82), (0, p2_0), (0, v9)] [(0, 0)] h2_0 Q
            have np := xp13
            refine w_ifeq (t := 38) gz_56_29 rfl (fun u15 => ?_) (fun u15 => by exfalso; omega)
            refine w_aload_n gz_56_38 rfl ?_
            refine v_getR (j := 2) gz_56_39 rfl is_82 rd_5 rfl (fun v16 ev16 tv16 => ?_)
            have zv16 : v1 = v16 := (ev16.trans ev1.symm).symm
            subst zv16
            refine w_iload_n gz_56_42 rfl ?_
            refine w_iinc (ls' := [(2, 82), (0, (p2_0 + 1)), (0, v9)]) gz_56_43 rfl gm_56 rfl rfl rfl ⟨by omega, by omega⟩ ?_
            refine w_iload_n gz_56_46 rfl ?_
            have ce17 : h2_0 82 2 = v1 := ev1.symm
            have sv : v1 = h2_0 82 2 := by omega
            have pk7 := n_Pk_2_0
            refine v_knowA (x := (v1 + 5)) (ix_4_5 tv1) rd_36 (fun kA => ?_)
            have hp7 : p2_0 ≤ 7 := by
              rw [sv] at kA s5a
              have np2 := np
              rw [sv] at np2
              exact pick7 (f := fun i => h2_0 (h2_0 82 2 + 5) (h2_0 (h2_0 82 2) 9 * 8 + i)) (by omega) (fun i a b => kA _ (by omega) (by omega)) (fun i j a b c => pk7 i j a b c) (by omega) (by omega) (fun i a b => np2 i a b)
            have hi18 : 0 ≤ p2_0 := by omega
            have hi19 : p2_0 ≤ 7 := by omega
            refine w_inv (k := 0) (as := [(0, v9), (0, p2_0)]) (r := []) (x := v1) (ls0 := [(2, v1), (0, p2_0), (0, v9)]) gz_56_47 gm_58 rfl tv1 rd_4 rfl rfl rfl rfl rfl ?_
            refine w_aload_n gz_58_0 rfl ?_
            refine w_getX (v := (v1 + 5)) gz_58_1 tv1 rd_4 rfl (by decide) rfl ?_
            refine w_aload_n gz_58_4 rfl ?_
            refine v_getI (j := 9) gz_58_5 rfl tv1 rd_4 rfl (fun v21 ev21 pv21 qv21 => ?_)
            refine w_bipush gz_58_8 (by decide) ?_
            refine w_imul gz_58_10 ⟨by omega, by omega⟩ ?_
            refine w_iload_n gz_58_11 rfl ?_
            refine w_iadd gz_58_12 ⟨by omega, by omega⟩ ?_
            refine w_iload_n gz_58_13 rfl ?_
            have hi22 : 0 ≤ ((v21 * 8) + p2_0) := by omega
            have hi23 : ((v21 * 8) + p2_0) ≤ 47 := by omega
            refine w_iast gz_58_14 (ix_4_5 tv1) rd_36 (by omega) (by omega) (by omega) (by omega) (fun h24 fh24 => ?_)
            have gh24 : my_fr [(4, 4), (4, 5), (4, 9), (5, 5), (5, 6), (5, 7), (5, 8), (5, 9), (32, -1), (33, -1), (34, -1), (35, -1), (36, -1), (37, -1), (39, -1)] h h24 := my_fr.up gh_2_0 (ix_4_5 tv1) fh24 rfl
            have Ln_h24 : Ln h24 := Ln_ag (my_ag.up fh24 (ix_4_5 tv1) rfl) n_Ln_2_0
            have Sp_h24 : Sp h24 wv := Sp_ag (my_ag.up fh24 (ix_4_5 tv1) rfl) hwv n_Ln_2_0 n_Sp_2_0
            have St5_h24 : St5 h24 := St5_ag (my_ag.up fh24 (ix_4_5 tv1) rfl) n_Ln_2_0 n_St5_2_0
            refine w_vret gz_58_15 gm_58 ?_
            show wp l rho (d + 2) 56 50 [(2, 82), (0, (p2_0 + 1)), (0, v9)] [] h24 Q
            have Pk_h24t25 : Pk h24 (p2_0 + 1) := Pk_add n_Ln_2_0 n_Pk_2_0 sv (by omega) fh24 np
            refine w_aload_n gz_56_50 rfl ?_
            refine w_inv (k := 2) (as := []) (r := []) (x := 82) (ls0 := [(2, 82), (9, 0), (9, 0)]) gz_56_51 gm_37 rfl is_82 rd_5 rfl rfl rfl rfl rfl (c_Reader_nextToken_f0 (d := d)  (((my_up_role fh24 is_82 (ix_4_5 tv1) rfl).trans ev7.symm).trans (by omega)) (fun h26 frh26 w27 w28 w29 => ?_))
            have gh26 : my_fr [(4, 4), (4, 5), (4, 9), (5, 5), (5, 6), (5, 7), (5, 8), (5, 9), (32, -1), (33, -1), (34, -1), (35, -1), (36, -1), (37, -1), (39, -1)] h h26 := my_fr.tr gh24 (frh26.mo rfl)
            have Ln_h26 : Ln h26 := Ln_ag (my_ag.fr frh26 rfl) Ln_h24
            have Sp_h26 : Sp h26 wv := Sp_ag (my_ag.fr frh26 rfl) hwv Ln_h24 Sp_h24
            have St5_h26 : St5 h26 := St5_ag (my_ag.fr frh26 rfl) Ln_h24 St5_h24
            have Pk_h26 : Pk h26 (p2_0 + 1) := Pk_ag (my_ag.fr frh26 rfl) Ln_h24 Pk_h24t25
            show wp l rho (d + 2) 56 54 [(2, 82), (0, (p2_0 + 1)), (0, v9)] [] h26 Q
            refine w_aload_n gz_56_54 rfl ?_
            refine v_getI (j := 6) gz_56_55 rfl is_82 rd_5 rfl (fun v30 ev30 pv30 qv30 => ?_)
            have zv30 := ev30.trans (rfl : h26 82 6 = h26 82 6)
            refine w_iconst gz_56_58 (by decide) ?_
            refine w_iceq (t := 68) gz_56_59 rfl (fun u31 => ?_) (fun u31 => ?_)
            ·
              refine w_aload_n gz_56_68 rfl ?_
              refine w_inv (k := 2) (as := []) (r := []) (x := 82) (ls0 := [(2, 82), (9, 0), (9, 0)]) gz_56_69 gm_37 rfl is_82 rd_5 rfl rfl rfl rfl rfl (c_Reader_nextToken_f0 (d := d)  (((my_fr.at frh26 is_82 rfl).trans ((my_up_role fh24 is_82 (ix_4_5 tv1) rfl).trans ev7.symm)).trans (by omega)) (fun h32 frh32 w33 w34 w35 => ?_))
              have gh32 : my_fr [(4, 4), (4, 5), (4, 9), (5, 5), (5, 6), (5, 7), (5, 8), (5, 9), (32, -1), (33, -1), (34, -1), (35, -1), (36, -1), (37, -1), (39, -1)] h h32 := my_fr.tr gh26 (frh32.mo rfl)
              have Ln_h32 : Ln h32 := Ln_ag (my_ag.fr frh32 rfl) Ln_h26
              have Sp_h32 : Sp h32 wv := Sp_ag (my_ag.fr frh32 rfl) hwv Ln_h26 Sp_h26
              have St5_h32 : St5 h32 := St5_ag (my_ag.fr frh32 rfl) Ln_h26 St5_h26
              have Pk_h32 : Pk h32 (p2_0 + 1) := Pk_ag (my_ag.fr frh32 rfl) Ln_h26 Pk_h26
              show wp l rho (d + 2) 56 72 [(2, 82), (0, (p2_0 + 1)), (0, v9)] [] h32 Q
              refine w_aload_n gz_56_72 rfl ?_
              refine v_getR (j := 2) gz_56_73 rfl is_82 rd_5 rfl (fun v36 ev36 tv36 => ?_)
              have zv36 : v1 = v36 := (ev36.trans ((my_fr.at frh32 is_82 rfl).trans ((my_fr.at frh26 is_82 rfl).trans ((my_up_role fh24 is_82 (ix_4_5 tv1) rfl).trans ev1.symm)))).symm
              subst zv36
              refine w_iload_n gz_56_76 rfl ?_
              have ce37 : h32 82 2 = v1 := ((my_fr.at frh32 is_82 rfl).trans ((my_fr.at frh26 is_82 rfl).trans ((my_up_role fh24 is_82 (ix_4_5 tv1) rfl).trans ev1.symm)))
              have s5a := St5_h32
              have s5e : v1 = h32 82 2 := by first | assumption | omega
              unfold St5 at s5a
              rw [← s5e] at s5a
              have hi38 : 1 ≤ (p2_0 + 1) := by omega
              have hi39 : (p2_0 + 1) ≤ 8 := by omega
              refine w_inv (k := 1) (as := [(0, (p2_0 + 1))]) (r := []) (x := v1) (ls0 := [(2, v1), (0, (p2_0 + 1)), (9, 0)]) gz_56_77 gm_59 rfl tv1 rd_4 rfl rfl rfl rfl rfl (c_Lens_addFew (d := d) (x0 := v1) (x1 := (p2_0 + 1)) tv1 (by omega) (by omega) (by first | assumption | omega | (subst_vars; omega)) (fun h40 frh40 fxh40 w41 w42 w43 w44 xp45 => ?_))
              have gh40 : my_fr [(4, 4), (4, 5), (4, 9), (5, 5), (5, 6), (5, 7), (5, 8), (5, 9), (32, -1), (33, -1), (34, -1), (35, -1), (36, -1), (37, -1), (39, -1)] h h40 := my_fr.tr gh32 (frh40.mo rfl)
              have Ln_h40 : Ln h40 := Ln_fx fxh40 (by first | assumption | omega) Ln_h32
              show wp l rho (d + 2) 56 80 [(2, 82), (0, (p2_0 + 1)), (0, v9)] [] h40 Q
              have Sp_h40t46 : Sp h40 wv := Sp_add fxh40 (by first | assumption | omega) hwv Ln_h32 Sp_h32 xp45 (by have := St5_h32.1; omega) (by omega) (by omega)
              have c47 := ((my_fr.at frh40 is_82 rfl).trans ((my_fr.at frh32 is_82 rfl).trans ((my_fr.at frh26 is_82 rfl).trans ((my_up_role fh24 is_82 (ix_4_5 tv1) rfl).trans ev7.symm))))
              exact w_vret gz_56_80 gm_56 (k1 h40 (gh40) (by omega) Ln_h40 Sp_h40t46)
            ·
              refine w_iload_n gz_56_62 rfl ?_
              refine w_bipush gz_56_63 (by decide) ?_
              refine w_icle (t := 2) gz_56_65 rfl (fun u48 => ?_) (fun u48 => by exfalso; omega)
              refine w_weak (ls' := [(2, 82), (0, (p2_0 + 1)), (9, 0)]) (wk_e (wk_e (wk_9 wk_n))) ?_
              exact ih_2_0 ((p2_0 + 1)) h26 (gh26) (by omega) (by omega) (((my_fr.at frh26 is_82 rfl).trans ((my_up_role fh24 is_82 (ix_4_5 tv1) rfl).trans ev7.symm)).trans (by omega)) Ln_h26 Sp_h26 St5_h26 Pk_h26 (by omega)
          ·
            show wp l rho (d + 2) 56 29 [(2, 82), (0, p2_0), (0, v9)] [(0, 1)] h2_0 Q
            refine w_ifeq (t := 38) gz_56_29 rfl (fun u49 => by exfalso; omega) (fun u49 => ?_)
            refine w_aload_n gz_56_32 rfl ?_
            refine w_iconst gz_56_33 (by decide) ?_
            refine w_inv (k := 0) (as := [(0, 3)]) (r := []) (x := 82) (ls0 := [(2, 82), (0, 3)]) gz_56_34 gm_42 rfl is_82 rd_5 rfl rfl rfl rfl rfl ?_
            refine w_aload_n gz_42_0 rfl ?_
            refine v_getI (j := 9) gz_42_1 rfl is_82 rd_5 rfl (fun v50 ev50 pv50 qv50 => ?_)
            have zv50 := ev50.trans ev7.symm
            refine w_ifne (t := 20) gz_42_4 rfl (fun u51 => by exfalso; omega) (fun u51 => ?_)
            refine w_aload_n gz_42_7 rfl ?_
            refine w_iload_n gz_42_8 rfl ?_
            refine w_bipush gz_42_9 (by decide) ?_
            refine w_aload_n gz_42_11 rfl ?_
            refine v_getI (j := 7) gz_42_12 rfl is_82 rd_5 rfl (fun v52 ev52 pv52 qv52 => ?_)
            refine w_imul gz_42_15 ⟨by omega, by omega⟩ ?_
            refine w_iadd gz_42_16 ⟨by omega, by omega⟩ ?_
            refine v_putI (j := 9) gz_42_17 rfl is_82 rd_5 rfl (by omega) (by omega) rfl (fun h53 fh53 => ?_)
            have gh53 : my_fr [(4, 4), (4, 5), (4, 9), (5, 5), (5, 6), (5, 7), (5, 8), (5, 9), (32, -1), (33, -1), (34, -1), (35, -1), (36, -1), (37, -1), (39, -1)] h h53 := my_fr.up gh_2_0 is_82 fh53 rfl
            have Ln_h53 : Ln h53 := Ln_ag (my_ag.up fh53 is_82 rfl) n_Ln_2_0
            have Sp_h53 : Sp h53 wv := Sp_ag (my_ag.up fh53 is_82 rfl) hwv n_Ln_2_0 n_Sp_2_0
            have St5_h53 : St5 h53 := St5_ag (my_ag.up fh53 is_82 rfl) n_Ln_2_0 n_St5_2_0
            have Pk_h53 : Pk h53 p2_0 := Pk_ag (my_ag.up fh53 is_82 rfl) n_Ln_2_0 n_Pk_2_0
            refine w_vret gz_42_20 gm_42 ?_
            show wp l rho (d + 2) 56 37 [(2, 82), (0, p2_0), (0, v9)] [] h53 Q
            have c54 := (my_up_self fh53)
            exact w_vret gz_56_37 gm_56 (k0 h53 (gh53) (by omega) (by omega) Ln_h53 Sp_h53)
        ·
          refine w_aload_n gz_44_23 rfl ?_
          refine w_iconst gz_44_24 (by decide) ?_
          refine w_inv (k := 0) (as := [(0, 4)]) (r := []) (x := 82) (ls0 := [(2, 82), (0, 4)]) gz_44_25 gm_42 rfl is_82 rd_5 rfl rfl rfl rfl rfl ?_
          refine w_aload_n gz_42_0 rfl ?_
          refine v_getI (j := 9) gz_42_1 rfl is_82 rd_5 rfl (fun v55 ev55 pv55 qv55 => ?_)
          have zv55 := ev55.trans c82_9_2_0
          refine w_ifne (t := 20) gz_42_4 rfl (fun u56 => by exfalso; omega) (fun u56 => ?_)
          refine w_aload_n gz_42_7 rfl ?_
          refine w_iload_n gz_42_8 rfl ?_
          refine w_bipush gz_42_9 (by decide) ?_
          refine w_aload_n gz_42_11 rfl ?_
          refine v_getI (j := 7) gz_42_12 rfl is_82 rd_5 rfl (fun v57 ev57 pv57 qv57 => ?_)
          refine w_imul gz_42_15 ⟨by omega, by omega⟩ ?_
          refine w_iadd gz_42_16 ⟨by omega, by omega⟩ ?_
          refine v_putI (j := 9) gz_42_17 rfl is_82 rd_5 rfl (by omega) (by omega) rfl (fun h58 fh58 => ?_)
          have gh58 : my_fr [(4, 4), (4, 5), (4, 9), (5, 5), (5, 6), (5, 7), (5, 8), (5, 9), (32, -1), (33, -1), (34, -1), (35, -1), (36, -1), (37, -1), (39, -1)] h h58 := my_fr.up gh_2_0 is_82 fh58 rfl
          have Ln_h58 : Ln h58 := Ln_ag (my_ag.up fh58 is_82 rfl) n_Ln_2_0
          have Sp_h58 : Sp h58 wv := Sp_ag (my_ag.up fh58 is_82 rfl) hwv n_Ln_2_0 n_Sp_2_0
          have St5_h58 : St5 h58 := St5_ag (my_ag.up fh58 is_82 rfl) n_Ln_2_0 n_St5_2_0
          have Pk_h58 : Pk h58 p2_0 := Pk_ag (my_ag.up fh58 is_82 rfl) n_Ln_2_0 n_Pk_2_0
          refine w_vret gz_42_20 gm_42 ?_
          show wp l rho (d + 1) 44 28 [(2, 82), (0, v2)] [] h58 _
          refine w_iconst gz_44_28 (by decide) ?_
          refine w_iret gz_44_29 gm_44 ?_
          show wp l rho (d + 2) 56 13 [(2, 82), (0, p2_0), (9, 0)] [(0, (-1))] h58 Q
          refine w_istore_n (ls' := [(2, 82), (0, p2_0), (0, (-1))]) gz_56_13 gm_56 rfl rfl rfl ?_
          refine w_iload_n gz_56_14 rfl ?_
          refine w_iconst gz_56_15 (by decide) ?_
          refine w_icne (t := 20) gz_56_16 rfl (fun u59 => by exfalso; omega) (fun u59 => ?_)
          have c60 := (my_up_self fh58)
          exact w_vret gz_56_19 gm_56 (k0 h58 (gh58) (by omega) (by omega) Ln_h58 Sp_h58)
      ·
        refine w_aload_n gz_44_8 rfl ?_
        refine w_iconst gz_44_9 (by decide) ?_
        refine w_inv (k := 0) (as := [(0, 1)]) (r := []) (x := 82) (ls0 := [(2, 82), (0, 1)]) gz_44_10 gm_42 rfl is_82 rd_5 rfl rfl rfl rfl rfl ?_
        refine w_aload_n gz_42_0 rfl ?_
        refine v_getI (j := 9) gz_42_1 rfl is_82 rd_5 rfl (fun v61 ev61 pv61 qv61 => ?_)
        have zv61 := ev61.trans c82_9_2_0
        refine w_ifne (t := 20) gz_42_4 rfl (fun u62 => by exfalso; omega) (fun u62 => ?_)
        refine w_aload_n gz_42_7 rfl ?_
        refine w_iload_n gz_42_8 rfl ?_
        refine w_bipush gz_42_9 (by decide) ?_
        refine w_aload_n gz_42_11 rfl ?_
        refine v_getI (j := 7) gz_42_12 rfl is_82 rd_5 rfl (fun v63 ev63 pv63 qv63 => ?_)
        refine w_imul gz_42_15 ⟨by omega, by omega⟩ ?_
        refine w_iadd gz_42_16 ⟨by omega, by omega⟩ ?_
        refine v_putI (j := 9) gz_42_17 rfl is_82 rd_5 rfl (by omega) (by omega) rfl (fun h64 fh64 => ?_)
        have gh64 : my_fr [(4, 4), (4, 5), (4, 9), (5, 5), (5, 6), (5, 7), (5, 8), (5, 9), (32, -1), (33, -1), (34, -1), (35, -1), (36, -1), (37, -1), (39, -1)] h h64 := my_fr.up gh_2_0 is_82 fh64 rfl
        have Ln_h64 : Ln h64 := Ln_ag (my_ag.up fh64 is_82 rfl) n_Ln_2_0
        have Sp_h64 : Sp h64 wv := Sp_ag (my_ag.up fh64 is_82 rfl) hwv n_Ln_2_0 n_Sp_2_0
        have St5_h64 : St5 h64 := St5_ag (my_ag.up fh64 is_82 rfl) n_Ln_2_0 n_St5_2_0
        have Pk_h64 : Pk h64 p2_0 := Pk_ag (my_ag.up fh64 is_82 rfl) n_Ln_2_0 n_Pk_2_0
        refine w_vret gz_42_20 gm_42 ?_
        show wp l rho (d + 1) 44 13 [(2, 82), (0, v2)] [] h64 _
        refine w_iconst gz_44_13 (by decide) ?_
        refine w_iret gz_44_14 gm_44 ?_
        show wp l rho (d + 2) 56 13 [(2, 82), (0, p2_0), (9, 0)] [(0, (-1))] h64 Q
        refine w_istore_n (ls' := [(2, 82), (0, p2_0), (0, (-1))]) gz_56_13 gm_56 rfl rfl rfl ?_
        refine w_iload_n gz_56_14 rfl ?_
        refine w_iconst gz_56_15 (by decide) ?_
        refine w_icne (t := 20) gz_56_16 rfl (fun u65 => by exfalso; omega) (fun u65 => ?_)
        have c66 := (my_up_self fh64)
        exact w_vret gz_56_19 gm_56 (k0 h64 (gh64) (by omega) (by omega) Ln_h64 Sp_h64)
  refine w_iconst gz_56_0 (by decide) ?_
  refine w_istore_n (ls' := [(2, 82), (0, 0), (9, 0)]) gz_56_1 gm_56 rfl rfl rfl ?_
  exact J2_0 9 (0) h (my_fr.rf) (by omega) (by omega) (cf.trans (by omega)) n_Ln n_Sp n_St5 (fun i j a b c => absurd c (by omega)) (by omega)
theorem c_Reader_readJoin_f0 {l : Launch} {rho : Nat → Int32} {d : Nat} {h : my_H} {Q : my_H → my_V → Prop} {wv : Int} (cf : h 82 9 = 0) (hwv : wv ≤ 5) (hwv0 : 0 ≤ wv) (n_Ln : Ln h) (n_Sp : Sp h wv) (n_St5 : St5 h) (k0 : ∀ (h' : my_H), my_fr [(4, 4), (4, 5), (4, 6), (4, 8), (4, 9), (5, 5), (5, 6), (5, 7), (5, 8), (5, 9), (32, -1), (33, -1), (34, -1), (35, -1), (37, -1)] h h' → 1 ≤ h' 82 9 → h' 82 9 ≤ 16005 → Ln h' → Sp h' wv → Q h' (9, 0)) (k1 : ∀ (h' : my_H), my_fr [(4, 4), (4, 5), (4, 6), (4, 8), (4, 9), (5, 5), (5, 6), (5, 7), (5, 8), (5, 9), (32, -1), (33, -1), (34, -1), (35, -1), (37, -1)] h h' → h' 82 9 = 0 → Ln h' → Sp h' wv → Q h' (9, 0)) : wp l rho (d + 3) 60 0 [(2, 82), (9, 0), (9, 0), (9, 0)] [] h Q := by
  refine w_aload_n gz_60_0 rfl ?_
  refine w_inv (k := 1) (as := []) (r := []) (x := 82) (ls0 := [(2, 82), (9, 0)]) gz_60_1 gm_43 rfl is_82 rd_5 rfl rfl rfl rfl rfl (c_Reader_wallNumber_f0 (d := d)  (cf.trans (by omega)) (fun h1 frh1 w2 w3 xp4 => ?_) (fun h5 v6 frh5 w7 w8 w9 w10 w11 w12 xp13 => ?_))
  ·
    have gh1 : my_fr [(4, 4), (4, 5), (4, 6), (4, 8), (4, 9), (5, 5), (5, 6), (5, 7), (5, 8), (5, 9), (32, -1), (33, -1), (34, -1), (35, -1), (37, -1)] h h1 := my_fr.tr my_fr.rf (frh1.mo rfl)
    have Ln_h1 : Ln h1 := Ln_ag (my_ag.fr frh1 rfl) n_Ln
    have Sp_h1 : Sp h1 wv := Sp_ag (my_ag.fr frh1 rfl) hwv n_Ln n_Sp
    have St5_h1 : St5 h1 := St5_ag (my_ag.fr frh1 rfl) n_Ln n_St5
    show wp l rho (d + 3) 60 4 [(2, 82), (9, 0), (9, 0), (9, 0)] [(0, (-1))] h1 Q
    refine w_istore_n (ls' := [(2, 82), (0, (-1)), (9, 0), (9, 0)]) gz_60_4 gm_60 rfl rfl rfl ?_
    refine w_iload_n gz_60_5 rfl ?_
    refine w_iconst gz_60_6 (by decide) ?_
    refine w_icne (t := 11) gz_60_7 rfl (fun u14 => by exfalso; omega) (fun u14 => ?_)
    have c15 := (rfl : h1 82 9 = h1 82 9)
    exact w_vret gz_60_10 gm_60 (k0 h1 (gh1) (by omega) (by omega) Ln_h1 Sp_h1)
  ·
    have gh5 : my_fr [(4, 4), (4, 5), (4, 6), (4, 8), (4, 9), (5, 5), (5, 6), (5, 7), (5, 8), (5, 9), (32, -1), (33, -1), (34, -1), (35, -1), (37, -1)] h h5 := my_fr.tr my_fr.rf (frh5.mo rfl)
    have Ln_h5 : Ln h5 := Ln_ag (my_ag.fr frh5 rfl) n_Ln
    have Sp_h5 : Sp h5 wv := Sp_ag (my_ag.fr frh5 rfl) hwv n_Ln n_Sp
    have St5_h5 : St5 h5 := St5_ag (my_ag.fr frh5 rfl) n_Ln n_St5
    show wp l rho (d + 3) 60 4 [(2, 82), (9, 0), (9, 0), (9, 0)] [(0, v6)] h5 Q
    refine w_istore_n (ls' := [(2, 82), (0, v6), (9, 0), (9, 0)]) gz_60_4 gm_60 rfl rfl rfl ?_
    refine w_iload_n gz_60_5 rfl ?_
    refine w_iconst gz_60_6 (by decide) ?_
    refine w_icne (t := 11) gz_60_7 rfl (fun u16 => ?_) (fun u16 => by exfalso; omega)
    refine w_aload_n gz_60_11 rfl ?_
    refine w_getX (v := 1) gz_60_12 is_82 rd_5 rfl (by decide) rfl ?_
    refine w_getX (v := 2) gz_60_15 is_1 rd_3 rfl (by decide) rfl ?_
    refine w_iload_n gz_60_18 rfl ?_
    refine w_iald gz_60_19 is_2 rd_25 (by omega) (by omega) (fun v19 ev19 pv19 qv19 => ?_)
    refine w_istore_n (ls' := [(2, 82), (0, v6), (0, v19), (9, 0)]) gz_60_20 gm_60 rfl rfl rfl ?_
    refine w_aload_n gz_60_21 rfl ?_
    refine v_getR (j := 2) gz_60_22 rfl is_82 rd_5 rfl (fun v20 ev20 tv20 => ?_)
    have ce21 : h5 v20 4 = h v20 4 := ((my_fr.at frh5 tv20 rfl).trans (rfl : h v20 4 = h v20 4))
    refine v_getI (j := 4) gz_60_25 rfl tv20 rd_4 rfl (fun v22 ev22 pv22 qv22 => ?_)
    refine w_iload_n gz_60_28 rfl ?_
    refine w_iadd gz_60_29 ⟨by omega, by omega⟩ ?_
    refine w_iconst gz_60_30 (by decide) ?_
    refine w_isub gz_60_31 ⟨by omega, by omega⟩ ?_
    refine w_bipush gz_60_32 (by decide) ?_
    refine w_icle (t := 43) gz_60_34 rfl (fun u23 => ?_) (fun u23 => ?_)
    ·
      refine w_aload_n gz_60_43 rfl ?_
      refine w_inv (k := 2) (as := []) (r := []) (x := 82) (ls0 := [(2, 82), (9, 0), (9, 0)]) gz_60_44 gm_37 rfl is_82 rd_5 rfl rfl rfl rfl rfl (c_Reader_nextToken_f0 (d := (d + 1))  (w12.trans (by omega)) (fun h24 frh24 w25 w26 w27 => ?_))
      have gh24 : my_fr [(4, 4), (4, 5), (4, 6), (4, 8), (4, 9), (5, 5), (5, 6), (5, 7), (5, 8), (5, 9), (32, -1), (33, -1), (34, -1), (35, -1), (37, -1)] h h24 := my_fr.tr gh5 (frh24.mo rfl)
      have Ln_h24 : Ln h24 := Ln_ag (my_ag.fr frh24 rfl) Ln_h5
      have Sp_h24 : Sp h24 wv := Sp_ag (my_ag.fr frh24 rfl) hwv Ln_h5 Sp_h5
      have St5_h24 : St5 h24 := St5_ag (my_ag.fr frh24 rfl) Ln_h5 St5_h5
      show wp l rho (d + 3) 60 47 [(2, 82), (0, v6), (0, v19), (9, 0)] [] h24 Q
      refine w_aload_n gz_60_47 rfl ?_
      refine w_ldcS gz_60_48 (by decide) ?_
      refine w_inv (k := 0) (as := [(3, ((12 : Nat) : Int))]) (r := []) (x := 82) (ls0 := [(2, 82), (3, ((12 : Nat) : Int))]) gz_60_50 gm_40 rfl is_82 rd_5 rfl rfl rfl rfl rfl (c_Reader_takeWord_f0 (d := d) (x1 := ((12 : Nat) : Int)) (by decide) (((my_fr.at frh24 is_82 rfl).trans w12).trans (by omega)) (fun h28 frh28 w29 w30 => ?_) (fun h31 frh31 w32 => ?_))
      ·
        have gh28 : my_fr [(4, 4), (4, 5), (4, 6), (4, 8), (4, 9), (5, 5), (5, 6), (5, 7), (5, 8), (5, 9), (32, -1), (33, -1), (34, -1), (35, -1), (37, -1)] h h28 := my_fr.tr gh24 (frh28.mo rfl)
        have Ln_h28 : Ln h28 := Ln_ag (my_ag.fr frh28 rfl) Ln_h24
        have Sp_h28 : Sp h28 wv := Sp_ag (my_ag.fr frh28 rfl) hwv Ln_h24 Sp_h24
        have St5_h28 : St5 h28 := St5_ag (my_ag.fr frh28 rfl) Ln_h24 St5_h24
        show wp l rho (d + 3) 60 53 [(2, 82), (0, v6), (0, v19), (9, 0)] [(0, 0)] h28 Q
        refine w_ifne (t := 57) gz_60_53 rfl (fun u33 => by exfalso; omega) (fun u33 => ?_)
        have c34 := (rfl : h28 82 9 = h28 82 9)
        exact w_vret gz_60_56 gm_60 (k0 h28 (gh28) (by omega) (by omega) Ln_h28 Sp_h28)
      ·
        have gh31 : my_fr [(4, 4), (4, 5), (4, 6), (4, 8), (4, 9), (5, 5), (5, 6), (5, 7), (5, 8), (5, 9), (32, -1), (33, -1), (34, -1), (35, -1), (37, -1)] h h31 := my_fr.tr gh24 (frh31.mo rfl)
        have Ln_h31 : Ln h31 := Ln_ag (my_ag.fr frh31 rfl) Ln_h24
        have Sp_h31 : Sp h31 wv := Sp_ag (my_ag.fr frh31 rfl) hwv Ln_h24 Sp_h24
        have St5_h31 : St5 h31 := St5_ag (my_ag.fr frh31 rfl) Ln_h24 St5_h24
        show wp l rho (d + 3) 60 53 [(2, 82), (0, v6), (0, v19), (9, 0)] [(0, 1)] h31 Q
        refine w_ifne (t := 57) gz_60_53 rfl (fun u35 => ?_) (fun u35 => by exfalso; omega)
        refine w_aload_n gz_60_57 rfl ?_
        refine w_aload_n gz_60_58 rfl ?_
        refine v_getR (j := 2) gz_60_59 rfl is_82 rd_5 rfl (fun v36 ev36 tv36 => ?_)
        have zv36 : v20 = v36 := (ev36.trans ((my_fr.at frh31 is_82 rfl).trans ((my_fr.at frh24 is_82 rfl).trans ev20.symm))).symm
        subst zv36
        refine v_getI (j := 4) gz_60_62 rfl tv20 rd_4 rfl (fun v37 ev37 pv37 qv37 => ?_)
        have zv37 := ev37.trans ((my_fr.at frh31 tv20 rfl).trans ((my_fr.at frh24 tv20 rfl).trans ev22.symm))
        refine w_inv (k := 1) (as := [(0, v37)]) (r := []) (x := 82) (ls0 := [(2, 82), (0, v37), (9, 0)]) gz_60_65 gm_51 rfl is_82 rd_5 rfl rfl rfl rfl rfl (c_Reader_takeNumber_f0 (d := d) (x1 := v37) (by omega) (by omega) (w32.trans (by omega)) (fun h38 frh38 w39 w40 => ?_) (fun h41 v42 frh41 w43 w44 w45 w46 w47 => ?_))
        ·
          have gh38 : my_fr [(4, 4), (4, 5), (4, 6), (4, 8), (4, 9), (5, 5), (5, 6), (5, 7), (5, 8), (5, 9), (32, -1), (33, -1), (34, -1), (35, -1), (37, -1)] h h38 := my_fr.tr gh31 (frh38.mo rfl)
          have Ln_h38 : Ln h38 := Ln_ag (my_ag.fr frh38 rfl) Ln_h31
          have Sp_h38 : Sp h38 wv := Sp_ag (my_ag.fr frh38 rfl) hwv Ln_h31 Sp_h31
          have St5_h38 : St5 h38 := St5_ag (my_ag.fr frh38 rfl) Ln_h31 St5_h31
          show wp l rho (d + 3) 60 68 [(2, 82), (0, v6), (0, v19), (9, 0)] [(0, (-1))] h38 Q
          refine w_istore_n (ls' := [(2, 82), (0, v6), (0, v19), (0, (-1))]) gz_60_68 gm_60 rfl rfl rfl ?_
          refine w_aload_n gz_60_69 rfl ?_
          refine v_getI (j := 9) gz_60_70 rfl is_82 rd_5 rfl (fun v48 ev48 pv48 qv48 => ?_)
          have zv48 := ev48.trans (rfl : h38 82 9 = h38 82 9)
          refine w_ifne (t := 93) gz_60_73 rfl (fun u49 => ?_) (fun u49 => by exfalso; omega)
          have c50 := ev48.symm
          exact w_vret gz_60_93 gm_60 (k0 h38 (gh38) (by omega) (by omega) Ln_h38 Sp_h38)
        ·
          have gh41 : my_fr [(4, 4), (4, 5), (4, 6), (4, 8), (4, 9), (5, 5), (5, 6), (5, 7), (5, 8), (5, 9), (32, -1), (33, -1), (34, -1), (35, -1), (37, -1)] h h41 := my_fr.tr gh31 (frh41.mo rfl)
          have Ln_h41 : Ln h41 := Ln_ag (my_ag.fr frh41 rfl) Ln_h31
          have Sp_h41 : Sp h41 wv := Sp_ag (my_ag.fr frh41 rfl) hwv Ln_h31 Sp_h31
          have St5_h41 : St5 h41 := St5_ag (my_ag.fr frh41 rfl) Ln_h31 St5_h31
          show wp l rho (d + 3) 60 68 [(2, 82), (0, v6), (0, v19), (9, 0)] [(0, v42)] h41 Q
          refine w_istore_n (ls' := [(2, 82), (0, v6), (0, v19), (0, v42)]) gz_60_68 gm_60 rfl rfl rfl ?_
          refine w_aload_n gz_60_69 rfl ?_
          refine v_getI (j := 9) gz_60_70 rfl is_82 rd_5 rfl (fun v51 ev51 pv51 qv51 => ?_)
          have zv51 := ev51.trans w47
          refine w_ifne (t := 93) gz_60_73 rfl (fun u52 => by exfalso; omega) (fun u52 => ?_)
          refine w_aload_n gz_60_76 rfl ?_
          refine w_inv (k := 0) (as := []) (r := []) (x := 82) (ls0 := [(2, 82)]) gz_60_77 gm_47 rfl is_82 rd_5 rfl rfl rfl rfl rfl (c_Reader_endsHere_f0 (d := d)  (ev51.symm.trans (by omega)) (fun h53 frh53 w54 w55 => ?_) (fun h56 frh56 w57 => ?_))
          ·
            have gh53 : my_fr [(4, 4), (4, 5), (4, 6), (4, 8), (4, 9), (5, 5), (5, 6), (5, 7), (5, 8), (5, 9), (32, -1), (33, -1), (34, -1), (35, -1), (37, -1)] h h53 := my_fr.tr gh41 (frh53.mo rfl)
            have Ln_h53 : Ln h53 := Ln_ag (my_ag.fr frh53 rfl) Ln_h41
            have Sp_h53 : Sp h53 wv := Sp_ag (my_ag.fr frh53 rfl) hwv Ln_h41 Sp_h41
            have St5_h53 : St5 h53 := St5_ag (my_ag.fr frh53 rfl) Ln_h41 St5_h41
            show wp l rho (d + 3) 60 80 [(2, 82), (0, v6), (0, v19), (0, v42)] [(0, 0)] h53 Q
            refine w_ifeq (t := 93) gz_60_80 rfl (fun u58 => ?_) (fun u58 => by exfalso; omega)
            have c59 := (rfl : h53 82 9 = h53 82 9)
            exact w_vret gz_60_93 gm_60 (k0 h53 (gh53) (by omega) (by omega) Ln_h53 Sp_h53)
          ·
            have gh56 : my_fr [(4, 4), (4, 5), (4, 6), (4, 8), (4, 9), (5, 5), (5, 6), (5, 7), (5, 8), (5, 9), (32, -1), (33, -1), (34, -1), (35, -1), (37, -1)] h h56 := my_fr.tr gh41 (frh56.mo rfl)
            have Ln_h56 : Ln h56 := Ln_ag (my_ag.fr frh56 rfl) Ln_h41
            have Sp_h56 : Sp h56 wv := Sp_ag (my_ag.fr frh56 rfl) hwv Ln_h41 Sp_h41
            have St5_h56 : St5 h56 := St5_ag (my_ag.fr frh56 rfl) Ln_h41 St5_h41
            show wp l rho (d + 3) 60 80 [(2, 82), (0, v6), (0, v19), (0, v42)] [(0, 1)] h56 Q
            refine w_ifeq (t := 93) gz_60_80 rfl (fun u60 => by exfalso; omega) (fun u60 => ?_)
            refine w_aload_n gz_60_83 rfl ?_
            refine v_getR (j := 2) gz_60_84 rfl is_82 rd_5 rfl (fun v61 ev61 tv61 => ?_)
            have zv61 : v20 = v61 := (ev61.trans ((my_fr.at frh56 is_82 rfl).trans ((my_fr.at frh41 is_82 rfl).trans ((my_fr.at frh31 is_82 rfl).trans ((my_fr.at frh24 is_82 rfl).trans ev20.symm))))).symm
            subst zv61
            refine w_iload_n gz_60_87 rfl ?_
            refine w_iload_n gz_60_88 rfl ?_
            refine w_iload_n gz_60_89 rfl ?_
            have ce62 : h56 82 2 = v20 := ((my_fr.at frh56 is_82 rfl).trans ((my_fr.at frh41 is_82 rfl).trans ((my_fr.at frh31 is_82 rfl).trans ((my_fr.at frh24 is_82 rfl).trans ev20.symm))))
            have s5a := St5_h56
            have s5e : v20 = h56 82 2 := by first | assumption | omega
            unfold St5 at s5a
            rw [← s5e] at s5a
            have ce63 : h56 v20 4 = h v20 4 := ((my_fr.at frh56 tv20 rfl).trans ((my_fr.at frh41 tv20 rfl).trans ((my_fr.at frh31 tv20 rfl).trans ((my_fr.at frh24 tv20 rfl).trans ((my_fr.at frh5 tv20 rfl).trans (rfl : h v20 4 = h v20 4))))))
            have hi64 : 1 ≤ v19 := by first | omega | (subst_vars; omega) | grind
            have hi65 : v19 ≤ 4 := by first | omega | (subst_vars; omega) | grind
            refine w_inv (k := 1) (as := [(0, v42), (0, v19), (0, v6)]) (r := []) (x := v20) (ls0 := [(2, v20), (0, v6), (0, v19), (0, v42), (9, 0)]) gz_60_90 gm_61 rfl tv20 rd_4 rfl rfl rfl rfl rfl (c_Lens_addJoin (d := (d + 1)) (x0 := v20) (x1 := v6) (x2 := v19) (x3 := v42) tv20 (by omega) (by omega) (by omega) (by omega) (by omega) (by omega) (by first | assumption | omega | (subst_vars; omega)) (by first | assumption | omega | (subst_vars; omega)) (fun h66 frh66 fxh66 w67 w68 xp69 => ?_))
            have gh66 : my_fr [(4, 4), (4, 5), (4, 6), (4, 8), (4, 9), (5, 5), (5, 6), (5, 7), (5, 8), (5, 9), (32, -1), (33, -1), (34, -1), (35, -1), (37, -1)] h h66 := my_fr.tr gh56 (frh66.mo rfl)
            have Ln_h66 : Ln h66 := Ln_fx fxh66 (by first | assumption | omega) Ln_h56
            show wp l rho (d + 3) 60 93 [(2, 82), (0, v6), (0, v19), (0, v42)] [] h66 Q
            have Sp_h66t70 : Sp h66 wv := Sp_add fxh66 (by first | assumption | omega) hwv Ln_h56 Sp_h56 xp69 (by have := St5_h56.1; omega) (by omega) (by omega)
            have c71 := ((my_fr.at frh66 is_82 rfl).trans w57)
            exact w_vret gz_60_93 gm_60 (k1 h66 (gh66) (by omega) Ln_h66 Sp_h66t70)
    ·
      refine w_aload_n gz_60_37 rfl ?_
      refine w_iconst gz_60_38 (by decide) ?_
      refine w_inv (k := 0) (as := [(0, 5)]) (r := []) (x := 82) (ls0 := [(2, 82), (0, 5)]) gz_60_39 gm_42 rfl is_82 rd_5 rfl rfl rfl rfl rfl ?_
      refine w_aload_n gz_42_0 rfl ?_
      refine v_getI (j := 9) gz_42_1 rfl is_82 rd_5 rfl (fun v72 ev72 pv72 qv72 => ?_)
      have zv72 := ev72.trans w12
      refine w_ifne (t := 20) gz_42_4 rfl (fun u73 => by exfalso; omega) (fun u73 => ?_)
      refine w_aload_n gz_42_7 rfl ?_
      refine w_iload_n gz_42_8 rfl ?_
      refine w_bipush gz_42_9 (by decide) ?_
      refine w_aload_n gz_42_11 rfl ?_
      refine v_getI (j := 7) gz_42_12 rfl is_82 rd_5 rfl (fun v74 ev74 pv74 qv74 => ?_)
      refine w_imul gz_42_15 ⟨by omega, by omega⟩ ?_
      refine w_iadd gz_42_16 ⟨by omega, by omega⟩ ?_
      refine v_putI (j := 9) gz_42_17 rfl is_82 rd_5 rfl (by omega) (by omega) rfl (fun h75 fh75 => ?_)
      have gh75 : my_fr [(4, 4), (4, 5), (4, 6), (4, 8), (4, 9), (5, 5), (5, 6), (5, 7), (5, 8), (5, 9), (32, -1), (33, -1), (34, -1), (35, -1), (37, -1)] h h75 := my_fr.up gh5 is_82 fh75 rfl
      have Ln_h75 : Ln h75 := Ln_ag (my_ag.up fh75 is_82 rfl) Ln_h5
      have Sp_h75 : Sp h75 wv := Sp_ag (my_ag.up fh75 is_82 rfl) hwv Ln_h5 Sp_h5
      have St5_h75 : St5 h75 := St5_ag (my_ag.up fh75 is_82 rfl) Ln_h5 St5_h5
      refine w_vret gz_42_20 gm_42 ?_
      show wp l rho (d + 3) 60 42 [(2, 82), (0, v6), (0, v19), (9, 0)] [] h75 Q
      have c76 := (my_up_self fh75)
      exact w_vret gz_60_42 gm_60 (k0 h75 (gh75) (by omega) (by omega) Ln_h75 Sp_h75)
theorem c_Reader_readSum_f0 {l : Launch} {rho : Nat → Int32} {d : Nat} {h : my_H} {Q : my_H → my_V → Prop} {wv : Int} (cf : h 82 9 = 0) (hwv : wv ≤ 5) (hwv0 : 0 ≤ wv) (n_Ln : Ln h) (n_Sp : Sp h wv) (n_St5 : St5 h) (k0 : ∀ (h' : my_H), my_fr [(4, 4), (4, 5), (4, 7), (4, 8), (4, 9), (5, 5), (5, 6), (5, 7), (5, 8), (5, 9), (32, -1), (33, -1), (34, -1), (35, -1), (37, -1)] h h' → 1 ≤ h' 82 9 → h' 82 9 ≤ 16004 → Ln h' → Sp h' wv → Q h' (9, 0)) (k1 : ∀ (h' : my_H), my_fr [(4, 4), (4, 5), (4, 7), (4, 8), (4, 9), (5, 5), (5, 6), (5, 7), (5, 8), (5, 9), (32, -1), (33, -1), (34, -1), (35, -1), (37, -1)] h h' → h' 82 9 = 0 → Ln h' → Sp h' wv → Q h' (9, 0)) : wp l rho (d + 3) 62 0 [(2, 82), (9, 0), (9, 0)] [] h Q := by
  refine w_aload_n gz_62_0 rfl ?_
  refine w_aload_n gz_62_1 rfl ?_
  refine v_getR (j := 2) gz_62_2 rfl is_82 rd_5 rfl (fun v1 ev1 tv1 => ?_)
  refine v_getI (j := 4) gz_62_5 rfl tv1 rd_4 rfl (fun v2 ev2 pv2 qv2 => ?_)
  refine w_inv (k := 1) (as := [(0, v2)]) (r := []) (x := 82) (ls0 := [(2, 82), (0, v2), (9, 0)]) gz_62_8 gm_51 rfl is_82 rd_5 rfl rfl rfl rfl rfl (c_Reader_takeNumber_f0 (d := d) (x1 := v2) (by omega) (by omega) (cf.trans (by omega)) (fun h3 frh3 w4 w5 => ?_) (fun h6 v7 frh6 w8 w9 w10 w11 w12 => ?_))
  ·
    have gh3 : my_fr [(4, 4), (4, 5), (4, 7), (4, 8), (4, 9), (5, 5), (5, 6), (5, 7), (5, 8), (5, 9), (32, -1), (33, -1), (34, -1), (35, -1), (37, -1)] h h3 := my_fr.tr my_fr.rf (frh3.mo rfl)
    have Ln_h3 : Ln h3 := Ln_ag (my_ag.fr frh3 rfl) n_Ln
    have Sp_h3 : Sp h3 wv := Sp_ag (my_ag.fr frh3 rfl) hwv n_Ln n_Sp
    have St5_h3 : St5 h3 := St5_ag (my_ag.fr frh3 rfl) n_Ln n_St5
    show wp l rho (d + 3) 62 11 [(2, 82), (9, 0), (9, 0)] [(0, (-1))] h3 Q
    refine w_istore_n (ls' := [(2, 82), (0, (-1)), (9, 0)]) gz_62_11 gm_62 rfl rfl rfl ?_
    refine w_aload_n gz_62_12 rfl ?_
    refine v_getI (j := 9) gz_62_13 rfl is_82 rd_5 rfl (fun v13 ev13 pv13 qv13 => ?_)
    have zv13 := ev13.trans (rfl : h3 82 9 = h3 82 9)
    refine w_ifne (t := 28) gz_62_16 rfl (fun u14 => ?_) (fun u14 => by exfalso; omega)
    have c15 := ev13.symm
    exact w_vret gz_62_28 gm_62 (k0 h3 (gh3) (by omega) (by omega) Ln_h3 Sp_h3)
  ·
    have gh6 : my_fr [(4, 4), (4, 5), (4, 7), (4, 8), (4, 9), (5, 5), (5, 6), (5, 7), (5, 8), (5, 9), (32, -1), (33, -1), (34, -1), (35, -1), (37, -1)] h h6 := my_fr.tr my_fr.rf (frh6.mo rfl)
    have Ln_h6 : Ln h6 := Ln_ag (my_ag.fr frh6 rfl) n_Ln
    have Sp_h6 : Sp h6 wv := Sp_ag (my_ag.fr frh6 rfl) hwv n_Ln n_Sp
    have St5_h6 : St5 h6 := St5_ag (my_ag.fr frh6 rfl) n_Ln n_St5
    show wp l rho (d + 3) 62 11 [(2, 82), (9, 0), (9, 0)] [(0, v7)] h6 Q
    refine w_istore_n (ls' := [(2, 82), (0, v7), (9, 0)]) gz_62_11 gm_62 rfl rfl rfl ?_
    refine w_aload_n gz_62_12 rfl ?_
    refine v_getI (j := 9) gz_62_13 rfl is_82 rd_5 rfl (fun v16 ev16 pv16 qv16 => ?_)
    have zv16 := ev16.trans w12
    refine w_ifne (t := 28) gz_62_16 rfl (fun u17 => by exfalso; omega) (fun u17 => ?_)
    refine w_aload_n gz_62_19 rfl ?_
    refine w_ldcS gz_62_20 (by decide) ?_
    refine w_inv (k := 0) (as := [(3, ((12 : Nat) : Int))]) (r := []) (x := 82) (ls0 := [(2, 82), (3, ((12 : Nat) : Int))]) gz_62_22 gm_40 rfl is_82 rd_5 rfl rfl rfl rfl rfl (c_Reader_takeWord_f0 (d := d) (x1 := ((12 : Nat) : Int)) (by decide) (ev16.symm.trans (by omega)) (fun h18 frh18 w19 w20 => ?_) (fun h21 frh21 w22 => ?_))
    ·
      have gh18 : my_fr [(4, 4), (4, 5), (4, 7), (4, 8), (4, 9), (5, 5), (5, 6), (5, 7), (5, 8), (5, 9), (32, -1), (33, -1), (34, -1), (35, -1), (37, -1)] h h18 := my_fr.tr gh6 (frh18.mo rfl)
      have Ln_h18 : Ln h18 := Ln_ag (my_ag.fr frh18 rfl) Ln_h6
      have Sp_h18 : Sp h18 wv := Sp_ag (my_ag.fr frh18 rfl) hwv Ln_h6 Sp_h6
      have St5_h18 : St5 h18 := St5_ag (my_ag.fr frh18 rfl) Ln_h6 St5_h6
      show wp l rho (d + 3) 62 25 [(2, 82), (0, v7), (9, 0)] [(0, 0)] h18 Q
      refine w_ifne (t := 29) gz_62_25 rfl (fun u23 => by exfalso; omega) (fun u23 => ?_)
      have c24 := (rfl : h18 82 9 = h18 82 9)
      exact w_vret gz_62_28 gm_62 (k0 h18 (gh18) (by omega) (by omega) Ln_h18 Sp_h18)
    ·
      have gh21 : my_fr [(4, 4), (4, 5), (4, 7), (4, 8), (4, 9), (5, 5), (5, 6), (5, 7), (5, 8), (5, 9), (32, -1), (33, -1), (34, -1), (35, -1), (37, -1)] h h21 := my_fr.tr gh6 (frh21.mo rfl)
      have Ln_h21 : Ln h21 := Ln_ag (my_ag.fr frh21 rfl) Ln_h6
      have Sp_h21 : Sp h21 wv := Sp_ag (my_ag.fr frh21 rfl) hwv Ln_h6 Sp_h6
      have St5_h21 : St5 h21 := St5_ag (my_ag.fr frh21 rfl) Ln_h6 St5_h6
      show wp l rho (d + 3) 62 25 [(2, 82), (0, v7), (9, 0)] [(0, 1)] h21 Q
      refine w_ifne (t := 29) gz_62_25 rfl (fun u25 => ?_) (fun u25 => by exfalso; omega)
      refine w_aload_n gz_62_29 rfl ?_
      refine w_aload_n gz_62_30 rfl ?_
      refine v_getR (j := 2) gz_62_31 rfl is_82 rd_5 rfl (fun v26 ev26 tv26 => ?_)
      have zv26 : v1 = v26 := (ev26.trans ((my_fr.at frh21 is_82 rfl).trans ((my_fr.at frh6 is_82 rfl).trans ev1.symm))).symm
      subst zv26
      refine v_getI (j := 4) gz_62_34 rfl tv1 rd_4 rfl (fun v27 ev27 pv27 qv27 => ?_)
      have zv27 := ev27.trans ((my_fr.at frh21 tv1 rfl).trans ((my_fr.at frh6 tv1 rfl).trans ev2.symm))
      refine w_inv (k := 0) (as := [(0, v27)]) (r := []) (x := 82) (ls0 := [(2, 82), (0, v27)]) gz_62_37 gm_44 rfl is_82 rd_5 rfl rfl rfl rfl rfl ?_
      refine w_aload_n gz_44_0 rfl ?_
      refine v_getI (j := 6) gz_44_1 rfl is_82 rd_5 rfl (fun v28 ev28 pv28 qv28 => ?_)
      refine w_iconst gz_44_4 (by decide) ?_
      refine w_iceq (t := 15) gz_44_5 rfl (fun u29 => ?_) (fun u29 => ?_)
      ·
        refine w_aload_n gz_44_15 rfl ?_
        refine v_getI (j := 8) gz_44_16 rfl is_82 rd_5 rfl (fun v30 ev30 pv30 qv30 => ?_)
        refine w_iload_n gz_44_19 rfl ?_
        refine w_iclt (t := 30) gz_44_20 rfl (fun u31 => ?_) (fun u31 => ?_)
        ·
          refine w_aload_n gz_44_30 rfl ?_
          refine v_getI (j := 9) gz_44_31 rfl is_82 rd_5 rfl (fun v32 ev32 pv32 qv32 => ?_)
          have zv32 := ev32.trans w22
          refine w_ifne (t := 44) gz_44_34 rfl (fun u33 => by exfalso; omega) (fun u33 => ?_)
          refine w_aload_n gz_44_37 rfl ?_
          refine v_getI (j := 8) gz_44_38 rfl is_82 rd_5 rfl (fun v34 ev34 pv34 qv34 => ?_)
          have zv34 := ev34.trans ev30.symm
          refine w_goto (t := 45) gz_44_41 rfl ?_
          refine w_iret gz_44_45 gm_44 ?_
          show wp l rho (d + 3) 62 40 [(2, 82), (0, v7), (9, 0)] [(0, v34)] h21 Q
          refine w_istore_n (ls' := [(2, 82), (0, v7), (0, v34)]) gz_62_40 gm_62 rfl rfl rfl ?_
          refine w_iload_n gz_62_41 rfl ?_
          refine w_iconst gz_62_42 (by decide) ?_
          refine w_iceq (t := 59) gz_62_43 rfl (fun u35 => by exfalso; omega) (fun u35 => ?_)
          refine w_iload_n gz_62_46 rfl ?_
          refine w_iload_n gz_62_47 rfl ?_
          refine w_icne (t := 59) gz_62_48 rfl (fun u36 => ?_) (fun u36 => ?_)
          ·
            refine w_iload_n gz_62_59 rfl ?_
            refine w_iconst gz_62_60 (by decide) ?_
            refine w_iceq (t := 84) gz_62_61 rfl (fun u37 => by exfalso; omega) (fun u37 => ?_)
            refine w_aload_n gz_62_64 rfl ?_
            refine w_inv (k := 2) (as := []) (r := []) (x := 82) (ls0 := [(2, 82), (9, 0), (9, 0)]) gz_62_65 gm_37 rfl is_82 rd_5 rfl rfl rfl rfl rfl (c_Reader_nextToken_f0 (d := (d + 1))  (ev32.symm.trans (by omega)) (fun h38 frh38 w39 w40 w41 => ?_))
            have gh38 : my_fr [(4, 4), (4, 5), (4, 7), (4, 8), (4, 9), (5, 5), (5, 6), (5, 7), (5, 8), (5, 9), (32, -1), (33, -1), (34, -1), (35, -1), (37, -1)] h h38 := my_fr.tr gh21 (frh38.mo rfl)
            have Ln_h38 : Ln h38 := Ln_ag (my_ag.fr frh38 rfl) Ln_h21
            have Sp_h38 : Sp h38 wv := Sp_ag (my_ag.fr frh38 rfl) hwv Ln_h21 Sp_h21
            have St5_h38 : St5 h38 := St5_ag (my_ag.fr frh38 rfl) Ln_h21 St5_h21
            show wp l rho (d + 3) 62 68 [(2, 82), (0, v7), (0, v34)] [] h38 Q
            refine w_aload_n gz_62_68 rfl ?_
            refine w_inv (k := 0) (as := []) (r := []) (x := 82) (ls0 := [(2, 82)]) gz_62_69 gm_47 rfl is_82 rd_5 rfl rfl rfl rfl rfl (c_Reader_endsHere_f0 (d := d)  (((my_fr.at frh38 is_82 rfl).trans ev32.symm).trans (by omega)) (fun h42 frh42 w43 w44 => ?_) (fun h45 frh45 w46 => ?_))
            ·
              have gh42 : my_fr [(4, 4), (4, 5), (4, 7), (4, 8), (4, 9), (5, 5), (5, 6), (5, 7), (5, 8), (5, 9), (32, -1), (33, -1), (34, -1), (35, -1), (37, -1)] h h42 := my_fr.tr gh38 (frh42.mo rfl)
              have Ln_h42 : Ln h42 := Ln_ag (my_ag.fr frh42 rfl) Ln_h38
              have Sp_h42 : Sp h42 wv := Sp_ag (my_ag.fr frh42 rfl) hwv Ln_h38 Sp_h38
              have St5_h42 : St5 h42 := St5_ag (my_ag.fr frh42 rfl) Ln_h38 St5_h38
              show wp l rho (d + 3) 62 72 [(2, 82), (0, v7), (0, v34)] [(0, 0)] h42 Q
              refine w_ifeq (t := 84) gz_62_72 rfl (fun u47 => ?_) (fun u47 => by exfalso; omega)
              have c48 := (rfl : h42 82 9 = h42 82 9)
              exact w_vret gz_62_84 gm_62 (k0 h42 (gh42) (by omega) (by omega) Ln_h42 Sp_h42)
            ·
              have gh45 : my_fr [(4, 4), (4, 5), (4, 7), (4, 8), (4, 9), (5, 5), (5, 6), (5, 7), (5, 8), (5, 9), (32, -1), (33, -1), (34, -1), (35, -1), (37, -1)] h h45 := my_fr.tr gh38 (frh45.mo rfl)
              have Ln_h45 : Ln h45 := Ln_ag (my_ag.fr frh45 rfl) Ln_h38
              have Sp_h45 : Sp h45 wv := Sp_ag (my_ag.fr frh45 rfl) hwv Ln_h38 Sp_h38
              have St5_h45 : St5 h45 := St5_ag (my_ag.fr frh45 rfl) Ln_h38 St5_h38
              show wp l rho (d + 3) 62 72 [(2, 82), (0, v7), (0, v34)] [(0, 1)] h45 Q
              refine w_ifeq (t := 84) gz_62_72 rfl (fun u49 => by exfalso; omega) (fun u49 => ?_)
              refine w_aload_n gz_62_75 rfl ?_
              refine v_getR (j := 2) gz_62_76 rfl is_82 rd_5 rfl (fun v50 ev50 tv50 => ?_)
              have zv50 : v1 = v50 := (ev50.trans ((my_fr.at frh45 is_82 rfl).trans ((my_fr.at frh38 is_82 rfl).trans ((my_fr.at frh21 is_82 rfl).trans ((my_fr.at frh6 is_82 rfl).trans ev1.symm))))).symm
              subst zv50
              refine w_iload_n gz_62_79 rfl ?_
              refine w_iload_n gz_62_80 rfl ?_
              have ce51 : h45 82 2 = v1 := ((my_fr.at frh45 is_82 rfl).trans ((my_fr.at frh38 is_82 rfl).trans ((my_fr.at frh21 is_82 rfl).trans ((my_fr.at frh6 is_82 rfl).trans ev1.symm))))
              have s5a := St5_h45
              have s5e : v1 = h45 82 2 := by first | assumption | omega
              unfold St5 at s5a
              rw [← s5e] at s5a
              refine w_inv (k := 0) (as := [(0, v34), (0, v7)]) (r := []) (x := v1) (ls0 := [(2, v1), (0, v7), (0, v34)]) gz_62_81 gm_63 rfl tv1 rd_4 rfl rfl rfl rfl rfl (c_Lens_addSum (d := (d + 1)) (x0 := v1) (x1 := v7) (x2 := v34) tv1 (by omega) (by omega) (by omega) (by omega) (by first | assumption | omega | (subst_vars; omega)) (fun h52 frh52 fxh52 w53 w54 w55 w56 xp57 => ?_))
              have gh52 : my_fr [(4, 4), (4, 5), (4, 7), (4, 8), (4, 9), (5, 5), (5, 6), (5, 7), (5, 8), (5, 9), (32, -1), (33, -1), (34, -1), (35, -1), (37, -1)] h h52 := my_fr.tr gh45 (frh52.mo rfl)
              have Ln_h52 : Ln h52 := Ln_fx fxh52 (by first | assumption | omega) Ln_h45
              show wp l rho (d + 3) 62 84 [(2, 82), (0, v7), (0, v34)] [] h52 Q
              have Sp_h52t58 : Sp h52 wv := Sp_add fxh52 (by first | assumption | omega) hwv Ln_h45 Sp_h45 xp57 (by have := St5_h45.1; omega) (by omega) (by omega)
              have c59 := ((my_fr.at frh52 is_82 rfl).trans w46)
              exact w_vret gz_62_84 gm_62 (k1 h52 (gh52) (by omega) Ln_h52 Sp_h52t58)
          ·
            refine w_aload_n gz_62_51 rfl ?_
            refine w_iconst gz_62_52 (by decide) ?_
            refine w_inv (k := 0) (as := [(0, 3)]) (r := []) (x := 82) (ls0 := [(2, 82), (0, 3)]) gz_62_53 gm_42 rfl is_82 rd_5 rfl rfl rfl rfl rfl ?_
            refine w_aload_n gz_42_0 rfl ?_
            refine v_getI (j := 9) gz_42_1 rfl is_82 rd_5 rfl (fun v60 ev60 pv60 qv60 => ?_)
            have zv60 := ev60.trans ev32.symm
            refine w_ifne (t := 20) gz_42_4 rfl (fun u61 => by exfalso; omega) (fun u61 => ?_)
            refine w_aload_n gz_42_7 rfl ?_
            refine w_iload_n gz_42_8 rfl ?_
            refine w_bipush gz_42_9 (by decide) ?_
            refine w_aload_n gz_42_11 rfl ?_
            refine v_getI (j := 7) gz_42_12 rfl is_82 rd_5 rfl (fun v62 ev62 pv62 qv62 => ?_)
            refine w_imul gz_42_15 ⟨by omega, by omega⟩ ?_
            refine w_iadd gz_42_16 ⟨by omega, by omega⟩ ?_
            refine v_putI (j := 9) gz_42_17 rfl is_82 rd_5 rfl (by omega) (by omega) rfl (fun h63 fh63 => ?_)
            have gh63 : my_fr [(4, 4), (4, 5), (4, 7), (4, 8), (4, 9), (5, 5), (5, 6), (5, 7), (5, 8), (5, 9), (32, -1), (33, -1), (34, -1), (35, -1), (37, -1)] h h63 := my_fr.up gh21 is_82 fh63 rfl
            have Ln_h63 : Ln h63 := Ln_ag (my_ag.up fh63 is_82 rfl) Ln_h21
            have Sp_h63 : Sp h63 wv := Sp_ag (my_ag.up fh63 is_82 rfl) hwv Ln_h21 Sp_h21
            have St5_h63 : St5 h63 := St5_ag (my_ag.up fh63 is_82 rfl) Ln_h21 St5_h21
            refine w_vret gz_42_20 gm_42 ?_
            show wp l rho (d + 3) 62 56 [(2, 82), (0, v7), (0, v34)] [] h63 Q
            refine w_goto (t := 84) gz_62_56 rfl ?_
            have c64 := (my_up_self fh63)
            exact w_vret gz_62_84 gm_62 (k0 h63 (gh63) (by omega) (by omega) Ln_h63 Sp_h63)
        ·
          refine w_aload_n gz_44_23 rfl ?_
          refine w_iconst gz_44_24 (by decide) ?_
          refine w_inv (k := 0) (as := [(0, 4)]) (r := []) (x := 82) (ls0 := [(2, 82), (0, 4)]) gz_44_25 gm_42 rfl is_82 rd_5 rfl rfl rfl rfl rfl ?_
          refine w_aload_n gz_42_0 rfl ?_
          refine v_getI (j := 9) gz_42_1 rfl is_82 rd_5 rfl (fun v65 ev65 pv65 qv65 => ?_)
          have zv65 := ev65.trans w22
          refine w_ifne (t := 20) gz_42_4 rfl (fun u66 => by exfalso; omega) (fun u66 => ?_)
          refine w_aload_n gz_42_7 rfl ?_
          refine w_iload_n gz_42_8 rfl ?_
          refine w_bipush gz_42_9 (by decide) ?_
          refine w_aload_n gz_42_11 rfl ?_
          refine v_getI (j := 7) gz_42_12 rfl is_82 rd_5 rfl (fun v67 ev67 pv67 qv67 => ?_)
          refine w_imul gz_42_15 ⟨by omega, by omega⟩ ?_
          refine w_iadd gz_42_16 ⟨by omega, by omega⟩ ?_
          refine v_putI (j := 9) gz_42_17 rfl is_82 rd_5 rfl (by omega) (by omega) rfl (fun h68 fh68 => ?_)
          have gh68 : my_fr [(4, 4), (4, 5), (4, 7), (4, 8), (4, 9), (5, 5), (5, 6), (5, 7), (5, 8), (5, 9), (32, -1), (33, -1), (34, -1), (35, -1), (37, -1)] h h68 := my_fr.up gh21 is_82 fh68 rfl
          have Ln_h68 : Ln h68 := Ln_ag (my_ag.up fh68 is_82 rfl) Ln_h21
          have Sp_h68 : Sp h68 wv := Sp_ag (my_ag.up fh68 is_82 rfl) hwv Ln_h21 Sp_h21
          have St5_h68 : St5 h68 := St5_ag (my_ag.up fh68 is_82 rfl) Ln_h21 St5_h21
          refine w_vret gz_42_20 gm_42 ?_
          show wp l rho (d + 2) 44 28 [(2, 82), (0, v27)] [] h68 _
          refine w_iconst gz_44_28 (by decide) ?_
          refine w_iret gz_44_29 gm_44 ?_
          show wp l rho (d + 3) 62 40 [(2, 82), (0, v7), (9, 0)] [(0, (-1))] h68 Q
          refine w_istore_n (ls' := [(2, 82), (0, v7), (0, (-1))]) gz_62_40 gm_62 rfl rfl rfl ?_
          refine w_iload_n gz_62_41 rfl ?_
          refine w_iconst gz_62_42 (by decide) ?_
          refine w_iceq (t := 59) gz_62_43 rfl (fun u69 => ?_) (fun u69 => by exfalso; omega)
          refine w_iload_n gz_62_59 rfl ?_
          refine w_iconst gz_62_60 (by decide) ?_
          refine w_iceq (t := 84) gz_62_61 rfl (fun u70 => ?_) (fun u70 => by exfalso; omega)
          have c71 := (my_up_self fh68)
          exact w_vret gz_62_84 gm_62 (k0 h68 (gh68) (by omega) (by omega) Ln_h68 Sp_h68)
      ·
        refine w_aload_n gz_44_8 rfl ?_
        refine w_iconst gz_44_9 (by decide) ?_
        refine w_inv (k := 0) (as := [(0, 1)]) (r := []) (x := 82) (ls0 := [(2, 82), (0, 1)]) gz_44_10 gm_42 rfl is_82 rd_5 rfl rfl rfl rfl rfl ?_
        refine w_aload_n gz_42_0 rfl ?_
        refine v_getI (j := 9) gz_42_1 rfl is_82 rd_5 rfl (fun v72 ev72 pv72 qv72 => ?_)
        have zv72 := ev72.trans w22
        refine w_ifne (t := 20) gz_42_4 rfl (fun u73 => by exfalso; omega) (fun u73 => ?_)
        refine w_aload_n gz_42_7 rfl ?_
        refine w_iload_n gz_42_8 rfl ?_
        refine w_bipush gz_42_9 (by decide) ?_
        refine w_aload_n gz_42_11 rfl ?_
        refine v_getI (j := 7) gz_42_12 rfl is_82 rd_5 rfl (fun v74 ev74 pv74 qv74 => ?_)
        refine w_imul gz_42_15 ⟨by omega, by omega⟩ ?_
        refine w_iadd gz_42_16 ⟨by omega, by omega⟩ ?_
        refine v_putI (j := 9) gz_42_17 rfl is_82 rd_5 rfl (by omega) (by omega) rfl (fun h75 fh75 => ?_)
        have gh75 : my_fr [(4, 4), (4, 5), (4, 7), (4, 8), (4, 9), (5, 5), (5, 6), (5, 7), (5, 8), (5, 9), (32, -1), (33, -1), (34, -1), (35, -1), (37, -1)] h h75 := my_fr.up gh21 is_82 fh75 rfl
        have Ln_h75 : Ln h75 := Ln_ag (my_ag.up fh75 is_82 rfl) Ln_h21
        have Sp_h75 : Sp h75 wv := Sp_ag (my_ag.up fh75 is_82 rfl) hwv Ln_h21 Sp_h21
        have St5_h75 : St5 h75 := St5_ag (my_ag.up fh75 is_82 rfl) Ln_h21 St5_h21
        refine w_vret gz_42_20 gm_42 ?_
        show wp l rho (d + 2) 44 13 [(2, 82), (0, v27)] [] h75 _
        refine w_iconst gz_44_13 (by decide) ?_
        refine w_iret gz_44_14 gm_44 ?_
        show wp l rho (d + 3) 62 40 [(2, 82), (0, v7), (9, 0)] [(0, (-1))] h75 Q
        refine w_istore_n (ls' := [(2, 82), (0, v7), (0, (-1))]) gz_62_40 gm_62 rfl rfl rfl ?_
        refine w_iload_n gz_62_41 rfl ?_
        refine w_iconst gz_62_42 (by decide) ?_
        refine w_iceq (t := 59) gz_62_43 rfl (fun u76 => ?_) (fun u76 => by exfalso; omega)
        refine w_iload_n gz_62_59 rfl ?_
        refine w_iconst gz_62_60 (by decide) ?_
        refine w_iceq (t := 84) gz_62_61 rfl (fun u77 => ?_) (fun u77 => by exfalso; omega)
        have c78 := (my_up_self fh75)
        exact w_vret gz_62_84 gm_62 (k0 h75 (gh75) (by omega) (by omega) Ln_h75 Sp_h75)
theorem c_View_load {l : Launch} {rho : Nat → Int32} {d : Nat} {h : my_H} {Q : my_H → my_V → Prop} {x0 x1 x2 x3 x4 : Int} (t0 : my_is 8 x0) (t1 : my_is 6 x1) (a2 : 0 ≤ x2) (b2 : x2 ≤ 2) (m2_0 : 0 ≤ x2 % 17) (m2_1 : x2 % 17 ≤ 2) (a3 : 0 ≤ x3) (b3 : x3 ≤ 4) (m3_0 : 0 ≤ x3 % 17) (m3_1 : x3 % 17 ≤ 4) (k0 : ∀ (h' : my_H), my_fr [(8, 0), (8, 1), (42, -1), (44, -1)] h h' → my_fx x0 3 h h' → 0 ≤ h' x0 0 → h' x0 0 ≤ 10 → 0 ≤ h' x0 1 → h' x0 1 ≤ 4 → h' x0 1 = x3 → h' x0 0 ≤ 10 → Q h' (9, 0)) : wp l rho (d + 1) 68 0 [(2, x0), (2, x1), (0, x2), (0, x3), (0, x4), (9, 0), (9, 0)] [] h Q := by
  have J13_0 : ∀ (n : Nat) (p13_0 p13_1 : Int) (h13_0 : my_H), my_fr [(8, 0), (8, 1), (42, -1), (44, -1)] h h13_0 → my_fx x0 3 h h13_0 → 0 ≤ p13_0 → p13_0 ≤ 20 → 0 ≤ p13_1 → p13_1 ≤ 10 → p13_1 ≤ p13_0 → h13_0 x0 0 = p13_1 → h13_0 x0 1 = x3 → h13_0 x0 1 = x3 → 21 - p13_0 ≤ (n : Int) → wp l rho (d + 1) 68 13 [(2, x0), (2, x1), (0, x2), (0, x3), (0, x4), (0, p13_0), (9, 0)] [] h13_0 Q := by
    intro n
    induction n with
    | zero => intro p13_0 p13_1 h13_0 gh_13_0 gx_13_0 q0_13_0 q1_13_0 q2_13_0 q3_13_0 q4_13_0 ca0_0_13_0 ca0_1_13_0 lc_13_0 hm_13_0; exfalso; omega
    | succ n ih_13_0 =>
      intro p13_0 p13_1 h13_0 gh_13_0 gx_13_0 q0_13_0 q1_13_0 q2_13_0 q3_13_0 q4_13_0 ca0_0_13_0 ca0_1_13_0 lc_13_0 hm_13_0
      have J117_0 : ∀ (p117_0 p117_1 : Int) (h117_0 : my_H), my_fr [(8, 0), (8, 1), (42, -1), (44, -1)] h h117_0 → my_fx x0 3 h h117_0 → p13_0 ≤ 19 → 0 ≤ p117_0 → p117_0 ≤ 236 → 0 ≤ p117_1 → p117_1 ≤ 10 → p13_1 ≤ 9 → p117_1 ≤ (p13_0 + 1) → p117_1 ≤ (p13_1 + 1) → p13_1 ≤ p117_1 → p13_1 ≤ p13_0 → h117_0 x0 0 = p117_1 → h117_0 x0 1 = x3 → wp l rho (d + 1) 68 117 [(2, x0), (2, x1), (0, x2), (0, x3), (0, x4), (0, p13_0), (0, p117_0)] [] h117_0 Q := by
        intro p117_0 p117_1 h117_0 gh_117_0 gx_117_0 q0_117_0 q1_117_0 q2_117_0 q3_117_0 q4_117_0 q5_117_0 q6_117_0 q7_117_0 q8_117_0 q9_117_0 ca0_0_117_0 ca0_1_117_0
        refine w_iinc (ls' := [(2, x0), (2, x1), (0, x2), (0, x3), (0, x4), (0, (p13_0 + 1)), (0, p117_0)]) gz_68_117 rfl gm_68 rfl rfl rfl ⟨by omega, by omega⟩ ?_
        refine w_goto (t := 13) gz_68_120 rfl ?_
        have ce1 : h117_0 x0 1 = x3 := ca0_1_117_0
        refine w_weak (ls' := [(2, x0), (2, x1), (0, x2), (0, x3), (0, x4), (0, (p13_0 + 1)), (9, 0)]) (wk_e (wk_e (wk_e (wk_e (wk_e (wk_e (wk_9 wk_n))))))) ?_
        exact ih_13_0 ((p13_0 + 1)) (p117_1) h117_0 (gh_117_0) (gx_117_0) (by omega) (by omega) (by omega) (by omega) (by omega) (ca0_0_117_0.trans (by omega)) (ca0_1_117_0.trans (by omega)) (by first | assumption | omega | (subst_vars; omega)) (by omega)
      refine w_iload gz_68_13 rfl ?_
      refine w_bipush gz_68_15 (by decide) ?_
      refine w_icge (t := 123) gz_68_17 rfl (fun u2 => ?_) (fun u2 => ?_)
      ·
        have ce3 : h13_0 x0 0 = p13_1 := ca0_0_13_0
        have ce4 : h13_0 x0 1 = x3 := ca0_1_13_0
        have c5 := ca0_0_13_0
        have c6 := ca0_1_13_0
        exact w_vret gz_68_123 gm_68 (k0 h13_0 (gh_13_0) (gx_13_0) (by omega) (by omega) (by omega) (by omega) (by first | assumption | omega | (subst_vars; omega)) (by first | assumption | omega | (subst_vars; omega)))
      ·
        refine w_aload_n gz_68_20 rfl ?_
        refine v_getI (j := 0) gz_68_21 rfl t0 rd_8 rfl (fun v7 ev7 pv7 qv7 => ?_)
        have zv7 := ev7.trans ca0_0_13_0
        refine w_bipush gz_68_24 (by decide) ?_
        refine w_icge (t := 123) gz_68_26 rfl (fun u8 => ?_) (fun u8 => ?_)
        ·
          have ce9 : h13_0 x0 0 = v7 := ev7.symm
          have ce10 : h13_0 x0 1 = x3 := ca0_1_13_0
          have c11 := ev7.symm
          have c12 := ca0_1_13_0
          exact w_vret gz_68_123 gm_68 (k0 h13_0 (gh_13_0) (gx_13_0) (by omega) (by omega) (by omega) (by omega) (by first | assumption | omega | (subst_vars; omega)) (by first | assumption | omega | (subst_vars; omega)))
        ·
          refine w_iload_n gz_68_29 rfl ?_
          refine w_iload gz_68_30 rfl ?_
          refine w_inS (k := 0) (as := [(0, p13_0), (0, x2)]) (r := []) (ls0 := [(0, x2), (0, p13_0)]) gz_68_32 gm_17 rfl rfl rfl rfl rfl rfl ?_
          refine w_iload_n gz_17_0 rfl ?_
          refine w_bipush gz_17_1 (by decide) ?_
          refine w_imul gz_17_3 ⟨by omega, by omega⟩ ?_
          refine w_iload_n gz_17_4 rfl ?_
          refine w_iadd gz_17_5 ⟨by omega, by omega⟩ ?_
          refine w_iconst gz_17_6 (by decide) ?_
          refine w_imul gz_17_7 ⟨by omega, by omega⟩ ?_
          refine w_iret gz_17_8 gm_17 ?_
          show wp l rho (d + 1) 68 35 [(2, x0), (2, x1), (0, x2), (0, x3), (0, x4), (0, p13_0), (9, 0)] [(0, (((x2 * 20) + p13_0) * 4))] h13_0 Q
          refine w_istore (ls' := [(2, x0), (2, x1), (0, x2), (0, x3), (0, x4), (0, p13_0), (0, (((x2 * 20) + p13_0) * 4))]) gz_68_35 gm_68 rfl rfl rfl ?_
          refine w_aload_n gz_68_37 rfl ?_
          refine w_getX (v := (x1 + 1)) gz_68_38 t1 rd_6 rfl (by decide) rfl ?_
          refine w_iload gz_68_41 rfl ?_
          refine w_iald gz_68_43 (ix_6_1 t1) rd_30 (by omega) (by omega) (fun v14 ev14 pv14 qv14 => ?_)
          refine w_iconst gz_68_44 (by decide) ?_
          refine w_iceq (t := 117) gz_68_45 rfl (fun u15 => ?_) (fun u15 => ?_)
          ·
            exact J117_0 ((((x2 * 20) + p13_0) * 4)) (v7) h13_0 (gh_13_0) (gx_13_0) (by omega) (by omega) (by omega) (by omega) (by omega) (by omega) (by omega) (by omega) (by omega) (by omega) (ev7.symm.trans (by omega)) (ca0_1_13_0.trans (by omega))
          ·
            refine w_iload gz_68_48 rfl ?_
            refine w_i2l gz_68_50 ?_
            refine w_iload gz_68_51 rfl ?_
            refine w_inS (k := 0) (as := [(0, p13_0), (1, x4)]) (r := []) (ls0 := [(1, x4), (9, 0), (0, p13_0)]) gz_68_53 gm_69 rfl rfl rfl rfl rfl rfl ?_
            refine w_lload_n gz_69_0 rfl ?_
            refine w_iload_n gz_69_1 rfl ?_
            refine w_jshf gz_69_2 (fun _ => rfl) rfl (fun v16 pv16 => ?_)
            refine w_lconst gz_69_3 ?_
            refine w_jany2 gz_69_4 (fun _ => rfl) rfl (fun v17 pv17 => ?_)
            refine w_lconst gz_69_5 ?_
            refine w_lcmp gz_69_6 (fun v18 pv18 qv18 => ?_)
            refine w_ifeq (t := 14) gz_69_7 rfl (fun u19 => ?_) (fun u19 => ?_)
            ·
              refine w_iconst gz_69_14 (by decide) ?_
              refine w_bret gz_69_15 gm_69 (by omega) (by omega) ?_
              show wp l rho (d + 1) 68 56 [(2, x0), (2, x1), (0, x2), (0, x3), (0, x4), (0, p13_0), (0, (((x2 * 20) + p13_0) * 4))] [(0, 0)] h13_0 Q
              refine w_ifeq (t := 117) gz_68_56 rfl (fun u20 => ?_) (fun u20 => by exfalso; omega)
              exact J117_0 ((((x2 * 20) + p13_0) * 4)) (v7) h13_0 (gh_13_0) (gx_13_0) (by omega) (by omega) (by omega) (by omega) (by omega) (by omega) (by omega) (by omega) (by omega) (by omega) (ev7.symm.trans (by omega)) (ca0_1_13_0.trans (by omega))
            ·
              refine w_iconst gz_69_10 (by decide) ?_
              refine w_goto (t := 15) gz_69_11 rfl ?_
              refine w_bret gz_69_15 gm_69 (by omega) (by omega) ?_
              show wp l rho (d + 1) 68 56 [(2, x0), (2, x1), (0, x2), (0, x3), (0, x4), (0, p13_0), (0, (((x2 * 20) + p13_0) * 4))] [(0, 1)] h13_0 Q
              refine w_ifeq (t := 117) gz_68_56 rfl (fun u21 => by exfalso; omega) (fun u21 => ?_)
              refine w_aload_n gz_68_59 rfl ?_
              refine w_aload_n gz_68_60 rfl ?_
              refine w_iload gz_68_61 rfl ?_
              refine w_aload_n gz_68_63 rfl ?_
              refine v_getI (j := 0) gz_68_64 rfl t0 rd_8 rfl (fun v22 ev22 pv22 qv22 => ?_)
              have zv22 := ev22.trans ev7.symm
              refine w_bipush gz_68_67 (by decide) ?_
              refine w_imul gz_68_69 ⟨by omega, by omega⟩ ?_
              refine w_iload_n gz_68_70 rfl ?_
              refine w_inv (k := 1) (as := [(0, x3), (0, (v22 * 17)), (0, (((x2 * 20) + p13_0) * 4)), (2, x1)]) (r := []) (x := x0) (ls0 := [(2, x0), (2, x1), (0, (((x2 * 20) + p13_0) * 4)), (0, (v22 * 17)), (0, x3), (9, 0)]) gz_68_71 gm_70 rfl t0 rd_8 rfl rfl rfl rfl rfl (c_View_copyCells (d := d) (x0 := x0) (x1 := x1) (x2 := (((x2 * 20) + p13_0) * 4)) (x3 := (v22 * 17)) (x4 := x3) t0 t1 (by omega) (by omega) (by omega) (by omega) (by omega) (by omega) (by omega) (by omega) (by omega) (by omega) (by first | assumption | omega | (subst_vars; omega)) (by first | assumption | omega | (subst_vars; omega)) (fun h23 frh23 fxh23 => ?_))
              have gh23 : my_fr [(8, 0), (8, 1), (42, -1), (44, -1)] h h23 := my_fr.tr gh_13_0 (frh23.mo rfl)
              have gxh23 : my_fx x0 3 h h23 := my_fx.tr gx_13_0 fxh23
              show wp l rho (d + 1) 68 74 [(2, x0), (2, x1), (0, x2), (0, x3), (0, x4), (0, p13_0), (0, (((x2 * 20) + p13_0) * 4))] [] h23 Q
              refine w_aload_n gz_68_74 rfl ?_
              refine w_getX (v := (x0 + 1)) gz_68_75 t0 rd_8 rfl (by decide) rfl ?_
              refine w_aload_n gz_68_78 rfl ?_
              refine v_getI (j := 0) gz_68_79 rfl t0 rd_8 rfl (fun v25 ev25 pv25 qv25 => ?_)
              have zv25 := ev25.trans ((my_fr.at frh23 t0 rfl).trans ev22.symm)
              refine w_bipush gz_68_82 (by decide) ?_
              refine w_imul gz_68_84 ⟨by omega, by omega⟩ ?_
              refine w_bipush gz_68_85 (by decide) ?_
              refine w_iadd gz_68_87 ⟨by omega, by omega⟩ ?_
              refine w_iload gz_68_88 rfl ?_
              refine w_gstT gz_68_90 (ix_8_1 t0) rd_42 (by omega) (by omega) (by omega) (by omega) (by omega) (fun h26 fh26 => ?_)
              have gh26 : my_fr [(8, 0), (8, 1), (42, -1), (44, -1)] h h26 := my_fr.up gh23 (ix_8_1 t0) fh26 rfl
              have gxh26 : my_fx x0 3 h h26 := my_fx.up gxh23 fh26 (by omega)
              refine w_aload_n gz_68_91 rfl ?_
              refine w_getX (v := (x0 + 3)) gz_68_92 t0 rd_8 rfl (by decide) rfl ?_
              refine w_iload gz_68_95 rfl ?_
              refine w_lconst gz_68_97 ?_
              refine w_iload_n gz_68_98 rfl ?_
              refine w_bipush gz_68_99 (by decide) ?_
              refine w_imul gz_68_101 ⟨by omega, by omega⟩ ?_
              refine w_iload gz_68_102 rfl ?_
              refine w_iadd gz_68_104 ⟨by omega, by omega⟩ ?_
              refine w_jshf gz_68_105 (fun _ => rfl) rfl (fun v28 pv28 => ?_)
              refine w_last gz_68_106 (ix_8_3 t0) rd_44 (by omega) (by omega) (fun h29 fh29 => ?_)
              have gh29 : my_fr [(8, 0), (8, 1), (42, -1), (44, -1)] h h29 := my_fr.up gh26 (ix_8_3 t0) fh29 rfl
              have gxh29 : my_fx x0 3 h h29 := my_fx.up gxh26 fh29 (by omega)
              refine w_aload_n gz_68_107 rfl ?_
              refine w_dup gz_68_108 rfl ?_
              refine v_getI (j := 0) gz_68_109 rfl t0 rd_8 rfl (fun v30 ev30 pv30 qv30 => ?_)
              have zv30 := ev30.trans ((my_up_role fh29 t0 (ix_8_3 t0) rfl).trans ((my_up_role fh26 t0 (ix_8_1 t0) rfl).trans ev25.symm))
              refine w_iconst gz_68_112 (by decide) ?_
              refine w_iadd gz_68_113 ⟨by omega, by omega⟩ ?_
              refine v_putI (j := 0) gz_68_114 rfl t0 rd_8 rfl (by omega) (by omega) rfl (fun h31 fh31 => ?_)
              have gh31 : my_fr [(8, 0), (8, 1), (42, -1), (44, -1)] h h31 := my_fr.up gh29 t0 fh31 rfl
              have gxh31 : my_fx x0 3 h h31 := my_fx.up gxh29 fh31 (by omega)
              exact J117_0 ((((x2 * 20) + p13_0) * 4)) ((v30 + 1)) h31 (gh31) (gxh31) (by omega) (by omega) (by omega) (by omega) (by omega) (by omega) (by omega) (by omega) (by omega) (by omega) ((my_up_self fh31).trans (by omega)) (((my_up_fld fh31 (by decide)).trans ((my_up_role fh29 t0 (ix_8_3 t0) rfl).trans ((my_up_role fh26 t0 (ix_8_1 t0) rfl).trans ((my_fr.at frh23 t0 rfl).trans ca0_1_13_0)))).trans (by omega))
  refine w_aload_n gz_68_0 rfl ?_
  refine w_iconst gz_68_1 (by decide) ?_
  refine v_putI (j := 0) gz_68_2 rfl t0 rd_8 rfl (by omega) (by omega) rfl (fun h32 fh32 => ?_)
  have gh32 : my_fr [(8, 0), (8, 1), (42, -1), (44, -1)] h h32 := my_fr.up my_fr.rf t0 fh32 rfl
  have gxh32 : my_fx x0 3 h h32 := my_fx.up my_fx.rf fh32 (by omega)
  refine w_aload_n gz_68_5 rfl ?_
  refine w_iload_n gz_68_6 rfl ?_
  refine v_putI (j := 1) gz_68_7 rfl t0 rd_8 rfl (by omega) (by omega) rfl (fun h33 fh33 => ?_)
  have gh33 : my_fr [(8, 0), (8, 1), (42, -1), (44, -1)] h h33 := my_fr.up gh32 t0 fh33 rfl
  have gxh33 : my_fx x0 3 h h33 := my_fx.up gxh32 fh33 (by omega)
  refine w_iconst gz_68_10 (by decide) ?_
  refine w_istore (ls' := [(2, x0), (2, x1), (0, x2), (0, x3), (0, x4), (0, 0), (9, 0)]) gz_68_11 gm_68 rfl rfl rfl ?_
  have ce34 : h33 x0 1 = x3 := (my_up_self fh33)
  exact J13_0 21 (0) (0) h33 (gh33) (gxh33) (by omega) (by omega) (by omega) (by omega) (by omega) (((my_up_fld fh33 (by decide)).trans (my_up_self fh32)).trans (by omega)) ((my_up_self fh33).trans (by omega)) (by first | assumption | omega | (subst_vars; omega)) (by omega)
theorem c_View_sort {l : Launch} {rho : Nat → Int32} {d : Nat} {h : my_H} {Q : my_H → my_V → Prop} {x0 : Int} (t0 : my_is 8 x0) (k0 : ∀ (h' : my_H), my_fr [(42, -1)] h h' → my_fx x0 3 h h' → h' x0 0 = h x0 0 → h' x0 1 = h x0 1 → Q h' (9, 0)) : wp l rho (d + 2) 79 0 [(2, x0), (9, 0), (9, 0), (9, 0)] [] h Q := by
  refine v_know (x := x0) (j := 0) (b := 0) rfl t0 rd_8 rfl (fun ka0_0 eka0_0 pka0_0 qka0_0 => ?_)
  refine v_know (x := x0) (j := 1) (b := 1) rfl t0 rd_8 rfl (fun ka0_1 eka0_1 pka0_1 qka0_1 => ?_)
  have J2_0 : ∀ (n : Nat) (p2_0 : Int) (h2_0 : my_H), my_fr [(42, -1)] h h2_0 → my_fx x0 3 h h2_0 → 1 ≤ p2_0 → p2_0 ≤ 11 → p2_0 ≤ (ka0_0 + 1) → h2_0 x0 0 = ka0_0 → h2_0 x0 1 = ka0_1 → 12 - p2_0 ≤ (n : Int) → wp l rho (d + 2) 79 2 [(2, x0), (0, p2_0), (9, 0), (9, 0)] [] h2_0 Q := by
    intro n
    induction n with
    | zero => intro p2_0 h2_0 gh_2_0 gx_2_0 q0_2_0 q1_2_0 q2_2_0 ca0_0_2_0 ca0_1_2_0 hm_2_0; exfalso; omega
    | succ n ih_2_0 =>
      intro p2_0 h2_0 gh_2_0 gx_2_0 q0_2_0 q1_2_0 q2_2_0 ca0_0_2_0 ca0_1_2_0 hm_2_0
      have J98_0 : ∀ (p98_0 : Int) (h98_0 : my_H), my_fr [(42, -1)] h h98_0 → my_fx x0 3 h h98_0 → p2_0 ≤ 10 → 0 ≤ p98_0 → p98_0 ≤ 10 → 2 ≤ ka0_0 → p98_0 ≤ p2_0 → p98_0 ≤ (ka0_0 - 1) → p2_0 ≤ (ka0_0 - 1) → h98_0 x0 0 = ka0_0 → h98_0 x0 1 = ka0_1 → wp l rho (d + 2) 79 98 [(2, x0), (0, p2_0), (0, p98_0), (9, 0)] [] h98_0 Q := by
        intro p98_0 h98_0 gh_98_0 gx_98_0 q0_98_0 q1_98_0 q2_98_0 q3_98_0 q4_98_0 q5_98_0 q6_98_0 ca0_0_98_0 ca0_1_98_0
        refine w_iinc (ls' := [(2, x0), (0, (p2_0 + 1)), (0, p98_0), (9, 0)]) gz_79_98 rfl gm_79 rfl rfl rfl ⟨by omega, by omega⟩ ?_
        refine w_goto (t := 2) gz_79_101 rfl ?_
        refine w_weak (ls' := [(2, x0), (0, (p2_0 + 1)), (9, 0), (9, 0)]) (wk_e (wk_e (wk_9 (wk_9 wk_n)))) ?_
        exact ih_2_0 ((p2_0 + 1)) h98_0 (gh_98_0) (gx_98_0) (by omega) (by omega) (by omega) (ca0_0_98_0.trans (by omega)) (ca0_1_98_0.trans (by omega)) (by omega)
      have J72_0 : ∀ (n : Nat) (p72_0 p72_1 : Int) (h72_0 : my_H), my_fr [(42, -1)] h h72_0 → my_fx x0 3 h h72_0 → p2_0 ≤ 10 → 0 ≤ p72_0 → p72_0 ≤ 9 → 0 ≤ p72_1 → p72_1 ≤ 10 → 2 ≤ ka0_0 → p72_0 ≤ p72_1 → p72_0 ≤ (p2_0 - 1) → p72_0 ≤ (ka0_0 - 2) → p72_1 ≤ p2_0 → p72_1 ≤ (ka0_0 - 1) → p2_0 ≤ (ka0_0 - 1) → h72_0 x0 0 = ka0_0 → h72_0 x0 1 = ka0_1 → p72_1 - (-1) ≤ (n : Int) → wp l rho (d + 2) 79 72 [(2, x0), (0, p2_0), (0, p72_0), (0, p72_1)] [] h72_0 Q := by
        intro n
        induction n with
        | zero => intro p72_0 p72_1 h72_0 gh_72_0 gx_72_0 q0_72_0 q1_72_0 q2_72_0 q3_72_0 q4_72_0 q5_72_0 q6_72_0 q7_72_0 q8_72_0 q9_72_0 q10_72_0 q11_72_0 ca0_0_72_0 ca0_1_72_0 hm_72_0; exfalso; omega
        | succ n ih_72_0 =>
          intro p72_0 p72_1 h72_0 gh_72_0 gx_72_0 q0_72_0 q1_72_0 q2_72_0 q3_72_0 q4_72_0 q5_72_0 q6_72_0 q7_72_0 q8_72_0 q9_72_0 q10_72_0 q11_72_0 ca0_0_72_0 ca0_1_72_0 hm_72_0
          refine w_iload_n gz_79_72 rfl ?_
          refine w_iload_n gz_79_73 rfl ?_
          refine w_icle (t := 91) gz_79_74 rfl (fun u1 => ?_) (fun u1 => ?_)
          ·
            refine w_aload_n gz_79_91 rfl ?_
            refine w_bipush gz_79_92 (by decide) ?_
            refine w_iload_n gz_79_94 rfl ?_
            refine w_inv (k := 0) (as := [(0, p72_0), (0, 11)]) (r := []) (x := x0) (ls0 := [(2, x0), (0, 11), (0, p72_0)]) gz_79_95 gm_72 rfl t0 rd_8 rfl rfl rfl rfl rfl ?_
            refine w_iload_n gz_72_0 rfl ?_
            refine w_iload_n gz_72_1 rfl ?_
            refine w_iceq (t := 26) gz_72_2 rfl (fun u2 => by exfalso; omega) (fun u2 => ?_)
            refine w_aload_n gz_72_5 rfl ?_
            refine w_getX (v := (x0 + 1)) gz_72_6 t0 rd_8 rfl (by decide) rfl ?_
            refine w_iload_n gz_72_9 rfl ?_
            refine w_bipush gz_72_10 (by decide) ?_
            refine w_imul gz_72_12 ⟨by omega, by omega⟩ ?_
            refine w_aload_n gz_72_13 rfl ?_
            refine w_getX (v := (x0 + 1)) gz_72_14 t0 rd_8 rfl (by decide) rfl ?_
            refine w_iload_n gz_72_17 rfl ?_
            refine w_bipush gz_72_18 (by decide) ?_
            refine w_imul gz_72_20 ⟨by omega, by omega⟩ ?_
            refine w_bipush gz_72_21 (by decide) ?_
            refine w_cpG gz_72_23 (ix_8_1 t0) rd_42 (ix_8_1 t0) rd_42 (by omega) (by omega) (by omega) (by omega) (by omega) rfl (by omega) (fun h5 fh5 => ?_)
            have gh5 : my_fr [(42, -1)] h h5 := my_fr.cp gh_72_0 (ix_8_1 t0) fh5 rfl
            have gxh5 : my_fx x0 3 h h5 := my_fx.cp gx_72_0 fh5 (by omega)
            refine w_vret gz_72_26 gm_72 ?_
            show wp l rho (d + 2) 79 98 [(2, x0), (0, p2_0), (0, p72_0), (0, p72_1)] [] h5 Q
            refine w_weak (ls' := [(2, x0), (0, p2_0), (0, p72_0), (9, 0)]) (wk_e (wk_e (wk_e (wk_9 wk_n)))) ?_
            exact J98_0 (p72_0) h5 (gh5) (gxh5) (by omega) (by omega) (by omega) (by omega) (by omega) (by omega) (by omega) (((my_cp_role fh5 t0 (ix_8_1 t0) rfl).trans ca0_0_72_0).trans (by omega)) (((my_cp_role fh5 t0 (ix_8_1 t0) rfl).trans ca0_1_72_0).trans (by omega))
          ·
            refine w_aload_n gz_79_77 rfl ?_
            refine w_iload_n gz_79_78 rfl ?_
            refine w_iconst gz_79_79 (by decide) ?_
            refine w_isub gz_79_80 ⟨by omega, by omega⟩ ?_
            refine w_iload_n gz_79_81 rfl ?_
            refine w_inv (k := 0) (as := [(0, p72_1), (0, (p72_1 - 1))]) (r := []) (x := x0) (ls0 := [(2, x0), (0, (p72_1 - 1)), (0, p72_1)]) gz_79_82 gm_72 rfl t0 rd_8 rfl rfl rfl rfl rfl ?_
            refine w_iload_n gz_72_0 rfl ?_
            refine w_iload_n gz_72_1 rfl ?_
            refine w_iceq (t := 26) gz_72_2 rfl (fun u6 => by exfalso; omega) (fun u6 => ?_)
            refine w_aload_n gz_72_5 rfl ?_
            refine w_getX (v := (x0 + 1)) gz_72_6 t0 rd_8 rfl (by decide) rfl ?_
            refine w_iload_n gz_72_9 rfl ?_
            refine w_bipush gz_72_10 (by decide) ?_
            refine w_imul gz_72_12 ⟨by omega, by omega⟩ ?_
            refine w_aload_n gz_72_13 rfl ?_
            refine w_getX (v := (x0 + 1)) gz_72_14 t0 rd_8 rfl (by decide) rfl ?_
            refine w_iload_n gz_72_17 rfl ?_
            refine w_bipush gz_72_18 (by decide) ?_
            refine w_imul gz_72_20 ⟨by omega, by omega⟩ ?_
            refine w_bipush gz_72_21 (by decide) ?_
            refine w_cpG gz_72_23 (ix_8_1 t0) rd_42 (ix_8_1 t0) rd_42 (by omega) (by omega) (by omega) (by omega) (by omega) rfl (by omega) (fun h9 fh9 => ?_)
            have gh9 : my_fr [(42, -1)] h h9 := my_fr.cp gh_72_0 (ix_8_1 t0) fh9 rfl
            have gxh9 : my_fx x0 3 h h9 := my_fx.cp gx_72_0 fh9 (by omega)
            refine w_vret gz_72_26 gm_72 ?_
            show wp l rho (d + 2) 79 85 [(2, x0), (0, p2_0), (0, p72_0), (0, p72_1)] [] h9 Q
            refine w_iinc (ls' := [(2, x0), (0, p2_0), (0, p72_0), (0, (p72_1 + (-1)))]) gz_79_85 rfl gm_79 rfl rfl rfl ⟨by omega, by omega⟩ ?_
            refine w_goto (t := 72) gz_79_88 rfl ?_
            exact ih_72_0 (p72_0) ((p72_1 + (-1))) h9 (gh9) (gxh9) (by omega) (by omega) (by omega) (by omega) (by omega) (by omega) (by omega) (by omega) (by omega) (by omega) (by omega) (by omega) (((my_cp_role fh9 t0 (ix_8_1 t0) rfl).trans ca0_0_72_0).trans (by omega)) (((my_cp_role fh9 t0 (ix_8_1 t0) rfl).trans ca0_1_72_0).trans (by omega)) (by omega)
      have J58_0 : ∀ (p58_0 : Int) (h58_0 : my_H), my_fr [(42, -1)] h h58_0 → my_fx x0 3 h h58_0 → p2_0 ≤ 10 → 0 ≤ p58_0 → p58_0 ≤ 10 → 2 ≤ ka0_0 → p58_0 ≤ p2_0 → p58_0 ≤ (ka0_0 - 1) → p2_0 ≤ (ka0_0 - 1) → h58_0 x0 0 = ka0_0 → h58_0 x0 1 = ka0_1 → wp l rho (d + 2) 79 58 [(2, x0), (0, p2_0), (0, p58_0), (9, 0)] [] h58_0 Q := by
        intro p58_0 h58_0 gh_58_0 gx_58_0 q0_58_0 q1_58_0 q2_58_0 q3_58_0 q4_58_0 q5_58_0 q6_58_0 ca0_0_58_0 ca0_1_58_0
        refine w_iload_n gz_79_58 rfl ?_
        refine w_iload_n gz_79_59 rfl ?_
        refine w_icge (t := 98) gz_79_60 rfl (fun u10 => ?_) (fun u10 => ?_)
        ·
          exact J98_0 (p58_0) h58_0 (gh_58_0) (gx_58_0) (by omega) (by omega) (by omega) (by omega) (by omega) (by omega) (by omega) (ca0_0_58_0.trans (by omega)) (ca0_1_58_0.trans (by omega))
        ·
          refine w_aload_n gz_79_63 rfl ?_
          refine w_iload_n gz_79_64 rfl ?_
          refine w_bipush gz_79_65 (by decide) ?_
          refine w_inv (k := 0) (as := [(0, 11), (0, p2_0)]) (r := []) (x := x0) (ls0 := [(2, x0), (0, p2_0), (0, 11)]) gz_79_67 gm_72 rfl t0 rd_8 rfl rfl rfl rfl rfl ?_
          refine w_iload_n gz_72_0 rfl ?_
          refine w_iload_n gz_72_1 rfl ?_
          refine w_iceq (t := 26) gz_72_2 rfl (fun u11 => by exfalso; omega) (fun u11 => ?_)
          refine w_aload_n gz_72_5 rfl ?_
          refine w_getX (v := (x0 + 1)) gz_72_6 t0 rd_8 rfl (by decide) rfl ?_
          refine w_iload_n gz_72_9 rfl ?_
          refine w_bipush gz_72_10 (by decide) ?_
          refine w_imul gz_72_12 ⟨by omega, by omega⟩ ?_
          refine w_aload_n gz_72_13 rfl ?_
          refine w_getX (v := (x0 + 1)) gz_72_14 t0 rd_8 rfl (by decide) rfl ?_
          refine w_iload_n gz_72_17 rfl ?_
          refine w_bipush gz_72_18 (by decide) ?_
          refine w_imul gz_72_20 ⟨by omega, by omega⟩ ?_
          refine w_bipush gz_72_21 (by decide) ?_
          refine w_cpG gz_72_23 (ix_8_1 t0) rd_42 (ix_8_1 t0) rd_42 (by omega) (by omega) (by omega) (by omega) (by omega) rfl (by omega) (fun h14 fh14 => ?_)
          have gh14 : my_fr [(42, -1)] h h14 := my_fr.cp gh_58_0 (ix_8_1 t0) fh14 rfl
          have gxh14 : my_fx x0 3 h h14 := my_fx.cp gx_58_0 fh14 (by omega)
          refine w_vret gz_72_26 gm_72 ?_
          show wp l rho (d + 2) 79 70 [(2, x0), (0, p2_0), (0, p58_0), (9, 0)] [] h14 Q
          refine w_iload_n gz_79_70 rfl ?_
          refine w_istore_n (ls' := [(2, x0), (0, p2_0), (0, p58_0), (0, p2_0)]) gz_79_71 gm_79 rfl rfl rfl ?_
          exact J72_0 11 (p58_0) (p2_0) h14 (gh14) (gxh14) (by omega) (by omega) (by omega) (by omega) (by omega) (by omega) (by omega) (by omega) (by omega) (by omega) (by omega) (by omega) (((my_cp_role fh14 t0 (ix_8_1 t0) rfl).trans ca0_0_58_0).trans (by omega)) (((my_cp_role fh14 t0 (ix_8_1 t0) rfl).trans ca0_1_58_0).trans (by omega)) (by omega)
      have J12_0 : ∀ (n : Nat) (p12_0 : Int) (h12_0 : my_H), my_fr [(42, -1)] h h12_0 → my_fx x0 3 h h12_0 → p2_0 ≤ 10 → 0 ≤ p12_0 → p12_0 ≤ 10 → 2 ≤ ka0_0 → p12_0 ≤ p2_0 → p12_0 ≤ (ka0_0 - 1) → p2_0 ≤ (ka0_0 - 1) → h12_0 x0 0 = ka0_0 → h12_0 x0 1 = ka0_1 → p12_0 - (-1) ≤ (n : Int) → wp l rho (d + 2) 79 12 [(2, x0), (0, p2_0), (0, p12_0), (9, 0)] [] h12_0 Q := by
        intro n
        induction n with
        | zero => intro p12_0 h12_0 gh_12_0 gx_12_0 q0_12_0 q1_12_0 q2_12_0 q3_12_0 q4_12_0 q5_12_0 q6_12_0 ca0_0_12_0 ca0_1_12_0 hm_12_0; exfalso; omega
        | succ n ih_12_0 =>
          intro p12_0 h12_0 gh_12_0 gx_12_0 q0_12_0 q1_12_0 q2_12_0 q3_12_0 q4_12_0 q5_12_0 q6_12_0 ca0_0_12_0 ca0_1_12_0 hm_12_0
          have J52_0 : ∀ (p52_0 : Int) (h52_0 : my_H), my_fr [(42, -1)] h h52_0 → my_fx x0 3 h h52_0 → 1 ≤ p12_0 → p52_0 ≤ 0 → p2_0 ≤ (ka0_0 - 1) → p12_0 ≤ p2_0 → p12_0 ≤ (ka0_0 - 1) → h52_0 x0 0 = ka0_0 → h52_0 x0 1 = ka0_1 → wp l rho (d + 2) 79 52 [(2, x0), (0, p2_0), (0, p12_0), (0, p52_0)] [] h52_0 Q := by
            intro p52_0 h52_0 gh_52_0 gx_52_0 q0_52_0 q1_52_0 q2_52_0 q3_52_0 q4_52_0 ca0_0_52_0 ca0_1_52_0
            refine w_iinc (ls' := [(2, x0), (0, p2_0), (0, (p12_0 + (-1))), (0, p52_0)]) gz_79_52 rfl gm_79 rfl rfl rfl ⟨by omega, by omega⟩ ?_
            refine w_goto (t := 12) gz_79_55 rfl ?_
            refine w_weak (ls' := [(2, x0), (0, p2_0), (0, (p12_0 + (-1))), (9, 0)]) (wk_e (wk_e (wk_e (wk_9 wk_n)))) ?_
            exact ih_12_0 ((p12_0 + (-1))) h52_0 (gh_52_0) (gx_52_0) (by omega) (by omega) (by omega) (by omega) (by omega) (by omega) (by omega) (ca0_0_52_0.trans (by omega)) (ca0_1_52_0.trans (by omega)) (by omega)
          refine w_iload_n gz_79_12 rfl ?_
          refine w_ifle (t := 58) gz_79_13 rfl (fun u15 => ?_) (fun u15 => ?_)
          ·
            exact J58_0 (p12_0) h12_0 (gh_12_0) (gx_12_0) (by omega) (by omega) (by omega) (by omega) (by omega) (by omega) (by omega) (ca0_0_12_0.trans (by omega)) (ca0_1_12_0.trans (by omega))
          ·
            refine w_aload_n gz_79_16 rfl ?_
            refine w_iload_n gz_79_17 rfl ?_
            refine w_aload_n gz_79_18 rfl ?_
            refine w_iload_n gz_79_19 rfl ?_
            refine w_iconst gz_79_20 (by decide) ?_
            refine w_isub gz_79_21 ⟨by omega, by omega⟩ ?_
            refine w_inv (k := 2) (as := [(0, (p12_0 - 1)), (2, x0), (0, p2_0)]) (r := []) (x := x0) (ls0 := [(2, x0), (0, p2_0), (2, x0), (0, (p12_0 - 1)), (9, 0), (9, 0)]) gz_79_22 gm_80 rfl t0 rd_8 rfl rfl rfl rfl rfl (c_View_compare (d := (d + 1)) (x0 := x0) (x1 := p2_0) (x2 := x0) (x3 := (p12_0 - 1)) t0 (by omega) (by omega) (by omega) (by omega) t0 (by omega) (by omega) (by omega) (by omega) ?_ (fun v16 w17 w18 => ?_))
            ·
              show wp l rho (d + 2) 79 25 [(2, x0), (0, p2_0), (0, p12_0), (9, 0)] [(0, 0)] h12_0 Q
              refine w_istore_n (ls' := [(2, x0), (0, p2_0), (0, p12_0), (0, 0)]) gz_79_25 gm_79 rfl rfl rfl ?_
              refine w_iload_n gz_79_26 rfl ?_
              refine w_ifgt (t := 58) gz_79_27 rfl (fun u19 => by exfalso; omega) (fun u19 => ?_)
              refine w_iload_n gz_79_30 rfl ?_
              refine w_ifne (t := 52) gz_79_31 rfl (fun u20 => by exfalso; omega) (fun u20 => ?_)
              refine w_aload_n gz_79_34 rfl ?_
              refine w_iload_n gz_79_35 rfl ?_
              refine w_inv (k := 0) (as := [(0, p2_0)]) (r := []) (x := x0) (ls0 := [(2, x0), (0, p2_0)]) gz_79_36 gm_75 rfl t0 rd_8 rfl rfl rfl rfl rfl ?_
              refine w_aload_n gz_75_0 rfl ?_
              refine w_getX (v := (x0 + 1)) gz_75_1 t0 rd_8 rfl (by decide) rfl ?_
              refine w_iload_n gz_75_4 rfl ?_
              refine w_bipush gz_75_5 (by decide) ?_
              refine w_imul gz_75_7 ⟨by omega, by omega⟩ ?_
              refine w_bipush gz_75_8 (by decide) ?_
              refine w_iadd gz_75_10 ⟨by omega, by omega⟩ ?_
              refine w_gldT gz_75_11 (ix_8_1 t0) rd_42 (by omega) (by omega) (by omega) (fun v22 ev22 pv22 qv22 => ?_)
              refine w_iret gz_75_12 gm_75 ?_
              show wp l rho (d + 2) 79 39 [(2, x0), (0, p2_0), (0, p12_0), (0, 0)] [(0, v22)] h12_0 Q
              refine w_aload_n gz_79_39 rfl ?_
              refine w_iload_n gz_79_40 rfl ?_
              refine w_iconst gz_79_41 (by decide) ?_
              refine w_isub gz_79_42 ⟨by omega, by omega⟩ ?_
              refine w_inv (k := 0) (as := [(0, (p12_0 - 1))]) (r := [(0, v22)]) (x := x0) (ls0 := [(2, x0), (0, (p12_0 - 1))]) gz_79_43 gm_75 rfl t0 rd_8 rfl rfl rfl rfl rfl ?_
              refine w_aload_n gz_75_0 rfl ?_
              refine w_getX (v := (x0 + 1)) gz_75_1 t0 rd_8 rfl (by decide) rfl ?_
              refine w_iload_n gz_75_4 rfl ?_
              refine w_bipush gz_75_5 (by decide) ?_
              refine w_imul gz_75_7 ⟨by omega, by omega⟩ ?_
              refine w_bipush gz_75_8 (by decide) ?_
              refine w_iadd gz_75_10 ⟨by omega, by omega⟩ ?_
              refine w_gldT gz_75_11 (ix_8_1 t0) rd_42 (by omega) (by omega) (by omega) (fun v24 ev24 pv24 qv24 => ?_)
              refine w_iret gz_75_12 gm_75 ?_
              show wp l rho (d + 2) 79 46 [(2, x0), (0, p2_0), (0, p12_0), (0, 0)] [(0, v24), (0, v22)] h12_0 Q
              refine w_iclt (t := 52) gz_79_46 rfl (fun u25 => ?_) (fun u25 => ?_)
              ·
                exact J52_0 (0) h12_0 (gh_12_0) (gx_12_0) (by omega) (by omega) (by omega) (by omega) (by omega) (ca0_0_12_0.trans (by omega)) (ca0_1_12_0.trans (by omega))
              ·
                refine w_goto (t := 58) gz_79_49 rfl ?_
                refine w_weak (ls' := [(2, x0), (0, p2_0), (0, p12_0), (9, 0)]) (wk_e (wk_e (wk_e (wk_9 wk_n)))) ?_
                exact J58_0 (p12_0) h12_0 (gh_12_0) (gx_12_0) (by omega) (by omega) (by omega) (by omega) (by omega) (by omega) (by omega) (ca0_0_12_0.trans (by omega)) (ca0_1_12_0.trans (by omega))
            ·
              show wp l rho (d + 2) 79 25 [(2, x0), (0, p2_0), (0, p12_0), (9, 0)] [(0, v16)] h12_0 Q
              refine w_istore_n (ls' := [(2, x0), (0, p2_0), (0, p12_0), (0, v16)]) gz_79_25 gm_79 rfl rfl rfl ?_
              refine w_iload_n gz_79_26 rfl ?_
              refine w_ifgt (t := 58) gz_79_27 rfl (fun u26 => ?_) (fun u26 => ?_)
              ·
                refine w_weak (ls' := [(2, x0), (0, p2_0), (0, p12_0), (9, 0)]) (wk_e (wk_e (wk_e (wk_9 wk_n)))) ?_
                exact J58_0 (p12_0) h12_0 (gh_12_0) (gx_12_0) (by omega) (by omega) (by omega) (by omega) (by omega) (by omega) (by omega) (ca0_0_12_0.trans (by omega)) (ca0_1_12_0.trans (by omega))
              ·
                refine w_iload_n gz_79_30 rfl ?_
                refine w_ifne (t := 52) gz_79_31 rfl (fun u27 => ?_) (fun u27 => ?_)
                ·
                  exact J52_0 (v16) h12_0 (gh_12_0) (gx_12_0) (by omega) (by omega) (by omega) (by omega) (by omega) (ca0_0_12_0.trans (by omega)) (ca0_1_12_0.trans (by omega))
                ·
                  refine w_aload_n gz_79_34 rfl ?_
                  refine w_iload_n gz_79_35 rfl ?_
                  refine w_inv (k := 0) (as := [(0, p2_0)]) (r := []) (x := x0) (ls0 := [(2, x0), (0, p2_0)]) gz_79_36 gm_75 rfl t0 rd_8 rfl rfl rfl rfl rfl ?_
                  refine w_aload_n gz_75_0 rfl ?_
                  refine w_getX (v := (x0 + 1)) gz_75_1 t0 rd_8 rfl (by decide) rfl ?_
                  refine w_iload_n gz_75_4 rfl ?_
                  refine w_bipush gz_75_5 (by decide) ?_
                  refine w_imul gz_75_7 ⟨by omega, by omega⟩ ?_
                  refine w_bipush gz_75_8 (by decide) ?_
                  refine w_iadd gz_75_10 ⟨by omega, by omega⟩ ?_
                  refine w_gldT gz_75_11 (ix_8_1 t0) rd_42 (by omega) (by omega) (by omega) (fun v29 ev29 pv29 qv29 => ?_)
                  refine w_iret gz_75_12 gm_75 ?_
                  show wp l rho (d + 2) 79 39 [(2, x0), (0, p2_0), (0, p12_0), (0, v16)] [(0, v29)] h12_0 Q
                  refine w_aload_n gz_79_39 rfl ?_
                  refine w_iload_n gz_79_40 rfl ?_
                  refine w_iconst gz_79_41 (by decide) ?_
                  refine w_isub gz_79_42 ⟨by omega, by omega⟩ ?_
                  refine w_inv (k := 0) (as := [(0, (p12_0 - 1))]) (r := [(0, v29)]) (x := x0) (ls0 := [(2, x0), (0, (p12_0 - 1))]) gz_79_43 gm_75 rfl t0 rd_8 rfl rfl rfl rfl rfl ?_
                  refine w_aload_n gz_75_0 rfl ?_
                  refine w_getX (v := (x0 + 1)) gz_75_1 t0 rd_8 rfl (by decide) rfl ?_
                  refine w_iload_n gz_75_4 rfl ?_
                  refine w_bipush gz_75_5 (by decide) ?_
                  refine w_imul gz_75_7 ⟨by omega, by omega⟩ ?_
                  refine w_bipush gz_75_8 (by decide) ?_
                  refine w_iadd gz_75_10 ⟨by omega, by omega⟩ ?_
                  refine w_gldT gz_75_11 (ix_8_1 t0) rd_42 (by omega) (by omega) (by omega) (fun v31 ev31 pv31 qv31 => ?_)
                  refine w_iret gz_75_12 gm_75 ?_
                  show wp l rho (d + 2) 79 46 [(2, x0), (0, p2_0), (0, p12_0), (0, v16)] [(0, v31), (0, v29)] h12_0 Q
                  refine w_iclt (t := 52) gz_79_46 rfl (fun u32 => ?_) (fun u32 => ?_)
                  ·
                    exact J52_0 (v16) h12_0 (gh_12_0) (gx_12_0) (by omega) (by omega) (by omega) (by omega) (by omega) (ca0_0_12_0.trans (by omega)) (ca0_1_12_0.trans (by omega))
                  ·
                    refine w_goto (t := 58) gz_79_49 rfl ?_
                    refine w_weak (ls' := [(2, x0), (0, p2_0), (0, p12_0), (9, 0)]) (wk_e (wk_e (wk_e (wk_9 wk_n)))) ?_
                    exact J58_0 (p12_0) h12_0 (gh_12_0) (gx_12_0) (by omega) (by omega) (by omega) (by omega) (by omega) (by omega) (by omega) (ca0_0_12_0.trans (by omega)) (ca0_1_12_0.trans (by omega))
      refine w_iload_n gz_79_2 rfl ?_
      refine w_aload_n gz_79_3 rfl ?_
      refine v_getI (j := 0) gz_79_4 rfl t0 rd_8 rfl (fun v33 ev33 pv33 qv33 => ?_)
      have zv33 := ev33.trans ca0_0_2_0
      refine w_icge (t := 104) gz_79_7 rfl (fun u34 => ?_) (fun u34 => ?_)
      ·
        have ce35 : h2_0 x0 0 = v33 := ev33.symm
        have ce36 : h2_0 x0 1 = ka0_1 := ca0_1_2_0
        exact w_vret gz_79_104 gm_79 (k0 h2_0 (gh_2_0) (gx_2_0) (by first | assumption | omega | (subst_vars; omega)) (by first | assumption | omega | (subst_vars; omega)))
      ·
        refine w_iload_n gz_79_10 rfl ?_
        refine w_istore_n (ls' := [(2, x0), (0, p2_0), (0, p2_0), (9, 0)]) gz_79_11 gm_79 rfl rfl rfl ?_
        exact J12_0 11 (p2_0) h2_0 (gh_2_0) (gx_2_0) (by omega) (by omega) (by omega) (by omega) (by omega) (by omega) (by omega) (ev33.symm.trans (by omega)) (ca0_1_2_0.trans (by omega)) (by omega)
  refine w_iconst gz_79_0 (by decide) ?_
  refine w_istore_n (ls' := [(2, x0), (0, 1), (9, 0), (9, 0)]) gz_79_1 gm_79 rfl rfl rfl ?_
  exact J2_0 11 (1) h (my_fr.rf) (my_fx.rf) (by omega) (by omega) (by omega) (eka0_0.symm.trans (by omega)) (eka0_1.symm.trans (by omega)) (by omega)
end MYNDesk_keep
