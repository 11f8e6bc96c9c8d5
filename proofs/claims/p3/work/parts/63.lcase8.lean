/-! the law's cases (printed by wip/gen/mk61.py) -/
section MRB
variable {p : Program} {l : Launch} {e : Env} {s : State} {m : MethodId} {below : List Frame} {meth : Method} {c : Code} {b : Nat} {D : va_G} {tys : List (ClassId × FieldType)} {sg : Nat → Nat} {rho : Nat → Int32} {h : my_H} {kn : Nat} {i : Int} {L4 : Nat}
theorem lcase_8 (hL4 : L4 ≤ 4096) (hL : rho 4096 = Int32.ofNat L4) (I : LInv h) (i0 : 0 ≤ i) (i8 : i + 8 ≤ L4) (K : ∀ h' : my_H, LInv h' → lwp p l e s m below meth c b D tys sg rho 1878 [(3, 0), (2, 0), (2, 151), (2, 203), (0, i), (9, 0), (9, 0)] [] h' kn) (K1 : ∀ h' : my_H, LInv h' → lwp p l e s m below meth c b D tys sg rho 1878 [(3, 0), (2, 0), (2, 151), (2, 203), (0, i), (9, 0), (9, 0)] [] h' (kn + 1)) (hst : l.stackTraces = false) (hkn : kn + 1 ≤ 512) (hV : vv_W s.heap.size s s.heap) : lwp p l e s m below meth c b D tys sg rho 666 [(3, 0), (2, 0), (2, 151), (2, 203), (0, i), (9, 0), (9, 0)] [] h kn := by
  refine lw_aload_n gz_0_666 rfl ?_
  refine lw_aload3_n gz_0_667 rfl ?_
  refine lw_iload gz_0_668 rfl ?_
  refine lw_iconst gz_0_670 (by decide) ?_
  refine lw_iadd gz_0_671 ⟨by omega, by omega⟩ ?_
  refine lw_sl gz_0_672 hL4 hL (by omega) (by omega) (fun z1 ez1 pz1 qz1 => ?_)
  refine lw_aload3_n gz_0_673 rfl ?_
  refine lw_iload gz_0_674 rfl ?_
  refine lw_iconst gz_0_676 (by decide) ?_
  refine lw_iadd gz_0_677 ⟨by omega, by omega⟩ ?_
  refine lw_sl gz_0_678 hL4 hL (by omega) (by omega) (fun z2 ez2 pz2 qz2 => ?_)
  refine lw_aload3_n gz_0_679 rfl ?_
  refine lw_iload gz_0_680 rfl ?_
  refine lw_iconst gz_0_682 (by decide) ?_
  refine lw_iadd gz_0_683 ⟨by omega, by omega⟩ ?_
  refine lw_sl gz_0_684 hL4 hL (by omega) (by omega) (fun z3 ez3 pz3 qz3 => ?_)
  refine lw_aload_n gz_0_685 rfl ?_
  refine lw_value hst (x1 := z1) (x2 := z2) (x3 := z3) hkn hV (fun h4 w5 => ?_) ?_
  ·
    have I_h4 : LInv h4 := ⟨Ln_ag (my_ag.fr w5 rfl) I.pLn, Mw_ag (my_ag.fr w5 rfl) I.pMw, Mw3_ag (my_ag.fr w5 rfl) I.pMw3, Rws_ag (my_ag.fr w5 rfl) I.pRws, Wrd_ag (my_ag.fr w5 rfl) I.pWrd, Ceq_ag (my_ag.fr w5 rfl) I.pCeq, Wd9_ag (my_ag.fr w5 rfl) I.pWd9, Teq_ag (my_ag.fr w5 rfl) I.pTeq, Wnq_ag (my_ag.fr w5 rfl) I.pWnq, Hed_ag (my_ag.fr w5 rfl) I.pHed, Sim_q I.pLn (I.pWnq.2.1) (my_ag.fr w5 rfl) (bg26 w5 (by decide +kernel)) (Ot9_e (fun j => my_fr.at w5 qis_162 rfl) (fun j => my_fr.at w5 qis_163 rfl)) I.pSim⟩
    refine lw_istore (ls' := [(3, 0), (2, 0), (2, 151), (2, 203), (0, i), (0, 0), (9, 0)]) gz_0_689 gm_0 rfl rfl rfl ?_
    refine lw_aload_n gz_0_691 rfl ?_
    refine lw_aload3_n gz_0_692 rfl ?_
    refine lw_iload gz_0_693 rfl ?_
    refine lw_iconst gz_0_695 (by decide) ?_
    refine lw_iadd gz_0_696 ⟨by omega, by omega⟩ ?_
    refine lw_sl gz_0_697 hL4 hL (by omega) (by omega) (fun z6 ez6 pz6 qz6 => ?_)
    refine lw_aload3_n gz_0_698 rfl ?_
    refine lw_iload gz_0_699 rfl ?_
    refine lw_iconst gz_0_701 (by decide) ?_
    refine lw_iadd gz_0_702 ⟨by omega, by omega⟩ ?_
    refine lw_sl gz_0_703 hL4 hL (by omega) (by omega) (fun z7 ez7 pz7 qz7 => ?_)
    refine lw_aload3_n gz_0_704 rfl ?_
    refine lw_iload gz_0_705 rfl ?_
    refine lw_iconst gz_0_707 (by decide) ?_
    refine lw_iadd gz_0_708 ⟨by omega, by omega⟩ ?_
    refine lw_sl gz_0_709 hL4 hL (by omega) (by omega) (fun z8 ez8 pz8 qz8 => ?_)
    refine lw_inv (kz := 0) (as := [(0, z8), (0, z7), (0, z6)]) (r := []) (x := 151) (ls0 := [(2, 151), (0, z6), (0, z7), (0, z8)]) gz_0_710 gm_167 rfl is_151 rd_10 rfl rfl rfl rfl rfl (c_Model_value (d := 27) (x1 := z6) (x2 := z7) (x3 := z8)  (fun h9 w10 w11 => ?_) (fun h12 y13 w14 w15 w16 w17 w18 w19 w20 w21 w22 w23 => ?_))
    ·
      have sim_h9 : Sim h9 := Sim_q I_h4.pLn (I_h4.pWnq.2.1) (my_ag.fr w10 rfl) (bg26 w10 (by decide +kernel)) (Ot9_e (fun j => my_fr.at w10 qis_162 rfl) (fun j => my_fr.at w10 qis_163 rfl)) I_h4.pSim
      have I_h9 : LInv h9 := ⟨Ln_ag (my_ag.fr w10 rfl) I_h4.pLn, Mw_ag (my_ag.fr w10 rfl) I_h4.pMw, Mw3_ag (my_ag.fr w10 rfl) I_h4.pMw3, Rws_ag (my_ag.fr w10 rfl) I_h4.pRws, Wrd_ag (my_ag.fr w10 rfl) I_h4.pWrd, Ceq_ag (my_ag.fr w10 rfl) (I_h4.pCeq), Wd9_ag (my_ag.fr w10 rfl) (I_h4.pWd9), Teq_ag (my_ag.fr w10 rfl) (I_h4.pTeq), Wnq_ag (my_ag.fr w10 rfl) (I_h4.pWnq), Hed_ag (my_ag.fr w10 rfl) (I_h4.pHed), sim_h9⟩
      show lwp p l e s m below meth c b D tys sg rho 713 [(3, 0), (2, 0), (2, 151), (2, 203), (0, i), (0, 0), (9, 0)] [(0, 0)] h9 kn
      refine lw_istore (ls' := [(3, 0), (2, 0), (2, 151), (2, 203), (0, i), (0, 0), (0, 0)]) gz_0_713 gm_0 rfl rfl rfl ?_
      refine lw_goto (t := 1878) gz_0_715 rfl ?_
      refine lw_w56 ?_
      exact K h9 I_h9
    ·
      have sim_h12 : Sim h12 := Sim_q I_h4.pLn (I_h4.pWnq.2.1) (my_ag.fr w14 rfl) (bg26 w14 (by decide +kernel)) (Ot9_e (fun j => my_fr.at w14 qis_162 rfl) (fun j => my_fr.at w14 qis_163 rfl)) I_h4.pSim
      have I_h12 : LInv h12 := ⟨Ln_ag (my_ag.fr w14 rfl) I_h4.pLn, Mw_ag (my_ag.fr w14 rfl) I_h4.pMw, Mw3_ag (my_ag.fr w14 rfl) I_h4.pMw3, Rws_ag (my_ag.fr w14 rfl) I_h4.pRws, Wrd_ag (my_ag.fr w14 rfl) I_h4.pWrd, Ceq_ag (my_ag.fr w14 rfl) (I_h4.pCeq), Wd9_ag (my_ag.fr w14 rfl) (I_h4.pWd9), Teq_ag (my_ag.fr w14 rfl) (I_h4.pTeq), Wnq_ag (my_ag.fr w14 rfl) (I_h4.pWnq), Hed_ag (my_ag.fr w14 rfl) (I_h4.pHed), sim_h12⟩
      show lwp p l e s m below meth c b D tys sg rho 713 [(3, 0), (2, 0), (2, 151), (2, 203), (0, i), (0, 0), (9, 0)] [(0, y13)] h12 kn
      refine lw_istore (ls' := [(3, 0), (2, 0), (2, 151), (2, 203), (0, i), (0, 0), (0, y13)]) gz_0_713 gm_0 rfl rfl rfl ?_
      refine lw_goto (t := 1878) gz_0_715 rfl ?_
      refine lw_w56 ?_
      exact K h12 I_h12
  ·
    -- it threw
    refine lw_istore (ls' := [(3, 0), (2, 0), (2, 151), (2, 203), (0, i), (0, 1), (9, 0)]) gz_0_689 gm_0 rfl rfl rfl ?_
    refine lw_aload_n gz_0_691 rfl ?_
    refine lw_aload3_n gz_0_692 rfl ?_
    refine lw_iload gz_0_693 rfl ?_
    refine lw_iconst gz_0_695 (by decide) ?_
    refine lw_iadd gz_0_696 ⟨by omega, by omega⟩ ?_
    refine lw_sl gz_0_697 hL4 hL (by omega) (by omega) (fun z24 ez24 pz24 qz24 => ?_)
    refine lw_aload3_n gz_0_698 rfl ?_
    refine lw_iload gz_0_699 rfl ?_
    refine lw_iconst gz_0_701 (by decide) ?_
    refine lw_iadd gz_0_702 ⟨by omega, by omega⟩ ?_
    refine lw_sl gz_0_703 hL4 hL (by omega) (by omega) (fun z25 ez25 pz25 qz25 => ?_)
    refine lw_aload3_n gz_0_704 rfl ?_
    refine lw_iload gz_0_705 rfl ?_
    refine lw_iconst gz_0_707 (by decide) ?_
    refine lw_iadd gz_0_708 ⟨by omega, by omega⟩ ?_
    refine lw_sl gz_0_709 hL4 hL (by omega) (by omega) (fun z26 ez26 pz26 qz26 => ?_)
    refine lw_inv (kz := 0) (as := [(0, z26), (0, z25), (0, z24)]) (r := []) (x := 151) (ls0 := [(2, 151), (0, z24), (0, z25), (0, z26)]) gz_0_710 gm_167 rfl is_151 rd_10 rfl rfl rfl rfl rfl (c_Model_value (d := 27) (x1 := z24) (x2 := z25) (x3 := z26)  (fun h27 w28 w29 => ?_) (fun h30 y31 w32 w33 w34 w35 w36 w37 w38 w39 w40 w41 => ?_))
    ·
      have sim_h27 : Sim h27 := Sim_q I.pLn (I.pWnq.2.1) (my_ag.fr w28 rfl) (bg26 w28 (by decide +kernel)) (Ot9_e (fun j => my_fr.at w28 qis_162 rfl) (fun j => my_fr.at w28 qis_163 rfl)) I.pSim
      have I_h27 : LInv h27 := ⟨Ln_ag (my_ag.fr w28 rfl) I.pLn, Mw_ag (my_ag.fr w28 rfl) I.pMw, Mw3_ag (my_ag.fr w28 rfl) I.pMw3, Rws_ag (my_ag.fr w28 rfl) I.pRws, Wrd_ag (my_ag.fr w28 rfl) I.pWrd, Ceq_ag (my_ag.fr w28 rfl) (I.pCeq), Wd9_ag (my_ag.fr w28 rfl) (I.pWd9), Teq_ag (my_ag.fr w28 rfl) (I.pTeq), Wnq_ag (my_ag.fr w28 rfl) (I.pWnq), Hed_ag (my_ag.fr w28 rfl) (I.pHed), sim_h27⟩
      show lwp p l e s m below meth c b D tys sg rho 713 [(3, 0), (2, 0), (2, 151), (2, 203), (0, i), (0, 1), (9, 0)] [(0, 0)] h27 (kn + 1)
      refine lw_istore (ls' := [(3, 0), (2, 0), (2, 151), (2, 203), (0, i), (0, 1), (0, 0)]) gz_0_713 gm_0 rfl rfl rfl ?_
      refine lw_goto (t := 1878) gz_0_715 rfl ?_
      refine lw_w56 ?_
      exact K1 h27 I_h27
    ·
      have sim_h30 : Sim h30 := Sim_q I.pLn (I.pWnq.2.1) (my_ag.fr w32 rfl) (bg26 w32 (by decide +kernel)) (Ot9_e (fun j => my_fr.at w32 qis_162 rfl) (fun j => my_fr.at w32 qis_163 rfl)) I.pSim
      have I_h30 : LInv h30 := ⟨Ln_ag (my_ag.fr w32 rfl) I.pLn, Mw_ag (my_ag.fr w32 rfl) I.pMw, Mw3_ag (my_ag.fr w32 rfl) I.pMw3, Rws_ag (my_ag.fr w32 rfl) I.pRws, Wrd_ag (my_ag.fr w32 rfl) I.pWrd, Ceq_ag (my_ag.fr w32 rfl) (I.pCeq), Wd9_ag (my_ag.fr w32 rfl) (I.pWd9), Teq_ag (my_ag.fr w32 rfl) (I.pTeq), Wnq_ag (my_ag.fr w32 rfl) (I.pWnq), Hed_ag (my_ag.fr w32 rfl) (I.pHed), sim_h30⟩
      show lwp p l e s m below meth c b D tys sg rho 713 [(3, 0), (2, 0), (2, 151), (2, 203), (0, i), (0, 1), (9, 0)] [(0, y31)] h30 (kn + 1)
      refine lw_istore (ls' := [(3, 0), (2, 0), (2, 151), (2, 203), (0, i), (0, 1), (0, y31)]) gz_0_713 gm_0 rfl rfl rfl ?_
      refine lw_goto (t := 1878) gz_0_715 rfl ?_
      refine lw_w56 ?_
      exact K1 h30 I_h30
end MRB
