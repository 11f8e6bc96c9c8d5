/-! contracts, printed by wip/gen/gy.py -/
section MYNReader_readCut9_f0
theorem c_Reader_readCut9_f0 {l : Launch} {rho : Nat → Int32} {d : Nat} {h : my_H} {Q : my_H → my_V → Prop} {wv : Int} (cf : h 82 9 = 0) (hwv : wv ≤ 5) (hwv0 : 0 ≤ wv) (n_Ln : Ln h) (n_Sp : Sp h wv) (n_St5 : St5 h) (n_Al : Al h) (n_Cu : Cu h) (k0 : ∀ (h' : my_H), my_fr [(4, 5), (4, 8), (4, 9), (5, 5), (5, 6), (5, 7), (5, 8), (5, 9), (32, -1), (33, -1), (34, -1), (35, -1)] h h' → 1 ≤ h' 82 9 → h' 82 9 ≤ 16004 → cutR (cs h) (h 82 7) (h (h 82 2) 4) (h' 82 9) (h' 82 7) → Ln h' → Sp h' wv → Al h' → Cu h' → Q h' (9, 0)) (k1 : ∀ (h' : my_H), my_fr [(4, 5), (4, 8), (4, 9), (5, 5), (5, 6), (5, 7), (5, 8), (5, 9), (32, -1), (33, -1), (34, -1), (35, -1)] h h' → h' 82 9 = 0 → cutR (cs h) (h 82 7) (h (h 82 2) 4) (h' 82 9) (h' 82 7) → Std h h' (h (h 82 2) 4) (h (h 82 2) 9 + 1) → Ln h' → Sp h' wv → Al h' → Cu h' → Q h' (9, 0)) : wp l rho (d + 5) 52 0 [(2, 82), (9, 0), (9, 0), (9, 0)] [] h Q := by
  have ck1 := Cu_s n_Cu
  refine w_aload_n gz_52_0 rfl ?_
  refine w_aload_n gz_52_1 rfl ?_
  refine v_getR (j := 2) gz_52_2 rfl is_82 rd_5 rfl (fun v2 ev2 tv2 => ?_)
  have ce3 : h 82 2 = v2 := ev2.symm
  have sE8 : v2 = h 82 2 := by first | assumption | omega
  refine v_getI (j := 4) gz_52_5 rfl tv2 rd_4 rfl (fun v4 ev4 pv4 qv4 => ?_)
  have c8 : v4 = h (h 82 2) 4 := by rw [← sE8]; omega
  refine w_inv (k := 1) (as := [(0, v4)]) (r := []) (x := 82) (ls0 := [(2, 82), (0, v4), (9, 0)]) gz_52_8 gm_51 rfl is_82 rd_5 rfl rfl rfl rfl rfl (c_Reader_takeNumber9_f0 (d := (d + 2)) (x1 := v4) (by omega) (by omega) (cf.trans (by omega)) n_Al n_Cu (fun h5 frh5 w6 w7 xp8 Al_h5t9 Cu_h5t10 => ?_) (fun h11 v12 frh11 w13 w14 w15 w16 w17 xp18 xp19 xp20 Al_h11t21 Cu_h11t22 => ?_))
  ·
    have gh5 : my_fr [(4, 5), (4, 8), (4, 9), (5, 5), (5, 6), (5, 7), (5, 8), (5, 9), (32, -1), (33, -1), (34, -1), (35, -1)] h h5 := my_fr.tr my_fr.rf (frh5.mo rfl)
    have Ln_h5 : Ln h5 := Ln_ag (my_ag.fr frh5 rfl) n_Ln
    have Sp_h5 : Sp h5 wv := Sp_ag (my_ag.fr frh5 rfl) hwv n_Ln n_Sp
    have St5_h5 : St5 h5 := St5_ag (my_ag.fr frh5 rfl) n_Ln n_St5
    show wp l rho (d + 5) 52 11 [(2, 82), (9, 0), (9, 0), (9, 0)] [(0, (-1))] h5 Q
    have ck23 := Cu_s Cu_h5t10
    rw [show cs h5 = cs h from cs_eq (fun j => my_fr.at gh5 is_92 rfl) (my_fr.at gh5 is_82 rfl)] at ck23
    refine w_istore_n (ls' := [(2, 82), (0, (-1)), (9, 0), (9, 0)]) gz_52_11 gm_52 rfl rfl rfl ?_
    refine w_aload_n gz_52_12 rfl ?_
    refine w_ldcS gz_52_13 (by decide) ?_
    refine w_inv (k := 1) (as := [(3, ((9 : Nat) : Int))]) (r := []) (x := 82) (ls0 := [(2, 82), (3, ((9 : Nat) : Int)), (9, 0)]) gz_52_15 gm_41 rfl is_82 rd_5 rfl rfl rfl rfl rfl (c_Reader_isWord9_f1 (d := d) (x1 := ((9 : Nat) : Int)) (by decide) ((h5 82 9)) ((rfl : h5 82 9 = h5 82 9)) (by omega) (by omega) Cu_h5t10 (fun w24 w25 xp26 => ?_) (fun w27 w28 w29 xp30 => ?_))
    ·
      show wp l rho (d + 5) 52 18 [(2, 82), (0, (-1)), (9, 0), (9, 0)] [(0, 0)] h5 Q
      rw [show wc ((9 : Nat) : Int) = 615403 from by decide] at xp26
      have tE31 : cs h5 = cs h := cs_eq (fun j => my_fr.at gh5 is_92 rfl) (my_fr.at gh5 is_82 rfl)
      rw [tE31] at xp26
      refine w_ifeq (t := 25) gz_52_18 rfl (fun u32 => ?_) (fun u32 => by exfalso; omega)
      refine w_aload_n gz_52_25 rfl ?_
      refine w_ldcS gz_52_26 (by decide) ?_
      refine w_inv (k := 1) (as := [(3, ((10 : Nat) : Int))]) (r := []) (x := 82) (ls0 := [(2, 82), (3, ((10 : Nat) : Int)), (9, 0)]) gz_52_28 gm_41 rfl is_82 rd_5 rfl rfl rfl rfl rfl (c_Reader_isWord9_f1 (d := d) (x1 := ((10 : Nat) : Int)) (by decide) ((h5 82 9)) ((rfl : h5 82 9 = h5 82 9)) (by omega) (by omega) Cu_h5t10 (fun w33 w34 xp35 => ?_) (fun w36 w37 w38 xp39 => ?_))
      ·
        show wp l rho (d + 5) 52 31 [(2, 82), (0, (-1)), (9, 0), (9, 0)] [(0, 0)] h5 Q
        rw [show wc ((10 : Nat) : Int) = 352 from by decide] at xp35
        have tE40 : cs h5 = cs h := cs_eq (fun j => my_fr.at gh5 is_92 rfl) (my_fr.at gh5 is_82 rfl)
        rw [tE40] at xp35
        refine w_ifeq (t := 38) gz_52_31 rfl (fun u41 => ?_) (fun u41 => by exfalso; omega)
        refine w_aload_n gz_52_38 rfl ?_
        refine w_ldcS gz_52_39 (by decide) ?_
        refine w_inv (k := 1) (as := [(3, ((11 : Nat) : Int))]) (r := []) (x := 82) (ls0 := [(2, 82), (3, ((11 : Nat) : Int)), (9, 0)]) gz_52_41 gm_41 rfl is_82 rd_5 rfl rfl rfl rfl rfl (c_Reader_isWord9_f1 (d := d) (x1 := ((11 : Nat) : Int)) (by decide) ((h5 82 9)) ((rfl : h5 82 9 = h5 82 9)) (by omega) (by omega) Cu_h5t10 (fun w42 w43 xp44 => ?_) (fun w45 w46 w47 xp48 => ?_))
        ·
          show wp l rho (d + 5) 52 44 [(2, 82), (0, (-1)), (9, 0), (9, 0)] [(0, 0)] h5 Q
          rw [show wc ((11 : Nat) : Int) = 679695 from by decide] at xp44
          have tE49 : cs h5 = cs h := cs_eq (fun j => my_fr.at gh5 is_92 rfl) (my_fr.at gh5 is_82 rfl)
          rw [tE49] at xp44
          refine w_ifeq (t := 51) gz_52_44 rfl (fun u50 => ?_) (fun u50 => by exfalso; omega)
          refine w_iconst gz_52_51 (by decide) ?_
          refine w_istore_n (ls' := [(2, 82), (0, (-1)), (0, (-1)), (9, 0)]) gz_52_52 gm_52 rfl rfl rfl ?_
          refine w_iload_n gz_52_53 rfl ?_
          refine w_iconst gz_52_54 (by decide) ?_
          refine w_icne (t := 66) gz_52_55 rfl (fun u51 => by exfalso; omega) (fun u51 => ?_)
          refine w_aload_n gz_52_58 rfl ?_
          refine w_iconst gz_52_59 (by decide) ?_
          refine w_inv (k := 0) (as := [(0, 1)]) (r := []) (x := 82) (ls0 := [(2, 82), (0, 1)]) gz_52_60 gm_42 rfl is_82 rd_5 rfl rfl rfl rfl rfl ?_
          refine w_aload_n gz_42_0 rfl ?_
          refine v_getI (j := 9) gz_42_1 rfl is_82 rd_5 rfl (fun v52 ev52 pv52 qv52 => ?_)
          have zv52 := ev52.trans (rfl : h5 82 9 = h5 82 9)
          refine w_ifne (t := 20) gz_42_4 rfl (fun u53 => ?_) (fun u53 => by exfalso; omega)
          refine w_vret gz_42_20 gm_42 ?_
          show wp l rho (d + 5) 52 63 [(2, 82), (0, (-1)), (0, (-1)), (9, 0)] [] h5 Q
          refine w_goto (t := 70) gz_52_63 rfl ?_
          refine w_aload_n gz_52_70 rfl ?_
          refine w_sipush gz_52_71 (by decide) ?_
          refine w_inv (k := 1) (as := [(0, 200)]) (r := []) (x := 82) (ls0 := [(2, 82), (0, 200), (9, 0)]) gz_52_74 gm_51 rfl is_82 rd_5 rfl rfl rfl rfl rfl (c_Reader_takeNumber9_f1 (d := (d + 2)) (x1 := 200) (by omega) (by omega) (v52) (ev52.symm) (by omega) (by omega) Al_h5t9 Cu_h5t10 (fun w54 w55 Al_h5t56 Cu_h5t57 => ?_))
          show wp l rho (d + 5) 52 77 [(2, 82), (0, (-1)), (0, (-1)), (9, 0)] [(0, (-1))] h5 Q
          refine w_istore_n (ls' := [(2, 82), (0, (-1)), (0, (-1)), (0, (-1))]) gz_52_77 gm_52 rfl rfl rfl ?_
          refine w_aload_n gz_52_78 rfl ?_
          refine v_getI (j := 9) gz_52_79 rfl is_82 rd_5 rfl (fun v58 ev58 pv58 qv58 => ?_)
          have zv58 := ev58.trans ev52.symm
          refine w_ifne (t := 102) gz_52_82 rfl (fun u59 => ?_) (fun u59 => by exfalso; omega)
          have psR : h5 82 7 = h5 82 7 := (rfl : h5 82 7 = h5 82 7)
          have npsR : cs h5 = cs h := cs_eq (fun j => my_fr.at gh5 is_92 rfl) (my_fr.at gh5 is_82 rfl)
          have c60 := ev58.symm
          exact w_vret gz_52_102 gm_52 (k0 h5 (gh5) (by omega) (by omega) (by first | exact std | (unfold cutR; simp only [rNum, rEnd, rWd]; omega) | omega) Ln_h5 Sp_h5 Al_h5t56 Cu_h5t57)
        ·
          show wp l rho (d + 5) 52 44 [(2, 82), (0, (-1)), (9, 0), (9, 0)] [(0, 1)] h5 Q
          rw [show wc ((11 : Nat) : Int) = 679695 from by decide] at xp48
          have tE61 : cs h5 = cs h := cs_eq (fun j => my_fr.at gh5 is_92 rfl) (my_fr.at gh5 is_82 rfl)
          rw [tE61] at xp48
          refine w_ifeq (t := 51) gz_52_44 rfl (fun u62 => by exfalso; omega) (fun u62 => ?_)
          refine w_iconst gz_52_47 (by decide) ?_
          refine w_goto (t := 52) gz_52_48 rfl ?_
          refine w_istore_n (ls' := [(2, 82), (0, (-1)), (0, 2), (9, 0)]) gz_52_52 gm_52 rfl rfl rfl ?_
          refine w_iload_n gz_52_53 rfl ?_
          refine w_iconst gz_52_54 (by decide) ?_
          refine w_icne (t := 66) gz_52_55 rfl (fun u63 => ?_) (fun u63 => by exfalso; omega)
          refine w_aload_n gz_52_66 rfl ?_
          refine w_inv (k := 2) (as := []) (r := []) (x := 82) (ls0 := [(2, 82), (9, 0), (9, 0)]) gz_52_67 gm_37 rfl is_82 rd_5 rfl rfl rfl rfl rfl (c_Reader_nextToken9_f1 (d := (d + 3))  ((h5 82 9)) ((rfl : h5 82 9 = h5 82 9)) (by omega) (by omega) Al_h5t9 (fun h64 frh64 w65 w66 w67 w68 xp69 xp70 Al_h64t71 Cu_h64t72 => ?_))
          have gh64 : my_fr [(4, 5), (4, 8), (4, 9), (5, 5), (5, 6), (5, 7), (5, 8), (5, 9), (32, -1), (33, -1), (34, -1), (35, -1)] h h64 := my_fr.tr gh5 (frh64.mo rfl)
          have Ln_h64 : Ln h64 := Ln_ag (my_ag.fr frh64 rfl) Ln_h5
          have Sp_h64 : Sp h64 wv := Sp_ag (my_ag.fr frh64 rfl) hwv Ln_h5 Sp_h5
          have St5_h64 : St5 h64 := St5_ag (my_ag.fr frh64 rfl) Ln_h5 St5_h5
          show wp l rho (d + 5) 52 70 [(2, 82), (0, (-1)), (0, 2), (9, 0)] [] h64 Q
          have xc73 := xp69 Cu_h5t10
          have tE74 : cs h5 = cs h := cs_eq (fun j => my_fr.at gh5 is_92 rfl) (my_fr.at gh5 is_82 rfl)
          rw [tE74] at xc73
          have ck75 := Cu_s Cu_h64t72
          rw [show cs h64 = cs h from cs_eq (fun j => my_fr.at gh64 is_92 rfl) (my_fr.at gh64 is_82 rfl)] at ck75
          rw [show h64 82 7 = (sN (cs h) (h5 82 7)) from xc73] at ck75
          refine w_aload_n gz_52_70 rfl ?_
          refine w_sipush gz_52_71 (by decide) ?_
          refine w_inv (k := 1) (as := [(0, 200)]) (r := []) (x := 82) (ls0 := [(2, 82), (0, 200), (9, 0)]) gz_52_74 gm_51 rfl is_82 rd_5 rfl rfl rfl rfl rfl (c_Reader_takeNumber9_f1 (d := (d + 2)) (x1 := 200) (by omega) (by omega) ((h5 82 9)) (((my_fr.at frh64 is_82 rfl).trans (rfl : h5 82 9 = h5 82 9))) (by omega) (by omega) Al_h64t71 Cu_h64t72 (fun w76 w77 Al_h64t78 Cu_h64t79 => ?_))
          show wp l rho (d + 5) 52 77 [(2, 82), (0, (-1)), (0, 2), (9, 0)] [(0, (-1))] h64 Q
          refine w_istore_n (ls' := [(2, 82), (0, (-1)), (0, 2), (0, (-1))]) gz_52_77 gm_52 rfl rfl rfl ?_
          refine w_aload_n gz_52_78 rfl ?_
          refine v_getI (j := 9) gz_52_79 rfl is_82 rd_5 rfl (fun v80 ev80 pv80 qv80 => ?_)
          have zv80 := ev80.trans ((my_fr.at frh64 is_82 rfl).trans (rfl : h5 82 9 = h5 82 9))
          refine w_ifne (t := 102) gz_52_82 rfl (fun u81 => ?_) (fun u81 => by exfalso; omega)
          have psR : h64 82 7 = (sN (cs h) (h5 82 7)) := xc73
          have npsR : cs h64 = cs h := cs_eq (fun j => my_fr.at gh64 is_92 rfl) (my_fr.at gh64 is_82 rfl)
          have c82 := ev80.symm
          exact w_vret gz_52_102 gm_52 (k0 h64 (gh64) (by omega) (by omega) (by first | exact std | (unfold cutR; simp only [rNum, rEnd, rWd]; omega) | omega) Ln_h64 Sp_h64 Al_h64t78 Cu_h64t79)
      ·
        show wp l rho (d + 5) 52 31 [(2, 82), (0, (-1)), (9, 0), (9, 0)] [(0, 1)] h5 Q
        rw [show wc ((10 : Nat) : Int) = 352 from by decide] at xp39
        have tE83 : cs h5 = cs h := cs_eq (fun j => my_fr.at gh5 is_92 rfl) (my_fr.at gh5 is_82 rfl)
        rw [tE83] at xp39
        refine w_ifeq (t := 38) gz_52_31 rfl (fun u84 => by exfalso; omega) (fun u84 => ?_)
        refine w_iconst gz_52_34 (by decide) ?_
        refine w_goto (t := 52) gz_52_35 rfl ?_
        refine w_istore_n (ls' := [(2, 82), (0, (-1)), (0, 1), (9, 0)]) gz_52_52 gm_52 rfl rfl rfl ?_
        refine w_iload_n gz_52_53 rfl ?_
        refine w_iconst gz_52_54 (by decide) ?_
        refine w_icne (t := 66) gz_52_55 rfl (fun u85 => ?_) (fun u85 => by exfalso; omega)
        refine w_aload_n gz_52_66 rfl ?_
        refine w_inv (k := 2) (as := []) (r := []) (x := 82) (ls0 := [(2, 82), (9, 0), (9, 0)]) gz_52_67 gm_37 rfl is_82 rd_5 rfl rfl rfl rfl rfl (c_Reader_nextToken9_f1 (d := (d + 3))  ((h5 82 9)) ((rfl : h5 82 9 = h5 82 9)) (by omega) (by omega) Al_h5t9 (fun h86 frh86 w87 w88 w89 w90 xp91 xp92 Al_h86t93 Cu_h86t94 => ?_))
        have gh86 : my_fr [(4, 5), (4, 8), (4, 9), (5, 5), (5, 6), (5, 7), (5, 8), (5, 9), (32, -1), (33, -1), (34, -1), (35, -1)] h h86 := my_fr.tr gh5 (frh86.mo rfl)
        have Ln_h86 : Ln h86 := Ln_ag (my_ag.fr frh86 rfl) Ln_h5
        have Sp_h86 : Sp h86 wv := Sp_ag (my_ag.fr frh86 rfl) hwv Ln_h5 Sp_h5
        have St5_h86 : St5 h86 := St5_ag (my_ag.fr frh86 rfl) Ln_h5 St5_h5
        show wp l rho (d + 5) 52 70 [(2, 82), (0, (-1)), (0, 1), (9, 0)] [] h86 Q
        have xc95 := xp91 Cu_h5t10
        have tE96 : cs h5 = cs h := cs_eq (fun j => my_fr.at gh5 is_92 rfl) (my_fr.at gh5 is_82 rfl)
        rw [tE96] at xc95
        have ck97 := Cu_s Cu_h86t94
        rw [show cs h86 = cs h from cs_eq (fun j => my_fr.at gh86 is_92 rfl) (my_fr.at gh86 is_82 rfl)] at ck97
        rw [show h86 82 7 = (sN (cs h) (h5 82 7)) from xc95] at ck97
        refine w_aload_n gz_52_70 rfl ?_
        refine w_sipush gz_52_71 (by decide) ?_
        refine w_inv (k := 1) (as := [(0, 200)]) (r := []) (x := 82) (ls0 := [(2, 82), (0, 200), (9, 0)]) gz_52_74 gm_51 rfl is_82 rd_5 rfl rfl rfl rfl rfl (c_Reader_takeNumber9_f1 (d := (d + 2)) (x1 := 200) (by omega) (by omega) ((h5 82 9)) (((my_fr.at frh86 is_82 rfl).trans (rfl : h5 82 9 = h5 82 9))) (by omega) (by omega) Al_h86t93 Cu_h86t94 (fun w98 w99 Al_h86t100 Cu_h86t101 => ?_))
        show wp l rho (d + 5) 52 77 [(2, 82), (0, (-1)), (0, 1), (9, 0)] [(0, (-1))] h86 Q
        refine w_istore_n (ls' := [(2, 82), (0, (-1)), (0, 1), (0, (-1))]) gz_52_77 gm_52 rfl rfl rfl ?_
        refine w_aload_n gz_52_78 rfl ?_
        refine v_getI (j := 9) gz_52_79 rfl is_82 rd_5 rfl (fun v102 ev102 pv102 qv102 => ?_)
        have zv102 := ev102.trans ((my_fr.at frh86 is_82 rfl).trans (rfl : h5 82 9 = h5 82 9))
        refine w_ifne (t := 102) gz_52_82 rfl (fun u103 => ?_) (fun u103 => by exfalso; omega)
        have psR : h86 82 7 = (sN (cs h) (h5 82 7)) := xc95
        have npsR : cs h86 = cs h := cs_eq (fun j => my_fr.at gh86 is_92 rfl) (my_fr.at gh86 is_82 rfl)
        have c104 := ev102.symm
        exact w_vret gz_52_102 gm_52 (k0 h86 (gh86) (by omega) (by omega) (by first | exact std | (unfold cutR; simp only [rNum, rEnd, rWd]; omega) | omega) Ln_h86 Sp_h86 Al_h86t100 Cu_h86t101)
    ·
      show wp l rho (d + 5) 52 18 [(2, 82), (0, (-1)), (9, 0), (9, 0)] [(0, 1)] h5 Q
      rw [show wc ((9 : Nat) : Int) = 615403 from by decide] at xp30
      have tE105 : cs h5 = cs h := cs_eq (fun j => my_fr.at gh5 is_92 rfl) (my_fr.at gh5 is_82 rfl)
      rw [tE105] at xp30
      refine w_ifeq (t := 25) gz_52_18 rfl (fun u106 => by exfalso; omega) (fun u106 => ?_)
      refine w_iconst gz_52_21 (by decide) ?_
      refine w_goto (t := 52) gz_52_22 rfl ?_
      refine w_istore_n (ls' := [(2, 82), (0, (-1)), (0, 0), (9, 0)]) gz_52_52 gm_52 rfl rfl rfl ?_
      refine w_iload_n gz_52_53 rfl ?_
      refine w_iconst gz_52_54 (by decide) ?_
      refine w_icne (t := 66) gz_52_55 rfl (fun u107 => ?_) (fun u107 => by exfalso; omega)
      refine w_aload_n gz_52_66 rfl ?_
      refine w_inv (k := 2) (as := []) (r := []) (x := 82) (ls0 := [(2, 82), (9, 0), (9, 0)]) gz_52_67 gm_37 rfl is_82 rd_5 rfl rfl rfl rfl rfl (c_Reader_nextToken9_f1 (d := (d + 3))  ((h5 82 9)) ((rfl : h5 82 9 = h5 82 9)) (by omega) (by omega) Al_h5t9 (fun h108 frh108 w109 w110 w111 w112 xp113 xp114 Al_h108t115 Cu_h108t116 => ?_))
      have gh108 : my_fr [(4, 5), (4, 8), (4, 9), (5, 5), (5, 6), (5, 7), (5, 8), (5, 9), (32, -1), (33, -1), (34, -1), (35, -1)] h h108 := my_fr.tr gh5 (frh108.mo rfl)
      have Ln_h108 : Ln h108 := Ln_ag (my_ag.fr frh108 rfl) Ln_h5
      have Sp_h108 : Sp h108 wv := Sp_ag (my_ag.fr frh108 rfl) hwv Ln_h5 Sp_h5
      have St5_h108 : St5 h108 := St5_ag (my_ag.fr frh108 rfl) Ln_h5 St5_h5
      show wp l rho (d + 5) 52 70 [(2, 82), (0, (-1)), (0, 0), (9, 0)] [] h108 Q
      have xc117 := xp113 Cu_h5t10
      have tE118 : cs h5 = cs h := cs_eq (fun j => my_fr.at gh5 is_92 rfl) (my_fr.at gh5 is_82 rfl)
      rw [tE118] at xc117
      have ck119 := Cu_s Cu_h108t116
      rw [show cs h108 = cs h from cs_eq (fun j => my_fr.at gh108 is_92 rfl) (my_fr.at gh108 is_82 rfl)] at ck119
      rw [show h108 82 7 = (sN (cs h) (h5 82 7)) from xc117] at ck119
      refine w_aload_n gz_52_70 rfl ?_
      refine w_sipush gz_52_71 (by decide) ?_
      refine w_inv (k := 1) (as := [(0, 200)]) (r := []) (x := 82) (ls0 := [(2, 82), (0, 200), (9, 0)]) gz_52_74 gm_51 rfl is_82 rd_5 rfl rfl rfl rfl rfl (c_Reader_takeNumber9_f1 (d := (d + 2)) (x1 := 200) (by omega) (by omega) ((h5 82 9)) (((my_fr.at frh108 is_82 rfl).trans (rfl : h5 82 9 = h5 82 9))) (by omega) (by omega) Al_h108t115 Cu_h108t116 (fun w120 w121 Al_h108t122 Cu_h108t123 => ?_))
      show wp l rho (d + 5) 52 77 [(2, 82), (0, (-1)), (0, 0), (9, 0)] [(0, (-1))] h108 Q
      refine w_istore_n (ls' := [(2, 82), (0, (-1)), (0, 0), (0, (-1))]) gz_52_77 gm_52 rfl rfl rfl ?_
      refine w_aload_n gz_52_78 rfl ?_
      refine v_getI (j := 9) gz_52_79 rfl is_82 rd_5 rfl (fun v124 ev124 pv124 qv124 => ?_)
      have zv124 := ev124.trans ((my_fr.at frh108 is_82 rfl).trans (rfl : h5 82 9 = h5 82 9))
      refine w_ifne (t := 102) gz_52_82 rfl (fun u125 => ?_) (fun u125 => by exfalso; omega)
      have psR : h108 82 7 = (sN (cs h) (h5 82 7)) := xc117
      have npsR : cs h108 = cs h := cs_eq (fun j => my_fr.at gh108 is_92 rfl) (my_fr.at gh108 is_82 rfl)
      have c126 := ev124.symm
      exact w_vret gz_52_102 gm_52 (k0 h108 (gh108) (by omega) (by omega) (by first | exact std | (unfold cutR; simp only [rNum, rEnd, rWd]; omega) | omega) Ln_h108 Sp_h108 Al_h108t122 Cu_h108t123)
  ·
    have gh11 : my_fr [(4, 5), (4, 8), (4, 9), (5, 5), (5, 6), (5, 7), (5, 8), (5, 9), (32, -1), (33, -1), (34, -1), (35, -1)] h h11 := my_fr.tr my_fr.rf (frh11.mo rfl)
    have Ln_h11 : Ln h11 := Ln_ag (my_ag.fr frh11 rfl) n_Ln
    have Sp_h11 : Sp h11 wv := Sp_ag (my_ag.fr frh11 rfl) hwv n_Ln n_Sp
    have St5_h11 : St5 h11 := St5_ag (my_ag.fr frh11 rfl) n_Ln n_St5
    show wp l rho (d + 5) 52 11 [(2, 82), (9, 0), (9, 0), (9, 0)] [(0, v12)] h11 Q
    have ck127 := Cu_s Cu_h11t22
    rw [show cs h11 = cs h from cs_eq (fun j => my_fr.at gh11 is_92 rfl) (my_fr.at gh11 is_82 rfl)] at ck127
    rw [show h11 82 7 = (sN (cs h) (h 82 7)) from xp18] at ck127
    refine w_istore_n (ls' := [(2, 82), (0, v12), (9, 0), (9, 0)]) gz_52_11 gm_52 rfl rfl rfl ?_
    refine w_aload_n gz_52_12 rfl ?_
    refine w_ldcS gz_52_13 (by decide) ?_
    refine w_inv (k := 1) (as := [(3, ((9 : Nat) : Int))]) (r := []) (x := 82) (ls0 := [(2, 82), (3, ((9 : Nat) : Int)), (9, 0)]) gz_52_15 gm_41 rfl is_82 rd_5 rfl rfl rfl rfl rfl (c_Reader_isWord9_f0 (d := d) (x1 := ((9 : Nat) : Int)) (by decide) (w17.trans (by omega)) Cu_h11t22 (fun w128 xp129 => ?_) (fun w130 w131 xp132 => ?_))
    ·
      show wp l rho (d + 5) 52 18 [(2, 82), (0, v12), (9, 0), (9, 0)] [(0, 0)] h11 Q
      rw [show wc ((9 : Nat) : Int) = 615403 from by decide] at xp129
      have tE133 : cs h11 = cs h := cs_eq (fun j => my_fr.at gh11 is_92 rfl) (my_fr.at gh11 is_82 rfl)
      rw [tE133] at xp129
      have ps134 : h11 82 7 = (sN (cs h) (h 82 7)) := xp18
      rw [ps134] at xp129
      refine w_ifeq (t := 25) gz_52_18 rfl (fun u135 => ?_) (fun u135 => by exfalso; omega)
      refine w_aload_n gz_52_25 rfl ?_
      refine w_ldcS gz_52_26 (by decide) ?_
      refine w_inv (k := 1) (as := [(3, ((10 : Nat) : Int))]) (r := []) (x := 82) (ls0 := [(2, 82), (3, ((10 : Nat) : Int)), (9, 0)]) gz_52_28 gm_41 rfl is_82 rd_5 rfl rfl rfl rfl rfl (c_Reader_isWord9_f0 (d := d) (x1 := ((10 : Nat) : Int)) (by decide) (w17.trans (by omega)) Cu_h11t22 (fun w136 xp137 => ?_) (fun w138 w139 xp140 => ?_))
      ·
        show wp l rho (d + 5) 52 31 [(2, 82), (0, v12), (9, 0), (9, 0)] [(0, 0)] h11 Q
        rw [show wc ((10 : Nat) : Int) = 352 from by decide] at xp137
        have tE141 : cs h11 = cs h := cs_eq (fun j => my_fr.at gh11 is_92 rfl) (my_fr.at gh11 is_82 rfl)
        rw [tE141] at xp137
        have ps142 : h11 82 7 = (sN (cs h) (h 82 7)) := xp18
        rw [ps142] at xp137
        refine w_ifeq (t := 38) gz_52_31 rfl (fun u143 => ?_) (fun u143 => by exfalso; omega)
        refine w_aload_n gz_52_38 rfl ?_
        refine w_ldcS gz_52_39 (by decide) ?_
        refine w_inv (k := 1) (as := [(3, ((11 : Nat) : Int))]) (r := []) (x := 82) (ls0 := [(2, 82), (3, ((11 : Nat) : Int)), (9, 0)]) gz_52_41 gm_41 rfl is_82 rd_5 rfl rfl rfl rfl rfl (c_Reader_isWord9_f0 (d := d) (x1 := ((11 : Nat) : Int)) (by decide) (w17.trans (by omega)) Cu_h11t22 (fun w144 xp145 => ?_) (fun w146 w147 xp148 => ?_))
        ·
          show wp l rho (d + 5) 52 44 [(2, 82), (0, v12), (9, 0), (9, 0)] [(0, 0)] h11 Q
          rw [show wc ((11 : Nat) : Int) = 679695 from by decide] at xp145
          have tE149 : cs h11 = cs h := cs_eq (fun j => my_fr.at gh11 is_92 rfl) (my_fr.at gh11 is_82 rfl)
          rw [tE149] at xp145
          have ps150 : h11 82 7 = (sN (cs h) (h 82 7)) := xp18
          rw [ps150] at xp145
          refine w_ifeq (t := 51) gz_52_44 rfl (fun u151 => ?_) (fun u151 => by exfalso; omega)
          refine w_iconst gz_52_51 (by decide) ?_
          refine w_istore_n (ls' := [(2, 82), (0, v12), (0, (-1)), (9, 0)]) gz_52_52 gm_52 rfl rfl rfl ?_
          refine w_iload_n gz_52_53 rfl ?_
          refine w_iconst gz_52_54 (by decide) ?_
          refine w_icne (t := 66) gz_52_55 rfl (fun u152 => by exfalso; omega) (fun u152 => ?_)
          refine w_aload_n gz_52_58 rfl ?_
          refine w_iconst gz_52_59 (by decide) ?_
          refine w_inv (k := 0) (as := [(0, 1)]) (r := []) (x := 82) (ls0 := [(2, 82), (0, 1)]) gz_52_60 gm_42 rfl is_82 rd_5 rfl rfl rfl rfl rfl ?_
          refine w_aload_n gz_42_0 rfl ?_
          refine v_getI (j := 9) gz_42_1 rfl is_82 rd_5 rfl (fun v153 ev153 pv153 qv153 => ?_)
          have zv153 := ev153.trans w17
          refine w_ifne (t := 20) gz_42_4 rfl (fun u154 => by exfalso; omega) (fun u154 => ?_)
          refine w_aload_n gz_42_7 rfl ?_
          refine w_iload_n gz_42_8 rfl ?_
          refine w_bipush gz_42_9 (by decide) ?_
          refine w_aload_n gz_42_11 rfl ?_
          refine v_getI (j := 7) gz_42_12 rfl is_82 rd_5 rfl (fun v155 ev155 pv155 qv155 => ?_)
          refine w_imul gz_42_15 ⟨by omega, by omega⟩ ?_
          refine w_iadd gz_42_16 ⟨by omega, by omega⟩ ?_
          refine v_putI (j := 9) gz_42_17 rfl is_82 rd_5 rfl (by omega) (by omega) rfl (fun h156 fh156 => ?_)
          have gh156 : my_fr [(4, 5), (4, 8), (4, 9), (5, 5), (5, 6), (5, 7), (5, 8), (5, 9), (32, -1), (33, -1), (34, -1), (35, -1)] h h156 := my_fr.up gh11 is_82 fh156 rfl
          have Ln_h156 : Ln h156 := Ln_ag (my_ag.up fh156 is_82 rfl) Ln_h11
          have Sp_h156 : Sp h156 wv := Sp_ag (my_ag.up fh156 is_82 rfl) hwv Ln_h11 Sp_h11
          have St5_h156 : St5 h156 := St5_ag (my_ag.up fh156 is_82 rfl) Ln_h11 St5_h11
          have Al_h156 : Al h156 := Al_ag (my_ag.up fh156 is_82 rfl) Al_h11t21
          have Cu_h156 : Cu h156 := Cu_ag (my_ag.up fh156 is_82 rfl) Cu_h11t22
          refine w_vret gz_42_20 gm_42 ?_
          show wp l rho (d + 5) 52 63 [(2, 82), (0, v12), (0, (-1)), (9, 0)] [] h156 Q
          refine w_goto (t := 70) gz_52_63 rfl ?_
          refine w_aload_n gz_52_70 rfl ?_
          refine w_sipush gz_52_71 (by decide) ?_
          refine w_inv (k := 1) (as := [(0, 200)]) (r := []) (x := 82) (ls0 := [(2, 82), (0, 200), (9, 0)]) gz_52_74 gm_51 rfl is_82 rd_5 rfl rfl rfl rfl rfl (c_Reader_takeNumber9_f1 (d := (d + 2)) (x1 := 200) (by omega) (by omega) ((1 + (16 * v155))) ((my_up_self fh156)) (by omega) (by omega) Al_h156 Cu_h156 (fun w157 w158 Al_h156t159 Cu_h156t160 => ?_))
          show wp l rho (d + 5) 52 77 [(2, 82), (0, v12), (0, (-1)), (9, 0)] [(0, (-1))] h156 Q
          refine w_istore_n (ls' := [(2, 82), (0, v12), (0, (-1)), (0, (-1))]) gz_52_77 gm_52 rfl rfl rfl ?_
          refine w_aload_n gz_52_78 rfl ?_
          refine v_getI (j := 9) gz_52_79 rfl is_82 rd_5 rfl (fun v161 ev161 pv161 qv161 => ?_)
          have zv161 := ev161.trans (my_up_self fh156)
          refine w_ifne (t := 102) gz_52_82 rfl (fun u162 => ?_) (fun u162 => by exfalso; omega)
          have psR : h156 82 7 = (sN (cs h) (h 82 7)) := ((my_up_fld fh156 (by decide)).trans xp18)
          have npsR : cs h156 = cs h := cs_eq (fun j => my_fr.at gh156 is_92 rfl) (my_fr.at gh156 is_82 rfl)
          have c163 := ev161.symm
          exact w_vret gz_52_102 gm_52 (k0 h156 (gh156) (by omega) (by omega) (by first | exact std | (unfold cutR; simp only [rNum, rEnd, rWd]; omega) | omega) Ln_h156 Sp_h156 Al_h156t159 Cu_h156t160)
        ·
          show wp l rho (d + 5) 52 44 [(2, 82), (0, v12), (9, 0), (9, 0)] [(0, 1)] h11 Q
          rw [show wc ((11 : Nat) : Int) = 679695 from by decide] at xp148
          have tE164 : cs h11 = cs h := cs_eq (fun j => my_fr.at gh11 is_92 rfl) (my_fr.at gh11 is_82 rfl)
          rw [tE164] at xp148
          have ps165 : h11 82 7 = (sN (cs h) (h 82 7)) := xp18
          rw [ps165] at xp148
          refine w_ifeq (t := 51) gz_52_44 rfl (fun u166 => by exfalso; omega) (fun u166 => ?_)
          refine w_iconst gz_52_47 (by decide) ?_
          refine w_goto (t := 52) gz_52_48 rfl ?_
          refine w_istore_n (ls' := [(2, 82), (0, v12), (0, 2), (9, 0)]) gz_52_52 gm_52 rfl rfl rfl ?_
          refine w_iload_n gz_52_53 rfl ?_
          refine w_iconst gz_52_54 (by decide) ?_
          refine w_icne (t := 66) gz_52_55 rfl (fun u167 => ?_) (fun u167 => by exfalso; omega)
          refine w_aload_n gz_52_66 rfl ?_
          refine w_inv (k := 2) (as := []) (r := []) (x := 82) (ls0 := [(2, 82), (9, 0), (9, 0)]) gz_52_67 gm_37 rfl is_82 rd_5 rfl rfl rfl rfl rfl (c_Reader_nextToken9_f0 (d := (d + 3))  (w17.trans (by omega)) Al_h11t21 (fun h168 frh168 w169 w170 w171 xp172 xp173 Al_h168t174 Cu_h168t175 => ?_))
          have gh168 : my_fr [(4, 5), (4, 8), (4, 9), (5, 5), (5, 6), (5, 7), (5, 8), (5, 9), (32, -1), (33, -1), (34, -1), (35, -1)] h h168 := my_fr.tr gh11 (frh168.mo rfl)
          have Ln_h168 : Ln h168 := Ln_ag (my_ag.fr frh168 rfl) Ln_h11
          have Sp_h168 : Sp h168 wv := Sp_ag (my_ag.fr frh168 rfl) hwv Ln_h11 Sp_h11
          have St5_h168 : St5 h168 := St5_ag (my_ag.fr frh168 rfl) Ln_h11 St5_h11
          show wp l rho (d + 5) 52 70 [(2, 82), (0, v12), (0, 2), (9, 0)] [] h168 Q
          have xc176 := xp172 Cu_h11t22
          have tE177 : cs h11 = cs h := cs_eq (fun j => my_fr.at gh11 is_92 rfl) (my_fr.at gh11 is_82 rfl)
          rw [tE177] at xc176
          have ps178 : h11 82 7 = (sN (cs h) (h 82 7)) := xp18
          rw [ps178] at xc176
          have ck179 := Cu_s Cu_h168t175
          rw [show cs h168 = cs h from cs_eq (fun j => my_fr.at gh168 is_92 rfl) (my_fr.at gh168 is_82 rfl)] at ck179
          rw [show h168 82 7 = (sN (cs h) (((sN (cs h) (h 82 7))))) from xc176] at ck179
          refine w_aload_n gz_52_70 rfl ?_
          refine w_sipush gz_52_71 (by decide) ?_
          refine w_inv (k := 1) (as := [(0, 200)]) (r := []) (x := 82) (ls0 := [(2, 82), (0, 200), (9, 0)]) gz_52_74 gm_51 rfl is_82 rd_5 rfl rfl rfl rfl rfl (c_Reader_takeNumber9_f0 (d := (d + 2)) (x1 := 200) (by omega) (by omega) (((my_fr.at frh168 is_82 rfl).trans w17).trans (by omega)) Al_h168t174 Cu_h168t175 (fun h180 frh180 w181 w182 xp183 Al_h180t184 Cu_h180t185 => ?_) (fun h186 v187 frh186 w188 w189 w190 w191 w192 xp193 xp194 xp195 Al_h186t196 Cu_h186t197 => ?_))
          ·
            have gh180 : my_fr [(4, 5), (4, 8), (4, 9), (5, 5), (5, 6), (5, 7), (5, 8), (5, 9), (32, -1), (33, -1), (34, -1), (35, -1)] h h180 := my_fr.tr gh168 (frh180.mo rfl)
            have Ln_h180 : Ln h180 := Ln_ag (my_ag.fr frh180 rfl) Ln_h168
            have Sp_h180 : Sp h180 wv := Sp_ag (my_ag.fr frh180 rfl) hwv Ln_h168 Sp_h168
            have St5_h180 : St5 h180 := St5_ag (my_ag.fr frh180 rfl) Ln_h168 St5_h168
            show wp l rho (d + 5) 52 77 [(2, 82), (0, v12), (0, 2), (9, 0)] [(0, (-1))] h180 Q
            have tE198 : cs h168 = cs h := cs_eq (fun j => my_fr.at gh168 is_92 rfl) (my_fr.at gh168 is_82 rfl)
            rw [tE198] at xp183
            have ps199 : h168 82 7 = (sN (cs h) (((sN (cs h) (h 82 7))))) := xc176
            rw [ps199] at xp183
            have ck200 := Cu_s Cu_h180t185
            rw [show cs h180 = cs h from cs_eq (fun j => my_fr.at gh180 is_92 rfl) (my_fr.at gh180 is_82 rfl)] at ck200
            refine w_istore_n (ls' := [(2, 82), (0, v12), (0, 2), (0, (-1))]) gz_52_77 gm_52 rfl rfl rfl ?_
            refine w_aload_n gz_52_78 rfl ?_
            refine v_getI (j := 9) gz_52_79 rfl is_82 rd_5 rfl (fun v201 ev201 pv201 qv201 => ?_)
            have zv201 := ev201.trans (rfl : h180 82 9 = h180 82 9)
            refine w_ifne (t := 102) gz_52_82 rfl (fun u202 => ?_) (fun u202 => by exfalso; omega)
            have psR : h180 82 7 = h180 82 7 := (rfl : h180 82 7 = h180 82 7)
            have npsR : cs h180 = cs h := cs_eq (fun j => my_fr.at gh180 is_92 rfl) (my_fr.at gh180 is_82 rfl)
            have c203 := ev201.symm
            exact w_vret gz_52_102 gm_52 (k0 h180 (gh180) (by omega) (by omega) (by first | exact std | (unfold cutR; simp only [rNum, rEnd, rWd]; omega) | omega) Ln_h180 Sp_h180 Al_h180t184 Cu_h180t185)
          ·
            have gh186 : my_fr [(4, 5), (4, 8), (4, 9), (5, 5), (5, 6), (5, 7), (5, 8), (5, 9), (32, -1), (33, -1), (34, -1), (35, -1)] h h186 := my_fr.tr gh168 (frh186.mo rfl)
            have Ln_h186 : Ln h186 := Ln_ag (my_ag.fr frh186 rfl) Ln_h168
            have Sp_h186 : Sp h186 wv := Sp_ag (my_ag.fr frh186 rfl) hwv Ln_h168 Sp_h168
            have St5_h186 : St5 h186 := St5_ag (my_ag.fr frh186 rfl) Ln_h168 St5_h168
            show wp l rho (d + 5) 52 77 [(2, 82), (0, v12), (0, 2), (9, 0)] [(0, v187)] h186 Q
            have tE204 : cs h168 = cs h := cs_eq (fun j => my_fr.at gh168 is_92 rfl) (my_fr.at gh168 is_82 rfl)
            rw [tE204] at xp193
            have ps205 : h168 82 7 = (sN (cs h) (((sN (cs h) (h 82 7))))) := xc176
            rw [ps205] at xp193
            rw [tE204] at xp194
            rw [ps205] at xp194
            rw [tE204] at xp195
            rw [ps205] at xp195
            have ck206 := Cu_s Cu_h186t197
            rw [show cs h186 = cs h from cs_eq (fun j => my_fr.at gh186 is_92 rfl) (my_fr.at gh186 is_82 rfl)] at ck206
            rw [show h186 82 7 = (sN (cs h) (((sN (cs h) (((sN (cs h) (h 82 7)))))))) from xp193] at ck206
            refine w_istore_n (ls' := [(2, 82), (0, v12), (0, 2), (0, v187)]) gz_52_77 gm_52 rfl rfl rfl ?_
            refine w_aload_n gz_52_78 rfl ?_
            refine v_getI (j := 9) gz_52_79 rfl is_82 rd_5 rfl (fun v207 ev207 pv207 qv207 => ?_)
            have zv207 := ev207.trans w192
            refine w_ifne (t := 102) gz_52_82 rfl (fun u208 => by exfalso; omega) (fun u208 => ?_)
            refine w_aload_n gz_52_85 rfl ?_
            refine w_inv (k := 0) (as := []) (r := []) (x := 82) (ls0 := [(2, 82)]) gz_52_86 gm_47 rfl is_82 rd_5 rfl rfl rfl rfl rfl (c_Reader_endsHere9_f0 (d := (d + 2))  (ev207.symm.trans (by omega)) Al_h186t196 Cu_h186t197 (fun h209 frh209 w210 w211 xp212 xp213 Al_h209t214 Cu_h209t215 => ?_) (fun h216 frh216 w217 xp218 xp219 Al_h216t220 Cu_h216t221 => ?_))
            ·
              have gh209 : my_fr [(4, 5), (4, 8), (4, 9), (5, 5), (5, 6), (5, 7), (5, 8), (5, 9), (32, -1), (33, -1), (34, -1), (35, -1)] h h209 := my_fr.tr gh186 (frh209.mo rfl)
              have Ln_h209 : Ln h209 := Ln_ag (my_ag.fr frh209 rfl) Ln_h186
              have Sp_h209 : Sp h209 wv := Sp_ag (my_ag.fr frh209 rfl) hwv Ln_h186 Sp_h186
              have St5_h209 : St5 h209 := St5_ag (my_ag.fr frh209 rfl) Ln_h186 St5_h186
              show wp l rho (d + 5) 52 89 [(2, 82), (0, v12), (0, 2), (0, v187)] [(0, 0)] h209 Q
              have tE222 : cs h186 = cs h := cs_eq (fun j => my_fr.at gh186 is_92 rfl) (my_fr.at gh186 is_82 rfl)
              rw [tE222] at xp212
              have ps223 : h186 82 7 = (sN (cs h) (((sN (cs h) (((sN (cs h) (h 82 7)))))))) := xp193
              rw [ps223] at xp212
              rw [ps223] at xp213
              have ck224 := Cu_s Cu_h209t215
              rw [show cs h209 = cs h from cs_eq (fun j => my_fr.at gh209 is_92 rfl) (my_fr.at gh209 is_82 rfl)] at ck224
              refine w_ifeq (t := 102) gz_52_89 rfl (fun u225 => ?_) (fun u225 => by exfalso; omega)
              have psR : h209 82 7 = h209 82 7 := (rfl : h209 82 7 = h209 82 7)
              have npsR : cs h209 = cs h := cs_eq (fun j => my_fr.at gh209 is_92 rfl) (my_fr.at gh209 is_82 rfl)
              have c226 := (rfl : h209 82 9 = h209 82 9)
              exact w_vret gz_52_102 gm_52 (k0 h209 (gh209) (by omega) (by omega) (by first | exact std | (unfold cutR; simp only [rNum, rEnd, rWd]; omega) | omega) Ln_h209 Sp_h209 Al_h209t214 Cu_h209t215)
            ·
              have gh216 : my_fr [(4, 5), (4, 8), (4, 9), (5, 5), (5, 6), (5, 7), (5, 8), (5, 9), (32, -1), (33, -1), (34, -1), (35, -1)] h h216 := my_fr.tr gh186 (frh216.mo rfl)
              have Ln_h216 : Ln h216 := Ln_ag (my_ag.fr frh216 rfl) Ln_h186
              have Sp_h216 : Sp h216 wv := Sp_ag (my_ag.fr frh216 rfl) hwv Ln_h186 Sp_h186
              have St5_h216 : St5 h216 := St5_ag (my_ag.fr frh216 rfl) Ln_h186 St5_h186
              show wp l rho (d + 5) 52 89 [(2, 82), (0, v12), (0, 2), (0, v187)] [(0, 1)] h216 Q
              have tE227 : cs h186 = cs h := cs_eq (fun j => my_fr.at gh186 is_92 rfl) (my_fr.at gh186 is_82 rfl)
              rw [tE227] at xp218
              have ps228 : h186 82 7 = (sN (cs h) (((sN (cs h) (((sN (cs h) (h 82 7)))))))) := xp193
              rw [ps228] at xp218
              rw [tE227] at xp219
              rw [ps228] at xp219
              have ck229 := Cu_s Cu_h216t221
              rw [show cs h216 = cs h from cs_eq (fun j => my_fr.at gh216 is_92 rfl) (my_fr.at gh216 is_82 rfl)] at ck229
              rw [show h216 82 7 = (sN (cs h) (((sN (cs h) (((sN (cs h) (((sN (cs h) (h 82 7))))))))))) from xp218] at ck229
              refine w_ifeq (t := 102) gz_52_89 rfl (fun u230 => by exfalso; omega) (fun u230 => ?_)
              refine w_aload_n gz_52_92 rfl ?_
              refine v_getR (j := 2) gz_52_93 rfl is_82 rd_5 rfl (fun v231 ev231 tv231 => ?_)
              have zv231 : v2 = v231 := (ev231.trans ((my_fr.at frh216 is_82 rfl).trans ((my_fr.at frh186 is_82 rfl).trans ((my_fr.at frh168 is_82 rfl).trans ((my_fr.at frh11 is_82 rfl).trans ev2.symm))))).symm
              subst zv231
              refine w_iload_n gz_52_96 rfl ?_
              refine w_iload_n gz_52_97 rfl ?_
              refine w_iload_n gz_52_98 rfl ?_
              have ce232 : h216 82 2 = v2 := ((my_fr.at frh216 is_82 rfl).trans ((my_fr.at frh186 is_82 rfl).trans ((my_fr.at frh168 is_82 rfl).trans ((my_fr.at frh11 is_82 rfl).trans ev2.symm))))
              have s5a := St5_h216
              have s5e : v2 = h216 82 2 := by first | assumption | omega
              unfold St5 at s5a
              rw [← s5e] at s5a
              have ce233 : h216 v2 1 = h v2 1 := ((my_fr.at frh216 tv2 rfl).trans ((my_fr.at frh186 tv2 rfl).trans ((my_fr.at frh168 tv2 rfl).trans ((my_fr.at frh11 tv2 rfl).trans (rfl : h v2 1 = h v2 1)))))
              have ce234 : h216 v2 3 = h v2 3 := ((my_fr.at frh216 tv2 rfl).trans ((my_fr.at frh186 tv2 rfl).trans ((my_fr.at frh168 tv2 rfl).trans ((my_fr.at frh11 tv2 rfl).trans (rfl : h v2 3 = h v2 3)))))
              have ce235 : h216 v2 4 = h v2 4 := ((my_fr.at frh216 tv2 rfl).trans ((my_fr.at frh186 tv2 rfl).trans ((my_fr.at frh168 tv2 rfl).trans ((my_fr.at frh11 tv2 rfl).trans (rfl : h v2 4 = h v2 4)))))
              have ce236 : h216 v2 9 = h v2 9 := ((my_fr.at frh216 tv2 rfl).trans ((my_fr.at frh186 tv2 rfl).trans ((my_fr.at frh168 tv2 rfl).trans ((my_fr.at frh11 tv2 rfl).trans (rfl : h v2 9 = h v2 9)))))
              have sE : v2 = h 82 2 := by first | assumption | omega
              have eS1 : h216 v2 1 = h v2 1 := by omega
              have eS3 : h216 v2 3 = h v2 3 := by omega
              have eS4 : h216 v2 4 = h v2 4 := by omega
              have eS9 : h216 v2 9 = h v2 9 := by omega
              refine w_inv (k := 0) (as := [(0, v187), (0, v12), (0, 2)]) (r := []) (x := v2) (ls0 := [(2, v2), (0, 2), (0, v12), (0, v187)]) gz_52_99 gm_53 rfl tv2 rd_4 rfl rfl rfl rfl rfl (c_Lens_addCut (d := (d + 3)) (x0 := v2) (x1 := 2) (x2 := v12) (x3 := v187) tv2 (by omega) (by omega) (by omega) (by omega) (by omega) (by omega) (by first | assumption | exact no_such_saying | exact Fp_told (by omega) (by omega) | omega | (subst_vars; omega) | omega) (fun h237 frh237 fxh237 w238 w239 xp240 => ?_))
              have gh237 : my_fr [(4, 5), (4, 8), (4, 9), (5, 5), (5, 6), (5, 7), (5, 8), (5, 9), (32, -1), (33, -1), (34, -1), (35, -1)] h h237 := my_fr.tr gh216 (frh237.mo rfl)
              have Ln_h237 : Ln h237 := Ln_fx fxh237 (by first | assumption | omega) Ln_h216
              have Al_h237 : Al h237 := Al_ag (my_ag.fr frh237 rfl) Al_h216t220
              have Cu_h237 : Cu h237 := Cu_ag (my_ag.fr frh237 rfl) Cu_h216t221
              show wp l rho (d + 5) 52 102 [(2, 82), (0, v12), (0, 2), (0, v187)] [] h237 Q
              have Sp_h237t241 : Sp h237 wv := Sp_add fxh237 (by first | assumption | omega) hwv Ln_h216 Sp_h216 xp240 (by have := St5_h216.1; omega) (by omega) (by omega)
              have ce242 : h237 82 2 = v2 := ((my_fr.at frh237 is_82 rfl).trans ((my_fr.at frh216 is_82 rfl).trans ((my_fr.at frh186 is_82 rfl).trans ((my_fr.at frh168 is_82 rfl).trans ((my_fr.at frh11 is_82 rfl).trans ev2.symm)))))
              have std := Std_add xp240 sE (by omega) eS3 eS4 eS9 eS1
              have psR : h237 82 7 = (sN (cs h) (((sN (cs h) (((sN (cs h) (((sN (cs h) (h 82 7))))))))))) := ((my_fr.at frh237 is_82 rfl).trans xp218)
              have npsR : cs h237 = cs h := cs_eq (fun j => my_fr.at gh237 is_92 rfl) (my_fr.at gh237 is_82 rfl)
              have c243 := ((my_fr.at frh237 is_82 rfl).trans w217)
              exact w_vret gz_52_102 gm_52 (k1 h237 (gh237) (by omega) (by first | exact std | (unfold cutR; simp only [rNum, rEnd, rWd]; omega) | omega) (by first | exact std | (unfold cutR; simp only [rNum, rEnd, rWd]; omega) | omega) Ln_h237 Sp_h237t241 Al_h237 Cu_h237)
      ·
        show wp l rho (d + 5) 52 31 [(2, 82), (0, v12), (9, 0), (9, 0)] [(0, 1)] h11 Q
        rw [show wc ((10 : Nat) : Int) = 352 from by decide] at xp140
        have tE244 : cs h11 = cs h := cs_eq (fun j => my_fr.at gh11 is_92 rfl) (my_fr.at gh11 is_82 rfl)
        rw [tE244] at xp140
        have ps245 : h11 82 7 = (sN (cs h) (h 82 7)) := xp18
        rw [ps245] at xp140
        refine w_ifeq (t := 38) gz_52_31 rfl (fun u246 => by exfalso; omega) (fun u246 => ?_)
        refine w_iconst gz_52_34 (by decide) ?_
        refine w_goto (t := 52) gz_52_35 rfl ?_
        refine w_istore_n (ls' := [(2, 82), (0, v12), (0, 1), (9, 0)]) gz_52_52 gm_52 rfl rfl rfl ?_
        refine w_iload_n gz_52_53 rfl ?_
        refine w_iconst gz_52_54 (by decide) ?_
        refine w_icne (t := 66) gz_52_55 rfl (fun u247 => ?_) (fun u247 => by exfalso; omega)
        refine w_aload_n gz_52_66 rfl ?_
        refine w_inv (k := 2) (as := []) (r := []) (x := 82) (ls0 := [(2, 82), (9, 0), (9, 0)]) gz_52_67 gm_37 rfl is_82 rd_5 rfl rfl rfl rfl rfl (c_Reader_nextToken9_f0 (d := (d + 3))  (w17.trans (by omega)) Al_h11t21 (fun h248 frh248 w249 w250 w251 xp252 xp253 Al_h248t254 Cu_h248t255 => ?_))
        have gh248 : my_fr [(4, 5), (4, 8), (4, 9), (5, 5), (5, 6), (5, 7), (5, 8), (5, 9), (32, -1), (33, -1), (34, -1), (35, -1)] h h248 := my_fr.tr gh11 (frh248.mo rfl)
        have Ln_h248 : Ln h248 := Ln_ag (my_ag.fr frh248 rfl) Ln_h11
        have Sp_h248 : Sp h248 wv := Sp_ag (my_ag.fr frh248 rfl) hwv Ln_h11 Sp_h11
        have St5_h248 : St5 h248 := St5_ag (my_ag.fr frh248 rfl) Ln_h11 St5_h11
        show wp l rho (d + 5) 52 70 [(2, 82), (0, v12), (0, 1), (9, 0)] [] h248 Q
        have xc256 := xp252 Cu_h11t22
        have tE257 : cs h11 = cs h := cs_eq (fun j => my_fr.at gh11 is_92 rfl) (my_fr.at gh11 is_82 rfl)
        rw [tE257] at xc256
        have ps258 : h11 82 7 = (sN (cs h) (h 82 7)) := xp18
        rw [ps258] at xc256
        have ck259 := Cu_s Cu_h248t255
        rw [show cs h248 = cs h from cs_eq (fun j => my_fr.at gh248 is_92 rfl) (my_fr.at gh248 is_82 rfl)] at ck259
        rw [show h248 82 7 = (sN (cs h) (((sN (cs h) (h 82 7))))) from xc256] at ck259
        refine w_aload_n gz_52_70 rfl ?_
        refine w_sipush gz_52_71 (by decide) ?_
        refine w_inv (k := 1) (as := [(0, 200)]) (r := []) (x := 82) (ls0 := [(2, 82), (0, 200), (9, 0)]) gz_52_74 gm_51 rfl is_82 rd_5 rfl rfl rfl rfl rfl (c_Reader_takeNumber9_f0 (d := (d + 2)) (x1 := 200) (by omega) (by omega) (((my_fr.at frh248 is_82 rfl).trans w17).trans (by omega)) Al_h248t254 Cu_h248t255 (fun h260 frh260 w261 w262 xp263 Al_h260t264 Cu_h260t265 => ?_) (fun h266 v267 frh266 w268 w269 w270 w271 w272 xp273 xp274 xp275 Al_h266t276 Cu_h266t277 => ?_))
        ·
          have gh260 : my_fr [(4, 5), (4, 8), (4, 9), (5, 5), (5, 6), (5, 7), (5, 8), (5, 9), (32, -1), (33, -1), (34, -1), (35, -1)] h h260 := my_fr.tr gh248 (frh260.mo rfl)
          have Ln_h260 : Ln h260 := Ln_ag (my_ag.fr frh260 rfl) Ln_h248
          have Sp_h260 : Sp h260 wv := Sp_ag (my_ag.fr frh260 rfl) hwv Ln_h248 Sp_h248
          have St5_h260 : St5 h260 := St5_ag (my_ag.fr frh260 rfl) Ln_h248 St5_h248
          show wp l rho (d + 5) 52 77 [(2, 82), (0, v12), (0, 1), (9, 0)] [(0, (-1))] h260 Q
          have tE278 : cs h248 = cs h := cs_eq (fun j => my_fr.at gh248 is_92 rfl) (my_fr.at gh248 is_82 rfl)
          rw [tE278] at xp263
          have ps279 : h248 82 7 = (sN (cs h) (((sN (cs h) (h 82 7))))) := xc256
          rw [ps279] at xp263
          have ck280 := Cu_s Cu_h260t265
          rw [show cs h260 = cs h from cs_eq (fun j => my_fr.at gh260 is_92 rfl) (my_fr.at gh260 is_82 rfl)] at ck280
          refine w_istore_n (ls' := [(2, 82), (0, v12), (0, 1), (0, (-1))]) gz_52_77 gm_52 rfl rfl rfl ?_
          refine w_aload_n gz_52_78 rfl ?_
          refine v_getI (j := 9) gz_52_79 rfl is_82 rd_5 rfl (fun v281 ev281 pv281 qv281 => ?_)
          have zv281 := ev281.trans (rfl : h260 82 9 = h260 82 9)
          refine w_ifne (t := 102) gz_52_82 rfl (fun u282 => ?_) (fun u282 => by exfalso; omega)
          have psR : h260 82 7 = h260 82 7 := (rfl : h260 82 7 = h260 82 7)
          have npsR : cs h260 = cs h := cs_eq (fun j => my_fr.at gh260 is_92 rfl) (my_fr.at gh260 is_82 rfl)
          have c283 := ev281.symm
          exact w_vret gz_52_102 gm_52 (k0 h260 (gh260) (by omega) (by omega) (by first | exact std | (unfold cutR; simp only [rNum, rEnd, rWd]; omega) | omega) Ln_h260 Sp_h260 Al_h260t264 Cu_h260t265)
        ·
          have gh266 : my_fr [(4, 5), (4, 8), (4, 9), (5, 5), (5, 6), (5, 7), (5, 8), (5, 9), (32, -1), (33, -1), (34, -1), (35, -1)] h h266 := my_fr.tr gh248 (frh266.mo rfl)
          have Ln_h266 : Ln h266 := Ln_ag (my_ag.fr frh266 rfl) Ln_h248
          have Sp_h266 : Sp h266 wv := Sp_ag (my_ag.fr frh266 rfl) hwv Ln_h248 Sp_h248
          have St5_h266 : St5 h266 := St5_ag (my_ag.fr frh266 rfl) Ln_h248 St5_h248
          show wp l rho (d + 5) 52 77 [(2, 82), (0, v12), (0, 1), (9, 0)] [(0, v267)] h266 Q
          have tE284 : cs h248 = cs h := cs_eq (fun j => my_fr.at gh248 is_92 rfl) (my_fr.at gh248 is_82 rfl)
          rw [tE284] at xp273
          have ps285 : h248 82 7 = (sN (cs h) (((sN (cs h) (h 82 7))))) := xc256
          rw [ps285] at xp273
          rw [tE284] at xp274
          rw [ps285] at xp274
          rw [tE284] at xp275
          rw [ps285] at xp275
          have ck286 := Cu_s Cu_h266t277
          rw [show cs h266 = cs h from cs_eq (fun j => my_fr.at gh266 is_92 rfl) (my_fr.at gh266 is_82 rfl)] at ck286
          rw [show h266 82 7 = (sN (cs h) (((sN (cs h) (((sN (cs h) (h 82 7)))))))) from xp273] at ck286
          refine w_istore_n (ls' := [(2, 82), (0, v12), (0, 1), (0, v267)]) gz_52_77 gm_52 rfl rfl rfl ?_
          refine w_aload_n gz_52_78 rfl ?_
          refine v_getI (j := 9) gz_52_79 rfl is_82 rd_5 rfl (fun v287 ev287 pv287 qv287 => ?_)
          have zv287 := ev287.trans w272
          refine w_ifne (t := 102) gz_52_82 rfl (fun u288 => by exfalso; omega) (fun u288 => ?_)
          refine w_aload_n gz_52_85 rfl ?_
          refine w_inv (k := 0) (as := []) (r := []) (x := 82) (ls0 := [(2, 82)]) gz_52_86 gm_47 rfl is_82 rd_5 rfl rfl rfl rfl rfl (c_Reader_endsHere9_f0 (d := (d + 2))  (ev287.symm.trans (by omega)) Al_h266t276 Cu_h266t277 (fun h289 frh289 w290 w291 xp292 xp293 Al_h289t294 Cu_h289t295 => ?_) (fun h296 frh296 w297 xp298 xp299 Al_h296t300 Cu_h296t301 => ?_))
          ·
            have gh289 : my_fr [(4, 5), (4, 8), (4, 9), (5, 5), (5, 6), (5, 7), (5, 8), (5, 9), (32, -1), (33, -1), (34, -1), (35, -1)] h h289 := my_fr.tr gh266 (frh289.mo rfl)
            have Ln_h289 : Ln h289 := Ln_ag (my_ag.fr frh289 rfl) Ln_h266
            have Sp_h289 : Sp h289 wv := Sp_ag (my_ag.fr frh289 rfl) hwv Ln_h266 Sp_h266
            have St5_h289 : St5 h289 := St5_ag (my_ag.fr frh289 rfl) Ln_h266 St5_h266
            show wp l rho (d + 5) 52 89 [(2, 82), (0, v12), (0, 1), (0, v267)] [(0, 0)] h289 Q
            have tE302 : cs h266 = cs h := cs_eq (fun j => my_fr.at gh266 is_92 rfl) (my_fr.at gh266 is_82 rfl)
            rw [tE302] at xp292
            have ps303 : h266 82 7 = (sN (cs h) (((sN (cs h) (((sN (cs h) (h 82 7)))))))) := xp273
            rw [ps303] at xp292
            rw [ps303] at xp293
            have ck304 := Cu_s Cu_h289t295
            rw [show cs h289 = cs h from cs_eq (fun j => my_fr.at gh289 is_92 rfl) (my_fr.at gh289 is_82 rfl)] at ck304
            refine w_ifeq (t := 102) gz_52_89 rfl (fun u305 => ?_) (fun u305 => by exfalso; omega)
            have psR : h289 82 7 = h289 82 7 := (rfl : h289 82 7 = h289 82 7)
            have npsR : cs h289 = cs h := cs_eq (fun j => my_fr.at gh289 is_92 rfl) (my_fr.at gh289 is_82 rfl)
            have c306 := (rfl : h289 82 9 = h289 82 9)
            exact w_vret gz_52_102 gm_52 (k0 h289 (gh289) (by omega) (by omega) (by first | exact std | (unfold cutR; simp only [rNum, rEnd, rWd]; omega) | omega) Ln_h289 Sp_h289 Al_h289t294 Cu_h289t295)
          ·
            have gh296 : my_fr [(4, 5), (4, 8), (4, 9), (5, 5), (5, 6), (5, 7), (5, 8), (5, 9), (32, -1), (33, -1), (34, -1), (35, -1)] h h296 := my_fr.tr gh266 (frh296.mo rfl)
            have Ln_h296 : Ln h296 := Ln_ag (my_ag.fr frh296 rfl) Ln_h266
            have Sp_h296 : Sp h296 wv := Sp_ag (my_ag.fr frh296 rfl) hwv Ln_h266 Sp_h266
            have St5_h296 : St5 h296 := St5_ag (my_ag.fr frh296 rfl) Ln_h266 St5_h266
            show wp l rho (d + 5) 52 89 [(2, 82), (0, v12), (0, 1), (0, v267)] [(0, 1)] h296 Q
            have tE307 : cs h266 = cs h := cs_eq (fun j => my_fr.at gh266 is_92 rfl) (my_fr.at gh266 is_82 rfl)
            rw [tE307] at xp298
            have ps308 : h266 82 7 = (sN (cs h) (((sN (cs h) (((sN (cs h) (h 82 7)))))))) := xp273
            rw [ps308] at xp298
            rw [tE307] at xp299
            rw [ps308] at xp299
            have ck309 := Cu_s Cu_h296t301
            rw [show cs h296 = cs h from cs_eq (fun j => my_fr.at gh296 is_92 rfl) (my_fr.at gh296 is_82 rfl)] at ck309
            rw [show h296 82 7 = (sN (cs h) (((sN (cs h) (((sN (cs h) (((sN (cs h) (h 82 7))))))))))) from xp298] at ck309
            refine w_ifeq (t := 102) gz_52_89 rfl (fun u310 => by exfalso; omega) (fun u310 => ?_)
            refine w_aload_n gz_52_92 rfl ?_
            refine v_getR (j := 2) gz_52_93 rfl is_82 rd_5 rfl (fun v311 ev311 tv311 => ?_)
            have zv311 : v2 = v311 := (ev311.trans ((my_fr.at frh296 is_82 rfl).trans ((my_fr.at frh266 is_82 rfl).trans ((my_fr.at frh248 is_82 rfl).trans ((my_fr.at frh11 is_82 rfl).trans ev2.symm))))).symm
            subst zv311
            refine w_iload_n gz_52_96 rfl ?_
            refine w_iload_n gz_52_97 rfl ?_
            refine w_iload_n gz_52_98 rfl ?_
            have ce312 : h296 82 2 = v2 := ((my_fr.at frh296 is_82 rfl).trans ((my_fr.at frh266 is_82 rfl).trans ((my_fr.at frh248 is_82 rfl).trans ((my_fr.at frh11 is_82 rfl).trans ev2.symm))))
            have s5a := St5_h296
            have s5e : v2 = h296 82 2 := by first | assumption | omega
            unfold St5 at s5a
            rw [← s5e] at s5a
            have ce313 : h296 v2 1 = h v2 1 := ((my_fr.at frh296 tv2 rfl).trans ((my_fr.at frh266 tv2 rfl).trans ((my_fr.at frh248 tv2 rfl).trans ((my_fr.at frh11 tv2 rfl).trans (rfl : h v2 1 = h v2 1)))))
            have ce314 : h296 v2 3 = h v2 3 := ((my_fr.at frh296 tv2 rfl).trans ((my_fr.at frh266 tv2 rfl).trans ((my_fr.at frh248 tv2 rfl).trans ((my_fr.at frh11 tv2 rfl).trans (rfl : h v2 3 = h v2 3)))))
            have ce315 : h296 v2 4 = h v2 4 := ((my_fr.at frh296 tv2 rfl).trans ((my_fr.at frh266 tv2 rfl).trans ((my_fr.at frh248 tv2 rfl).trans ((my_fr.at frh11 tv2 rfl).trans (rfl : h v2 4 = h v2 4)))))
            have ce316 : h296 v2 9 = h v2 9 := ((my_fr.at frh296 tv2 rfl).trans ((my_fr.at frh266 tv2 rfl).trans ((my_fr.at frh248 tv2 rfl).trans ((my_fr.at frh11 tv2 rfl).trans (rfl : h v2 9 = h v2 9)))))
            have sE : v2 = h 82 2 := by first | assumption | omega
            have eS1 : h296 v2 1 = h v2 1 := by omega
            have eS3 : h296 v2 3 = h v2 3 := by omega
            have eS4 : h296 v2 4 = h v2 4 := by omega
            have eS9 : h296 v2 9 = h v2 9 := by omega
            refine w_inv (k := 0) (as := [(0, v267), (0, v12), (0, 1)]) (r := []) (x := v2) (ls0 := [(2, v2), (0, 1), (0, v12), (0, v267)]) gz_52_99 gm_53 rfl tv2 rd_4 rfl rfl rfl rfl rfl (c_Lens_addCut (d := (d + 3)) (x0 := v2) (x1 := 1) (x2 := v12) (x3 := v267) tv2 (by omega) (by omega) (by omega) (by omega) (by omega) (by omega) (by first | assumption | exact no_such_saying | exact Fp_told (by omega) (by omega) | omega | (subst_vars; omega) | omega) (fun h317 frh317 fxh317 w318 w319 xp320 => ?_))
            have gh317 : my_fr [(4, 5), (4, 8), (4, 9), (5, 5), (5, 6), (5, 7), (5, 8), (5, 9), (32, -1), (33, -1), (34, -1), (35, -1)] h h317 := my_fr.tr gh296 (frh317.mo rfl)
            have Ln_h317 : Ln h317 := Ln_fx fxh317 (by first | assumption | omega) Ln_h296
            have Al_h317 : Al h317 := Al_ag (my_ag.fr frh317 rfl) Al_h296t300
            have Cu_h317 : Cu h317 := Cu_ag (my_ag.fr frh317 rfl) Cu_h296t301
            show wp l rho (d + 5) 52 102 [(2, 82), (0, v12), (0, 1), (0, v267)] [] h317 Q
            have Sp_h317t321 : Sp h317 wv := Sp_add fxh317 (by first | assumption | omega) hwv Ln_h296 Sp_h296 xp320 (by have := St5_h296.1; omega) (by omega) (by omega)
            have ce322 : h317 82 2 = v2 := ((my_fr.at frh317 is_82 rfl).trans ((my_fr.at frh296 is_82 rfl).trans ((my_fr.at frh266 is_82 rfl).trans ((my_fr.at frh248 is_82 rfl).trans ((my_fr.at frh11 is_82 rfl).trans ev2.symm)))))
            have std := Std_add xp320 sE (by omega) eS3 eS4 eS9 eS1
            have psR : h317 82 7 = (sN (cs h) (((sN (cs h) (((sN (cs h) (((sN (cs h) (h 82 7))))))))))) := ((my_fr.at frh317 is_82 rfl).trans xp298)
            have npsR : cs h317 = cs h := cs_eq (fun j => my_fr.at gh317 is_92 rfl) (my_fr.at gh317 is_82 rfl)
            have c323 := ((my_fr.at frh317 is_82 rfl).trans w297)
            exact w_vret gz_52_102 gm_52 (k1 h317 (gh317) (by omega) (by first | exact std | (unfold cutR; simp only [rNum, rEnd, rWd]; omega) | omega) (by first | exact std | (unfold cutR; simp only [rNum, rEnd, rWd]; omega) | omega) Ln_h317 Sp_h317t321 Al_h317 Cu_h317)
    ·
      show wp l rho (d + 5) 52 18 [(2, 82), (0, v12), (9, 0), (9, 0)] [(0, 1)] h11 Q
      rw [show wc ((9 : Nat) : Int) = 615403 from by decide] at xp132
      have tE324 : cs h11 = cs h := cs_eq (fun j => my_fr.at gh11 is_92 rfl) (my_fr.at gh11 is_82 rfl)
      rw [tE324] at xp132
      have ps325 : h11 82 7 = (sN (cs h) (h 82 7)) := xp18
      rw [ps325] at xp132
      refine w_ifeq (t := 25) gz_52_18 rfl (fun u326 => by exfalso; omega) (fun u326 => ?_)
      refine w_iconst gz_52_21 (by decide) ?_
      refine w_goto (t := 52) gz_52_22 rfl ?_
      refine w_istore_n (ls' := [(2, 82), (0, v12), (0, 0), (9, 0)]) gz_52_52 gm_52 rfl rfl rfl ?_
      refine w_iload_n gz_52_53 rfl ?_
      refine w_iconst gz_52_54 (by decide) ?_
      refine w_icne (t := 66) gz_52_55 rfl (fun u327 => ?_) (fun u327 => by exfalso; omega)
      refine w_aload_n gz_52_66 rfl ?_
      refine w_inv (k := 2) (as := []) (r := []) (x := 82) (ls0 := [(2, 82), (9, 0), (9, 0)]) gz_52_67 gm_37 rfl is_82 rd_5 rfl rfl rfl rfl rfl (c_Reader_nextToken9_f0 (d := (d + 3))  (w17.trans (by omega)) Al_h11t21 (fun h328 frh328 w329 w330 w331 xp332 xp333 Al_h328t334 Cu_h328t335 => ?_))
      have gh328 : my_fr [(4, 5), (4, 8), (4, 9), (5, 5), (5, 6), (5, 7), (5, 8), (5, 9), (32, -1), (33, -1), (34, -1), (35, -1)] h h328 := my_fr.tr gh11 (frh328.mo rfl)
      have Ln_h328 : Ln h328 := Ln_ag (my_ag.fr frh328 rfl) Ln_h11
      have Sp_h328 : Sp h328 wv := Sp_ag (my_ag.fr frh328 rfl) hwv Ln_h11 Sp_h11
      have St5_h328 : St5 h328 := St5_ag (my_ag.fr frh328 rfl) Ln_h11 St5_h11
      show wp l rho (d + 5) 52 70 [(2, 82), (0, v12), (0, 0), (9, 0)] [] h328 Q
      have xc336 := xp332 Cu_h11t22
      have tE337 : cs h11 = cs h := cs_eq (fun j => my_fr.at gh11 is_92 rfl) (my_fr.at gh11 is_82 rfl)
      rw [tE337] at xc336
      have ps338 : h11 82 7 = (sN (cs h) (h 82 7)) := xp18
      rw [ps338] at xc336
      have ck339 := Cu_s Cu_h328t335
      rw [show cs h328 = cs h from cs_eq (fun j => my_fr.at gh328 is_92 rfl) (my_fr.at gh328 is_82 rfl)] at ck339
      rw [show h328 82 7 = (sN (cs h) (((sN (cs h) (h 82 7))))) from xc336] at ck339
      refine w_aload_n gz_52_70 rfl ?_
      refine w_sipush gz_52_71 (by decide) ?_
      refine w_inv (k := 1) (as := [(0, 200)]) (r := []) (x := 82) (ls0 := [(2, 82), (0, 200), (9, 0)]) gz_52_74 gm_51 rfl is_82 rd_5 rfl rfl rfl rfl rfl (c_Reader_takeNumber9_f0 (d := (d + 2)) (x1 := 200) (by omega) (by omega) (((my_fr.at frh328 is_82 rfl).trans w17).trans (by omega)) Al_h328t334 Cu_h328t335 (fun h340 frh340 w341 w342 xp343 Al_h340t344 Cu_h340t345 => ?_) (fun h346 v347 frh346 w348 w349 w350 w351 w352 xp353 xp354 xp355 Al_h346t356 Cu_h346t357 => ?_))
      ·
        have gh340 : my_fr [(4, 5), (4, 8), (4, 9), (5, 5), (5, 6), (5, 7), (5, 8), (5, 9), (32, -1), (33, -1), (34, -1), (35, -1)] h h340 := my_fr.tr gh328 (frh340.mo rfl)
        have Ln_h340 : Ln h340 := Ln_ag (my_ag.fr frh340 rfl) Ln_h328
        have Sp_h340 : Sp h340 wv := Sp_ag (my_ag.fr frh340 rfl) hwv Ln_h328 Sp_h328
        have St5_h340 : St5 h340 := St5_ag (my_ag.fr frh340 rfl) Ln_h328 St5_h328
        show wp l rho (d + 5) 52 77 [(2, 82), (0, v12), (0, 0), (9, 0)] [(0, (-1))] h340 Q
        have tE358 : cs h328 = cs h := cs_eq (fun j => my_fr.at gh328 is_92 rfl) (my_fr.at gh328 is_82 rfl)
        rw [tE358] at xp343
        have ps359 : h328 82 7 = (sN (cs h) (((sN (cs h) (h 82 7))))) := xc336
        rw [ps359] at xp343
        have ck360 := Cu_s Cu_h340t345
        rw [show cs h340 = cs h from cs_eq (fun j => my_fr.at gh340 is_92 rfl) (my_fr.at gh340 is_82 rfl)] at ck360
        refine w_istore_n (ls' := [(2, 82), (0, v12), (0, 0), (0, (-1))]) gz_52_77 gm_52 rfl rfl rfl ?_
        refine w_aload_n gz_52_78 rfl ?_
        refine v_getI (j := 9) gz_52_79 rfl is_82 rd_5 rfl (fun v361 ev361 pv361 qv361 => ?_)
        have zv361 := ev361.trans (rfl : h340 82 9 = h340 82 9)
        refine w_ifne (t := 102) gz_52_82 rfl (fun u362 => ?_) (fun u362 => by exfalso; omega)
        have psR : h340 82 7 = h340 82 7 := (rfl : h340 82 7 = h340 82 7)
        have npsR : cs h340 = cs h := cs_eq (fun j => my_fr.at gh340 is_92 rfl) (my_fr.at gh340 is_82 rfl)
        have c363 := ev361.symm
        exact w_vret gz_52_102 gm_52 (k0 h340 (gh340) (by omega) (by omega) (by first | exact std | (unfold cutR; simp only [rNum, rEnd, rWd]; omega) | omega) Ln_h340 Sp_h340 Al_h340t344 Cu_h340t345)
      ·
        have gh346 : my_fr [(4, 5), (4, 8), (4, 9), (5, 5), (5, 6), (5, 7), (5, 8), (5, 9), (32, -1), (33, -1), (34, -1), (35, -1)] h h346 := my_fr.tr gh328 (frh346.mo rfl)
        have Ln_h346 : Ln h346 := Ln_ag (my_ag.fr frh346 rfl) Ln_h328
        have Sp_h346 : Sp h346 wv := Sp_ag (my_ag.fr frh346 rfl) hwv Ln_h328 Sp_h328
        have St5_h346 : St5 h346 := St5_ag (my_ag.fr frh346 rfl) Ln_h328 St5_h328
        show wp l rho (d + 5) 52 77 [(2, 82), (0, v12), (0, 0), (9, 0)] [(0, v347)] h346 Q
        have tE364 : cs h328 = cs h := cs_eq (fun j => my_fr.at gh328 is_92 rfl) (my_fr.at gh328 is_82 rfl)
        rw [tE364] at xp353
        have ps365 : h328 82 7 = (sN (cs h) (((sN (cs h) (h 82 7))))) := xc336
        rw [ps365] at xp353
        rw [tE364] at xp354
        rw [ps365] at xp354
        rw [tE364] at xp355
        rw [ps365] at xp355
        have ck366 := Cu_s Cu_h346t357
        rw [show cs h346 = cs h from cs_eq (fun j => my_fr.at gh346 is_92 rfl) (my_fr.at gh346 is_82 rfl)] at ck366
        rw [show h346 82 7 = (sN (cs h) (((sN (cs h) (((sN (cs h) (h 82 7)))))))) from xp353] at ck366
        refine w_istore_n (ls' := [(2, 82), (0, v12), (0, 0), (0, v347)]) gz_52_77 gm_52 rfl rfl rfl ?_
        refine w_aload_n gz_52_78 rfl ?_
        refine v_getI (j := 9) gz_52_79 rfl is_82 rd_5 rfl (fun v367 ev367 pv367 qv367 => ?_)
        have zv367 := ev367.trans w352
        refine w_ifne (t := 102) gz_52_82 rfl (fun u368 => by exfalso; omega) (fun u368 => ?_)
        refine w_aload_n gz_52_85 rfl ?_
        refine w_inv (k := 0) (as := []) (r := []) (x := 82) (ls0 := [(2, 82)]) gz_52_86 gm_47 rfl is_82 rd_5 rfl rfl rfl rfl rfl (c_Reader_endsHere9_f0 (d := (d + 2))  (ev367.symm.trans (by omega)) Al_h346t356 Cu_h346t357 (fun h369 frh369 w370 w371 xp372 xp373 Al_h369t374 Cu_h369t375 => ?_) (fun h376 frh376 w377 xp378 xp379 Al_h376t380 Cu_h376t381 => ?_))
        ·
          have gh369 : my_fr [(4, 5), (4, 8), (4, 9), (5, 5), (5, 6), (5, 7), (5, 8), (5, 9), (32, -1), (33, -1), (34, -1), (35, -1)] h h369 := my_fr.tr gh346 (frh369.mo rfl)
          have Ln_h369 : Ln h369 := Ln_ag (my_ag.fr frh369 rfl) Ln_h346
          have Sp_h369 : Sp h369 wv := Sp_ag (my_ag.fr frh369 rfl) hwv Ln_h346 Sp_h346
          have St5_h369 : St5 h369 := St5_ag (my_ag.fr frh369 rfl) Ln_h346 St5_h346
          show wp l rho (d + 5) 52 89 [(2, 82), (0, v12), (0, 0), (0, v347)] [(0, 0)] h369 Q
          have tE382 : cs h346 = cs h := cs_eq (fun j => my_fr.at gh346 is_92 rfl) (my_fr.at gh346 is_82 rfl)
          rw [tE382] at xp372
          have ps383 : h346 82 7 = (sN (cs h) (((sN (cs h) (((sN (cs h) (h 82 7)))))))) := xp353
          rw [ps383] at xp372
          rw [ps383] at xp373
          have ck384 := Cu_s Cu_h369t375
          rw [show cs h369 = cs h from cs_eq (fun j => my_fr.at gh369 is_92 rfl) (my_fr.at gh369 is_82 rfl)] at ck384
          refine w_ifeq (t := 102) gz_52_89 rfl (fun u385 => ?_) (fun u385 => by exfalso; omega)
          have psR : h369 82 7 = h369 82 7 := (rfl : h369 82 7 = h369 82 7)
          have npsR : cs h369 = cs h := cs_eq (fun j => my_fr.at gh369 is_92 rfl) (my_fr.at gh369 is_82 rfl)
          have c386 := (rfl : h369 82 9 = h369 82 9)
          exact w_vret gz_52_102 gm_52 (k0 h369 (gh369) (by omega) (by omega) (by first | exact std | (unfold cutR; simp only [rNum, rEnd, rWd]; omega) | omega) Ln_h369 Sp_h369 Al_h369t374 Cu_h369t375)
        ·
          have gh376 : my_fr [(4, 5), (4, 8), (4, 9), (5, 5), (5, 6), (5, 7), (5, 8), (5, 9), (32, -1), (33, -1), (34, -1), (35, -1)] h h376 := my_fr.tr gh346 (frh376.mo rfl)
          have Ln_h376 : Ln h376 := Ln_ag (my_ag.fr frh376 rfl) Ln_h346
          have Sp_h376 : Sp h376 wv := Sp_ag (my_ag.fr frh376 rfl) hwv Ln_h346 Sp_h346
          have St5_h376 : St5 h376 := St5_ag (my_ag.fr frh376 rfl) Ln_h346 St5_h346
          show wp l rho (d + 5) 52 89 [(2, 82), (0, v12), (0, 0), (0, v347)] [(0, 1)] h376 Q
          have tE387 : cs h346 = cs h := cs_eq (fun j => my_fr.at gh346 is_92 rfl) (my_fr.at gh346 is_82 rfl)
          rw [tE387] at xp378
          have ps388 : h346 82 7 = (sN (cs h) (((sN (cs h) (((sN (cs h) (h 82 7)))))))) := xp353
          rw [ps388] at xp378
          rw [tE387] at xp379
          rw [ps388] at xp379
          have ck389 := Cu_s Cu_h376t381
          rw [show cs h376 = cs h from cs_eq (fun j => my_fr.at gh376 is_92 rfl) (my_fr.at gh376 is_82 rfl)] at ck389
          rw [show h376 82 7 = (sN (cs h) (((sN (cs h) (((sN (cs h) (((sN (cs h) (h 82 7))))))))))) from xp378] at ck389
          refine w_ifeq (t := 102) gz_52_89 rfl (fun u390 => by exfalso; omega) (fun u390 => ?_)
          refine w_aload_n gz_52_92 rfl ?_
          refine v_getR (j := 2) gz_52_93 rfl is_82 rd_5 rfl (fun v391 ev391 tv391 => ?_)
          have zv391 : v2 = v391 := (ev391.trans ((my_fr.at frh376 is_82 rfl).trans ((my_fr.at frh346 is_82 rfl).trans ((my_fr.at frh328 is_82 rfl).trans ((my_fr.at frh11 is_82 rfl).trans ev2.symm))))).symm
          subst zv391
          refine w_iload_n gz_52_96 rfl ?_
          refine w_iload_n gz_52_97 rfl ?_
          refine w_iload_n gz_52_98 rfl ?_
          have ce392 : h376 82 2 = v2 := ((my_fr.at frh376 is_82 rfl).trans ((my_fr.at frh346 is_82 rfl).trans ((my_fr.at frh328 is_82 rfl).trans ((my_fr.at frh11 is_82 rfl).trans ev2.symm))))
          have s5a := St5_h376
          have s5e : v2 = h376 82 2 := by first | assumption | omega
          unfold St5 at s5a
          rw [← s5e] at s5a
          have ce393 : h376 v2 1 = h v2 1 := ((my_fr.at frh376 tv2 rfl).trans ((my_fr.at frh346 tv2 rfl).trans ((my_fr.at frh328 tv2 rfl).trans ((my_fr.at frh11 tv2 rfl).trans (rfl : h v2 1 = h v2 1)))))
          have ce394 : h376 v2 3 = h v2 3 := ((my_fr.at frh376 tv2 rfl).trans ((my_fr.at frh346 tv2 rfl).trans ((my_fr.at frh328 tv2 rfl).trans ((my_fr.at frh11 tv2 rfl).trans (rfl : h v2 3 = h v2 3)))))
          have ce395 : h376 v2 4 = h v2 4 := ((my_fr.at frh376 tv2 rfl).trans ((my_fr.at frh346 tv2 rfl).trans ((my_fr.at frh328 tv2 rfl).trans ((my_fr.at frh11 tv2 rfl).trans (rfl : h v2 4 = h v2 4)))))
          have ce396 : h376 v2 9 = h v2 9 := ((my_fr.at frh376 tv2 rfl).trans ((my_fr.at frh346 tv2 rfl).trans ((my_fr.at frh328 tv2 rfl).trans ((my_fr.at frh11 tv2 rfl).trans (rfl : h v2 9 = h v2 9)))))
          have sE : v2 = h 82 2 := by first | assumption | omega
          have eS1 : h376 v2 1 = h v2 1 := by omega
          have eS3 : h376 v2 3 = h v2 3 := by omega
          have eS4 : h376 v2 4 = h v2 4 := by omega
          have eS9 : h376 v2 9 = h v2 9 := by omega
          refine w_inv (k := 0) (as := [(0, v347), (0, v12), (0, 0)]) (r := []) (x := v2) (ls0 := [(2, v2), (0, 0), (0, v12), (0, v347)]) gz_52_99 gm_53 rfl tv2 rd_4 rfl rfl rfl rfl rfl (c_Lens_addCut (d := (d + 3)) (x0 := v2) (x1 := 0) (x2 := v12) (x3 := v347) tv2 (by omega) (by omega) (by omega) (by omega) (by omega) (by omega) (by first | assumption | exact no_such_saying | exact Fp_told (by omega) (by omega) | omega | (subst_vars; omega) | omega) (fun h397 frh397 fxh397 w398 w399 xp400 => ?_))
          have gh397 : my_fr [(4, 5), (4, 8), (4, 9), (5, 5), (5, 6), (5, 7), (5, 8), (5, 9), (32, -1), (33, -1), (34, -1), (35, -1)] h h397 := my_fr.tr gh376 (frh397.mo rfl)
          have Ln_h397 : Ln h397 := Ln_fx fxh397 (by first | assumption | omega) Ln_h376
          have Al_h397 : Al h397 := Al_ag (my_ag.fr frh397 rfl) Al_h376t380
          have Cu_h397 : Cu h397 := Cu_ag (my_ag.fr frh397 rfl) Cu_h376t381
          show wp l rho (d + 5) 52 102 [(2, 82), (0, v12), (0, 0), (0, v347)] [] h397 Q
          have Sp_h397t401 : Sp h397 wv := Sp_add fxh397 (by first | assumption | omega) hwv Ln_h376 Sp_h376 xp400 (by have := St5_h376.1; omega) (by omega) (by omega)
          have ce402 : h397 82 2 = v2 := ((my_fr.at frh397 is_82 rfl).trans ((my_fr.at frh376 is_82 rfl).trans ((my_fr.at frh346 is_82 rfl).trans ((my_fr.at frh328 is_82 rfl).trans ((my_fr.at frh11 is_82 rfl).trans ev2.symm)))))
          have std := Std_add xp400 sE (by omega) eS3 eS4 eS9 eS1
          have psR : h397 82 7 = (sN (cs h) (((sN (cs h) (((sN (cs h) (((sN (cs h) (h 82 7))))))))))) := ((my_fr.at frh397 is_82 rfl).trans xp378)
          have npsR : cs h397 = cs h := cs_eq (fun j => my_fr.at gh397 is_92 rfl) (my_fr.at gh397 is_82 rfl)
          have c403 := ((my_fr.at frh397 is_82 rfl).trans w377)
          exact w_vret gz_52_102 gm_52 (k1 h397 (gh397) (by omega) (by first | exact std | (unfold cutR; simp only [rNum, rEnd, rWd]; omega) | omega) (by first | exact std | (unfold cutR; simp only [rNum, rEnd, rWd]; omega) | omega) Ln_h397 Sp_h397t401 Al_h397 Cu_h397)
theorem c_Reader_readFew9_f0 {l : Launch} {rho : Nat → Int32} {d : Nat} {h : my_H} {Q : my_H → my_V → Prop} {wv : Int} (cf : h 82 9 = 0) (hwv : wv ≤ 5) (hwv0 : 0 ≤ wv) (n_Ln : Ln h) (n_Sp : Sp h wv) (n_St5 : St5 h) (n_Al : Al h) (n_Cu : Cu h) (k0 : ∀ (h' : my_H), my_fr [(4, 4), (4, 5), (4, 9), (5, 5), (5, 6), (5, 7), (5, 8), (5, 9), (32, -1), (33, -1), (34, -1), (35, -1), (36, -1), (37, -1), (39, -1)] h h' → 1 ≤ h' 82 9 → h' 82 9 ≤ 16004 → fewE (cs h) (h (h 82 2) 4) (h 82 7) (h' 82 9) (h' 82 7) 0 → Lo h h' → Ln h' → Sp h' wv → Al h' → Cu h' → Q h' (9, 0)) (k1 : ∀ (h' : my_H), my_fr [(4, 4), (4, 5), (4, 9), (5, 5), (5, 6), (5, 7), (5, 8), (5, 9), (32, -1), (33, -1), (34, -1), (35, -1), (36, -1), (37, -1), (39, -1)] h h' → h' 82 9 = 0 → fewE (cs h) (h (h 82 2) 4) (h 82 7) (h' 82 9) (h' 82 7) (h' (h 82 2) 4) → Std h h' (h' (h 82 2) 4) (h (h 82 2) 9 + 1) → Lo h h' → Ln h' → Sp h' wv → Al h' → Cu h' → Q h' (9, 0)) : wp l rho (d + 2) 56 0 [(2, 82), (9, 0), (9, 0)] [] h Q := by
  have ck1 := Cu_s n_Cu
  have J2_0 : ∀ (n : Nat) (p2_0 : Int) (h2_0 : my_H), my_fr [(4, 4), (4, 5), (4, 9), (5, 5), (5, 6), (5, 7), (5, 8), (5, 9), (32, -1), (33, -1), (34, -1), (35, -1), (36, -1), (37, -1), (39, -1)] h h2_0 → 0 ≤ p2_0 → p2_0 ≤ 8 → h2_0 82 9 = 0 → Ln h2_0 → Sp h2_0 wv → St5 h2_0 → Al h2_0 → Cu h2_0 → Pk h2_0 p2_0 → Lo h h2_0 → fwI h h2_0 p2_0 → h2_0 82 2 = h 82 2 → h2_0 (h 82 2) 1 = h (h 82 2) 1 → h2_0 (h 82 2) 3 = h (h 82 2) 3 → h2_0 (h 82 2) 4 = h (h 82 2) 4 → h2_0 (h 82 2) 9 = h (h 82 2) 9 → 9 - p2_0 ≤ (n : Int) → wp l rho (d + 2) 56 2 [(2, 82), (0, p2_0), (9, 0)] [] h2_0 Q := by
    intro n
    induction n with
    | zero => intro p2_0 h2_0 gh_2_0 q0_2_0 q1_2_0 c82_9_2_0 n_Ln_2_0 n_Sp_2_0 n_St5_2_0 n_Al_2_0 n_Cu_2_0 n_Pk_2_0 n_Lo_2_0 fw_2_0 e2_2_0 f1_2_0 f3_2_0 f4_2_0 f9_2_0 hm_2_0; exfalso; omega
    | succ n ih_2_0 =>
      intro p2_0 h2_0 gh_2_0 q0_2_0 q1_2_0 c82_9_2_0 n_Ln_2_0 n_Sp_2_0 n_St5_2_0 n_Al_2_0 n_Cu_2_0 n_Pk_2_0 n_Lo_2_0 fw_2_0 e2_2_0 f1_2_0 f3_2_0 f4_2_0 f9_2_0 hm_2_0
      have ck2 := Cu_s n_Cu_2_0
      rw [show cs h2_0 = cs h from cs_eq (fun j => my_fr.at gh_2_0 is_92 rfl) (my_fr.at gh_2_0 is_82 rfl)] at ck2
      refine w_aload_n gz_56_2 rfl ?_
      refine w_aload_n gz_56_3 rfl ?_
      refine v_getR (j := 2) gz_56_4 rfl is_82 rd_5 rfl (fun v3 ev3 tv3 => ?_)
      have ce4 : h2_0 82 2 = v3 := ev3.symm
      have sE7 : v3 = h 82 2 := by first | assumption | omega
      refine v_getI (j := 4) gz_56_7 rfl tv3 rd_4 rfl (fun v5 ev5 pv5 qv5 => ?_)
      have c10 : v5 = h (h 82 2) 4 := by rw [← f4_2_0, ← sE7]; omega
      refine w_inv (k := 0) (as := [(0, v5)]) (r := []) (x := 82) (ls0 := [(2, 82), (0, v5)]) gz_56_10 gm_44 rfl is_82 rd_5 rfl rfl rfl rfl rfl ?_
      refine w_aload_n gz_44_0 rfl ?_
      refine v_getI (j := 6) gz_44_1 rfl is_82 rd_5 rfl (fun v6 ev6 pv6 qv6 => ?_)
      refine w_iconst gz_44_4 (by decide) ?_
      refine w_iceq (t := 15) gz_44_5 rfl (fun u7 => ?_) (fun u7 => ?_)
      ·
        refine w_aload_n gz_44_15 rfl ?_
        refine v_getI (j := 8) gz_44_16 rfl is_82 rd_5 rfl (fun v8 ev8 pv8 qv8 => ?_)
        refine w_iload_n gz_44_19 rfl ?_
        refine w_iclt (t := 30) gz_44_20 rfl (fun u9 => ?_) (fun u9 => ?_)
        ·
          refine w_aload_n gz_44_30 rfl ?_
          refine v_getI (j := 9) gz_44_31 rfl is_82 rd_5 rfl (fun v10 ev10 pv10 qv10 => ?_)
          have zv10 := ev10.trans c82_9_2_0
          refine w_ifne (t := 44) gz_44_34 rfl (fun u11 => by exfalso; omega) (fun u11 => ?_)
          refine w_aload_n gz_44_37 rfl ?_
          refine v_getI (j := 8) gz_44_38 rfl is_82 rd_5 rfl (fun v12 ev12 pv12 qv12 => ?_)
          have zv12 := ev12.trans ev8.symm
          refine w_goto (t := 45) gz_44_41 rfl ?_
          refine w_iret gz_44_45 gm_44 ?_
          show wp l rho (d + 2) 56 13 [(2, 82), (0, p2_0), (9, 0)] [(0, v12)] h2_0 Q
          refine w_istore_n (ls' := [(2, 82), (0, p2_0), (0, v12)]) gz_56_13 gm_56 rfl rfl rfl ?_
          refine w_iload_n gz_56_14 rfl ?_
          refine w_iconst gz_56_15 (by decide) ?_
          refine w_icne (t := 20) gz_56_16 rfl (fun u13 => ?_) (fun u13 => by exfalso; omega)
          refine w_aload_n gz_56_20 rfl ?_
          refine v_getR (j := 2) gz_56_21 rfl is_82 rd_5 rfl (fun v14 ev14 tv14 => ?_)
          have zv14 : v3 = v14 := (ev14.trans ev3.symm).symm
          subst zv14
          refine w_iload_n gz_56_24 rfl ?_
          refine w_iload_n gz_56_25 rfl ?_
          have ce15 : h2_0 82 2 = v3 := ev3.symm
          have s5a := n_St5_2_0
          have s5e : v3 = h2_0 82 2 := by first | assumption | omega
          unfold St5 at s5a
          rw [← s5e] at s5a
          refine w_inv (k := 1) (as := [(0, p2_0), (0, v12)]) (r := []) (x := v3) (ls0 := [(2, v3), (0, v12), (0, p2_0), (9, 0)]) gz_56_26 gm_57 rfl tv3 rd_4 rfl rfl rfl rfl rfl (c_Lens_isPicked9 (d := (d + 1)) (x0 := v3) (x1 := v12) (x2 := p2_0) tv3 (by omega) (by omega) (by omega) (by omega) (by first | assumption | exact no_such_saying | exact Fp_told (by omega) (by omega) | omega | (subst_vars; omega) | omega) (fun xp16 => ?_) (fun w17 xp18 => ?_))
          ·
            show wp l rho (d + 2) 56 29 [(2, 82), (0, p2_0), (0, v12)] [(0, 0)] h2_0 Q
            have np := xp16
            have npk : ¬ PkS h2_0 p2_0 v12 := fun ⟨i, a, b, d⟩ => xp16 i a b (by rw [s5e]; exact d)
            refine w_ifeq (t := 38) gz_56_29 rfl (fun u19 => ?_) (fun u19 => by exfalso; omega)
            refine w_aload_n gz_56_38 rfl ?_
            refine v_getR (j := 2) gz_56_39 rfl is_82 rd_5 rfl (fun v20 ev20 tv20 => ?_)
            have zv20 : v3 = v20 := (ev20.trans ev3.symm).symm
            subst zv20
            refine w_iload_n gz_56_42 rfl ?_
            refine w_iinc (ls' := [(2, 82), (0, (p2_0 + 1)), (0, v12)]) gz_56_43 rfl gm_56 rfl rfl rfl ⟨by omega, by omega⟩ ?_
            refine w_iload_n gz_56_46 rfl ?_
            have ce21 : h2_0 82 2 = v3 := ev3.symm
            have sv : v3 = h2_0 82 2 := by omega
            have pk7 := n_Pk_2_0
            refine v_knowA (x := (v3 + 5)) (ix_4_5 tv3) rd_36 (fun kA => ?_)
            have hp7 : p2_0 ≤ 7 := by
              rw [sv] at kA s5a
              have np2 := np
              rw [sv] at np2
              exact pick7 (f := fun i => h2_0 (h2_0 82 2 + 5) (h2_0 (h2_0 82 2) 9 * 8 + i)) (by omega) (fun i a b => kA _ (by omega) (by omega)) (fun i j a b c => pk7 i j a b c) (by omega) (by omega) (fun i a b => np2 i a b)
            have hi22 : 0 ≤ p2_0 := by omega
            have hi23 : p2_0 ≤ 7 := by omega
            refine w_inv (k := 0) (as := [(0, v12), (0, p2_0)]) (r := []) (x := v3) (ls0 := [(2, v3), (0, p2_0), (0, v12)]) gz_56_47 gm_58 rfl tv3 rd_4 rfl rfl rfl rfl rfl ?_
            refine w_aload_n gz_58_0 rfl ?_
            refine w_getX (v := (v3 + 5)) gz_58_1 tv3 rd_4 rfl (by decide) rfl ?_
            refine w_aload_n gz_58_4 rfl ?_
            refine v_getI (j := 9) gz_58_5 rfl tv3 rd_4 rfl (fun v25 ev25 pv25 qv25 => ?_)
            refine w_bipush gz_58_8 (by decide) ?_
            refine w_imul gz_58_10 ⟨by omega, by omega⟩ ?_
            refine w_iload_n gz_58_11 rfl ?_
            refine w_iadd gz_58_12 ⟨by omega, by omega⟩ ?_
            refine w_iload_n gz_58_13 rfl ?_
            have hi26 : 0 ≤ ((v25 * 8) + p2_0) := by omega
            have hi27 : ((v25 * 8) + p2_0) ≤ 47 := by omega
            refine w_iast gz_58_14 (ix_4_5 tv3) rd_36 (by omega) (by omega) (by omega) (by omega) (fun h28 fh28 => ?_)
            have gh28 : my_fr [(4, 4), (4, 5), (4, 9), (5, 5), (5, 6), (5, 7), (5, 8), (5, 9), (32, -1), (33, -1), (34, -1), (35, -1), (36, -1), (37, -1), (39, -1)] h h28 := my_fr.up gh_2_0 (ix_4_5 tv3) fh28 rfl
            have Ln_h28 : Ln h28 := Ln_ag (my_ag.up fh28 (ix_4_5 tv3) rfl) n_Ln_2_0
            have Sp_h28 : Sp h28 wv := Sp_ag (my_ag.up fh28 (ix_4_5 tv3) rfl) hwv n_Ln_2_0 n_Sp_2_0
            have St5_h28 : St5 h28 := St5_ag (my_ag.up fh28 (ix_4_5 tv3) rfl) n_Ln_2_0 n_St5_2_0
            have Al_h28 : Al h28 := Al_ag (my_ag.up fh28 (ix_4_5 tv3) rfl) n_Al_2_0
            have Cu_h28 : Cu h28 := Cu_ag (my_ag.up fh28 (ix_4_5 tv3) rfl) n_Cu_2_0
            have Lo_h28 : Lo h h28 := Lo_ag (my_ag.up fh28 (ix_4_5 tv3) rfl) n_Ln_2_0 n_Lo_2_0
            refine w_vret gz_58_15 gm_58 ?_
            show wp l rho (d + 2) 56 50 [(2, 82), (0, (p2_0 + 1)), (0, v12)] [] h28 Q
            have Pk_h28t29 : Pk h28 (p2_0 + 1) := Pk_add n_Ln_2_0 n_Pk_2_0 sv (by omega) fh28 np
            have pks : ∀ u : Int, PkS h28 (p2_0 + 1) u ↔ (PkS h2_0 p2_0 u ∨ u = v12) := PkS_up n_Ln_2_0 sv (by omega) (by omega) fh28
            refine w_aload_n gz_56_50 rfl ?_
            refine w_inv (k := 2) (as := []) (r := []) (x := 82) (ls0 := [(2, 82), (9, 0), (9, 0)]) gz_56_51 gm_37 rfl is_82 rd_5 rfl rfl rfl rfl rfl (c_Reader_nextToken9_f0 (d := d)  (((my_up_role fh28 is_82 (ix_4_5 tv3) rfl).trans ev10.symm).trans (by omega)) Al_h28 (fun h30 frh30 w31 w32 w33 xp34 xp35 Al_h30t36 Cu_h30t37 => ?_))
            have gh30 : my_fr [(4, 4), (4, 5), (4, 9), (5, 5), (5, 6), (5, 7), (5, 8), (5, 9), (32, -1), (33, -1), (34, -1), (35, -1), (36, -1), (37, -1), (39, -1)] h h30 := my_fr.tr gh28 (frh30.mo rfl)
            have Ln_h30 : Ln h30 := Ln_ag (my_ag.fr frh30 rfl) Ln_h28
            have Sp_h30 : Sp h30 wv := Sp_ag (my_ag.fr frh30 rfl) hwv Ln_h28 Sp_h28
            have St5_h30 : St5 h30 := St5_ag (my_ag.fr frh30 rfl) Ln_h28 St5_h28
            have Lo_h30 : Lo h h30 := Lo_ag (my_ag.fr frh30 rfl) Ln_h28 Lo_h28
            have Pk_h30 : Pk h30 (p2_0 + 1) := Pk_ag (my_ag.fr frh30 rfl) Ln_h28 Pk_h28t29
            show wp l rho (d + 2) 56 54 [(2, 82), (0, (p2_0 + 1)), (0, v12)] [] h30 Q
            have xc38 := xp34 Cu_h28
            have tE39 : cs h28 = cs h := cs_eq (fun j => my_fr.at gh28 is_92 rfl) (my_fr.at gh28 is_82 rfl)
            rw [tE39] at xc38
            have ps40 : h28 82 7 = h2_0 82 7 := ((my_up_role fh28 is_82 (ix_4_5 tv3) rfl).trans (rfl : h2_0 82 7 = h2_0 82 7))
            rw [ps40] at xc38
            have ck41 := Cu_s Cu_h30t37
            rw [show cs h30 = cs h from cs_eq (fun j => my_fr.at gh30 is_92 rfl) (my_fr.at gh30 is_82 rfl)] at ck41
            rw [show h30 82 7 = (sN (cs h) ((h2_0 82 7))) from xc38] at ck41
            have pk2 : ∀ u : Int, PkS h30 (p2_0 + 1) u ↔ PkS h28 (p2_0 + 1) u := fun u => PkS_ag (my_ag.fr frh30 rfl) Ln_h28 u
            refine w_aload_n gz_56_54 rfl ?_
            refine v_getI (j := 6) gz_56_55 rfl is_82 rd_5 rfl (fun v42 ev42 pv42 qv42 => ?_)
            have zv42 := ev42.trans (rfl : h30 82 6 = h30 82 6)
            refine w_iconst gz_56_58 (by decide) ?_
            refine w_iceq (t := 68) gz_56_59 rfl (fun u43 => ?_) (fun u43 => ?_)
            ·
              refine w_aload_n gz_56_68 rfl ?_
              refine w_inv (k := 2) (as := []) (r := []) (x := 82) (ls0 := [(2, 82), (9, 0), (9, 0)]) gz_56_69 gm_37 rfl is_82 rd_5 rfl rfl rfl rfl rfl (c_Reader_nextToken9_f0 (d := d)  (((my_fr.at frh30 is_82 rfl).trans ((my_up_role fh28 is_82 (ix_4_5 tv3) rfl).trans ev10.symm)).trans (by omega)) Al_h30t36 (fun h44 frh44 w45 w46 w47 xp48 xp49 Al_h44t50 Cu_h44t51 => ?_))
              have gh44 : my_fr [(4, 4), (4, 5), (4, 9), (5, 5), (5, 6), (5, 7), (5, 8), (5, 9), (32, -1), (33, -1), (34, -1), (35, -1), (36, -1), (37, -1), (39, -1)] h h44 := my_fr.tr gh30 (frh44.mo rfl)
              have Ln_h44 : Ln h44 := Ln_ag (my_ag.fr frh44 rfl) Ln_h30
              have Sp_h44 : Sp h44 wv := Sp_ag (my_ag.fr frh44 rfl) hwv Ln_h30 Sp_h30
              have St5_h44 : St5 h44 := St5_ag (my_ag.fr frh44 rfl) Ln_h30 St5_h30
              have Lo_h44 : Lo h h44 := Lo_ag (my_ag.fr frh44 rfl) Ln_h30 Lo_h30
              have Pk_h44 : Pk h44 (p2_0 + 1) := Pk_ag (my_ag.fr frh44 rfl) Ln_h30 Pk_h30
              show wp l rho (d + 2) 56 72 [(2, 82), (0, (p2_0 + 1)), (0, v12)] [] h44 Q
              have xc52 := xp48 Cu_h30t37
              have tE53 : cs h30 = cs h := cs_eq (fun j => my_fr.at gh30 is_92 rfl) (my_fr.at gh30 is_82 rfl)
              rw [tE53] at xc52
              have ps54 : h30 82 7 = (sN (cs h) ((h2_0 82 7))) := xc38
              rw [ps54] at xc52
              have ck55 := Cu_s Cu_h44t51
              rw [show cs h44 = cs h from cs_eq (fun j => my_fr.at gh44 is_92 rfl) (my_fr.at gh44 is_82 rfl)] at ck55
              rw [show h44 82 7 = (sN (cs h) (((sN (cs h) ((h2_0 82 7)))))) from xc52] at ck55
              refine w_aload_n gz_56_72 rfl ?_
              refine v_getR (j := 2) gz_56_73 rfl is_82 rd_5 rfl (fun v56 ev56 tv56 => ?_)
              have zv56 : v3 = v56 := (ev56.trans ((my_fr.at frh44 is_82 rfl).trans ((my_fr.at frh30 is_82 rfl).trans ((my_up_role fh28 is_82 (ix_4_5 tv3) rfl).trans ev3.symm)))).symm
              subst zv56
              refine w_iload_n gz_56_76 rfl ?_
              have ce57 : h44 82 2 = v3 := ((my_fr.at frh44 is_82 rfl).trans ((my_fr.at frh30 is_82 rfl).trans ((my_up_role fh28 is_82 (ix_4_5 tv3) rfl).trans ev3.symm)))
              have s5a := St5_h44
              have s5e : v3 = h44 82 2 := by first | assumption | omega
              unfold St5 at s5a
              rw [← s5e] at s5a
              have ce58 : h44 82 2 = v3 := ((my_fr.at frh44 is_82 rfl).trans ((my_fr.at frh30 is_82 rfl).trans ((my_up_role fh28 is_82 (ix_4_5 tv3) rfl).trans ev3.symm)))
              have ce59 : h44 v3 1 = h2_0 v3 1 := ((my_fr.at frh44 tv3 rfl).trans ((my_fr.at frh30 tv3 rfl).trans ((my_up_role fh28 tv3 (ix_4_5 tv3) rfl).trans (rfl : h2_0 v3 1 = h2_0 v3 1))))
              have ce60 : h44 v3 3 = h2_0 v3 3 := ((my_fr.at frh44 tv3 rfl).trans ((my_fr.at frh30 tv3 rfl).trans ((my_up_role fh28 tv3 (ix_4_5 tv3) rfl).trans (rfl : h2_0 v3 3 = h2_0 v3 3))))
              have ce61 : h44 v3 4 = h2_0 v3 4 := ((my_fr.at frh44 tv3 rfl).trans ((my_fr.at frh30 tv3 rfl).trans ((my_up_role fh28 tv3 (ix_4_5 tv3) rfl).trans (rfl : h2_0 v3 4 = h2_0 v3 4))))
              have ce62 : h44 v3 9 = h2_0 v3 9 := ((my_fr.at frh44 tv3 rfl).trans ((my_fr.at frh30 tv3 rfl).trans ((my_up_role fh28 tv3 (ix_4_5 tv3) rfl).trans (rfl : h2_0 v3 9 = h2_0 v3 9))))
              have sE : v3 = h 82 2 := by omega
              have eS1 : h44 v3 1 = h v3 1 := by
                have a := f1_2_0
                rw [← sE] at a
                omega
              have eS3 : h44 v3 3 = h v3 3 := by
                have a := f3_2_0
                rw [← sE] at a
                omega
              have eS4 : h44 v3 4 = h v3 4 := by
                have a := f4_2_0
                rw [← sE] at a
                omega
              have eS9 : h44 v3 9 = h v3 9 := by
                have a := f9_2_0
                rw [← sE] at a
                omega
              have hi63 : 1 ≤ (p2_0 + 1) := by omega
              have hi64 : (p2_0 + 1) ≤ 8 := by omega
              refine w_inv (k := 1) (as := [(0, (p2_0 + 1))]) (r := []) (x := v3) (ls0 := [(2, v3), (0, (p2_0 + 1)), (9, 0)]) gz_56_77 gm_59 rfl tv3 rd_4 rfl rfl rfl rfl rfl (c_Lens_addFew (d := d) (x0 := v3) (x1 := (p2_0 + 1)) tv3 (by omega) (by omega) (by first | assumption | exact no_such_saying | exact Fp_told (by omega) (by omega) | omega | (subst_vars; omega) | omega) (fun h65 frh65 fxh65 w66 w67 w68 w69 xp70 => ?_))
              have gh65 : my_fr [(4, 4), (4, 5), (4, 9), (5, 5), (5, 6), (5, 7), (5, 8), (5, 9), (32, -1), (33, -1), (34, -1), (35, -1), (36, -1), (37, -1), (39, -1)] h h65 := my_fr.tr gh44 (frh65.mo rfl)
              have Ln_h65 : Ln h65 := Ln_fx fxh65 (by first | assumption | omega) Ln_h44
              have Lo_h65 : Lo h h65 := Lo_fx fxh65 (by first | assumption | omega) Ln_h44 Lo_h44
              have Al_h65 : Al h65 := Al_ag (my_ag.fr frh65 rfl) Al_h44t50
              have Cu_h65 : Cu h65 := Cu_ag (my_ag.fr frh65 rfl) Cu_h44t51
              show wp l rho (d + 2) 56 80 [(2, 82), (0, (p2_0 + 1)), (0, v12)] [] h65 Q
              have ce71 : h65 82 2 = v3 := ((my_fr.at frh65 is_82 rfl).trans ((my_fr.at frh44 is_82 rfl).trans ((my_fr.at frh30 is_82 rfl).trans ((my_up_role fh28 is_82 (ix_4_5 tv3) rfl).trans ev3.symm))))
              have Sp_h65t72 : Sp h65 wv := Sp_add fxh65 (by first | assumption | omega) hwv Ln_h44 Sp_h44 xp70 (by have := St5_h44.1; omega) (by omega) (by omega)
              have std := Std_add xp70 sE (by omega) eS3 eS4 eS9 eS1
              have psR : h65 82 7 = (sN (cs h) (((sN (cs h) ((h2_0 82 7)))))) := ((my_fr.at frh65 is_82 rfl).trans xc52)
              have npsR : cs h65 = cs h := cs_eq (fun j => my_fr.at gh65 is_92 rfl) (my_fr.at gh65 is_82 rfl)
              have c73 := ((my_fr.at frh65 is_82 rfl).trans ((my_fr.at frh44 is_82 rfl).trans ((my_fr.at frh30 is_82 rfl).trans ((my_up_role fh28 is_82 (ix_4_5 tv3) rfl).trans ev10.symm))))
              exact w_vret gz_56_80 gm_56 (k1 h65 (gh65) (by omega) (by first | exact Lo_h65 | exact ⟨std.1, std.2.1, rfl, std.2.2.2⟩ | exact fwI_e fw_2_0 rfl (by omega) (by omega) (by omega) npk (by omega) (by omega) psR std.2.2.1 | exact fwI_3 fw_2_0 rfl (by omega) (by omega) (by omega) ipk (by omega) | exact fwI_1 fw_2_0 rfl (by first | exact Or.inl ⟨by omega, by omega⟩ | exact Or.inr (Or.inl ⟨by omega, by omega, by omega⟩)) | omega) (by first | exact Lo_h65 | exact ⟨std.1, std.2.1, rfl, std.2.2.2⟩ | exact fwI_e fw_2_0 rfl (by omega) (by omega) (by omega) npk (by omega) (by omega) psR std.2.2.1 | exact fwI_3 fw_2_0 rfl (by omega) (by omega) (by omega) ipk (by omega) | exact fwI_1 fw_2_0 rfl (by first | exact Or.inl ⟨by omega, by omega⟩ | exact Or.inr (Or.inl ⟨by omega, by omega, by omega⟩)) | omega) (by first | exact Lo_h65 | exact ⟨std.1, std.2.1, rfl, std.2.2.2⟩ | exact fwI_e fw_2_0 rfl (by omega) (by omega) (by omega) npk (by omega) (by omega) psR std.2.2.1 | exact fwI_3 fw_2_0 rfl (by omega) (by omega) (by omega) ipk (by omega) | exact fwI_1 fw_2_0 rfl (by first | exact Or.inl ⟨by omega, by omega⟩ | exact Or.inr (Or.inl ⟨by omega, by omega, by omega⟩)) | omega) Ln_h65 Sp_h65t72 Al_h65 Cu_h65)
            ·
              refine w_iload_n gz_56_62 rfl ?_
              refine w_bipush gz_56_63 (by decide) ?_
              refine w_icle (t := 2) gz_56_65 rfl (fun u74 => ?_) (fun u74 => by exfalso; omega)
              have psJ : h30 82 7 = (sN (cs h) ((h2_0 82 7))) := xc38
              have npsJ : cs h30 = cs h := cs_eq (fun j => my_fr.at gh30 is_92 rfl) (my_fr.at gh30 is_82 rfl)
              have ce75 : h30 82 2 = v3 := ((my_fr.at frh30 is_82 rfl).trans ((my_up_role fh28 is_82 (ix_4_5 tv3) rfl).trans ev3.symm))
              have hL : my_is 4 (h 82 2) := n_Ln.2.2.2.1
              have ce76 : h30 v3 1 = h2_0 v3 1 := ((my_fr.at frh30 tv3 rfl).trans ((my_up_role fh28 tv3 (ix_4_5 tv3) rfl).trans (rfl : h2_0 v3 1 = h2_0 v3 1)))
              have ce77 : h30 v3 3 = h2_0 v3 3 := ((my_fr.at frh30 tv3 rfl).trans ((my_up_role fh28 tv3 (ix_4_5 tv3) rfl).trans (rfl : h2_0 v3 3 = h2_0 v3 3)))
              have ce78 : h30 v3 4 = h2_0 v3 4 := ((my_fr.at frh30 tv3 rfl).trans ((my_up_role fh28 tv3 (ix_4_5 tv3) rfl).trans (rfl : h2_0 v3 4 = h2_0 v3 4)))
              have ce79 : h30 v3 9 = h2_0 v3 9 := ((my_fr.at frh30 tv3 rfl).trans ((my_up_role fh28 tv3 (ix_4_5 tv3) rfl).trans (rfl : h2_0 v3 9 = h2_0 v3 9)))
              refine w_weak (ls' := [(2, 82), (0, (p2_0 + 1)), (9, 0)]) (wk_e (wk_e (wk_9 wk_n))) ?_
              exact ih_2_0 ((p2_0 + 1)) h30 (gh30) (by omega) (by omega) (((my_fr.at frh30 is_82 rfl).trans ((my_up_role fh28 is_82 (ix_4_5 tv3) rfl).trans ev10.symm)).trans (by omega)) Ln_h30 Sp_h30 St5_h30 Al_h30t36 Cu_h30t37 Pk_h30 Lo_h30 (by first | exact fwI_0 (by first | rfl | omega) | exact fwI_s fw_2_0 rfl (by omega) (by omega) (by omega) npk (by omega) psJ (fun u => (pk2 u).trans (pks u)) | omega) (by first | rfl | omega) (by first | rfl | omega | (have a := f1_2_0; rw [← sE7] at a ⊢; omega) | omega) (by first | rfl | omega | (have a := f3_2_0; rw [← sE7] at a ⊢; omega) | omega) (by first | rfl | omega | (have a := f4_2_0; rw [← sE7] at a ⊢; omega) | omega) (by first | rfl | omega | (have a := f9_2_0; rw [← sE7] at a ⊢; omega) | omega) (by omega)
          ·
            show wp l rho (d + 2) 56 29 [(2, 82), (0, p2_0), (0, v12)] [(0, 1)] h2_0 Q
            have ipk : PkS h2_0 p2_0 v12 := by
              obtain ⟨i, a, b, d⟩ := xp18
              rw [s5e] at d
              exact ⟨i, a, b, d⟩
            refine w_ifeq (t := 38) gz_56_29 rfl (fun u80 => by exfalso; omega) (fun u80 => ?_)
            refine w_aload_n gz_56_32 rfl ?_
            refine w_iconst gz_56_33 (by decide) ?_
            refine w_inv (k := 0) (as := [(0, 3)]) (r := []) (x := 82) (ls0 := [(2, 82), (0, 3)]) gz_56_34 gm_42 rfl is_82 rd_5 rfl rfl rfl rfl rfl ?_
            refine w_aload_n gz_42_0 rfl ?_
            refine v_getI (j := 9) gz_42_1 rfl is_82 rd_5 rfl (fun v81 ev81 pv81 qv81 => ?_)
            have zv81 := ev81.trans ev10.symm
            refine w_ifne (t := 20) gz_42_4 rfl (fun u82 => by exfalso; omega) (fun u82 => ?_)
            refine w_aload_n gz_42_7 rfl ?_
            refine w_iload_n gz_42_8 rfl ?_
            refine w_bipush gz_42_9 (by decide) ?_
            refine w_aload_n gz_42_11 rfl ?_
            refine v_getI (j := 7) gz_42_12 rfl is_82 rd_5 rfl (fun v83 ev83 pv83 qv83 => ?_)
            refine w_imul gz_42_15 ⟨by omega, by omega⟩ ?_
            refine w_iadd gz_42_16 ⟨by omega, by omega⟩ ?_
            refine v_putI (j := 9) gz_42_17 rfl is_82 rd_5 rfl (by omega) (by omega) rfl (fun h84 fh84 => ?_)
            have gh84 : my_fr [(4, 4), (4, 5), (4, 9), (5, 5), (5, 6), (5, 7), (5, 8), (5, 9), (32, -1), (33, -1), (34, -1), (35, -1), (36, -1), (37, -1), (39, -1)] h h84 := my_fr.up gh_2_0 is_82 fh84 rfl
            have Ln_h84 : Ln h84 := Ln_ag (my_ag.up fh84 is_82 rfl) n_Ln_2_0
            have Sp_h84 : Sp h84 wv := Sp_ag (my_ag.up fh84 is_82 rfl) hwv n_Ln_2_0 n_Sp_2_0
            have St5_h84 : St5 h84 := St5_ag (my_ag.up fh84 is_82 rfl) n_Ln_2_0 n_St5_2_0
            have Al_h84 : Al h84 := Al_ag (my_ag.up fh84 is_82 rfl) n_Al_2_0
            have Cu_h84 : Cu h84 := Cu_ag (my_ag.up fh84 is_82 rfl) n_Cu_2_0
            have Pk_h84 : Pk h84 p2_0 := Pk_ag (my_ag.up fh84 is_82 rfl) n_Ln_2_0 n_Pk_2_0
            have Lo_h84 : Lo h h84 := Lo_ag (my_ag.up fh84 is_82 rfl) n_Ln_2_0 n_Lo_2_0
            refine w_vret gz_42_20 gm_42 ?_
            show wp l rho (d + 2) 56 37 [(2, 82), (0, p2_0), (0, v12)] [] h84 Q
            have psR : h84 82 7 = h2_0 82 7 := ((my_up_fld fh84 (by decide)).trans (rfl : h2_0 82 7 = h2_0 82 7))
            have npsR : cs h84 = cs h := cs_eq (fun j => my_fr.at gh84 is_92 rfl) (my_fr.at gh84 is_82 rfl)
            have c85 := (my_up_self fh84)
            exact w_vret gz_56_37 gm_56 (k0 h84 (gh84) (by omega) (by omega) (by first | exact Lo_h84 | exact ⟨std.1, std.2.1, rfl, std.2.2.2⟩ | exact fwI_e fw_2_0 rfl (by omega) (by omega) (by omega) npk (by omega) (by omega) psR std.2.2.1 | exact fwI_3 fw_2_0 rfl (by omega) (by omega) (by omega) ipk (by omega) | exact fwI_1 fw_2_0 rfl (by first | exact Or.inl ⟨by omega, by omega⟩ | exact Or.inr (Or.inl ⟨by omega, by omega, by omega⟩)) | omega) (by first | exact Lo_h84 | exact ⟨std.1, std.2.1, rfl, std.2.2.2⟩ | exact fwI_e fw_2_0 rfl (by omega) (by omega) (by omega) npk (by omega) (by omega) psR std.2.2.1 | exact fwI_3 fw_2_0 rfl (by omega) (by omega) (by omega) ipk (by omega) | exact fwI_1 fw_2_0 rfl (by first | exact Or.inl ⟨by omega, by omega⟩ | exact Or.inr (Or.inl ⟨by omega, by omega, by omega⟩)) | omega) Ln_h84 Sp_h84 Al_h84 Cu_h84)
        ·
          refine w_aload_n gz_44_23 rfl ?_
          refine w_iconst gz_44_24 (by decide) ?_
          refine w_inv (k := 0) (as := [(0, 4)]) (r := []) (x := 82) (ls0 := [(2, 82), (0, 4)]) gz_44_25 gm_42 rfl is_82 rd_5 rfl rfl rfl rfl rfl ?_
          refine w_aload_n gz_42_0 rfl ?_
          refine v_getI (j := 9) gz_42_1 rfl is_82 rd_5 rfl (fun v86 ev86 pv86 qv86 => ?_)
          have zv86 := ev86.trans c82_9_2_0
          refine w_ifne (t := 20) gz_42_4 rfl (fun u87 => by exfalso; omega) (fun u87 => ?_)
          refine w_aload_n gz_42_7 rfl ?_
          refine w_iload_n gz_42_8 rfl ?_
          refine w_bipush gz_42_9 (by decide) ?_
          refine w_aload_n gz_42_11 rfl ?_
          refine v_getI (j := 7) gz_42_12 rfl is_82 rd_5 rfl (fun v88 ev88 pv88 qv88 => ?_)
          refine w_imul gz_42_15 ⟨by omega, by omega⟩ ?_
          refine w_iadd gz_42_16 ⟨by omega, by omega⟩ ?_
          refine v_putI (j := 9) gz_42_17 rfl is_82 rd_5 rfl (by omega) (by omega) rfl (fun h89 fh89 => ?_)
          have gh89 : my_fr [(4, 4), (4, 5), (4, 9), (5, 5), (5, 6), (5, 7), (5, 8), (5, 9), (32, -1), (33, -1), (34, -1), (35, -1), (36, -1), (37, -1), (39, -1)] h h89 := my_fr.up gh_2_0 is_82 fh89 rfl
          have Ln_h89 : Ln h89 := Ln_ag (my_ag.up fh89 is_82 rfl) n_Ln_2_0
          have Sp_h89 : Sp h89 wv := Sp_ag (my_ag.up fh89 is_82 rfl) hwv n_Ln_2_0 n_Sp_2_0
          have St5_h89 : St5 h89 := St5_ag (my_ag.up fh89 is_82 rfl) n_Ln_2_0 n_St5_2_0
          have Al_h89 : Al h89 := Al_ag (my_ag.up fh89 is_82 rfl) n_Al_2_0
          have Cu_h89 : Cu h89 := Cu_ag (my_ag.up fh89 is_82 rfl) n_Cu_2_0
          have Pk_h89 : Pk h89 p2_0 := Pk_ag (my_ag.up fh89 is_82 rfl) n_Ln_2_0 n_Pk_2_0
          have Lo_h89 : Lo h h89 := Lo_ag (my_ag.up fh89 is_82 rfl) n_Ln_2_0 n_Lo_2_0
          refine w_vret gz_42_20 gm_42 ?_
          show wp l rho (d + 1) 44 28 [(2, 82), (0, v5)] [] h89 _
          refine w_iconst gz_44_28 (by decide) ?_
          refine w_iret gz_44_29 gm_44 ?_
          show wp l rho (d + 2) 56 13 [(2, 82), (0, p2_0), (9, 0)] [(0, (-1))] h89 Q
          refine w_istore_n (ls' := [(2, 82), (0, p2_0), (0, (-1))]) gz_56_13 gm_56 rfl rfl rfl ?_
          refine w_iload_n gz_56_14 rfl ?_
          refine w_iconst gz_56_15 (by decide) ?_
          refine w_icne (t := 20) gz_56_16 rfl (fun u90 => by exfalso; omega) (fun u90 => ?_)
          have psR : h89 82 7 = h2_0 82 7 := ((my_up_fld fh89 (by decide)).trans (rfl : h2_0 82 7 = h2_0 82 7))
          have npsR : cs h89 = cs h := cs_eq (fun j => my_fr.at gh89 is_92 rfl) (my_fr.at gh89 is_82 rfl)
          have c91 := (my_up_self fh89)
          exact w_vret gz_56_19 gm_56 (k0 h89 (gh89) (by omega) (by omega) (by first | exact Lo_h89 | exact ⟨std.1, std.2.1, rfl, std.2.2.2⟩ | exact fwI_e fw_2_0 rfl (by omega) (by omega) (by omega) npk (by omega) (by omega) psR std.2.2.1 | exact fwI_3 fw_2_0 rfl (by omega) (by omega) (by omega) ipk (by omega) | exact fwI_1 fw_2_0 rfl (by first | exact Or.inl ⟨by omega, by omega⟩ | exact Or.inr (Or.inl ⟨by omega, by omega, by omega⟩)) | omega) (by first | exact Lo_h89 | exact ⟨std.1, std.2.1, rfl, std.2.2.2⟩ | exact fwI_e fw_2_0 rfl (by omega) (by omega) (by omega) npk (by omega) (by omega) psR std.2.2.1 | exact fwI_3 fw_2_0 rfl (by omega) (by omega) (by omega) ipk (by omega) | exact fwI_1 fw_2_0 rfl (by first | exact Or.inl ⟨by omega, by omega⟩ | exact Or.inr (Or.inl ⟨by omega, by omega, by omega⟩)) | omega) Ln_h89 Sp_h89 Al_h89 Cu_h89)
      ·
        refine w_aload_n gz_44_8 rfl ?_
        refine w_iconst gz_44_9 (by decide) ?_
        refine w_inv (k := 0) (as := [(0, 1)]) (r := []) (x := 82) (ls0 := [(2, 82), (0, 1)]) gz_44_10 gm_42 rfl is_82 rd_5 rfl rfl rfl rfl rfl ?_
        refine w_aload_n gz_42_0 rfl ?_
        refine v_getI (j := 9) gz_42_1 rfl is_82 rd_5 rfl (fun v92 ev92 pv92 qv92 => ?_)
        have zv92 := ev92.trans c82_9_2_0
        refine w_ifne (t := 20) gz_42_4 rfl (fun u93 => by exfalso; omega) (fun u93 => ?_)
        refine w_aload_n gz_42_7 rfl ?_
        refine w_iload_n gz_42_8 rfl ?_
        refine w_bipush gz_42_9 (by decide) ?_
        refine w_aload_n gz_42_11 rfl ?_
        refine v_getI (j := 7) gz_42_12 rfl is_82 rd_5 rfl (fun v94 ev94 pv94 qv94 => ?_)
        refine w_imul gz_42_15 ⟨by omega, by omega⟩ ?_
        refine w_iadd gz_42_16 ⟨by omega, by omega⟩ ?_
        refine v_putI (j := 9) gz_42_17 rfl is_82 rd_5 rfl (by omega) (by omega) rfl (fun h95 fh95 => ?_)
        have gh95 : my_fr [(4, 4), (4, 5), (4, 9), (5, 5), (5, 6), (5, 7), (5, 8), (5, 9), (32, -1), (33, -1), (34, -1), (35, -1), (36, -1), (37, -1), (39, -1)] h h95 := my_fr.up gh_2_0 is_82 fh95 rfl
        have Ln_h95 : Ln h95 := Ln_ag (my_ag.up fh95 is_82 rfl) n_Ln_2_0
        have Sp_h95 : Sp h95 wv := Sp_ag (my_ag.up fh95 is_82 rfl) hwv n_Ln_2_0 n_Sp_2_0
        have St5_h95 : St5 h95 := St5_ag (my_ag.up fh95 is_82 rfl) n_Ln_2_0 n_St5_2_0
        have Al_h95 : Al h95 := Al_ag (my_ag.up fh95 is_82 rfl) n_Al_2_0
        have Cu_h95 : Cu h95 := Cu_ag (my_ag.up fh95 is_82 rfl) n_Cu_2_0
        have Pk_h95 : Pk h95 p2_0 := Pk_ag (my_ag.up fh95 is_82 rfl) n_Ln_2_0 n_Pk_2_0
        have Lo_h95 : Lo h h95 := Lo_ag (my_ag.up fh95 is_82 rfl) n_Ln_2_0 n_Lo_2_0
        refine w_vret gz_42_20 gm_42 ?_
        show wp l rho (d + 1) 44 13 [(2, 82), (0, v5)] [] h95 _
        refine w_iconst gz_44_13 (by decide) ?_
        refine w_iret gz_44_14 gm_44 ?_
        show wp l rho (d + 2) 56 13 [(2, 82), (0, p2_0), (9, 0)] [(0, (-1))] h95 Q
        refine w_istore_n (ls' := [(2, 82), (0, p2_0), (0, (-1))]) gz_56_13 gm_56 rfl rfl rfl ?_
        refine w_iload_n gz_56_14 rfl ?_
        refine w_iconst gz_56_15 (by decide) ?_
        refine w_icne (t := 20) gz_56_16 rfl (fun u96 => by exfalso; omega) (fun u96 => ?_)
        have psR : h95 82 7 = h2_0 82 7 := ((my_up_fld fh95 (by decide)).trans (rfl : h2_0 82 7 = h2_0 82 7))
        have npsR : cs h95 = cs h := cs_eq (fun j => my_fr.at gh95 is_92 rfl) (my_fr.at gh95 is_82 rfl)
        have c97 := (my_up_self fh95)
        exact w_vret gz_56_19 gm_56 (k0 h95 (gh95) (by omega) (by omega) (by first | exact Lo_h95 | exact ⟨std.1, std.2.1, rfl, std.2.2.2⟩ | exact fwI_e fw_2_0 rfl (by omega) (by omega) (by omega) npk (by omega) (by omega) psR std.2.2.1 | exact fwI_3 fw_2_0 rfl (by omega) (by omega) (by omega) ipk (by omega) | exact fwI_1 fw_2_0 rfl (by first | exact Or.inl ⟨by omega, by omega⟩ | exact Or.inr (Or.inl ⟨by omega, by omega, by omega⟩)) | omega) (by first | exact Lo_h95 | exact ⟨std.1, std.2.1, rfl, std.2.2.2⟩ | exact fwI_e fw_2_0 rfl (by omega) (by omega) (by omega) npk (by omega) (by omega) psR std.2.2.1 | exact fwI_3 fw_2_0 rfl (by omega) (by omega) (by omega) ipk (by omega) | exact fwI_1 fw_2_0 rfl (by first | exact Or.inl ⟨by omega, by omega⟩ | exact Or.inr (Or.inl ⟨by omega, by omega, by omega⟩)) | omega) Ln_h95 Sp_h95 Al_h95 Cu_h95)
  refine w_iconst gz_56_0 (by decide) ?_
  refine w_istore_n (ls' := [(2, 82), (0, 0), (9, 0)]) gz_56_1 gm_56 rfl rfl rfl ?_
  have psJ : h 82 7 = h 82 7 := (rfl : h 82 7 = h 82 7)
  have npsJ : cs h = cs h := rfl
  have hL : my_is 4 (h 82 2) := n_Ln.2.2.2.1
  exact J2_0 9 (0) h (my_fr.rf) (by omega) (by omega) (cf.trans (by omega)) n_Ln n_Sp n_St5 n_Al n_Cu (fun i j a b c => absurd c (by omega)) (Lo_rf) (by first | exact fwI_0 (by first | rfl | omega) | exact fwI_s fw_2_0 rfl (by omega) (by omega) (by omega) npk (by omega) psJ (fun u => (pk2 u).trans (pks u)) | omega) (by first | rfl | omega) (by first | rfl | omega | (have a := f1_2_0; rw [← sE7] at a ⊢; omega) | omega) (by first | rfl | omega | (have a := f3_2_0; rw [← sE7] at a ⊢; omega) | omega) (by first | rfl | omega | (have a := f4_2_0; rw [← sE7] at a ⊢; omega) | omega) (by first | rfl | omega | (have a := f9_2_0; rw [← sE7] at a ⊢; omega) | omega) (by omega)
theorem c_Reader_readJoin9_f0 {l : Launch} {rho : Nat → Int32} {d : Nat} {h : my_H} {Q : my_H → my_V → Prop} {wv : Int} (cf : h 82 9 = 0) (hwv : wv ≤ 5) (hwv0 : 0 ≤ wv) (n_Ln : Ln h) (n_Sp : Sp h wv) (n_St5 : St5 h) (n_Al : Al h) (n_Cu : Cu h) (k0 : ∀ (h' : my_H), my_fr [(4, 4), (4, 5), (4, 6), (4, 8), (4, 9), (5, 5), (5, 6), (5, 7), (5, 8), (5, 9), (32, -1), (33, -1), (34, -1), (35, -1), (37, -1)] h h' → 1 ≤ h' 82 9 → h' 82 9 ≤ 16005 → joinR (cs h) (h 2) (h 82 7) (h (h 82 2) 4) (h' 82 9) (h' 82 7) → Lo h h' → Ln h' → Sp h' wv → Al h' → Cu h' → Q h' (9, 0)) (k1 : ∀ (h' : my_H), my_fr [(4, 4), (4, 5), (4, 6), (4, 8), (4, 9), (5, 5), (5, 6), (5, 7), (5, 8), (5, 9), (32, -1), (33, -1), (34, -1), (35, -1), (37, -1)] h h' → h' 82 9 = 0 → joinR (cs h) (h 2) (h 82 7) (h (h 82 2) 4) (h' 82 9) (h' 82 7) → Std h h' (h (h 82 2) 4 + h 2 (sV (cs h) (h 82 7)) - 1) (h (h 82 2) 9 + 1) → Lo h h' → Ln h' → Sp h' wv → Al h' → Cu h' → Q h' (9, 0)) : wp l rho (d + 6) 60 0 [(2, 82), (9, 0), (9, 0), (9, 0)] [] h Q := by
  have ck1 := Cu_s n_Cu
  refine w_aload_n gz_60_0 rfl ?_
  refine w_inv (k := 1) (as := []) (r := []) (x := 82) (ls0 := [(2, 82), (9, 0)]) gz_60_1 gm_43 rfl is_82 rd_5 rfl rfl rfl rfl rfl (c_Reader_wallNumber9_f0 (d := (d + 3))  (cf.trans (by omega)) n_Al n_Cu (fun h2 frh2 w3 w4 xp5 Al_h2t6 Cu_h2t7 => ?_) (fun h8 v9 frh8 w10 w11 w12 w13 w14 w15 xp16 xp17 xp18 xp19 Al_h8t20 Cu_h8t21 => ?_))
  ·
    have gh2 : my_fr [(4, 4), (4, 5), (4, 6), (4, 8), (4, 9), (5, 5), (5, 6), (5, 7), (5, 8), (5, 9), (32, -1), (33, -1), (34, -1), (35, -1), (37, -1)] h h2 := my_fr.tr my_fr.rf (frh2.mo rfl)
    have Ln_h2 : Ln h2 := Ln_ag (my_ag.fr frh2 rfl) n_Ln
    have Sp_h2 : Sp h2 wv := Sp_ag (my_ag.fr frh2 rfl) hwv n_Ln n_Sp
    have St5_h2 : St5 h2 := St5_ag (my_ag.fr frh2 rfl) n_Ln n_St5
    have Al_h2 : Al h2 := Al_ag (my_ag.fr frh2 rfl) n_Al
    have Cu_h2 : Cu h2 := Cu_ag (my_ag.fr frh2 rfl) n_Cu
    have Lo_h2 : Lo h h2 := Lo_ag (my_ag.fr frh2 rfl) n_Ln (Lo_rf)
    show wp l rho (d + 6) 60 4 [(2, 82), (9, 0), (9, 0), (9, 0)] [(0, (-1))] h2 Q
    refine w_istore_n (ls' := [(2, 82), (0, (-1)), (9, 0), (9, 0)]) gz_60_4 gm_60 rfl rfl rfl ?_
    refine w_iload_n gz_60_5 rfl ?_
    refine w_iconst gz_60_6 (by decide) ?_
    refine w_icne (t := 11) gz_60_7 rfl (fun u22 => by exfalso; omega) (fun u22 => ?_)
    have psR : h2 82 7 = h 82 7 := ((my_fr.at frh2 is_82 rfl).trans (rfl : h 82 7 = h 82 7))
    have npsR : cs h2 = cs h := cs_eq (fun j => my_fr.at gh2 is_92 rfl) (my_fr.at gh2 is_82 rfl)
    have c23 := (rfl : h2 82 9 = h2 82 9)
    exact w_vret gz_60_10 gm_60 (k0 h2 (gh2) (by omega) (by omega) (by first | exact Lo_h2 | (rw [← w20]; exact std) | (unfold joinR; simp only [rNum, rEnd, rWd]; omega) | omega) (by first | exact Lo_h2 | (rw [← w20]; exact std) | (unfold joinR; simp only [rNum, rEnd, rWd]; omega) | omega) Ln_h2 Sp_h2 Al_h2t6 Cu_h2t7)
  ·
    have gh8 : my_fr [(4, 4), (4, 5), (4, 6), (4, 8), (4, 9), (5, 5), (5, 6), (5, 7), (5, 8), (5, 9), (32, -1), (33, -1), (34, -1), (35, -1), (37, -1)] h h8 := my_fr.tr my_fr.rf (frh8.mo rfl)
    have Ln_h8 : Ln h8 := Ln_ag (my_ag.fr frh8 rfl) n_Ln
    have Sp_h8 : Sp h8 wv := Sp_ag (my_ag.fr frh8 rfl) hwv n_Ln n_Sp
    have St5_h8 : St5 h8 := St5_ag (my_ag.fr frh8 rfl) n_Ln n_St5
    have Al_h8 : Al h8 := Al_ag (my_ag.fr frh8 rfl) n_Al
    have Cu_h8 : Cu h8 := Cu_ag (my_ag.fr frh8 rfl) n_Cu
    have Lo_h8 : Lo h h8 := Lo_ag (my_ag.fr frh8 rfl) n_Ln (Lo_rf)
    show wp l rho (d + 6) 60 4 [(2, 82), (9, 0), (9, 0), (9, 0)] [(0, v9)] h8 Q
    refine w_istore_n (ls' := [(2, 82), (0, v9), (9, 0), (9, 0)]) gz_60_4 gm_60 rfl rfl rfl ?_
    refine w_iload_n gz_60_5 rfl ?_
    refine w_iconst gz_60_6 (by decide) ?_
    refine w_icne (t := 11) gz_60_7 rfl (fun u24 => ?_) (fun u24 => by exfalso; omega)
    refine w_aload_n gz_60_11 rfl ?_
    refine w_getX (v := 1) gz_60_12 is_82 rd_5 rfl (by decide) rfl ?_
    refine w_getX (v := 2) gz_60_15 is_1 rd_3 rfl (by decide) rfl ?_
    refine w_iload_n gz_60_18 rfl ?_
    refine w_iald gz_60_19 is_2 rd_25 (by omega) (by omega) (fun v27 ev27 pv27 qv27 => ?_)
    have w20 : v27 = h 2 (sV (cs h) (h 82 7)) := by
      rw [← show v9 = sV (cs h) (h 82 7) by omega]
      have z := my_fr.at (j := v9) gh8 is_2 rfl
      omega
    refine w_istore_n (ls' := [(2, 82), (0, v9), (0, v27), (9, 0)]) gz_60_20 gm_60 rfl rfl rfl ?_
    refine w_aload_n gz_60_21 rfl ?_
    refine v_getR (j := 2) gz_60_22 rfl is_82 rd_5 rfl (fun v28 ev28 tv28 => ?_)
    have ce29 : h8 82 2 = v28 := ev28.symm
    have ce30 : h8 v28 4 = h v28 4 := ((my_fr.at frh8 tv28 rfl).trans (rfl : h v28 4 = h v28 4))
    have sE28 : v28 = h 82 2 := by first | assumption | omega
    refine v_getI (j := 4) gz_60_25 rfl tv28 rd_4 rfl (fun v31 ev31 pv31 qv31 => ?_)
    have c28 : v31 = h (h 82 2) 4 := by rw [← sE28]; omega
    refine w_iload_n gz_60_28 rfl ?_
    refine w_iadd gz_60_29 ⟨by omega, by omega⟩ ?_
    refine w_iconst gz_60_30 (by decide) ?_
    refine w_isub gz_60_31 ⟨by omega, by omega⟩ ?_
    refine w_bipush gz_60_32 (by decide) ?_
    refine w_icle (t := 43) gz_60_34 rfl (fun u32 => ?_) (fun u32 => ?_)
    ·
      refine w_aload_n gz_60_43 rfl ?_
      refine w_inv (k := 2) (as := []) (r := []) (x := 82) (ls0 := [(2, 82), (9, 0), (9, 0)]) gz_60_44 gm_37 rfl is_82 rd_5 rfl rfl rfl rfl rfl (c_Reader_nextToken9_f0 (d := (d + 4))  (w15.trans (by omega)) Al_h8t20 (fun h33 frh33 w34 w35 w36 xp37 xp38 Al_h33t39 Cu_h33t40 => ?_))
      have gh33 : my_fr [(4, 4), (4, 5), (4, 6), (4, 8), (4, 9), (5, 5), (5, 6), (5, 7), (5, 8), (5, 9), (32, -1), (33, -1), (34, -1), (35, -1), (37, -1)] h h33 := my_fr.tr gh8 (frh33.mo rfl)
      have Ln_h33 : Ln h33 := Ln_ag (my_ag.fr frh33 rfl) Ln_h8
      have Sp_h33 : Sp h33 wv := Sp_ag (my_ag.fr frh33 rfl) hwv Ln_h8 Sp_h8
      have St5_h33 : St5 h33 := St5_ag (my_ag.fr frh33 rfl) Ln_h8 St5_h8
      have Lo_h33 : Lo h h33 := Lo_ag (my_ag.fr frh33 rfl) Ln_h8 Lo_h8
      show wp l rho (d + 6) 60 47 [(2, 82), (0, v9), (0, v27), (9, 0)] [] h33 Q
      have xc41 := xp37 Cu_h8t21
      have tE42 : cs h8 = cs h := cs_eq (fun j => my_fr.at gh8 is_92 rfl) (my_fr.at gh8 is_82 rfl)
      rw [tE42] at xc41
      have ps43 : h8 82 7 = h 82 7 := ((my_fr.at frh8 is_82 rfl).trans (rfl : h 82 7 = h 82 7))
      rw [ps43] at xc41
      have ck44 := Cu_s Cu_h33t40
      rw [show cs h33 = cs h from cs_eq (fun j => my_fr.at gh33 is_92 rfl) (my_fr.at gh33 is_82 rfl)] at ck44
      rw [show h33 82 7 = (sN (cs h) ((h 82 7))) from xc41] at ck44
      refine w_aload_n gz_60_47 rfl ?_
      refine w_ldcS gz_60_48 (by decide) ?_
      refine w_inv (k := 0) (as := [(3, ((12 : Nat) : Int))]) (r := []) (x := 82) (ls0 := [(2, 82), (3, ((12 : Nat) : Int))]) gz_60_50 gm_40 rfl is_82 rd_5 rfl rfl rfl rfl rfl (c_Reader_takeWord9_f0 (d := d) (x1 := ((12 : Nat) : Int)) (by decide) (((my_fr.at frh33 is_82 rfl).trans w15).trans (by omega)) Al_h33t39 Cu_h33t40 (fun h45 frh45 w46 w47 xp48 xp49 Al_h45t50 Cu_h45t51 => ?_) (fun h52 frh52 w53 xp54 xp55 Al_h52t56 Cu_h52t57 => ?_))
      ·
        have gh45 : my_fr [(4, 4), (4, 5), (4, 6), (4, 8), (4, 9), (5, 5), (5, 6), (5, 7), (5, 8), (5, 9), (32, -1), (33, -1), (34, -1), (35, -1), (37, -1)] h h45 := my_fr.tr gh33 (frh45.mo rfl)
        have Ln_h45 : Ln h45 := Ln_ag (my_ag.fr frh45 rfl) Ln_h33
        have Sp_h45 : Sp h45 wv := Sp_ag (my_ag.fr frh45 rfl) hwv Ln_h33 Sp_h33
        have St5_h45 : St5 h45 := St5_ag (my_ag.fr frh45 rfl) Ln_h33 St5_h33
        have Lo_h45 : Lo h h45 := Lo_ag (my_ag.fr frh45 rfl) Ln_h33 Lo_h33
        show wp l rho (d + 6) 60 53 [(2, 82), (0, v9), (0, v27), (9, 0)] [(0, 0)] h45 Q
        rw [show wc ((12 : Nat) : Int) = 99 from by decide] at xp48
        have tE58 : cs h33 = cs h := cs_eq (fun j => my_fr.at gh33 is_92 rfl) (my_fr.at gh33 is_82 rfl)
        rw [tE58] at xp48
        have ps59 : h33 82 7 = (sN (cs h) ((h 82 7))) := xc41
        rw [ps59] at xp48
        rw [ps59] at xp49
        have ck60 := Cu_s Cu_h45t51
        rw [show cs h45 = cs h from cs_eq (fun j => my_fr.at gh45 is_92 rfl) (my_fr.at gh45 is_82 rfl)] at ck60
        refine w_ifne (t := 57) gz_60_53 rfl (fun u61 => by exfalso; omega) (fun u61 => ?_)
        have psR : h45 82 7 = h45 82 7 := (rfl : h45 82 7 = h45 82 7)
        have npsR : cs h45 = cs h := cs_eq (fun j => my_fr.at gh45 is_92 rfl) (my_fr.at gh45 is_82 rfl)
        have c62 := (rfl : h45 82 9 = h45 82 9)
        exact w_vret gz_60_56 gm_60 (k0 h45 (gh45) (by omega) (by omega) (by first | exact Lo_h45 | (rw [← w20]; exact std) | (unfold joinR; simp only [rNum, rEnd, rWd]; omega) | omega) (by first | exact Lo_h45 | (rw [← w20]; exact std) | (unfold joinR; simp only [rNum, rEnd, rWd]; omega) | omega) Ln_h45 Sp_h45 Al_h45t50 Cu_h45t51)
      ·
        have gh52 : my_fr [(4, 4), (4, 5), (4, 6), (4, 8), (4, 9), (5, 5), (5, 6), (5, 7), (5, 8), (5, 9), (32, -1), (33, -1), (34, -1), (35, -1), (37, -1)] h h52 := my_fr.tr gh33 (frh52.mo rfl)
        have Ln_h52 : Ln h52 := Ln_ag (my_ag.fr frh52 rfl) Ln_h33
        have Sp_h52 : Sp h52 wv := Sp_ag (my_ag.fr frh52 rfl) hwv Ln_h33 Sp_h33
        have St5_h52 : St5 h52 := St5_ag (my_ag.fr frh52 rfl) Ln_h33 St5_h33
        have Lo_h52 : Lo h h52 := Lo_ag (my_ag.fr frh52 rfl) Ln_h33 Lo_h33
        show wp l rho (d + 6) 60 53 [(2, 82), (0, v9), (0, v27), (9, 0)] [(0, 1)] h52 Q
        have tE63 : cs h33 = cs h := cs_eq (fun j => my_fr.at gh33 is_92 rfl) (my_fr.at gh33 is_82 rfl)
        rw [tE63] at xp54
        have ps64 : h33 82 7 = (sN (cs h) ((h 82 7))) := xc41
        rw [ps64] at xp54
        rw [show wc ((12 : Nat) : Int) = 99 from by decide] at xp55
        rw [tE63] at xp55
        rw [ps64] at xp55
        have ck65 := Cu_s Cu_h52t57
        rw [show cs h52 = cs h from cs_eq (fun j => my_fr.at gh52 is_92 rfl) (my_fr.at gh52 is_82 rfl)] at ck65
        rw [show h52 82 7 = (sN (cs h) (((sN (cs h) ((h 82 7)))))) from xp54] at ck65
        refine w_ifne (t := 57) gz_60_53 rfl (fun u66 => ?_) (fun u66 => by exfalso; omega)
        refine w_aload_n gz_60_57 rfl ?_
        refine w_aload_n gz_60_58 rfl ?_
        refine v_getR (j := 2) gz_60_59 rfl is_82 rd_5 rfl (fun v67 ev67 tv67 => ?_)
        have zv67 : v28 = v67 := (ev67.trans ((my_fr.at frh52 is_82 rfl).trans ((my_fr.at frh33 is_82 rfl).trans ev28.symm))).symm
        subst zv67
        have ce68 : h52 82 2 = v28 := ((my_fr.at frh52 is_82 rfl).trans ((my_fr.at frh33 is_82 rfl).trans ev28.symm))
        have ce69 : h52 v28 4 = h v28 4 := ((my_fr.at frh52 tv28 rfl).trans ((my_fr.at frh33 tv28 rfl).trans ((my_fr.at frh8 tv28 rfl).trans (rfl : h v28 4 = h v28 4))))
        have sE65 : v28 = h 82 2 := by first | assumption | omega
        refine v_getI (j := 4) gz_60_62 rfl tv28 rd_4 rfl (fun v70 ev70 pv70 qv70 => ?_)
        have zv70 := ev70.trans ((my_fr.at frh52 tv28 rfl).trans ((my_fr.at frh33 tv28 rfl).trans ev31.symm))
        have c65 : v70 = h (h 82 2) 4 := by rw [← sE65]; omega
        refine w_inv (k := 1) (as := [(0, v70)]) (r := []) (x := 82) (ls0 := [(2, 82), (0, v70), (9, 0)]) gz_60_65 gm_51 rfl is_82 rd_5 rfl rfl rfl rfl rfl (c_Reader_takeNumber9_f0 (d := (d + 3)) (x1 := v70) (by omega) (by omega) (w53.trans (by omega)) Al_h52t56 Cu_h52t57 (fun h71 frh71 w72 w73 xp74 Al_h71t75 Cu_h71t76 => ?_) (fun h77 v78 frh77 w79 w80 w81 w82 w83 xp84 xp85 xp86 Al_h77t87 Cu_h77t88 => ?_))
        ·
          have gh71 : my_fr [(4, 4), (4, 5), (4, 6), (4, 8), (4, 9), (5, 5), (5, 6), (5, 7), (5, 8), (5, 9), (32, -1), (33, -1), (34, -1), (35, -1), (37, -1)] h h71 := my_fr.tr gh52 (frh71.mo rfl)
          have Ln_h71 : Ln h71 := Ln_ag (my_ag.fr frh71 rfl) Ln_h52
          have Sp_h71 : Sp h71 wv := Sp_ag (my_ag.fr frh71 rfl) hwv Ln_h52 Sp_h52
          have St5_h71 : St5 h71 := St5_ag (my_ag.fr frh71 rfl) Ln_h52 St5_h52
          have Lo_h71 : Lo h h71 := Lo_ag (my_ag.fr frh71 rfl) Ln_h52 Lo_h52
          show wp l rho (d + 6) 60 68 [(2, 82), (0, v9), (0, v27), (9, 0)] [(0, (-1))] h71 Q
          have tE89 : cs h52 = cs h := cs_eq (fun j => my_fr.at gh52 is_92 rfl) (my_fr.at gh52 is_82 rfl)
          rw [tE89] at xp74
          have ps90 : h52 82 7 = (sN (cs h) (((sN (cs h) ((h 82 7)))))) := xp54
          rw [ps90] at xp74
          have ck91 := Cu_s Cu_h71t76
          rw [show cs h71 = cs h from cs_eq (fun j => my_fr.at gh71 is_92 rfl) (my_fr.at gh71 is_82 rfl)] at ck91
          refine w_istore_n (ls' := [(2, 82), (0, v9), (0, v27), (0, (-1))]) gz_60_68 gm_60 rfl rfl rfl ?_
          refine w_aload_n gz_60_69 rfl ?_
          refine v_getI (j := 9) gz_60_70 rfl is_82 rd_5 rfl (fun v92 ev92 pv92 qv92 => ?_)
          have zv92 := ev92.trans (rfl : h71 82 9 = h71 82 9)
          refine w_ifne (t := 93) gz_60_73 rfl (fun u93 => ?_) (fun u93 => by exfalso; omega)
          have psR : h71 82 7 = h71 82 7 := (rfl : h71 82 7 = h71 82 7)
          have npsR : cs h71 = cs h := cs_eq (fun j => my_fr.at gh71 is_92 rfl) (my_fr.at gh71 is_82 rfl)
          have c94 := ev92.symm
          exact w_vret gz_60_93 gm_60 (k0 h71 (gh71) (by omega) (by omega) (by first | exact Lo_h71 | (rw [← w20]; exact std) | (unfold joinR; simp only [rNum, rEnd, rWd]; omega) | omega) (by first | exact Lo_h71 | (rw [← w20]; exact std) | (unfold joinR; simp only [rNum, rEnd, rWd]; omega) | omega) Ln_h71 Sp_h71 Al_h71t75 Cu_h71t76)
        ·
          have gh77 : my_fr [(4, 4), (4, 5), (4, 6), (4, 8), (4, 9), (5, 5), (5, 6), (5, 7), (5, 8), (5, 9), (32, -1), (33, -1), (34, -1), (35, -1), (37, -1)] h h77 := my_fr.tr gh52 (frh77.mo rfl)
          have Ln_h77 : Ln h77 := Ln_ag (my_ag.fr frh77 rfl) Ln_h52
          have Sp_h77 : Sp h77 wv := Sp_ag (my_ag.fr frh77 rfl) hwv Ln_h52 Sp_h52
          have St5_h77 : St5 h77 := St5_ag (my_ag.fr frh77 rfl) Ln_h52 St5_h52
          have Lo_h77 : Lo h h77 := Lo_ag (my_ag.fr frh77 rfl) Ln_h52 Lo_h52
          show wp l rho (d + 6) 60 68 [(2, 82), (0, v9), (0, v27), (9, 0)] [(0, v78)] h77 Q
          have tE95 : cs h52 = cs h := cs_eq (fun j => my_fr.at gh52 is_92 rfl) (my_fr.at gh52 is_82 rfl)
          rw [tE95] at xp84
          have ps96 : h52 82 7 = (sN (cs h) (((sN (cs h) ((h 82 7)))))) := xp54
          rw [ps96] at xp84
          rw [tE95] at xp85
          rw [ps96] at xp85
          rw [tE95] at xp86
          rw [ps96] at xp86
          have ck97 := Cu_s Cu_h77t88
          rw [show cs h77 = cs h from cs_eq (fun j => my_fr.at gh77 is_92 rfl) (my_fr.at gh77 is_82 rfl)] at ck97
          rw [show h77 82 7 = (sN (cs h) (((sN (cs h) (((sN (cs h) ((h 82 7))))))))) from xp84] at ck97
          refine w_istore_n (ls' := [(2, 82), (0, v9), (0, v27), (0, v78)]) gz_60_68 gm_60 rfl rfl rfl ?_
          refine w_aload_n gz_60_69 rfl ?_
          refine v_getI (j := 9) gz_60_70 rfl is_82 rd_5 rfl (fun v98 ev98 pv98 qv98 => ?_)
          have zv98 := ev98.trans w83
          refine w_ifne (t := 93) gz_60_73 rfl (fun u99 => by exfalso; omega) (fun u99 => ?_)
          refine w_aload_n gz_60_76 rfl ?_
          refine w_inv (k := 0) (as := []) (r := []) (x := 82) (ls0 := [(2, 82)]) gz_60_77 gm_47 rfl is_82 rd_5 rfl rfl rfl rfl rfl (c_Reader_endsHere9_f0 (d := (d + 3))  (ev98.symm.trans (by omega)) Al_h77t87 Cu_h77t88 (fun h100 frh100 w101 w102 xp103 xp104 Al_h100t105 Cu_h100t106 => ?_) (fun h107 frh107 w108 xp109 xp110 Al_h107t111 Cu_h107t112 => ?_))
          ·
            have gh100 : my_fr [(4, 4), (4, 5), (4, 6), (4, 8), (4, 9), (5, 5), (5, 6), (5, 7), (5, 8), (5, 9), (32, -1), (33, -1), (34, -1), (35, -1), (37, -1)] h h100 := my_fr.tr gh77 (frh100.mo rfl)
            have Ln_h100 : Ln h100 := Ln_ag (my_ag.fr frh100 rfl) Ln_h77
            have Sp_h100 : Sp h100 wv := Sp_ag (my_ag.fr frh100 rfl) hwv Ln_h77 Sp_h77
            have St5_h100 : St5 h100 := St5_ag (my_ag.fr frh100 rfl) Ln_h77 St5_h77
            have Lo_h100 : Lo h h100 := Lo_ag (my_ag.fr frh100 rfl) Ln_h77 Lo_h77
            show wp l rho (d + 6) 60 80 [(2, 82), (0, v9), (0, v27), (0, v78)] [(0, 0)] h100 Q
            have tE113 : cs h77 = cs h := cs_eq (fun j => my_fr.at gh77 is_92 rfl) (my_fr.at gh77 is_82 rfl)
            rw [tE113] at xp103
            have ps114 : h77 82 7 = (sN (cs h) (((sN (cs h) (((sN (cs h) ((h 82 7))))))))) := xp84
            rw [ps114] at xp103
            rw [ps114] at xp104
            have ck115 := Cu_s Cu_h100t106
            rw [show cs h100 = cs h from cs_eq (fun j => my_fr.at gh100 is_92 rfl) (my_fr.at gh100 is_82 rfl)] at ck115
            refine w_ifeq (t := 93) gz_60_80 rfl (fun u116 => ?_) (fun u116 => by exfalso; omega)
            have psR : h100 82 7 = h100 82 7 := (rfl : h100 82 7 = h100 82 7)
            have npsR : cs h100 = cs h := cs_eq (fun j => my_fr.at gh100 is_92 rfl) (my_fr.at gh100 is_82 rfl)
            have c117 := (rfl : h100 82 9 = h100 82 9)
            exact w_vret gz_60_93 gm_60 (k0 h100 (gh100) (by omega) (by omega) (by first | exact Lo_h100 | (rw [← w20]; exact std) | (unfold joinR; simp only [rNum, rEnd, rWd]; omega) | omega) (by first | exact Lo_h100 | (rw [← w20]; exact std) | (unfold joinR; simp only [rNum, rEnd, rWd]; omega) | omega) Ln_h100 Sp_h100 Al_h100t105 Cu_h100t106)
          ·
            have gh107 : my_fr [(4, 4), (4, 5), (4, 6), (4, 8), (4, 9), (5, 5), (5, 6), (5, 7), (5, 8), (5, 9), (32, -1), (33, -1), (34, -1), (35, -1), (37, -1)] h h107 := my_fr.tr gh77 (frh107.mo rfl)
            have Ln_h107 : Ln h107 := Ln_ag (my_ag.fr frh107 rfl) Ln_h77
            have Sp_h107 : Sp h107 wv := Sp_ag (my_ag.fr frh107 rfl) hwv Ln_h77 Sp_h77
            have St5_h107 : St5 h107 := St5_ag (my_ag.fr frh107 rfl) Ln_h77 St5_h77
            have Lo_h107 : Lo h h107 := Lo_ag (my_ag.fr frh107 rfl) Ln_h77 Lo_h77
            show wp l rho (d + 6) 60 80 [(2, 82), (0, v9), (0, v27), (0, v78)] [(0, 1)] h107 Q
            have tE118 : cs h77 = cs h := cs_eq (fun j => my_fr.at gh77 is_92 rfl) (my_fr.at gh77 is_82 rfl)
            rw [tE118] at xp109
            have ps119 : h77 82 7 = (sN (cs h) (((sN (cs h) (((sN (cs h) ((h 82 7))))))))) := xp84
            rw [ps119] at xp109
            rw [tE118] at xp110
            rw [ps119] at xp110
            have ck120 := Cu_s Cu_h107t112
            rw [show cs h107 = cs h from cs_eq (fun j => my_fr.at gh107 is_92 rfl) (my_fr.at gh107 is_82 rfl)] at ck120
            rw [show h107 82 7 = (sN (cs h) (((sN (cs h) (((sN (cs h) (((sN (cs h) ((h 82 7)))))))))))) from xp109] at ck120
            refine w_ifeq (t := 93) gz_60_80 rfl (fun u121 => by exfalso; omega) (fun u121 => ?_)
            refine w_aload_n gz_60_83 rfl ?_
            refine v_getR (j := 2) gz_60_84 rfl is_82 rd_5 rfl (fun v122 ev122 tv122 => ?_)
            have zv122 : v28 = v122 := (ev122.trans ((my_fr.at frh107 is_82 rfl).trans ((my_fr.at frh77 is_82 rfl).trans ((my_fr.at frh52 is_82 rfl).trans ((my_fr.at frh33 is_82 rfl).trans ev28.symm))))).symm
            subst zv122
            refine w_iload_n gz_60_87 rfl ?_
            refine w_iload_n gz_60_88 rfl ?_
            refine w_iload_n gz_60_89 rfl ?_
            have ce123 : h107 82 2 = v28 := ((my_fr.at frh107 is_82 rfl).trans ((my_fr.at frh77 is_82 rfl).trans ((my_fr.at frh52 is_82 rfl).trans ((my_fr.at frh33 is_82 rfl).trans ev28.symm))))
            have s5a := St5_h107
            have s5e : v28 = h107 82 2 := by first | assumption | omega
            unfold St5 at s5a
            rw [← s5e] at s5a
            have ce124 : h107 v28 1 = h v28 1 := ((my_fr.at frh107 tv28 rfl).trans ((my_fr.at frh77 tv28 rfl).trans ((my_fr.at frh52 tv28 rfl).trans ((my_fr.at frh33 tv28 rfl).trans ((my_fr.at frh8 tv28 rfl).trans (rfl : h v28 1 = h v28 1))))))
            have ce125 : h107 v28 3 = h v28 3 := ((my_fr.at frh107 tv28 rfl).trans ((my_fr.at frh77 tv28 rfl).trans ((my_fr.at frh52 tv28 rfl).trans ((my_fr.at frh33 tv28 rfl).trans ((my_fr.at frh8 tv28 rfl).trans (rfl : h v28 3 = h v28 3))))))
            have ce126 : h107 v28 4 = h v28 4 := ((my_fr.at frh107 tv28 rfl).trans ((my_fr.at frh77 tv28 rfl).trans ((my_fr.at frh52 tv28 rfl).trans ((my_fr.at frh33 tv28 rfl).trans ((my_fr.at frh8 tv28 rfl).trans (rfl : h v28 4 = h v28 4))))))
            have ce127 : h107 v28 9 = h v28 9 := ((my_fr.at frh107 tv28 rfl).trans ((my_fr.at frh77 tv28 rfl).trans ((my_fr.at frh52 tv28 rfl).trans ((my_fr.at frh33 tv28 rfl).trans ((my_fr.at frh8 tv28 rfl).trans (rfl : h v28 9 = h v28 9))))))
            have sE : v28 = h 82 2 := by first | assumption | omega
            have eS1 : h107 v28 1 = h v28 1 := by omega
            have eS3 : h107 v28 3 = h v28 3 := by omega
            have eS4 : h107 v28 4 = h v28 4 := by omega
            have eS9 : h107 v28 9 = h v28 9 := by omega
            have hi128 : 1 ≤ v27 := by first | omega | (subst_vars; omega) | grind | omega
            have hi129 : v27 ≤ 4 := by first | omega | (subst_vars; omega) | grind | omega
            refine w_inv (k := 1) (as := [(0, v78), (0, v27), (0, v9)]) (r := []) (x := v28) (ls0 := [(2, v28), (0, v9), (0, v27), (0, v78), (9, 0)]) gz_60_90 gm_61 rfl tv28 rd_4 rfl rfl rfl rfl rfl (c_Lens_addJoin (d := (d + 4)) (x0 := v28) (x1 := v9) (x2 := v27) (x3 := v78) tv28 (by omega) (by omega) (by omega) (by omega) (by omega) (by omega) (by first | assumption | exact no_such_saying | exact Fp_told (by omega) (by omega) | omega | (subst_vars; omega) | omega) (by first | assumption | exact no_such_saying | exact Fp_told (by omega) (by omega) | omega | (subst_vars; omega) | omega) (fun h130 frh130 fxh130 w131 w132 xp133 => ?_))
            have gh130 : my_fr [(4, 4), (4, 5), (4, 6), (4, 8), (4, 9), (5, 5), (5, 6), (5, 7), (5, 8), (5, 9), (32, -1), (33, -1), (34, -1), (35, -1), (37, -1)] h h130 := my_fr.tr gh107 (frh130.mo rfl)
            have Ln_h130 : Ln h130 := Ln_fx fxh130 (by first | assumption | omega) Ln_h107
            have Lo_h130 : Lo h h130 := Lo_fx fxh130 (by first | assumption | omega) Ln_h107 Lo_h107
            have Al_h130 : Al h130 := Al_ag (my_ag.fr frh130 rfl) Al_h107t111
            have Cu_h130 : Cu h130 := Cu_ag (my_ag.fr frh130 rfl) Cu_h107t112
            show wp l rho (d + 6) 60 93 [(2, 82), (0, v9), (0, v27), (0, v78)] [] h130 Q
            have Sp_h130t134 : Sp h130 wv := Sp_add fxh130 (by first | assumption | omega) hwv Ln_h107 Sp_h107 xp133 (by have := St5_h107.1; omega) (by omega) (by omega)
            have ce135 : h130 82 2 = v28 := ((my_fr.at frh130 is_82 rfl).trans ((my_fr.at frh107 is_82 rfl).trans ((my_fr.at frh77 is_82 rfl).trans ((my_fr.at frh52 is_82 rfl).trans ((my_fr.at frh33 is_82 rfl).trans ev28.symm)))))
            have std := Std_add xp133 sE (by omega) eS3 eS4 eS9 eS1
            have psR : h130 82 7 = (sN (cs h) (((sN (cs h) (((sN (cs h) (((sN (cs h) ((h 82 7)))))))))))) := ((my_fr.at frh130 is_82 rfl).trans xp109)
            have npsR : cs h130 = cs h := cs_eq (fun j => my_fr.at gh130 is_92 rfl) (my_fr.at gh130 is_82 rfl)
            have c136 := ((my_fr.at frh130 is_82 rfl).trans w108)
            exact w_vret gz_60_93 gm_60 (k1 h130 (gh130) (by omega) (by first | exact Lo_h130 | (rw [← w20]; exact std) | (unfold joinR; simp only [rNum, rEnd, rWd]; omega) | omega) (by first | exact Lo_h130 | (rw [← w20]; exact std) | (unfold joinR; simp only [rNum, rEnd, rWd]; omega) | omega) (by first | exact Lo_h130 | (rw [← w20]; exact std) | (unfold joinR; simp only [rNum, rEnd, rWd]; omega) | omega) Ln_h130 Sp_h130t134 Al_h130 Cu_h130)
    ·
      refine w_aload_n gz_60_37 rfl ?_
      refine w_iconst gz_60_38 (by decide) ?_
      refine w_inv (k := 0) (as := [(0, 5)]) (r := []) (x := 82) (ls0 := [(2, 82), (0, 5)]) gz_60_39 gm_42 rfl is_82 rd_5 rfl rfl rfl rfl rfl ?_
      refine w_aload_n gz_42_0 rfl ?_
      refine v_getI (j := 9) gz_42_1 rfl is_82 rd_5 rfl (fun v137 ev137 pv137 qv137 => ?_)
      have zv137 := ev137.trans w15
      refine w_ifne (t := 20) gz_42_4 rfl (fun u138 => by exfalso; omega) (fun u138 => ?_)
      refine w_aload_n gz_42_7 rfl ?_
      refine w_iload_n gz_42_8 rfl ?_
      refine w_bipush gz_42_9 (by decide) ?_
      refine w_aload_n gz_42_11 rfl ?_
      refine v_getI (j := 7) gz_42_12 rfl is_82 rd_5 rfl (fun v139 ev139 pv139 qv139 => ?_)
      refine w_imul gz_42_15 ⟨by omega, by omega⟩ ?_
      refine w_iadd gz_42_16 ⟨by omega, by omega⟩ ?_
      refine v_putI (j := 9) gz_42_17 rfl is_82 rd_5 rfl (by omega) (by omega) rfl (fun h140 fh140 => ?_)
      have gh140 : my_fr [(4, 4), (4, 5), (4, 6), (4, 8), (4, 9), (5, 5), (5, 6), (5, 7), (5, 8), (5, 9), (32, -1), (33, -1), (34, -1), (35, -1), (37, -1)] h h140 := my_fr.up gh8 is_82 fh140 rfl
      have Ln_h140 : Ln h140 := Ln_ag (my_ag.up fh140 is_82 rfl) Ln_h8
      have Sp_h140 : Sp h140 wv := Sp_ag (my_ag.up fh140 is_82 rfl) hwv Ln_h8 Sp_h8
      have St5_h140 : St5 h140 := St5_ag (my_ag.up fh140 is_82 rfl) Ln_h8 St5_h8
      have Al_h140 : Al h140 := Al_ag (my_ag.up fh140 is_82 rfl) Al_h8t20
      have Cu_h140 : Cu h140 := Cu_ag (my_ag.up fh140 is_82 rfl) Cu_h8t21
      have Lo_h140 : Lo h h140 := Lo_ag (my_ag.up fh140 is_82 rfl) Ln_h8 Lo_h8
      refine w_vret gz_42_20 gm_42 ?_
      show wp l rho (d + 6) 60 42 [(2, 82), (0, v9), (0, v27), (9, 0)] [] h140 Q
      have psR : h140 82 7 = h 82 7 := ((my_up_fld fh140 (by decide)).trans ((my_fr.at frh8 is_82 rfl).trans (rfl : h 82 7 = h 82 7)))
      have npsR : cs h140 = cs h := cs_eq (fun j => my_fr.at gh140 is_92 rfl) (my_fr.at gh140 is_82 rfl)
      have c141 := (my_up_self fh140)
      exact w_vret gz_60_42 gm_60 (k0 h140 (gh140) (by omega) (by omega) (by first | exact Lo_h140 | (rw [← w20]; exact std) | (unfold joinR; simp only [rNum, rEnd, rWd]; omega) | omega) (by first | exact Lo_h140 | (rw [← w20]; exact std) | (unfold joinR; simp only [rNum, rEnd, rWd]; omega) | omega) Ln_h140 Sp_h140 Al_h140 Cu_h140)
theorem c_Reader_readSum9_f0 {l : Launch} {rho : Nat → Int32} {d : Nat} {h : my_H} {Q : my_H → my_V → Prop} {wv : Int} (cf : h 82 9 = 0) (hwv : wv ≤ 5) (hwv0 : 0 ≤ wv) (n_Ln : Ln h) (n_Sp : Sp h wv) (n_St5 : St5 h) (n_Al : Al h) (n_Cu : Cu h) (k0 : ∀ (h' : my_H), my_fr [(4, 4), (4, 5), (4, 7), (4, 8), (4, 9), (5, 5), (5, 6), (5, 7), (5, 8), (5, 9), (32, -1), (33, -1), (34, -1), (35, -1), (37, -1)] h h' → 1 ≤ h' 82 9 → h' 82 9 ≤ 16004 → sumR (cs h) (h 82 7) (h (h 82 2) 4) (h' 82 9) (h' 82 7) → Lo h h' → Ln h' → Sp h' wv → Al h' → Cu h' → Q h' (9, 0)) (k1 : ∀ (h' : my_H), my_fr [(4, 4), (4, 5), (4, 7), (4, 8), (4, 9), (5, 5), (5, 6), (5, 7), (5, 8), (5, 9), (32, -1), (33, -1), (34, -1), (35, -1), (37, -1)] h h' → h' 82 9 = 0 → sumR (cs h) (h 82 7) (h (h 82 2) 4) (h' 82 9) (h' 82 7) → Std h h' 2 (h (h 82 2) 9 + 1) → Lo h h' → Ln h' → Sp h' wv → Al h' → Cu h' → Q h' (9, 0)) : wp l rho (d + 6) 62 0 [(2, 82), (9, 0), (9, 0)] [] h Q := by
  have ck1 := Cu_s n_Cu
  refine w_aload_n gz_62_0 rfl ?_
  refine w_aload_n gz_62_1 rfl ?_
  refine v_getR (j := 2) gz_62_2 rfl is_82 rd_5 rfl (fun v2 ev2 tv2 => ?_)
  have ce3 : h 82 2 = v2 := ev2.symm
  have sE8 : v2 = h 82 2 := by first | assumption | omega
  refine v_getI (j := 4) gz_62_5 rfl tv2 rd_4 rfl (fun v4 ev4 pv4 qv4 => ?_)
  have c8 : v4 = h (h 82 2) 4 := by rw [← sE8]; omega
  refine w_inv (k := 1) (as := [(0, v4)]) (r := []) (x := 82) (ls0 := [(2, 82), (0, v4), (9, 0)]) gz_62_8 gm_51 rfl is_82 rd_5 rfl rfl rfl rfl rfl (c_Reader_takeNumber9_f0 (d := (d + 3)) (x1 := v4) (by omega) (by omega) (cf.trans (by omega)) n_Al n_Cu (fun h5 frh5 w6 w7 xp8 Al_h5t9 Cu_h5t10 => ?_) (fun h11 v12 frh11 w13 w14 w15 w16 w17 xp18 xp19 xp20 Al_h11t21 Cu_h11t22 => ?_))
  ·
    have gh5 : my_fr [(4, 4), (4, 5), (4, 7), (4, 8), (4, 9), (5, 5), (5, 6), (5, 7), (5, 8), (5, 9), (32, -1), (33, -1), (34, -1), (35, -1), (37, -1)] h h5 := my_fr.tr my_fr.rf (frh5.mo rfl)
    have Ln_h5 : Ln h5 := Ln_ag (my_ag.fr frh5 rfl) n_Ln
    have Sp_h5 : Sp h5 wv := Sp_ag (my_ag.fr frh5 rfl) hwv n_Ln n_Sp
    have St5_h5 : St5 h5 := St5_ag (my_ag.fr frh5 rfl) n_Ln n_St5
    have Lo_h5 : Lo h h5 := Lo_ag (my_ag.fr frh5 rfl) n_Ln (Lo_rf)
    show wp l rho (d + 6) 62 11 [(2, 82), (9, 0), (9, 0)] [(0, (-1))] h5 Q
    have ck23 := Cu_s Cu_h5t10
    rw [show cs h5 = cs h from cs_eq (fun j => my_fr.at gh5 is_92 rfl) (my_fr.at gh5 is_82 rfl)] at ck23
    refine w_istore_n (ls' := [(2, 82), (0, (-1)), (9, 0)]) gz_62_11 gm_62 rfl rfl rfl ?_
    refine w_aload_n gz_62_12 rfl ?_
    refine v_getI (j := 9) gz_62_13 rfl is_82 rd_5 rfl (fun v24 ev24 pv24 qv24 => ?_)
    have zv24 := ev24.trans (rfl : h5 82 9 = h5 82 9)
    refine w_ifne (t := 28) gz_62_16 rfl (fun u25 => ?_) (fun u25 => by exfalso; omega)
    have psR : h5 82 7 = h5 82 7 := (rfl : h5 82 7 = h5 82 7)
    have npsR : cs h5 = cs h := cs_eq (fun j => my_fr.at gh5 is_92 rfl) (my_fr.at gh5 is_82 rfl)
    have c26 := ev24.symm
    exact w_vret gz_62_28 gm_62 (k0 h5 (gh5) (by omega) (by omega) (by first | exact Lo_h5 | exact std | (unfold sumR; simp only [rNum, rEnd, rWd]; omega) | omega) (by first | exact Lo_h5 | exact std | (unfold sumR; simp only [rNum, rEnd, rWd]; omega) | omega) Ln_h5 Sp_h5 Al_h5t9 Cu_h5t10)
  ·
    have gh11 : my_fr [(4, 4), (4, 5), (4, 7), (4, 8), (4, 9), (5, 5), (5, 6), (5, 7), (5, 8), (5, 9), (32, -1), (33, -1), (34, -1), (35, -1), (37, -1)] h h11 := my_fr.tr my_fr.rf (frh11.mo rfl)
    have Ln_h11 : Ln h11 := Ln_ag (my_ag.fr frh11 rfl) n_Ln
    have Sp_h11 : Sp h11 wv := Sp_ag (my_ag.fr frh11 rfl) hwv n_Ln n_Sp
    have St5_h11 : St5 h11 := St5_ag (my_ag.fr frh11 rfl) n_Ln n_St5
    have Lo_h11 : Lo h h11 := Lo_ag (my_ag.fr frh11 rfl) n_Ln (Lo_rf)
    show wp l rho (d + 6) 62 11 [(2, 82), (9, 0), (9, 0)] [(0, v12)] h11 Q
    have ck27 := Cu_s Cu_h11t22
    rw [show cs h11 = cs h from cs_eq (fun j => my_fr.at gh11 is_92 rfl) (my_fr.at gh11 is_82 rfl)] at ck27
    rw [show h11 82 7 = (sN (cs h) (h 82 7)) from xp18] at ck27
    refine w_istore_n (ls' := [(2, 82), (0, v12), (9, 0)]) gz_62_11 gm_62 rfl rfl rfl ?_
    refine w_aload_n gz_62_12 rfl ?_
    refine v_getI (j := 9) gz_62_13 rfl is_82 rd_5 rfl (fun v28 ev28 pv28 qv28 => ?_)
    have zv28 := ev28.trans w17
    refine w_ifne (t := 28) gz_62_16 rfl (fun u29 => by exfalso; omega) (fun u29 => ?_)
    refine w_aload_n gz_62_19 rfl ?_
    refine w_ldcS gz_62_20 (by decide) ?_
    refine w_inv (k := 0) (as := [(3, ((12 : Nat) : Int))]) (r := []) (x := 82) (ls0 := [(2, 82), (3, ((12 : Nat) : Int))]) gz_62_22 gm_40 rfl is_82 rd_5 rfl rfl rfl rfl rfl (c_Reader_takeWord9_f0 (d := d) (x1 := ((12 : Nat) : Int)) (by decide) (ev28.symm.trans (by omega)) Al_h11t21 Cu_h11t22 (fun h30 frh30 w31 w32 xp33 xp34 Al_h30t35 Cu_h30t36 => ?_) (fun h37 frh37 w38 xp39 xp40 Al_h37t41 Cu_h37t42 => ?_))
    ·
      have gh30 : my_fr [(4, 4), (4, 5), (4, 7), (4, 8), (4, 9), (5, 5), (5, 6), (5, 7), (5, 8), (5, 9), (32, -1), (33, -1), (34, -1), (35, -1), (37, -1)] h h30 := my_fr.tr gh11 (frh30.mo rfl)
      have Ln_h30 : Ln h30 := Ln_ag (my_ag.fr frh30 rfl) Ln_h11
      have Sp_h30 : Sp h30 wv := Sp_ag (my_ag.fr frh30 rfl) hwv Ln_h11 Sp_h11
      have St5_h30 : St5 h30 := St5_ag (my_ag.fr frh30 rfl) Ln_h11 St5_h11
      have Lo_h30 : Lo h h30 := Lo_ag (my_ag.fr frh30 rfl) Ln_h11 Lo_h11
      show wp l rho (d + 6) 62 25 [(2, 82), (0, v12), (9, 0)] [(0, 0)] h30 Q
      rw [show wc ((12 : Nat) : Int) = 99 from by decide] at xp33
      have tE43 : cs h11 = cs h := cs_eq (fun j => my_fr.at gh11 is_92 rfl) (my_fr.at gh11 is_82 rfl)
      rw [tE43] at xp33
      have ps44 : h11 82 7 = (sN (cs h) (h 82 7)) := xp18
      rw [ps44] at xp33
      rw [ps44] at xp34
      have ck45 := Cu_s Cu_h30t36
      rw [show cs h30 = cs h from cs_eq (fun j => my_fr.at gh30 is_92 rfl) (my_fr.at gh30 is_82 rfl)] at ck45
      refine w_ifne (t := 29) gz_62_25 rfl (fun u46 => by exfalso; omega) (fun u46 => ?_)
      have psR : h30 82 7 = h30 82 7 := (rfl : h30 82 7 = h30 82 7)
      have npsR : cs h30 = cs h := cs_eq (fun j => my_fr.at gh30 is_92 rfl) (my_fr.at gh30 is_82 rfl)
      have c47 := (rfl : h30 82 9 = h30 82 9)
      exact w_vret gz_62_28 gm_62 (k0 h30 (gh30) (by omega) (by omega) (by first | exact Lo_h30 | exact std | (unfold sumR; simp only [rNum, rEnd, rWd]; omega) | omega) (by first | exact Lo_h30 | exact std | (unfold sumR; simp only [rNum, rEnd, rWd]; omega) | omega) Ln_h30 Sp_h30 Al_h30t35 Cu_h30t36)
    ·
      have gh37 : my_fr [(4, 4), (4, 5), (4, 7), (4, 8), (4, 9), (5, 5), (5, 6), (5, 7), (5, 8), (5, 9), (32, -1), (33, -1), (34, -1), (35, -1), (37, -1)] h h37 := my_fr.tr gh11 (frh37.mo rfl)
      have Ln_h37 : Ln h37 := Ln_ag (my_ag.fr frh37 rfl) Ln_h11
      have Sp_h37 : Sp h37 wv := Sp_ag (my_ag.fr frh37 rfl) hwv Ln_h11 Sp_h11
      have St5_h37 : St5 h37 := St5_ag (my_ag.fr frh37 rfl) Ln_h11 St5_h11
      have Lo_h37 : Lo h h37 := Lo_ag (my_ag.fr frh37 rfl) Ln_h11 Lo_h11
      show wp l rho (d + 6) 62 25 [(2, 82), (0, v12), (9, 0)] [(0, 1)] h37 Q
      have tE48 : cs h11 = cs h := cs_eq (fun j => my_fr.at gh11 is_92 rfl) (my_fr.at gh11 is_82 rfl)
      rw [tE48] at xp39
      have ps49 : h11 82 7 = (sN (cs h) (h 82 7)) := xp18
      rw [ps49] at xp39
      rw [show wc ((12 : Nat) : Int) = 99 from by decide] at xp40
      rw [tE48] at xp40
      rw [ps49] at xp40
      have ck50 := Cu_s Cu_h37t42
      rw [show cs h37 = cs h from cs_eq (fun j => my_fr.at gh37 is_92 rfl) (my_fr.at gh37 is_82 rfl)] at ck50
      rw [show h37 82 7 = (sN (cs h) (((sN (cs h) (h 82 7))))) from xp39] at ck50
      refine w_ifne (t := 29) gz_62_25 rfl (fun u51 => ?_) (fun u51 => by exfalso; omega)
      refine w_aload_n gz_62_29 rfl ?_
      refine w_aload_n gz_62_30 rfl ?_
      refine v_getR (j := 2) gz_62_31 rfl is_82 rd_5 rfl (fun v52 ev52 tv52 => ?_)
      have zv52 : v2 = v52 := (ev52.trans ((my_fr.at frh37 is_82 rfl).trans ((my_fr.at frh11 is_82 rfl).trans ev2.symm))).symm
      subst zv52
      have ce53 : h37 82 2 = v2 := ((my_fr.at frh37 is_82 rfl).trans ((my_fr.at frh11 is_82 rfl).trans ev2.symm))
      have ce54 : h37 v2 4 = h v2 4 := ((my_fr.at frh37 tv2 rfl).trans ((my_fr.at frh11 tv2 rfl).trans (rfl : h v2 4 = h v2 4)))
      have sE37 : v2 = h 82 2 := by first | assumption | omega
      refine v_getI (j := 4) gz_62_34 rfl tv2 rd_4 rfl (fun v55 ev55 pv55 qv55 => ?_)
      have zv55 := ev55.trans ((my_fr.at frh37 tv2 rfl).trans ((my_fr.at frh11 tv2 rfl).trans ev4.symm))
      have c37 : v55 = h (h 82 2) 4 := by rw [← sE37]; omega
      refine w_inv (k := 0) (as := [(0, v55)]) (r := []) (x := 82) (ls0 := [(2, 82), (0, v55)]) gz_62_37 gm_44 rfl is_82 rd_5 rfl rfl rfl rfl rfl ?_
      refine w_aload_n gz_44_0 rfl ?_
      refine v_getI (j := 6) gz_44_1 rfl is_82 rd_5 rfl (fun v56 ev56 pv56 qv56 => ?_)
      refine w_iconst gz_44_4 (by decide) ?_
      refine w_iceq (t := 15) gz_44_5 rfl (fun u57 => ?_) (fun u57 => ?_)
      ·
        refine w_aload_n gz_44_15 rfl ?_
        refine v_getI (j := 8) gz_44_16 rfl is_82 rd_5 rfl (fun v58 ev58 pv58 qv58 => ?_)
        refine w_iload_n gz_44_19 rfl ?_
        refine w_iclt (t := 30) gz_44_20 rfl (fun u59 => ?_) (fun u59 => ?_)
        ·
          refine w_aload_n gz_44_30 rfl ?_
          refine v_getI (j := 9) gz_44_31 rfl is_82 rd_5 rfl (fun v60 ev60 pv60 qv60 => ?_)
          have zv60 := ev60.trans w38
          refine w_ifne (t := 44) gz_44_34 rfl (fun u61 => by exfalso; omega) (fun u61 => ?_)
          refine w_aload_n gz_44_37 rfl ?_
          refine v_getI (j := 8) gz_44_38 rfl is_82 rd_5 rfl (fun v62 ev62 pv62 qv62 => ?_)
          have zv62 := ev62.trans ev58.symm
          refine w_goto (t := 45) gz_44_41 rfl ?_
          refine w_iret gz_44_45 gm_44 ?_
          show wp l rho (d + 6) 62 40 [(2, 82), (0, v12), (9, 0)] [(0, v62)] h37 Q
          refine w_istore_n (ls' := [(2, 82), (0, v12), (0, v62)]) gz_62_40 gm_62 rfl rfl rfl ?_
          refine w_iload_n gz_62_41 rfl ?_
          refine w_iconst gz_62_42 (by decide) ?_
          refine w_iceq (t := 59) gz_62_43 rfl (fun u63 => by exfalso; omega) (fun u63 => ?_)
          refine w_iload_n gz_62_46 rfl ?_
          refine w_iload_n gz_62_47 rfl ?_
          refine w_icne (t := 59) gz_62_48 rfl (fun u64 => ?_) (fun u64 => ?_)
          ·
            refine w_iload_n gz_62_59 rfl ?_
            refine w_iconst gz_62_60 (by decide) ?_
            refine w_iceq (t := 84) gz_62_61 rfl (fun u65 => by exfalso; omega) (fun u65 => ?_)
            refine w_aload_n gz_62_64 rfl ?_
            refine w_inv (k := 2) (as := []) (r := []) (x := 82) (ls0 := [(2, 82), (9, 0), (9, 0)]) gz_62_65 gm_37 rfl is_82 rd_5 rfl rfl rfl rfl rfl (c_Reader_nextToken9_f0 (d := (d + 4))  (ev60.symm.trans (by omega)) Al_h37t41 (fun h66 frh66 w67 w68 w69 xp70 xp71 Al_h66t72 Cu_h66t73 => ?_))
            have gh66 : my_fr [(4, 4), (4, 5), (4, 7), (4, 8), (4, 9), (5, 5), (5, 6), (5, 7), (5, 8), (5, 9), (32, -1), (33, -1), (34, -1), (35, -1), (37, -1)] h h66 := my_fr.tr gh37 (frh66.mo rfl)
            have Ln_h66 : Ln h66 := Ln_ag (my_ag.fr frh66 rfl) Ln_h37
            have Sp_h66 : Sp h66 wv := Sp_ag (my_ag.fr frh66 rfl) hwv Ln_h37 Sp_h37
            have St5_h66 : St5 h66 := St5_ag (my_ag.fr frh66 rfl) Ln_h37 St5_h37
            have Lo_h66 : Lo h h66 := Lo_ag (my_ag.fr frh66 rfl) Ln_h37 Lo_h37
            show wp l rho (d + 6) 62 68 [(2, 82), (0, v12), (0, v62)] [] h66 Q
            have xc74 := xp70 Cu_h37t42
            have tE75 : cs h37 = cs h := cs_eq (fun j => my_fr.at gh37 is_92 rfl) (my_fr.at gh37 is_82 rfl)
            rw [tE75] at xc74
            have ps76 : h37 82 7 = (sN (cs h) (((sN (cs h) (h 82 7))))) := xp39
            rw [ps76] at xc74
            have ck77 := Cu_s Cu_h66t73
            rw [show cs h66 = cs h from cs_eq (fun j => my_fr.at gh66 is_92 rfl) (my_fr.at gh66 is_82 rfl)] at ck77
            rw [show h66 82 7 = (sN (cs h) (((sN (cs h) (((sN (cs h) (h 82 7)))))))) from xc74] at ck77
            refine w_aload_n gz_62_68 rfl ?_
            refine w_inv (k := 0) (as := []) (r := []) (x := 82) (ls0 := [(2, 82)]) gz_62_69 gm_47 rfl is_82 rd_5 rfl rfl rfl rfl rfl (c_Reader_endsHere9_f0 (d := (d + 3))  (((my_fr.at frh66 is_82 rfl).trans ev60.symm).trans (by omega)) Al_h66t72 Cu_h66t73 (fun h78 frh78 w79 w80 xp81 xp82 Al_h78t83 Cu_h78t84 => ?_) (fun h85 frh85 w86 xp87 xp88 Al_h85t89 Cu_h85t90 => ?_))
            ·
              have gh78 : my_fr [(4, 4), (4, 5), (4, 7), (4, 8), (4, 9), (5, 5), (5, 6), (5, 7), (5, 8), (5, 9), (32, -1), (33, -1), (34, -1), (35, -1), (37, -1)] h h78 := my_fr.tr gh66 (frh78.mo rfl)
              have Ln_h78 : Ln h78 := Ln_ag (my_ag.fr frh78 rfl) Ln_h66
              have Sp_h78 : Sp h78 wv := Sp_ag (my_ag.fr frh78 rfl) hwv Ln_h66 Sp_h66
              have St5_h78 : St5 h78 := St5_ag (my_ag.fr frh78 rfl) Ln_h66 St5_h66
              have Lo_h78 : Lo h h78 := Lo_ag (my_ag.fr frh78 rfl) Ln_h66 Lo_h66
              show wp l rho (d + 6) 62 72 [(2, 82), (0, v12), (0, v62)] [(0, 0)] h78 Q
              have tE91 : cs h66 = cs h := cs_eq (fun j => my_fr.at gh66 is_92 rfl) (my_fr.at gh66 is_82 rfl)
              rw [tE91] at xp81
              have ps92 : h66 82 7 = (sN (cs h) (((sN (cs h) (((sN (cs h) (h 82 7)))))))) := xc74
              rw [ps92] at xp81
              rw [ps92] at xp82
              have ck93 := Cu_s Cu_h78t84
              rw [show cs h78 = cs h from cs_eq (fun j => my_fr.at gh78 is_92 rfl) (my_fr.at gh78 is_82 rfl)] at ck93
              refine w_ifeq (t := 84) gz_62_72 rfl (fun u94 => ?_) (fun u94 => by exfalso; omega)
              have psR : h78 82 7 = h78 82 7 := (rfl : h78 82 7 = h78 82 7)
              have npsR : cs h78 = cs h := cs_eq (fun j => my_fr.at gh78 is_92 rfl) (my_fr.at gh78 is_82 rfl)
              have c95 := (rfl : h78 82 9 = h78 82 9)
              exact w_vret gz_62_84 gm_62 (k0 h78 (gh78) (by omega) (by omega) (by first | exact Lo_h78 | exact std | (unfold sumR; simp only [rNum, rEnd, rWd]; omega) | omega) (by first | exact Lo_h78 | exact std | (unfold sumR; simp only [rNum, rEnd, rWd]; omega) | omega) Ln_h78 Sp_h78 Al_h78t83 Cu_h78t84)
            ·
              have gh85 : my_fr [(4, 4), (4, 5), (4, 7), (4, 8), (4, 9), (5, 5), (5, 6), (5, 7), (5, 8), (5, 9), (32, -1), (33, -1), (34, -1), (35, -1), (37, -1)] h h85 := my_fr.tr gh66 (frh85.mo rfl)
              have Ln_h85 : Ln h85 := Ln_ag (my_ag.fr frh85 rfl) Ln_h66
              have Sp_h85 : Sp h85 wv := Sp_ag (my_ag.fr frh85 rfl) hwv Ln_h66 Sp_h66
              have St5_h85 : St5 h85 := St5_ag (my_ag.fr frh85 rfl) Ln_h66 St5_h66
              have Lo_h85 : Lo h h85 := Lo_ag (my_ag.fr frh85 rfl) Ln_h66 Lo_h66
              show wp l rho (d + 6) 62 72 [(2, 82), (0, v12), (0, v62)] [(0, 1)] h85 Q
              have tE96 : cs h66 = cs h := cs_eq (fun j => my_fr.at gh66 is_92 rfl) (my_fr.at gh66 is_82 rfl)
              rw [tE96] at xp87
              have ps97 : h66 82 7 = (sN (cs h) (((sN (cs h) (((sN (cs h) (h 82 7)))))))) := xc74
              rw [ps97] at xp87
              rw [tE96] at xp88
              rw [ps97] at xp88
              have ck98 := Cu_s Cu_h85t90
              rw [show cs h85 = cs h from cs_eq (fun j => my_fr.at gh85 is_92 rfl) (my_fr.at gh85 is_82 rfl)] at ck98
              rw [show h85 82 7 = (sN (cs h) (((sN (cs h) (((sN (cs h) (((sN (cs h) (h 82 7))))))))))) from xp87] at ck98
              refine w_ifeq (t := 84) gz_62_72 rfl (fun u99 => by exfalso; omega) (fun u99 => ?_)
              refine w_aload_n gz_62_75 rfl ?_
              refine v_getR (j := 2) gz_62_76 rfl is_82 rd_5 rfl (fun v100 ev100 tv100 => ?_)
              have zv100 : v2 = v100 := (ev100.trans ((my_fr.at frh85 is_82 rfl).trans ((my_fr.at frh66 is_82 rfl).trans ((my_fr.at frh37 is_82 rfl).trans ((my_fr.at frh11 is_82 rfl).trans ev2.symm))))).symm
              subst zv100
              refine w_iload_n gz_62_79 rfl ?_
              refine w_iload_n gz_62_80 rfl ?_
              have ce101 : h85 82 2 = v2 := ((my_fr.at frh85 is_82 rfl).trans ((my_fr.at frh66 is_82 rfl).trans ((my_fr.at frh37 is_82 rfl).trans ((my_fr.at frh11 is_82 rfl).trans ev2.symm))))
              have s5a := St5_h85
              have s5e : v2 = h85 82 2 := by first | assumption | omega
              unfold St5 at s5a
              rw [← s5e] at s5a
              have ce102 : h85 v2 1 = h v2 1 := ((my_fr.at frh85 tv2 rfl).trans ((my_fr.at frh66 tv2 rfl).trans ((my_fr.at frh37 tv2 rfl).trans ((my_fr.at frh11 tv2 rfl).trans (rfl : h v2 1 = h v2 1)))))
              have ce103 : h85 v2 3 = h v2 3 := ((my_fr.at frh85 tv2 rfl).trans ((my_fr.at frh66 tv2 rfl).trans ((my_fr.at frh37 tv2 rfl).trans ((my_fr.at frh11 tv2 rfl).trans (rfl : h v2 3 = h v2 3)))))
              have ce104 : h85 v2 4 = h v2 4 := ((my_fr.at frh85 tv2 rfl).trans ((my_fr.at frh66 tv2 rfl).trans ((my_fr.at frh37 tv2 rfl).trans ((my_fr.at frh11 tv2 rfl).trans (rfl : h v2 4 = h v2 4)))))
              have ce105 : h85 v2 9 = h v2 9 := ((my_fr.at frh85 tv2 rfl).trans ((my_fr.at frh66 tv2 rfl).trans ((my_fr.at frh37 tv2 rfl).trans ((my_fr.at frh11 tv2 rfl).trans (rfl : h v2 9 = h v2 9)))))
              have sE : v2 = h 82 2 := by first | assumption | omega
              have eS1 : h85 v2 1 = h v2 1 := by omega
              have eS3 : h85 v2 3 = h v2 3 := by omega
              have eS4 : h85 v2 4 = h v2 4 := by omega
              have eS9 : h85 v2 9 = h v2 9 := by omega
              refine w_inv (k := 0) (as := [(0, v62), (0, v12)]) (r := []) (x := v2) (ls0 := [(2, v2), (0, v12), (0, v62)]) gz_62_81 gm_63 rfl tv2 rd_4 rfl rfl rfl rfl rfl (c_Lens_addSum (d := (d + 4)) (x0 := v2) (x1 := v12) (x2 := v62) tv2 (by omega) (by omega) (by omega) (by omega) (by first | assumption | exact no_such_saying | exact Fp_told (by omega) (by omega) | omega | (subst_vars; omega) | omega) (fun h106 frh106 fxh106 w107 w108 w109 w110 xp111 => ?_))
              have gh106 : my_fr [(4, 4), (4, 5), (4, 7), (4, 8), (4, 9), (5, 5), (5, 6), (5, 7), (5, 8), (5, 9), (32, -1), (33, -1), (34, -1), (35, -1), (37, -1)] h h106 := my_fr.tr gh85 (frh106.mo rfl)
              have Ln_h106 : Ln h106 := Ln_fx fxh106 (by first | assumption | omega) Ln_h85
              have Lo_h106 : Lo h h106 := Lo_fx fxh106 (by first | assumption | omega) Ln_h85 Lo_h85
              have Al_h106 : Al h106 := Al_ag (my_ag.fr frh106 rfl) Al_h85t89
              have Cu_h106 : Cu h106 := Cu_ag (my_ag.fr frh106 rfl) Cu_h85t90
              show wp l rho (d + 6) 62 84 [(2, 82), (0, v12), (0, v62)] [] h106 Q
              have Sp_h106t112 : Sp h106 wv := Sp_add fxh106 (by first | assumption | omega) hwv Ln_h85 Sp_h85 xp111 (by have := St5_h85.1; omega) (by omega) (by omega)
              have ce113 : h106 82 2 = v2 := ((my_fr.at frh106 is_82 rfl).trans ((my_fr.at frh85 is_82 rfl).trans ((my_fr.at frh66 is_82 rfl).trans ((my_fr.at frh37 is_82 rfl).trans ((my_fr.at frh11 is_82 rfl).trans ev2.symm)))))
              have std := Std_add xp111 sE (by omega) eS3 eS4 eS9 eS1
              have psR : h106 82 7 = (sN (cs h) (((sN (cs h) (((sN (cs h) (((sN (cs h) (h 82 7))))))))))) := ((my_fr.at frh106 is_82 rfl).trans xp87)
              have npsR : cs h106 = cs h := cs_eq (fun j => my_fr.at gh106 is_92 rfl) (my_fr.at gh106 is_82 rfl)
              have c114 := ((my_fr.at frh106 is_82 rfl).trans w86)
              exact w_vret gz_62_84 gm_62 (k1 h106 (gh106) (by omega) (by first | exact Lo_h106 | exact std | (unfold sumR; simp only [rNum, rEnd, rWd]; omega) | omega) (by first | exact Lo_h106 | exact std | (unfold sumR; simp only [rNum, rEnd, rWd]; omega) | omega) (by first | exact Lo_h106 | exact std | (unfold sumR; simp only [rNum, rEnd, rWd]; omega) | omega) Ln_h106 Sp_h106t112 Al_h106 Cu_h106)
          ·
            refine w_aload_n gz_62_51 rfl ?_
            refine w_iconst gz_62_52 (by decide) ?_
            refine w_inv (k := 0) (as := [(0, 3)]) (r := []) (x := 82) (ls0 := [(2, 82), (0, 3)]) gz_62_53 gm_42 rfl is_82 rd_5 rfl rfl rfl rfl rfl ?_
            refine w_aload_n gz_42_0 rfl ?_
            refine v_getI (j := 9) gz_42_1 rfl is_82 rd_5 rfl (fun v115 ev115 pv115 qv115 => ?_)
            have zv115 := ev115.trans ev60.symm
            refine w_ifne (t := 20) gz_42_4 rfl (fun u116 => by exfalso; omega) (fun u116 => ?_)
            refine w_aload_n gz_42_7 rfl ?_
            refine w_iload_n gz_42_8 rfl ?_
            refine w_bipush gz_42_9 (by decide) ?_
            refine w_aload_n gz_42_11 rfl ?_
            refine v_getI (j := 7) gz_42_12 rfl is_82 rd_5 rfl (fun v117 ev117 pv117 qv117 => ?_)
            refine w_imul gz_42_15 ⟨by omega, by omega⟩ ?_
            refine w_iadd gz_42_16 ⟨by omega, by omega⟩ ?_
            refine v_putI (j := 9) gz_42_17 rfl is_82 rd_5 rfl (by omega) (by omega) rfl (fun h118 fh118 => ?_)
            have gh118 : my_fr [(4, 4), (4, 5), (4, 7), (4, 8), (4, 9), (5, 5), (5, 6), (5, 7), (5, 8), (5, 9), (32, -1), (33, -1), (34, -1), (35, -1), (37, -1)] h h118 := my_fr.up gh37 is_82 fh118 rfl
            have Ln_h118 : Ln h118 := Ln_ag (my_ag.up fh118 is_82 rfl) Ln_h37
            have Sp_h118 : Sp h118 wv := Sp_ag (my_ag.up fh118 is_82 rfl) hwv Ln_h37 Sp_h37
            have St5_h118 : St5 h118 := St5_ag (my_ag.up fh118 is_82 rfl) Ln_h37 St5_h37
            have Lo_h118 : Lo h h118 := Lo_ag (my_ag.up fh118 is_82 rfl) Ln_h37 Lo_h37
            have Al_h118 : Al h118 := Al_ag (my_ag.up fh118 is_82 rfl) Al_h37t41
            have Cu_h118 : Cu h118 := Cu_ag (my_ag.up fh118 is_82 rfl) Cu_h37t42
            refine w_vret gz_42_20 gm_42 ?_
            show wp l rho (d + 6) 62 56 [(2, 82), (0, v12), (0, v62)] [] h118 Q
            refine w_goto (t := 84) gz_62_56 rfl ?_
            have psR : h118 82 7 = (sN (cs h) (((sN (cs h) (h 82 7))))) := ((my_up_fld fh118 (by decide)).trans xp39)
            have npsR : cs h118 = cs h := cs_eq (fun j => my_fr.at gh118 is_92 rfl) (my_fr.at gh118 is_82 rfl)
            have c119 := (my_up_self fh118)
            exact w_vret gz_62_84 gm_62 (k0 h118 (gh118) (by omega) (by omega) (by first | exact Lo_h118 | exact std | (unfold sumR; simp only [rNum, rEnd, rWd]; omega) | omega) (by first | exact Lo_h118 | exact std | (unfold sumR; simp only [rNum, rEnd, rWd]; omega) | omega) Ln_h118 Sp_h118 Al_h118 Cu_h118)
        ·
          refine w_aload_n gz_44_23 rfl ?_
          refine w_iconst gz_44_24 (by decide) ?_
          refine w_inv (k := 0) (as := [(0, 4)]) (r := []) (x := 82) (ls0 := [(2, 82), (0, 4)]) gz_44_25 gm_42 rfl is_82 rd_5 rfl rfl rfl rfl rfl ?_
          refine w_aload_n gz_42_0 rfl ?_
          refine v_getI (j := 9) gz_42_1 rfl is_82 rd_5 rfl (fun v120 ev120 pv120 qv120 => ?_)
          have zv120 := ev120.trans w38
          refine w_ifne (t := 20) gz_42_4 rfl (fun u121 => by exfalso; omega) (fun u121 => ?_)
          refine w_aload_n gz_42_7 rfl ?_
          refine w_iload_n gz_42_8 rfl ?_
          refine w_bipush gz_42_9 (by decide) ?_
          refine w_aload_n gz_42_11 rfl ?_
          refine v_getI (j := 7) gz_42_12 rfl is_82 rd_5 rfl (fun v122 ev122 pv122 qv122 => ?_)
          refine w_imul gz_42_15 ⟨by omega, by omega⟩ ?_
          refine w_iadd gz_42_16 ⟨by omega, by omega⟩ ?_
          refine v_putI (j := 9) gz_42_17 rfl is_82 rd_5 rfl (by omega) (by omega) rfl (fun h123 fh123 => ?_)
          have gh123 : my_fr [(4, 4), (4, 5), (4, 7), (4, 8), (4, 9), (5, 5), (5, 6), (5, 7), (5, 8), (5, 9), (32, -1), (33, -1), (34, -1), (35, -1), (37, -1)] h h123 := my_fr.up gh37 is_82 fh123 rfl
          have Ln_h123 : Ln h123 := Ln_ag (my_ag.up fh123 is_82 rfl) Ln_h37
          have Sp_h123 : Sp h123 wv := Sp_ag (my_ag.up fh123 is_82 rfl) hwv Ln_h37 Sp_h37
          have St5_h123 : St5 h123 := St5_ag (my_ag.up fh123 is_82 rfl) Ln_h37 St5_h37
          have Lo_h123 : Lo h h123 := Lo_ag (my_ag.up fh123 is_82 rfl) Ln_h37 Lo_h37
          have Al_h123 : Al h123 := Al_ag (my_ag.up fh123 is_82 rfl) Al_h37t41
          have Cu_h123 : Cu h123 := Cu_ag (my_ag.up fh123 is_82 rfl) Cu_h37t42
          refine w_vret gz_42_20 gm_42 ?_
          show wp l rho (d + 5) 44 28 [(2, 82), (0, v55)] [] h123 _
          refine w_iconst gz_44_28 (by decide) ?_
          refine w_iret gz_44_29 gm_44 ?_
          show wp l rho (d + 6) 62 40 [(2, 82), (0, v12), (9, 0)] [(0, (-1))] h123 Q
          refine w_istore_n (ls' := [(2, 82), (0, v12), (0, (-1))]) gz_62_40 gm_62 rfl rfl rfl ?_
          refine w_iload_n gz_62_41 rfl ?_
          refine w_iconst gz_62_42 (by decide) ?_
          refine w_iceq (t := 59) gz_62_43 rfl (fun u124 => ?_) (fun u124 => by exfalso; omega)
          refine w_iload_n gz_62_59 rfl ?_
          refine w_iconst gz_62_60 (by decide) ?_
          refine w_iceq (t := 84) gz_62_61 rfl (fun u125 => ?_) (fun u125 => by exfalso; omega)
          have psR : h123 82 7 = (sN (cs h) (((sN (cs h) (h 82 7))))) := ((my_up_fld fh123 (by decide)).trans xp39)
          have npsR : cs h123 = cs h := cs_eq (fun j => my_fr.at gh123 is_92 rfl) (my_fr.at gh123 is_82 rfl)
          have c126 := (my_up_self fh123)
          exact w_vret gz_62_84 gm_62 (k0 h123 (gh123) (by omega) (by omega) (by first | exact Lo_h123 | exact std | (unfold sumR; simp only [rNum, rEnd, rWd]; omega) | omega) (by first | exact Lo_h123 | exact std | (unfold sumR; simp only [rNum, rEnd, rWd]; omega) | omega) Ln_h123 Sp_h123 Al_h123 Cu_h123)
      ·
        refine w_aload_n gz_44_8 rfl ?_
        refine w_iconst gz_44_9 (by decide) ?_
        refine w_inv (k := 0) (as := [(0, 1)]) (r := []) (x := 82) (ls0 := [(2, 82), (0, 1)]) gz_44_10 gm_42 rfl is_82 rd_5 rfl rfl rfl rfl rfl ?_
        refine w_aload_n gz_42_0 rfl ?_
        refine v_getI (j := 9) gz_42_1 rfl is_82 rd_5 rfl (fun v127 ev127 pv127 qv127 => ?_)
        have zv127 := ev127.trans w38
        refine w_ifne (t := 20) gz_42_4 rfl (fun u128 => by exfalso; omega) (fun u128 => ?_)
        refine w_aload_n gz_42_7 rfl ?_
        refine w_iload_n gz_42_8 rfl ?_
        refine w_bipush gz_42_9 (by decide) ?_
        refine w_aload_n gz_42_11 rfl ?_
        refine v_getI (j := 7) gz_42_12 rfl is_82 rd_5 rfl (fun v129 ev129 pv129 qv129 => ?_)
        refine w_imul gz_42_15 ⟨by omega, by omega⟩ ?_
        refine w_iadd gz_42_16 ⟨by omega, by omega⟩ ?_
        refine v_putI (j := 9) gz_42_17 rfl is_82 rd_5 rfl (by omega) (by omega) rfl (fun h130 fh130 => ?_)
        have gh130 : my_fr [(4, 4), (4, 5), (4, 7), (4, 8), (4, 9), (5, 5), (5, 6), (5, 7), (5, 8), (5, 9), (32, -1), (33, -1), (34, -1), (35, -1), (37, -1)] h h130 := my_fr.up gh37 is_82 fh130 rfl
        have Ln_h130 : Ln h130 := Ln_ag (my_ag.up fh130 is_82 rfl) Ln_h37
        have Sp_h130 : Sp h130 wv := Sp_ag (my_ag.up fh130 is_82 rfl) hwv Ln_h37 Sp_h37
        have St5_h130 : St5 h130 := St5_ag (my_ag.up fh130 is_82 rfl) Ln_h37 St5_h37
        have Lo_h130 : Lo h h130 := Lo_ag (my_ag.up fh130 is_82 rfl) Ln_h37 Lo_h37
        have Al_h130 : Al h130 := Al_ag (my_ag.up fh130 is_82 rfl) Al_h37t41
        have Cu_h130 : Cu h130 := Cu_ag (my_ag.up fh130 is_82 rfl) Cu_h37t42
        refine w_vret gz_42_20 gm_42 ?_
        show wp l rho (d + 5) 44 13 [(2, 82), (0, v55)] [] h130 _
        refine w_iconst gz_44_13 (by decide) ?_
        refine w_iret gz_44_14 gm_44 ?_
        show wp l rho (d + 6) 62 40 [(2, 82), (0, v12), (9, 0)] [(0, (-1))] h130 Q
        refine w_istore_n (ls' := [(2, 82), (0, v12), (0, (-1))]) gz_62_40 gm_62 rfl rfl rfl ?_
        refine w_iload_n gz_62_41 rfl ?_
        refine w_iconst gz_62_42 (by decide) ?_
        refine w_iceq (t := 59) gz_62_43 rfl (fun u131 => ?_) (fun u131 => by exfalso; omega)
        refine w_iload_n gz_62_59 rfl ?_
        refine w_iconst gz_62_60 (by decide) ?_
        refine w_iceq (t := 84) gz_62_61 rfl (fun u132 => ?_) (fun u132 => by exfalso; omega)
        have psR : h130 82 7 = (sN (cs h) (((sN (cs h) (h 82 7))))) := ((my_up_fld fh130 (by decide)).trans xp39)
        have npsR : cs h130 = cs h := cs_eq (fun j => my_fr.at gh130 is_92 rfl) (my_fr.at gh130 is_82 rfl)
        have c133 := (my_up_self fh130)
        exact w_vret gz_62_84 gm_62 (k0 h130 (gh130) (by omega) (by omega) (by first | exact Lo_h130 | exact std | (unfold sumR; simp only [rNum, rEnd, rWd]; omega) | omega) (by first | exact Lo_h130 | exact std | (unfold sumR; simp only [rNum, rEnd, rWd]; omega) | omega) Ln_h130 Sp_h130 Al_h130 Cu_h130)
end MYNReader_readCut9_f0
