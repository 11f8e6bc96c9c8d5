/-! contracts, printed by wip/gen/gy.py -/
section MYNReader_readCut9_f0
theorem c_Reader_readCut9_f0 {l : Launch} {rho : Nat → Int32} {d : Nat} {h : my_H} {Q : my_H → my_V → Prop} {wv : Int} (cf : h 82 9 = 0) (hwv : wv ≤ 5) (hwv0 : 0 ≤ wv) (n_Ln : Ln h) (n_Sp : Sp h wv) (n_St5 : St5 h) (n_Al : Al h) (n_Cu : Cu h) (k0 : ∀ (h' : my_H), my_fr [(4, 5), (4, 8), (4, 9), (5, 5), (5, 6), (5, 7), (5, 8), (5, 9), (32, -1), (33, -1), (34, -1), (35, -1)] h h' → 1 ≤ h' 82 9 → h' 82 9 ≤ 16004 → cutR (cs h) (h 82 7) (h (h 82 2) 4) (h' 82 9) (h' 82 7) → Ln h' → Sp h' wv → Al h' → Cu h' → Q h' (9, 0)) (k1 : ∀ (h' : my_H), my_fr [(4, 5), (4, 8), (4, 9), (5, 5), (5, 6), (5, 7), (5, 8), (5, 9), (32, -1), (33, -1), (34, -1), (35, -1)] h h' → h' 82 9 = 0 → cutR (cs h) (h 82 7) (h (h 82 2) 4) (h' 82 9) (h' 82 7) → Std h h' (h (h 82 2) 4) (h (h 82 2) 9 + 1) → Ln h' → Sp h' wv → Al h' → Cu h' → Q h' (9, 0)) : wp l rho (d + 5) 52 0 [(2, 82), (9, 0), (9, 0), (9, 0)] [] h Q := by
  have ck1 := Cu_s n_Cu
  refine w_aload_n gz_52_0 rfl ?_
  refine w_aload_n gz_52_1 rfl ?_
  refine v_getR (j := 2) gz_52_2 rfl is_82 rd_5 rfl (fun v2 ev2 tv2 => ?_)
  have ce3 : h 82 2 = v2 := ev2.symm
  have sE8 : v2 = h 82 2 := by first | assumption | omega
  refine v_getI (j := 4) gz_52_5 rfl tv2 rd_4 rfl (fun v4 ev4 pv4 qv4 => ?_)
  have c8 : v4 = h (h 82 2) 4 := by rw [← sE8]; omega
  refine w_inv (k := 1) (as := [(0, v4)]) (r := []) (x := 82) (ls0 := [(2, 82), (0, v4), (9, 0)]) gz_52_8 gm_51 rfl is_82 rd_5 rfl rfl rfl rfl rfl (c_Reader_takeNumber9_f0 (d := (d + 2)) (x1 := v4) (by omega) (by omega) (cf.trans (by omega)) n_Al n_Cu (fun h5 frh5 w6 w7 xp8 Al_h5t9 Cu_h5t10 => ?_) (fun h11 v12 frh11 w13 w14 w15 w16 w17 xp18 xp19 xp20 Al_h11t21 Cu_h11t22 => ?_))
  ·
    have gh5 : my_fr [(4, 5), (4, 8), (4, 9), (5, 5), (5, 6), (5, 7), (5, 8), (5, 9), (32, -1), (33, -1), (34, -1), (35, -1)] h h5 := my_fr.tr my_fr.rf (frh5.mo rfl)
    have Ln_h5 : Ln h5 := Ln_ag (my_ag.fr frh5 rfl) n_Ln
    have Sp_h5 : Sp h5 wv := Sp_ag (my_ag.fr frh5 rfl) hwv n_Ln n_Sp
    have St5_h5 : St5 h5 := St5_ag (my_ag.fr frh5 rfl) n_Ln n_St5
    show wp l rho (d + 5) 52 11 [(2, 82), (9, 0), (9, 0), (9, 0)] [(0, (-1))] h5 Q
    refine w_istore_n (ls' := [(2, 82), (0, (-1)), (9, 0), (9, 0)]) gz_52_11 gm_52 rfl rfl rfl ?_
    refine w_aload_n gz_52_12 rfl ?_
    refine w_ldcS gz_52_13 (by decide) ?_
    refine w_inv (k := 1) (as := [(3, ((9 : Nat) : Int))]) (r := []) (x := 82) (ls0 := [(2, 82), (3, ((9 : Nat) : Int)), (9, 0)]) gz_52_15 gm_41 rfl is_82 rd_5 rfl rfl rfl rfl rfl (c_Reader_isWord9_f1 (d := d) (x1 := ((9 : Nat) : Int)) (by decide) ((h5 82 9)) ((rfl : h5 82 9 = h5 82 9)) (by omega) (by omega) Cu_h5t10 (fun w23 w24 xp25 => ?_) (fun w26 w27 w28 xp29 => ?_))
    ·
      show wp l rho (d + 5) 52 18 [(2, 82), (0, (-1)), (9, 0), (9, 0)] [(0, 0)] h5 Q
      rw [show wc ((9 : Nat) : Int) = 615403 from by decide] at xp25
      have tE30 : cs h5 = cs h := cs_eq (fun j => my_fr.at gh5 is_92 rfl) (my_fr.at gh5 is_82 rfl)
      rw [tE30] at xp25
      refine w_ifeq (t := 25) gz_52_18 rfl (fun u31 => ?_) (fun u31 => by exfalso; omega)
      refine w_aload_n gz_52_25 rfl ?_
      refine w_ldcS gz_52_26 (by decide) ?_
      refine w_inv (k := 1) (as := [(3, ((10 : Nat) : Int))]) (r := []) (x := 82) (ls0 := [(2, 82), (3, ((10 : Nat) : Int)), (9, 0)]) gz_52_28 gm_41 rfl is_82 rd_5 rfl rfl rfl rfl rfl (c_Reader_isWord9_f1 (d := d) (x1 := ((10 : Nat) : Int)) (by decide) ((h5 82 9)) ((rfl : h5 82 9 = h5 82 9)) (by omega) (by omega) Cu_h5t10 (fun w32 w33 xp34 => ?_) (fun w35 w36 w37 xp38 => ?_))
      ·
        show wp l rho (d + 5) 52 31 [(2, 82), (0, (-1)), (9, 0), (9, 0)] [(0, 0)] h5 Q
        rw [show wc ((10 : Nat) : Int) = 352 from by decide] at xp34
        have tE39 : cs h5 = cs h := cs_eq (fun j => my_fr.at gh5 is_92 rfl) (my_fr.at gh5 is_82 rfl)
        rw [tE39] at xp34
        refine w_ifeq (t := 38) gz_52_31 rfl (fun u40 => ?_) (fun u40 => by exfalso; omega)
        refine w_aload_n gz_52_38 rfl ?_
        refine w_ldcS gz_52_39 (by decide) ?_
        refine w_inv (k := 1) (as := [(3, ((11 : Nat) : Int))]) (r := []) (x := 82) (ls0 := [(2, 82), (3, ((11 : Nat) : Int)), (9, 0)]) gz_52_41 gm_41 rfl is_82 rd_5 rfl rfl rfl rfl rfl (c_Reader_isWord9_f1 (d := d) (x1 := ((11 : Nat) : Int)) (by decide) ((h5 82 9)) ((rfl : h5 82 9 = h5 82 9)) (by omega) (by omega) Cu_h5t10 (fun w41 w42 xp43 => ?_) (fun w44 w45 w46 xp47 => ?_))
        ·
          show wp l rho (d + 5) 52 44 [(2, 82), (0, (-1)), (9, 0), (9, 0)] [(0, 0)] h5 Q
          rw [show wc ((11 : Nat) : Int) = 679695 from by decide] at xp43
          have tE48 : cs h5 = cs h := cs_eq (fun j => my_fr.at gh5 is_92 rfl) (my_fr.at gh5 is_82 rfl)
          rw [tE48] at xp43
          refine w_ifeq (t := 51) gz_52_44 rfl (fun u49 => ?_) (fun u49 => by exfalso; omega)
          refine w_iconst gz_52_51 (by decide) ?_
          refine w_istore_n (ls' := [(2, 82), (0, (-1)), (0, (-1)), (9, 0)]) gz_52_52 gm_52 rfl rfl rfl ?_
          refine w_iload_n gz_52_53 rfl ?_
          refine w_iconst gz_52_54 (by decide) ?_
          refine w_icne (t := 66) gz_52_55 rfl (fun u50 => by exfalso; omega) (fun u50 => ?_)
          refine w_aload_n gz_52_58 rfl ?_
          refine w_iconst gz_52_59 (by decide) ?_
          refine w_inv (k := 0) (as := [(0, 1)]) (r := []) (x := 82) (ls0 := [(2, 82), (0, 1)]) gz_52_60 gm_42 rfl is_82 rd_5 rfl rfl rfl rfl rfl ?_
          refine w_aload_n gz_42_0 rfl ?_
          refine v_getI (j := 9) gz_42_1 rfl is_82 rd_5 rfl (fun v51 ev51 pv51 qv51 => ?_)
          have zv51 := ev51.trans (rfl : h5 82 9 = h5 82 9)
          refine w_ifne (t := 20) gz_42_4 rfl (fun u52 => ?_) (fun u52 => by exfalso; omega)
          refine w_vret gz_42_20 gm_42 ?_
          show wp l rho (d + 5) 52 63 [(2, 82), (0, (-1)), (0, (-1)), (9, 0)] [] h5 Q
          refine w_goto (t := 70) gz_52_63 rfl ?_
          refine w_aload_n gz_52_70 rfl ?_
          refine w_sipush gz_52_71 (by decide) ?_
          refine w_inv (k := 1) (as := [(0, 200)]) (r := []) (x := 82) (ls0 := [(2, 82), (0, 200), (9, 0)]) gz_52_74 gm_51 rfl is_82 rd_5 rfl rfl rfl rfl rfl (c_Reader_takeNumber9_f1 (d := (d + 2)) (x1 := 200) (by omega) (by omega) (v51) (ev51.symm) (by omega) (by omega) Al_h5t9 Cu_h5t10 (fun w53 w54 Al_h5t55 Cu_h5t56 => ?_))
          show wp l rho (d + 5) 52 77 [(2, 82), (0, (-1)), (0, (-1)), (9, 0)] [(0, (-1))] h5 Q
          refine w_istore_n (ls' := [(2, 82), (0, (-1)), (0, (-1)), (0, (-1))]) gz_52_77 gm_52 rfl rfl rfl ?_
          refine w_aload_n gz_52_78 rfl ?_
          refine v_getI (j := 9) gz_52_79 rfl is_82 rd_5 rfl (fun v57 ev57 pv57 qv57 => ?_)
          have zv57 := ev57.trans ev51.symm
          refine w_ifne (t := 102) gz_52_82 rfl (fun u58 => ?_) (fun u58 => by exfalso; omega)
          have psR : h5 82 7 = h5 82 7 := (rfl : h5 82 7 = h5 82 7)
          have npsR : cs h5 = cs h := cs_eq (fun j => my_fr.at gh5 is_92 rfl) (my_fr.at gh5 is_82 rfl)
          have c59 := ev57.symm
          exact w_vret gz_52_102 gm_52 (k0 h5 (gh5) (by omega) (by omega) (by first | exact std | (unfold cutR; first | exact Or.inr (Or.inr ⟨by omega, by omega, Or.inr ⟨by omega, Or.inr (Or.inr ⟨by omega, by omega, Or.inr ⟨by omega, by omega, by omega⟩⟩)⟩⟩) | exact Or.inr (Or.inr ⟨by omega, by omega, Or.inr ⟨by omega, Or.inr (Or.inr ⟨by omega, by omega, Or.inl ⟨by omega, by omega⟩⟩)⟩⟩) | exact Or.inr (Or.inr ⟨by omega, by omega, Or.inr ⟨by omega, or_assoc.mp (Or.inl (by omega))⟩⟩) | exact Or.inr (Or.inr ⟨by omega, by omega, Or.inl ⟨by omega, by omega, by omega, by omega⟩⟩) | exact or_assoc.mp (Or.inl (by omega))) | omega) Ln_h5 Sp_h5 Al_h5t55 Cu_h5t56)
        ·
          show wp l rho (d + 5) 52 44 [(2, 82), (0, (-1)), (9, 0), (9, 0)] [(0, 1)] h5 Q
          rw [show wc ((11 : Nat) : Int) = 679695 from by decide] at xp47
          have tE60 : cs h5 = cs h := cs_eq (fun j => my_fr.at gh5 is_92 rfl) (my_fr.at gh5 is_82 rfl)
          rw [tE60] at xp47
          refine w_ifeq (t := 51) gz_52_44 rfl (fun u61 => by exfalso; omega) (fun u61 => ?_)
          refine w_iconst gz_52_47 (by decide) ?_
          refine w_goto (t := 52) gz_52_48 rfl ?_
          refine w_istore_n (ls' := [(2, 82), (0, (-1)), (0, 2), (9, 0)]) gz_52_52 gm_52 rfl rfl rfl ?_
          refine w_iload_n gz_52_53 rfl ?_
          refine w_iconst gz_52_54 (by decide) ?_
          refine w_icne (t := 66) gz_52_55 rfl (fun u62 => ?_) (fun u62 => by exfalso; omega)
          refine w_aload_n gz_52_66 rfl ?_
          refine w_inv (k := 2) (as := []) (r := []) (x := 82) (ls0 := [(2, 82), (9, 0), (9, 0)]) gz_52_67 gm_37 rfl is_82 rd_5 rfl rfl rfl rfl rfl (c_Reader_nextToken9_f1 (d := (d + 3))  ((h5 82 9)) ((rfl : h5 82 9 = h5 82 9)) (by omega) (by omega) Al_h5t9 (fun h63 frh63 w64 w65 w66 w67 xp68 xp69 Al_h63t70 Cu_h63t71 => ?_))
          have gh63 : my_fr [(4, 5), (4, 8), (4, 9), (5, 5), (5, 6), (5, 7), (5, 8), (5, 9), (32, -1), (33, -1), (34, -1), (35, -1)] h h63 := my_fr.tr gh5 (frh63.mo rfl)
          have Ln_h63 : Ln h63 := Ln_ag (my_ag.fr frh63 rfl) Ln_h5
          have Sp_h63 : Sp h63 wv := Sp_ag (my_ag.fr frh63 rfl) hwv Ln_h5 Sp_h5
          have St5_h63 : St5 h63 := St5_ag (my_ag.fr frh63 rfl) Ln_h5 St5_h5
          show wp l rho (d + 5) 52 70 [(2, 82), (0, (-1)), (0, 2), (9, 0)] [] h63 Q
          have xc72 := xp68 Cu_h5t10
          have tE73 : cs h5 = cs h := cs_eq (fun j => my_fr.at gh5 is_92 rfl) (my_fr.at gh5 is_82 rfl)
          rw [tE73] at xc72
          have ck74 := Cu_s Cu_h63t71
          rw [show cs h63 = cs h from cs_eq (fun j => my_fr.at gh63 is_92 rfl) (my_fr.at gh63 is_82 rfl)] at ck74
          rw [show h63 82 7 = (sN (cs h) (h5 82 7)) from xc72] at ck74
          refine w_aload_n gz_52_70 rfl ?_
          refine w_sipush gz_52_71 (by decide) ?_
          refine w_inv (k := 1) (as := [(0, 200)]) (r := []) (x := 82) (ls0 := [(2, 82), (0, 200), (9, 0)]) gz_52_74 gm_51 rfl is_82 rd_5 rfl rfl rfl rfl rfl (c_Reader_takeNumber9_f1 (d := (d + 2)) (x1 := 200) (by omega) (by omega) ((h5 82 9)) (((my_fr.at frh63 is_82 rfl).trans (rfl : h5 82 9 = h5 82 9))) (by omega) (by omega) Al_h63t70 Cu_h63t71 (fun w75 w76 Al_h63t77 Cu_h63t78 => ?_))
          show wp l rho (d + 5) 52 77 [(2, 82), (0, (-1)), (0, 2), (9, 0)] [(0, (-1))] h63 Q
          refine w_istore_n (ls' := [(2, 82), (0, (-1)), (0, 2), (0, (-1))]) gz_52_77 gm_52 rfl rfl rfl ?_
          refine w_aload_n gz_52_78 rfl ?_
          refine v_getI (j := 9) gz_52_79 rfl is_82 rd_5 rfl (fun v79 ev79 pv79 qv79 => ?_)
          have zv79 := ev79.trans ((my_fr.at frh63 is_82 rfl).trans (rfl : h5 82 9 = h5 82 9))
          refine w_ifne (t := 102) gz_52_82 rfl (fun u80 => ?_) (fun u80 => by exfalso; omega)
          have psR : h63 82 7 = (sN (cs h) (h5 82 7)) := xc72
          have npsR : cs h63 = cs h := cs_eq (fun j => my_fr.at gh63 is_92 rfl) (my_fr.at gh63 is_82 rfl)
          have c81 := ev79.symm
          exact w_vret gz_52_102 gm_52 (k0 h63 (gh63) (by omega) (by omega) (by first | exact std | (unfold cutR; first | exact Or.inr (Or.inr ⟨by omega, by omega, Or.inr ⟨by omega, Or.inr (Or.inr ⟨by omega, by omega, Or.inr ⟨by omega, by omega, by omega⟩⟩)⟩⟩) | exact Or.inr (Or.inr ⟨by omega, by omega, Or.inr ⟨by omega, Or.inr (Or.inr ⟨by omega, by omega, Or.inl ⟨by omega, by omega⟩⟩)⟩⟩) | exact Or.inr (Or.inr ⟨by omega, by omega, Or.inr ⟨by omega, or_assoc.mp (Or.inl (by omega))⟩⟩) | exact Or.inr (Or.inr ⟨by omega, by omega, Or.inl ⟨by omega, by omega, by omega, by omega⟩⟩) | exact or_assoc.mp (Or.inl (by omega))) | omega) Ln_h63 Sp_h63 Al_h63t77 Cu_h63t78)
      ·
        show wp l rho (d + 5) 52 31 [(2, 82), (0, (-1)), (9, 0), (9, 0)] [(0, 1)] h5 Q
        rw [show wc ((10 : Nat) : Int) = 352 from by decide] at xp38
        have tE82 : cs h5 = cs h := cs_eq (fun j => my_fr.at gh5 is_92 rfl) (my_fr.at gh5 is_82 rfl)
        rw [tE82] at xp38
        refine w_ifeq (t := 38) gz_52_31 rfl (fun u83 => by exfalso; omega) (fun u83 => ?_)
        refine w_iconst gz_52_34 (by decide) ?_
        refine w_goto (t := 52) gz_52_35 rfl ?_
        refine w_istore_n (ls' := [(2, 82), (0, (-1)), (0, 1), (9, 0)]) gz_52_52 gm_52 rfl rfl rfl ?_
        refine w_iload_n gz_52_53 rfl ?_
        refine w_iconst gz_52_54 (by decide) ?_
        refine w_icne (t := 66) gz_52_55 rfl (fun u84 => ?_) (fun u84 => by exfalso; omega)
        refine w_aload_n gz_52_66 rfl ?_
        refine w_inv (k := 2) (as := []) (r := []) (x := 82) (ls0 := [(2, 82), (9, 0), (9, 0)]) gz_52_67 gm_37 rfl is_82 rd_5 rfl rfl rfl rfl rfl (c_Reader_nextToken9_f1 (d := (d + 3))  ((h5 82 9)) ((rfl : h5 82 9 = h5 82 9)) (by omega) (by omega) Al_h5t9 (fun h85 frh85 w86 w87 w88 w89 xp90 xp91 Al_h85t92 Cu_h85t93 => ?_))
        have gh85 : my_fr [(4, 5), (4, 8), (4, 9), (5, 5), (5, 6), (5, 7), (5, 8), (5, 9), (32, -1), (33, -1), (34, -1), (35, -1)] h h85 := my_fr.tr gh5 (frh85.mo rfl)
        have Ln_h85 : Ln h85 := Ln_ag (my_ag.fr frh85 rfl) Ln_h5
        have Sp_h85 : Sp h85 wv := Sp_ag (my_ag.fr frh85 rfl) hwv Ln_h5 Sp_h5
        have St5_h85 : St5 h85 := St5_ag (my_ag.fr frh85 rfl) Ln_h5 St5_h5
        show wp l rho (d + 5) 52 70 [(2, 82), (0, (-1)), (0, 1), (9, 0)] [] h85 Q
        have xc94 := xp90 Cu_h5t10
        have tE95 : cs h5 = cs h := cs_eq (fun j => my_fr.at gh5 is_92 rfl) (my_fr.at gh5 is_82 rfl)
        rw [tE95] at xc94
        have ck96 := Cu_s Cu_h85t93
        rw [show cs h85 = cs h from cs_eq (fun j => my_fr.at gh85 is_92 rfl) (my_fr.at gh85 is_82 rfl)] at ck96
        rw [show h85 82 7 = (sN (cs h) (h5 82 7)) from xc94] at ck96
        refine w_aload_n gz_52_70 rfl ?_
        refine w_sipush gz_52_71 (by decide) ?_
        refine w_inv (k := 1) (as := [(0, 200)]) (r := []) (x := 82) (ls0 := [(2, 82), (0, 200), (9, 0)]) gz_52_74 gm_51 rfl is_82 rd_5 rfl rfl rfl rfl rfl (c_Reader_takeNumber9_f1 (d := (d + 2)) (x1 := 200) (by omega) (by omega) ((h5 82 9)) (((my_fr.at frh85 is_82 rfl).trans (rfl : h5 82 9 = h5 82 9))) (by omega) (by omega) Al_h85t92 Cu_h85t93 (fun w97 w98 Al_h85t99 Cu_h85t100 => ?_))
        show wp l rho (d + 5) 52 77 [(2, 82), (0, (-1)), (0, 1), (9, 0)] [(0, (-1))] h85 Q
        refine w_istore_n (ls' := [(2, 82), (0, (-1)), (0, 1), (0, (-1))]) gz_52_77 gm_52 rfl rfl rfl ?_
        refine w_aload_n gz_52_78 rfl ?_
        refine v_getI (j := 9) gz_52_79 rfl is_82 rd_5 rfl (fun v101 ev101 pv101 qv101 => ?_)
        have zv101 := ev101.trans ((my_fr.at frh85 is_82 rfl).trans (rfl : h5 82 9 = h5 82 9))
        refine w_ifne (t := 102) gz_52_82 rfl (fun u102 => ?_) (fun u102 => by exfalso; omega)
        have psR : h85 82 7 = (sN (cs h) (h5 82 7)) := xc94
        have npsR : cs h85 = cs h := cs_eq (fun j => my_fr.at gh85 is_92 rfl) (my_fr.at gh85 is_82 rfl)
        have c103 := ev101.symm
        exact w_vret gz_52_102 gm_52 (k0 h85 (gh85) (by omega) (by omega) (by first | exact std | (unfold cutR; first | exact Or.inr (Or.inr ⟨by omega, by omega, Or.inr ⟨by omega, Or.inr (Or.inr ⟨by omega, by omega, Or.inr ⟨by omega, by omega, by omega⟩⟩)⟩⟩) | exact Or.inr (Or.inr ⟨by omega, by omega, Or.inr ⟨by omega, Or.inr (Or.inr ⟨by omega, by omega, Or.inl ⟨by omega, by omega⟩⟩)⟩⟩) | exact Or.inr (Or.inr ⟨by omega, by omega, Or.inr ⟨by omega, or_assoc.mp (Or.inl (by omega))⟩⟩) | exact Or.inr (Or.inr ⟨by omega, by omega, Or.inl ⟨by omega, by omega, by omega, by omega⟩⟩) | exact or_assoc.mp (Or.inl (by omega))) | omega) Ln_h85 Sp_h85 Al_h85t99 Cu_h85t100)
    ·
      show wp l rho (d + 5) 52 18 [(2, 82), (0, (-1)), (9, 0), (9, 0)] [(0, 1)] h5 Q
      rw [show wc ((9 : Nat) : Int) = 615403 from by decide] at xp29
      have tE104 : cs h5 = cs h := cs_eq (fun j => my_fr.at gh5 is_92 rfl) (my_fr.at gh5 is_82 rfl)
      rw [tE104] at xp29
      refine w_ifeq (t := 25) gz_52_18 rfl (fun u105 => by exfalso; omega) (fun u105 => ?_)
      refine w_iconst gz_52_21 (by decide) ?_
      refine w_goto (t := 52) gz_52_22 rfl ?_
      refine w_istore_n (ls' := [(2, 82), (0, (-1)), (0, 0), (9, 0)]) gz_52_52 gm_52 rfl rfl rfl ?_
      refine w_iload_n gz_52_53 rfl ?_
      refine w_iconst gz_52_54 (by decide) ?_
      refine w_icne (t := 66) gz_52_55 rfl (fun u106 => ?_) (fun u106 => by exfalso; omega)
      refine w_aload_n gz_52_66 rfl ?_
      refine w_inv (k := 2) (as := []) (r := []) (x := 82) (ls0 := [(2, 82), (9, 0), (9, 0)]) gz_52_67 gm_37 rfl is_82 rd_5 rfl rfl rfl rfl rfl (c_Reader_nextToken9_f1 (d := (d + 3))  ((h5 82 9)) ((rfl : h5 82 9 = h5 82 9)) (by omega) (by omega) Al_h5t9 (fun h107 frh107 w108 w109 w110 w111 xp112 xp113 Al_h107t114 Cu_h107t115 => ?_))
      have gh107 : my_fr [(4, 5), (4, 8), (4, 9), (5, 5), (5, 6), (5, 7), (5, 8), (5, 9), (32, -1), (33, -1), (34, -1), (35, -1)] h h107 := my_fr.tr gh5 (frh107.mo rfl)
      have Ln_h107 : Ln h107 := Ln_ag (my_ag.fr frh107 rfl) Ln_h5
      have Sp_h107 : Sp h107 wv := Sp_ag (my_ag.fr frh107 rfl) hwv Ln_h5 Sp_h5
      have St5_h107 : St5 h107 := St5_ag (my_ag.fr frh107 rfl) Ln_h5 St5_h5
      show wp l rho (d + 5) 52 70 [(2, 82), (0, (-1)), (0, 0), (9, 0)] [] h107 Q
      have xc116 := xp112 Cu_h5t10
      have tE117 : cs h5 = cs h := cs_eq (fun j => my_fr.at gh5 is_92 rfl) (my_fr.at gh5 is_82 rfl)
      rw [tE117] at xc116
      have ck118 := Cu_s Cu_h107t115
      rw [show cs h107 = cs h from cs_eq (fun j => my_fr.at gh107 is_92 rfl) (my_fr.at gh107 is_82 rfl)] at ck118
      rw [show h107 82 7 = (sN (cs h) (h5 82 7)) from xc116] at ck118
      refine w_aload_n gz_52_70 rfl ?_
      refine w_sipush gz_52_71 (by decide) ?_
      refine w_inv (k := 1) (as := [(0, 200)]) (r := []) (x := 82) (ls0 := [(2, 82), (0, 200), (9, 0)]) gz_52_74 gm_51 rfl is_82 rd_5 rfl rfl rfl rfl rfl (c_Reader_takeNumber9_f1 (d := (d + 2)) (x1 := 200) (by omega) (by omega) ((h5 82 9)) (((my_fr.at frh107 is_82 rfl).trans (rfl : h5 82 9 = h5 82 9))) (by omega) (by omega) Al_h107t114 Cu_h107t115 (fun w119 w120 Al_h107t121 Cu_h107t122 => ?_))
      show wp l rho (d + 5) 52 77 [(2, 82), (0, (-1)), (0, 0), (9, 0)] [(0, (-1))] h107 Q
      refine w_istore_n (ls' := [(2, 82), (0, (-1)), (0, 0), (0, (-1))]) gz_52_77 gm_52 rfl rfl rfl ?_
      refine w_aload_n gz_52_78 rfl ?_
      refine v_getI (j := 9) gz_52_79 rfl is_82 rd_5 rfl (fun v123 ev123 pv123 qv123 => ?_)
      have zv123 := ev123.trans ((my_fr.at frh107 is_82 rfl).trans (rfl : h5 82 9 = h5 82 9))
      refine w_ifne (t := 102) gz_52_82 rfl (fun u124 => ?_) (fun u124 => by exfalso; omega)
      have psR : h107 82 7 = (sN (cs h) (h5 82 7)) := xc116
      have npsR : cs h107 = cs h := cs_eq (fun j => my_fr.at gh107 is_92 rfl) (my_fr.at gh107 is_82 rfl)
      have c125 := ev123.symm
      exact w_vret gz_52_102 gm_52 (k0 h107 (gh107) (by omega) (by omega) (by first | exact std | (unfold cutR; first | exact Or.inr (Or.inr ⟨by omega, by omega, Or.inr ⟨by omega, Or.inr (Or.inr ⟨by omega, by omega, Or.inr ⟨by omega, by omega, by omega⟩⟩)⟩⟩) | exact Or.inr (Or.inr ⟨by omega, by omega, Or.inr ⟨by omega, Or.inr (Or.inr ⟨by omega, by omega, Or.inl ⟨by omega, by omega⟩⟩)⟩⟩) | exact Or.inr (Or.inr ⟨by omega, by omega, Or.inr ⟨by omega, or_assoc.mp (Or.inl (by omega))⟩⟩) | exact Or.inr (Or.inr ⟨by omega, by omega, Or.inl ⟨by omega, by omega, by omega, by omega⟩⟩) | exact or_assoc.mp (Or.inl (by omega))) | omega) Ln_h107 Sp_h107 Al_h107t121 Cu_h107t122)
  ·
    have gh11 : my_fr [(4, 5), (4, 8), (4, 9), (5, 5), (5, 6), (5, 7), (5, 8), (5, 9), (32, -1), (33, -1), (34, -1), (35, -1)] h h11 := my_fr.tr my_fr.rf (frh11.mo rfl)
    have Ln_h11 : Ln h11 := Ln_ag (my_ag.fr frh11 rfl) n_Ln
    have Sp_h11 : Sp h11 wv := Sp_ag (my_ag.fr frh11 rfl) hwv n_Ln n_Sp
    have St5_h11 : St5 h11 := St5_ag (my_ag.fr frh11 rfl) n_Ln n_St5
    show wp l rho (d + 5) 52 11 [(2, 82), (9, 0), (9, 0), (9, 0)] [(0, v12)] h11 Q
    have ck126 := Cu_s Cu_h11t22
    rw [show cs h11 = cs h from cs_eq (fun j => my_fr.at gh11 is_92 rfl) (my_fr.at gh11 is_82 rfl)] at ck126
    rw [show h11 82 7 = (sN (cs h) (h 82 7)) from xp18] at ck126
    refine w_istore_n (ls' := [(2, 82), (0, v12), (9, 0), (9, 0)]) gz_52_11 gm_52 rfl rfl rfl ?_
    refine w_aload_n gz_52_12 rfl ?_
    refine w_ldcS gz_52_13 (by decide) ?_
    refine w_inv (k := 1) (as := [(3, ((9 : Nat) : Int))]) (r := []) (x := 82) (ls0 := [(2, 82), (3, ((9 : Nat) : Int)), (9, 0)]) gz_52_15 gm_41 rfl is_82 rd_5 rfl rfl rfl rfl rfl (c_Reader_isWord9_f0 (d := d) (x1 := ((9 : Nat) : Int)) (by decide) (w17.trans (by omega)) Cu_h11t22 (fun w127 xp128 => ?_) (fun w129 w130 xp131 => ?_))
    ·
      show wp l rho (d + 5) 52 18 [(2, 82), (0, v12), (9, 0), (9, 0)] [(0, 0)] h11 Q
      rw [show wc ((9 : Nat) : Int) = 615403 from by decide] at xp128
      have tE132 : cs h11 = cs h := cs_eq (fun j => my_fr.at gh11 is_92 rfl) (my_fr.at gh11 is_82 rfl)
      rw [tE132] at xp128
      have ps133 : h11 82 7 = (sN (cs h) (h 82 7)) := xp18
      rw [ps133] at xp128
      refine w_ifeq (t := 25) gz_52_18 rfl (fun u134 => ?_) (fun u134 => by exfalso; omega)
      refine w_aload_n gz_52_25 rfl ?_
      refine w_ldcS gz_52_26 (by decide) ?_
      refine w_inv (k := 1) (as := [(3, ((10 : Nat) : Int))]) (r := []) (x := 82) (ls0 := [(2, 82), (3, ((10 : Nat) : Int)), (9, 0)]) gz_52_28 gm_41 rfl is_82 rd_5 rfl rfl rfl rfl rfl (c_Reader_isWord9_f0 (d := d) (x1 := ((10 : Nat) : Int)) (by decide) (w17.trans (by omega)) Cu_h11t22 (fun w135 xp136 => ?_) (fun w137 w138 xp139 => ?_))
      ·
        show wp l rho (d + 5) 52 31 [(2, 82), (0, v12), (9, 0), (9, 0)] [(0, 0)] h11 Q
        rw [show wc ((10 : Nat) : Int) = 352 from by decide] at xp136
        have tE140 : cs h11 = cs h := cs_eq (fun j => my_fr.at gh11 is_92 rfl) (my_fr.at gh11 is_82 rfl)
        rw [tE140] at xp136
        have ps141 : h11 82 7 = (sN (cs h) (h 82 7)) := xp18
        rw [ps141] at xp136
        refine w_ifeq (t := 38) gz_52_31 rfl (fun u142 => ?_) (fun u142 => by exfalso; omega)
        refine w_aload_n gz_52_38 rfl ?_
        refine w_ldcS gz_52_39 (by decide) ?_
        refine w_inv (k := 1) (as := [(3, ((11 : Nat) : Int))]) (r := []) (x := 82) (ls0 := [(2, 82), (3, ((11 : Nat) : Int)), (9, 0)]) gz_52_41 gm_41 rfl is_82 rd_5 rfl rfl rfl rfl rfl (c_Reader_isWord9_f0 (d := d) (x1 := ((11 : Nat) : Int)) (by decide) (w17.trans (by omega)) Cu_h11t22 (fun w143 xp144 => ?_) (fun w145 w146 xp147 => ?_))
        ·
          show wp l rho (d + 5) 52 44 [(2, 82), (0, v12), (9, 0), (9, 0)] [(0, 0)] h11 Q
          rw [show wc ((11 : Nat) : Int) = 679695 from by decide] at xp144
          have tE148 : cs h11 = cs h := cs_eq (fun j => my_fr.at gh11 is_92 rfl) (my_fr.at gh11 is_82 rfl)
          rw [tE148] at xp144
          have ps149 : h11 82 7 = (sN (cs h) (h 82 7)) := xp18
          rw [ps149] at xp144
          refine w_ifeq (t := 51) gz_52_44 rfl (fun u150 => ?_) (fun u150 => by exfalso; omega)
          refine w_iconst gz_52_51 (by decide) ?_
          refine w_istore_n (ls' := [(2, 82), (0, v12), (0, (-1)), (9, 0)]) gz_52_52 gm_52 rfl rfl rfl ?_
          refine w_iload_n gz_52_53 rfl ?_
          refine w_iconst gz_52_54 (by decide) ?_
          refine w_icne (t := 66) gz_52_55 rfl (fun u151 => by exfalso; omega) (fun u151 => ?_)
          refine w_aload_n gz_52_58 rfl ?_
          refine w_iconst gz_52_59 (by decide) ?_
          refine w_inv (k := 0) (as := [(0, 1)]) (r := []) (x := 82) (ls0 := [(2, 82), (0, 1)]) gz_52_60 gm_42 rfl is_82 rd_5 rfl rfl rfl rfl rfl ?_
          refine w_aload_n gz_42_0 rfl ?_
          refine v_getI (j := 9) gz_42_1 rfl is_82 rd_5 rfl (fun v152 ev152 pv152 qv152 => ?_)
          have zv152 := ev152.trans w17
          refine w_ifne (t := 20) gz_42_4 rfl (fun u153 => by exfalso; omega) (fun u153 => ?_)
          refine w_aload_n gz_42_7 rfl ?_
          refine w_iload_n gz_42_8 rfl ?_
          refine w_bipush gz_42_9 (by decide) ?_
          refine w_aload_n gz_42_11 rfl ?_
          refine v_getI (j := 7) gz_42_12 rfl is_82 rd_5 rfl (fun v154 ev154 pv154 qv154 => ?_)
          refine w_imul gz_42_15 ⟨by omega, by omega⟩ ?_
          refine w_iadd gz_42_16 ⟨by omega, by omega⟩ ?_
          refine v_putI (j := 9) gz_42_17 rfl is_82 rd_5 rfl (by omega) (by omega) rfl (fun h155 fh155 => ?_)
          have gh155 : my_fr [(4, 5), (4, 8), (4, 9), (5, 5), (5, 6), (5, 7), (5, 8), (5, 9), (32, -1), (33, -1), (34, -1), (35, -1)] h h155 := my_fr.up gh11 is_82 fh155 rfl
          have Ln_h155 : Ln h155 := Ln_ag (my_ag.up fh155 is_82 rfl) Ln_h11
          have Sp_h155 : Sp h155 wv := Sp_ag (my_ag.up fh155 is_82 rfl) hwv Ln_h11 Sp_h11
          have St5_h155 : St5 h155 := St5_ag (my_ag.up fh155 is_82 rfl) Ln_h11 St5_h11
          have Al_h155 : Al h155 := Al_ag (my_ag.up fh155 is_82 rfl) Al_h11t21
          have Cu_h155 : Cu h155 := Cu_ag (my_ag.up fh155 is_82 rfl) Cu_h11t22
          refine w_vret gz_42_20 gm_42 ?_
          show wp l rho (d + 5) 52 63 [(2, 82), (0, v12), (0, (-1)), (9, 0)] [] h155 Q
          refine w_goto (t := 70) gz_52_63 rfl ?_
          refine w_aload_n gz_52_70 rfl ?_
          refine w_sipush gz_52_71 (by decide) ?_
          refine w_inv (k := 1) (as := [(0, 200)]) (r := []) (x := 82) (ls0 := [(2, 82), (0, 200), (9, 0)]) gz_52_74 gm_51 rfl is_82 rd_5 rfl rfl rfl rfl rfl (c_Reader_takeNumber9_f1 (d := (d + 2)) (x1 := 200) (by omega) (by omega) ((1 + (16 * v154))) ((my_up_self fh155)) (by omega) (by omega) Al_h155 Cu_h155 (fun w156 w157 Al_h155t158 Cu_h155t159 => ?_))
          show wp l rho (d + 5) 52 77 [(2, 82), (0, v12), (0, (-1)), (9, 0)] [(0, (-1))] h155 Q
          refine w_istore_n (ls' := [(2, 82), (0, v12), (0, (-1)), (0, (-1))]) gz_52_77 gm_52 rfl rfl rfl ?_
          refine w_aload_n gz_52_78 rfl ?_
          refine v_getI (j := 9) gz_52_79 rfl is_82 rd_5 rfl (fun v160 ev160 pv160 qv160 => ?_)
          have zv160 := ev160.trans (my_up_self fh155)
          refine w_ifne (t := 102) gz_52_82 rfl (fun u161 => ?_) (fun u161 => by exfalso; omega)
          have psR : h155 82 7 = (sN (cs h) (h 82 7)) := ((my_up_fld fh155 (by decide)).trans xp18)
          have npsR : cs h155 = cs h := cs_eq (fun j => my_fr.at gh155 is_92 rfl) (my_fr.at gh155 is_82 rfl)
          have c162 := ev160.symm
          exact w_vret gz_52_102 gm_52 (k0 h155 (gh155) (by omega) (by omega) (by first | exact std | (unfold cutR; first | exact Or.inr (Or.inr ⟨by omega, by omega, Or.inr ⟨by omega, Or.inr (Or.inr ⟨by omega, by omega, Or.inr ⟨by omega, by omega, by omega⟩⟩)⟩⟩) | exact Or.inr (Or.inr ⟨by omega, by omega, Or.inr ⟨by omega, Or.inr (Or.inr ⟨by omega, by omega, Or.inl ⟨by omega, by omega⟩⟩)⟩⟩) | exact Or.inr (Or.inr ⟨by omega, by omega, Or.inr ⟨by omega, or_assoc.mp (Or.inl (by omega))⟩⟩) | exact Or.inr (Or.inr ⟨by omega, by omega, Or.inl ⟨by omega, by omega, by omega, by omega⟩⟩) | exact or_assoc.mp (Or.inl (by omega))) | omega) Ln_h155 Sp_h155 Al_h155t158 Cu_h155t159)
        ·
          show wp l rho (d + 5) 52 44 [(2, 82), (0, v12), (9, 0), (9, 0)] [(0, 1)] h11 Q
          rw [show wc ((11 : Nat) : Int) = 679695 from by decide] at xp147
          have tE163 : cs h11 = cs h := cs_eq (fun j => my_fr.at gh11 is_92 rfl) (my_fr.at gh11 is_82 rfl)
          rw [tE163] at xp147
          have ps164 : h11 82 7 = (sN (cs h) (h 82 7)) := xp18
          rw [ps164] at xp147
          refine w_ifeq (t := 51) gz_52_44 rfl (fun u165 => by exfalso; omega) (fun u165 => ?_)
          refine w_iconst gz_52_47 (by decide) ?_
          refine w_goto (t := 52) gz_52_48 rfl ?_
          refine w_istore_n (ls' := [(2, 82), (0, v12), (0, 2), (9, 0)]) gz_52_52 gm_52 rfl rfl rfl ?_
          refine w_iload_n gz_52_53 rfl ?_
          refine w_iconst gz_52_54 (by decide) ?_
          refine w_icne (t := 66) gz_52_55 rfl (fun u166 => ?_) (fun u166 => by exfalso; omega)
          refine w_aload_n gz_52_66 rfl ?_
          refine w_inv (k := 2) (as := []) (r := []) (x := 82) (ls0 := [(2, 82), (9, 0), (9, 0)]) gz_52_67 gm_37 rfl is_82 rd_5 rfl rfl rfl rfl rfl (c_Reader_nextToken9_f0 (d := (d + 3))  (w17.trans (by omega)) Al_h11t21 (fun h167 frh167 w168 w169 w170 xp171 xp172 Al_h167t173 Cu_h167t174 => ?_))
          have gh167 : my_fr [(4, 5), (4, 8), (4, 9), (5, 5), (5, 6), (5, 7), (5, 8), (5, 9), (32, -1), (33, -1), (34, -1), (35, -1)] h h167 := my_fr.tr gh11 (frh167.mo rfl)
          have Ln_h167 : Ln h167 := Ln_ag (my_ag.fr frh167 rfl) Ln_h11
          have Sp_h167 : Sp h167 wv := Sp_ag (my_ag.fr frh167 rfl) hwv Ln_h11 Sp_h11
          have St5_h167 : St5 h167 := St5_ag (my_ag.fr frh167 rfl) Ln_h11 St5_h11
          show wp l rho (d + 5) 52 70 [(2, 82), (0, v12), (0, 2), (9, 0)] [] h167 Q
          have xc175 := xp171 Cu_h11t22
          have tE176 : cs h11 = cs h := cs_eq (fun j => my_fr.at gh11 is_92 rfl) (my_fr.at gh11 is_82 rfl)
          rw [tE176] at xc175
          have ps177 : h11 82 7 = (sN (cs h) (h 82 7)) := xp18
          rw [ps177] at xc175
          have ck178 := Cu_s Cu_h167t174
          rw [show cs h167 = cs h from cs_eq (fun j => my_fr.at gh167 is_92 rfl) (my_fr.at gh167 is_82 rfl)] at ck178
          rw [show h167 82 7 = (sN (cs h) (((sN (cs h) (h 82 7))))) from xc175] at ck178
          refine w_aload_n gz_52_70 rfl ?_
          refine w_sipush gz_52_71 (by decide) ?_
          refine w_inv (k := 1) (as := [(0, 200)]) (r := []) (x := 82) (ls0 := [(2, 82), (0, 200), (9, 0)]) gz_52_74 gm_51 rfl is_82 rd_5 rfl rfl rfl rfl rfl (c_Reader_takeNumber9_f0 (d := (d + 2)) (x1 := 200) (by omega) (by omega) (((my_fr.at frh167 is_82 rfl).trans w17).trans (by omega)) Al_h167t173 Cu_h167t174 (fun h179 frh179 w180 w181 xp182 Al_h179t183 Cu_h179t184 => ?_) (fun h185 v186 frh185 w187 w188 w189 w190 w191 xp192 xp193 xp194 Al_h185t195 Cu_h185t196 => ?_))
          ·
            have gh179 : my_fr [(4, 5), (4, 8), (4, 9), (5, 5), (5, 6), (5, 7), (5, 8), (5, 9), (32, -1), (33, -1), (34, -1), (35, -1)] h h179 := my_fr.tr gh167 (frh179.mo rfl)
            have Ln_h179 : Ln h179 := Ln_ag (my_ag.fr frh179 rfl) Ln_h167
            have Sp_h179 : Sp h179 wv := Sp_ag (my_ag.fr frh179 rfl) hwv Ln_h167 Sp_h167
            have St5_h179 : St5 h179 := St5_ag (my_ag.fr frh179 rfl) Ln_h167 St5_h167
            show wp l rho (d + 5) 52 77 [(2, 82), (0, v12), (0, 2), (9, 0)] [(0, (-1))] h179 Q
            have tE197 : cs h167 = cs h := cs_eq (fun j => my_fr.at gh167 is_92 rfl) (my_fr.at gh167 is_82 rfl)
            rw [tE197] at xp182
            have ps198 : h167 82 7 = (sN (cs h) (((sN (cs h) (h 82 7))))) := xc175
            rw [ps198] at xp182
            refine w_istore_n (ls' := [(2, 82), (0, v12), (0, 2), (0, (-1))]) gz_52_77 gm_52 rfl rfl rfl ?_
            refine w_aload_n gz_52_78 rfl ?_
            refine v_getI (j := 9) gz_52_79 rfl is_82 rd_5 rfl (fun v199 ev199 pv199 qv199 => ?_)
            have zv199 := ev199.trans (rfl : h179 82 9 = h179 82 9)
            refine w_ifne (t := 102) gz_52_82 rfl (fun u200 => ?_) (fun u200 => by exfalso; omega)
            have psR : h179 82 7 = h179 82 7 := (rfl : h179 82 7 = h179 82 7)
            have npsR : cs h179 = cs h := cs_eq (fun j => my_fr.at gh179 is_92 rfl) (my_fr.at gh179 is_82 rfl)
            have c201 := ev199.symm
            exact w_vret gz_52_102 gm_52 (k0 h179 (gh179) (by omega) (by omega) (by first | exact std | (unfold cutR; first | exact Or.inr (Or.inr ⟨by omega, by omega, Or.inr ⟨by omega, Or.inr (Or.inr ⟨by omega, by omega, Or.inr ⟨by omega, by omega, by omega⟩⟩)⟩⟩) | exact Or.inr (Or.inr ⟨by omega, by omega, Or.inr ⟨by omega, Or.inr (Or.inr ⟨by omega, by omega, Or.inl ⟨by omega, by omega⟩⟩)⟩⟩) | exact Or.inr (Or.inr ⟨by omega, by omega, Or.inr ⟨by omega, or_assoc.mp (Or.inl (by omega))⟩⟩) | exact Or.inr (Or.inr ⟨by omega, by omega, Or.inl ⟨by omega, by omega, by omega, by omega⟩⟩) | exact or_assoc.mp (Or.inl (by omega))) | omega) Ln_h179 Sp_h179 Al_h179t183 Cu_h179t184)
          ·
            have gh185 : my_fr [(4, 5), (4, 8), (4, 9), (5, 5), (5, 6), (5, 7), (5, 8), (5, 9), (32, -1), (33, -1), (34, -1), (35, -1)] h h185 := my_fr.tr gh167 (frh185.mo rfl)
            have Ln_h185 : Ln h185 := Ln_ag (my_ag.fr frh185 rfl) Ln_h167
            have Sp_h185 : Sp h185 wv := Sp_ag (my_ag.fr frh185 rfl) hwv Ln_h167 Sp_h167
            have St5_h185 : St5 h185 := St5_ag (my_ag.fr frh185 rfl) Ln_h167 St5_h167
            show wp l rho (d + 5) 52 77 [(2, 82), (0, v12), (0, 2), (9, 0)] [(0, v186)] h185 Q
            have tE202 : cs h167 = cs h := cs_eq (fun j => my_fr.at gh167 is_92 rfl) (my_fr.at gh167 is_82 rfl)
            rw [tE202] at xp192
            have ps203 : h167 82 7 = (sN (cs h) (((sN (cs h) (h 82 7))))) := xc175
            rw [ps203] at xp192
            rw [tE202] at xp193
            rw [ps203] at xp193
            rw [tE202] at xp194
            rw [ps203] at xp194
            have ck204 := Cu_s Cu_h185t196
            rw [show cs h185 = cs h from cs_eq (fun j => my_fr.at gh185 is_92 rfl) (my_fr.at gh185 is_82 rfl)] at ck204
            rw [show h185 82 7 = (sN (cs h) (((sN (cs h) (((sN (cs h) (h 82 7)))))))) from xp192] at ck204
            refine w_istore_n (ls' := [(2, 82), (0, v12), (0, 2), (0, v186)]) gz_52_77 gm_52 rfl rfl rfl ?_
            refine w_aload_n gz_52_78 rfl ?_
            refine v_getI (j := 9) gz_52_79 rfl is_82 rd_5 rfl (fun v205 ev205 pv205 qv205 => ?_)
            have zv205 := ev205.trans w191
            refine w_ifne (t := 102) gz_52_82 rfl (fun u206 => by exfalso; omega) (fun u206 => ?_)
            refine w_aload_n gz_52_85 rfl ?_
            refine w_inv (k := 0) (as := []) (r := []) (x := 82) (ls0 := [(2, 82)]) gz_52_86 gm_47 rfl is_82 rd_5 rfl rfl rfl rfl rfl (c_Reader_endsHere9_f0 (d := (d + 2))  (ev205.symm.trans (by omega)) Al_h185t195 Cu_h185t196 (fun h207 frh207 w208 w209 xp210 xp211 Al_h207t212 Cu_h207t213 => ?_) (fun h214 frh214 w215 xp216 xp217 Al_h214t218 Cu_h214t219 => ?_))
            ·
              have gh207 : my_fr [(4, 5), (4, 8), (4, 9), (5, 5), (5, 6), (5, 7), (5, 8), (5, 9), (32, -1), (33, -1), (34, -1), (35, -1)] h h207 := my_fr.tr gh185 (frh207.mo rfl)
              have Ln_h207 : Ln h207 := Ln_ag (my_ag.fr frh207 rfl) Ln_h185
              have Sp_h207 : Sp h207 wv := Sp_ag (my_ag.fr frh207 rfl) hwv Ln_h185 Sp_h185
              have St5_h207 : St5 h207 := St5_ag (my_ag.fr frh207 rfl) Ln_h185 St5_h185
              show wp l rho (d + 5) 52 89 [(2, 82), (0, v12), (0, 2), (0, v186)] [(0, 0)] h207 Q
              have tE220 : cs h185 = cs h := cs_eq (fun j => my_fr.at gh185 is_92 rfl) (my_fr.at gh185 is_82 rfl)
              rw [tE220] at xp210
              have ps221 : h185 82 7 = (sN (cs h) (((sN (cs h) (((sN (cs h) (h 82 7)))))))) := xp192
              rw [ps221] at xp210
              rw [ps221] at xp211
              refine w_ifeq (t := 102) gz_52_89 rfl (fun u222 => ?_) (fun u222 => by exfalso; omega)
              have psR : h207 82 7 = h207 82 7 := (rfl : h207 82 7 = h207 82 7)
              have npsR : cs h207 = cs h := cs_eq (fun j => my_fr.at gh207 is_92 rfl) (my_fr.at gh207 is_82 rfl)
              have c223 := (rfl : h207 82 9 = h207 82 9)
              exact w_vret gz_52_102 gm_52 (k0 h207 (gh207) (by omega) (by omega) (by first | exact std | (unfold cutR; first | exact Or.inr (Or.inr ⟨by omega, by omega, Or.inr ⟨by omega, Or.inr (Or.inr ⟨by omega, by omega, Or.inr ⟨by omega, by omega, by omega⟩⟩)⟩⟩) | exact Or.inr (Or.inr ⟨by omega, by omega, Or.inr ⟨by omega, Or.inr (Or.inr ⟨by omega, by omega, Or.inl ⟨by omega, by omega⟩⟩)⟩⟩) | exact Or.inr (Or.inr ⟨by omega, by omega, Or.inr ⟨by omega, or_assoc.mp (Or.inl (by omega))⟩⟩) | exact Or.inr (Or.inr ⟨by omega, by omega, Or.inl ⟨by omega, by omega, by omega, by omega⟩⟩) | exact or_assoc.mp (Or.inl (by omega))) | omega) Ln_h207 Sp_h207 Al_h207t212 Cu_h207t213)
            ·
              have gh214 : my_fr [(4, 5), (4, 8), (4, 9), (5, 5), (5, 6), (5, 7), (5, 8), (5, 9), (32, -1), (33, -1), (34, -1), (35, -1)] h h214 := my_fr.tr gh185 (frh214.mo rfl)
              have Ln_h214 : Ln h214 := Ln_ag (my_ag.fr frh214 rfl) Ln_h185
              have Sp_h214 : Sp h214 wv := Sp_ag (my_ag.fr frh214 rfl) hwv Ln_h185 Sp_h185
              have St5_h214 : St5 h214 := St5_ag (my_ag.fr frh214 rfl) Ln_h185 St5_h185
              show wp l rho (d + 5) 52 89 [(2, 82), (0, v12), (0, 2), (0, v186)] [(0, 1)] h214 Q
              have tE224 : cs h185 = cs h := cs_eq (fun j => my_fr.at gh185 is_92 rfl) (my_fr.at gh185 is_82 rfl)
              rw [tE224] at xp216
              have ps225 : h185 82 7 = (sN (cs h) (((sN (cs h) (((sN (cs h) (h 82 7)))))))) := xp192
              rw [ps225] at xp216
              rw [tE224] at xp217
              rw [ps225] at xp217
              have ck226 := Cu_s Cu_h214t219
              rw [show cs h214 = cs h from cs_eq (fun j => my_fr.at gh214 is_92 rfl) (my_fr.at gh214 is_82 rfl)] at ck226
              rw [show h214 82 7 = (sN (cs h) (((sN (cs h) (((sN (cs h) (((sN (cs h) (h 82 7))))))))))) from xp216] at ck226
              refine w_ifeq (t := 102) gz_52_89 rfl (fun u227 => by exfalso; omega) (fun u227 => ?_)
              refine w_aload_n gz_52_92 rfl ?_
              refine v_getR (j := 2) gz_52_93 rfl is_82 rd_5 rfl (fun v228 ev228 tv228 => ?_)
              have zv228 : v2 = v228 := (ev228.trans ((my_fr.at frh214 is_82 rfl).trans ((my_fr.at frh185 is_82 rfl).trans ((my_fr.at frh167 is_82 rfl).trans ((my_fr.at frh11 is_82 rfl).trans ev2.symm))))).symm
              subst zv228
              refine w_iload_n gz_52_96 rfl ?_
              refine w_iload_n gz_52_97 rfl ?_
              refine w_iload_n gz_52_98 rfl ?_
              have ce229 : h214 82 2 = v2 := ((my_fr.at frh214 is_82 rfl).trans ((my_fr.at frh185 is_82 rfl).trans ((my_fr.at frh167 is_82 rfl).trans ((my_fr.at frh11 is_82 rfl).trans ev2.symm))))
              have s5a := St5_h214
              have s5e : v2 = h214 82 2 := by first | assumption | omega
              unfold St5 at s5a
              rw [← s5e] at s5a
              have ce230 : h214 v2 1 = h v2 1 := ((my_fr.at frh214 tv2 rfl).trans ((my_fr.at frh185 tv2 rfl).trans ((my_fr.at frh167 tv2 rfl).trans ((my_fr.at frh11 tv2 rfl).trans (rfl : h v2 1 = h v2 1)))))
              have ce231 : h214 v2 3 = h v2 3 := ((my_fr.at frh214 tv2 rfl).trans ((my_fr.at frh185 tv2 rfl).trans ((my_fr.at frh167 tv2 rfl).trans ((my_fr.at frh11 tv2 rfl).trans (rfl : h v2 3 = h v2 3)))))
              have ce232 : h214 v2 4 = h v2 4 := ((my_fr.at frh214 tv2 rfl).trans ((my_fr.at frh185 tv2 rfl).trans ((my_fr.at frh167 tv2 rfl).trans ((my_fr.at frh11 tv2 rfl).trans (rfl : h v2 4 = h v2 4)))))
              have ce233 : h214 v2 9 = h v2 9 := ((my_fr.at frh214 tv2 rfl).trans ((my_fr.at frh185 tv2 rfl).trans ((my_fr.at frh167 tv2 rfl).trans ((my_fr.at frh11 tv2 rfl).trans (rfl : h v2 9 = h v2 9)))))
              have sE : v2 = h 82 2 := by first | assumption | omega
              have eS1 : h214 v2 1 = h v2 1 := by omega
              have eS3 : h214 v2 3 = h v2 3 := by omega
              have eS4 : h214 v2 4 = h v2 4 := by omega
              have eS9 : h214 v2 9 = h v2 9 := by omega
              refine w_inv (k := 0) (as := [(0, v186), (0, v12), (0, 2)]) (r := []) (x := v2) (ls0 := [(2, v2), (0, 2), (0, v12), (0, v186)]) gz_52_99 gm_53 rfl tv2 rd_4 rfl rfl rfl rfl rfl (c_Lens_addCut (d := (d + 3)) (x0 := v2) (x1 := 2) (x2 := v12) (x3 := v186) tv2 (by omega) (by omega) (by omega) (by omega) (by omega) (by omega) (by first | assumption | exact no_such_saying | exact Fp_told (by omega) (by omega) | omega | (subst_vars; omega) | omega) (fun h234 frh234 fxh234 w235 w236 xp237 => ?_))
              have gh234 : my_fr [(4, 5), (4, 8), (4, 9), (5, 5), (5, 6), (5, 7), (5, 8), (5, 9), (32, -1), (33, -1), (34, -1), (35, -1)] h h234 := my_fr.tr gh214 (frh234.mo rfl)
              have Ln_h234 : Ln h234 := Ln_fx fxh234 (by first | assumption | omega) Ln_h214
              have Al_h234 : Al h234 := Al_ag (my_ag.fr frh234 rfl) Al_h214t218
              have Cu_h234 : Cu h234 := Cu_ag (my_ag.fr frh234 rfl) Cu_h214t219
              show wp l rho (d + 5) 52 102 [(2, 82), (0, v12), (0, 2), (0, v186)] [] h234 Q
              have Sp_h234t238 : Sp h234 wv := Sp_add fxh234 (by first | assumption | omega) hwv Ln_h214 Sp_h214 xp237 (by have := St5_h214.1; omega) (by omega) (by omega)
              have ce239 : h234 82 2 = v2 := ((my_fr.at frh234 is_82 rfl).trans ((my_fr.at frh214 is_82 rfl).trans ((my_fr.at frh185 is_82 rfl).trans ((my_fr.at frh167 is_82 rfl).trans ((my_fr.at frh11 is_82 rfl).trans ev2.symm)))))
              have std := Std_add xp237 sE (by omega) eS3 eS4 eS9 eS1
              have psR : h234 82 7 = (sN (cs h) (((sN (cs h) (((sN (cs h) (((sN (cs h) (h 82 7))))))))))) := ((my_fr.at frh234 is_82 rfl).trans xp216)
              have npsR : cs h234 = cs h := cs_eq (fun j => my_fr.at gh234 is_92 rfl) (my_fr.at gh234 is_82 rfl)
              have c240 := ((my_fr.at frh234 is_82 rfl).trans w215)
              exact w_vret gz_52_102 gm_52 (k1 h234 (gh234) (by omega) (by first | exact std | (unfold cutR; first | exact Or.inr (Or.inr ⟨by omega, by omega, Or.inr ⟨by omega, Or.inr (Or.inr ⟨by omega, by omega, Or.inr ⟨by omega, by omega, by omega⟩⟩)⟩⟩) | exact Or.inr (Or.inr ⟨by omega, by omega, Or.inr ⟨by omega, Or.inr (Or.inr ⟨by omega, by omega, Or.inl ⟨by omega, by omega⟩⟩)⟩⟩) | exact Or.inr (Or.inr ⟨by omega, by omega, Or.inr ⟨by omega, or_assoc.mp (Or.inl (by omega))⟩⟩) | exact Or.inr (Or.inr ⟨by omega, by omega, Or.inl ⟨by omega, by omega, by omega, by omega⟩⟩) | exact or_assoc.mp (Or.inl (by omega))) | omega) (by first | exact std | (unfold cutR; first | exact Or.inr (Or.inr ⟨by omega, by omega, Or.inr ⟨by omega, Or.inr (Or.inr ⟨by omega, by omega, Or.inr ⟨by omega, by omega, by omega⟩⟩)⟩⟩) | exact Or.inr (Or.inr ⟨by omega, by omega, Or.inr ⟨by omega, Or.inr (Or.inr ⟨by omega, by omega, Or.inl ⟨by omega, by omega⟩⟩)⟩⟩) | exact Or.inr (Or.inr ⟨by omega, by omega, Or.inr ⟨by omega, or_assoc.mp (Or.inl (by omega))⟩⟩) | exact Or.inr (Or.inr ⟨by omega, by omega, Or.inl ⟨by omega, by omega, by omega, by omega⟩⟩) | exact or_assoc.mp (Or.inl (by omega))) | omega) Ln_h234 Sp_h234t238 Al_h234 Cu_h234)
      ·
        show wp l rho (d + 5) 52 31 [(2, 82), (0, v12), (9, 0), (9, 0)] [(0, 1)] h11 Q
        rw [show wc ((10 : Nat) : Int) = 352 from by decide] at xp139
        have tE241 : cs h11 = cs h := cs_eq (fun j => my_fr.at gh11 is_92 rfl) (my_fr.at gh11 is_82 rfl)
        rw [tE241] at xp139
        have ps242 : h11 82 7 = (sN (cs h) (h 82 7)) := xp18
        rw [ps242] at xp139
        refine w_ifeq (t := 38) gz_52_31 rfl (fun u243 => by exfalso; omega) (fun u243 => ?_)
        refine w_iconst gz_52_34 (by decide) ?_
        refine w_goto (t := 52) gz_52_35 rfl ?_
        refine w_istore_n (ls' := [(2, 82), (0, v12), (0, 1), (9, 0)]) gz_52_52 gm_52 rfl rfl rfl ?_
        refine w_iload_n gz_52_53 rfl ?_
        refine w_iconst gz_52_54 (by decide) ?_
        refine w_icne (t := 66) gz_52_55 rfl (fun u244 => ?_) (fun u244 => by exfalso; omega)
        refine w_aload_n gz_52_66 rfl ?_
        refine w_inv (k := 2) (as := []) (r := []) (x := 82) (ls0 := [(2, 82), (9, 0), (9, 0)]) gz_52_67 gm_37 rfl is_82 rd_5 rfl rfl rfl rfl rfl (c_Reader_nextToken9_f0 (d := (d + 3))  (w17.trans (by omega)) Al_h11t21 (fun h245 frh245 w246 w247 w248 xp249 xp250 Al_h245t251 Cu_h245t252 => ?_))
        have gh245 : my_fr [(4, 5), (4, 8), (4, 9), (5, 5), (5, 6), (5, 7), (5, 8), (5, 9), (32, -1), (33, -1), (34, -1), (35, -1)] h h245 := my_fr.tr gh11 (frh245.mo rfl)
        have Ln_h245 : Ln h245 := Ln_ag (my_ag.fr frh245 rfl) Ln_h11
        have Sp_h245 : Sp h245 wv := Sp_ag (my_ag.fr frh245 rfl) hwv Ln_h11 Sp_h11
        have St5_h245 : St5 h245 := St5_ag (my_ag.fr frh245 rfl) Ln_h11 St5_h11
        show wp l rho (d + 5) 52 70 [(2, 82), (0, v12), (0, 1), (9, 0)] [] h245 Q
        have xc253 := xp249 Cu_h11t22
        have tE254 : cs h11 = cs h := cs_eq (fun j => my_fr.at gh11 is_92 rfl) (my_fr.at gh11 is_82 rfl)
        rw [tE254] at xc253
        have ps255 : h11 82 7 = (sN (cs h) (h 82 7)) := xp18
        rw [ps255] at xc253
        have ck256 := Cu_s Cu_h245t252
        rw [show cs h245 = cs h from cs_eq (fun j => my_fr.at gh245 is_92 rfl) (my_fr.at gh245 is_82 rfl)] at ck256
        rw [show h245 82 7 = (sN (cs h) (((sN (cs h) (h 82 7))))) from xc253] at ck256
        refine w_aload_n gz_52_70 rfl ?_
        refine w_sipush gz_52_71 (by decide) ?_
        refine w_inv (k := 1) (as := [(0, 200)]) (r := []) (x := 82) (ls0 := [(2, 82), (0, 200), (9, 0)]) gz_52_74 gm_51 rfl is_82 rd_5 rfl rfl rfl rfl rfl (c_Reader_takeNumber9_f0 (d := (d + 2)) (x1 := 200) (by omega) (by omega) (((my_fr.at frh245 is_82 rfl).trans w17).trans (by omega)) Al_h245t251 Cu_h245t252 (fun h257 frh257 w258 w259 xp260 Al_h257t261 Cu_h257t262 => ?_) (fun h263 v264 frh263 w265 w266 w267 w268 w269 xp270 xp271 xp272 Al_h263t273 Cu_h263t274 => ?_))
        ·
          have gh257 : my_fr [(4, 5), (4, 8), (4, 9), (5, 5), (5, 6), (5, 7), (5, 8), (5, 9), (32, -1), (33, -1), (34, -1), (35, -1)] h h257 := my_fr.tr gh245 (frh257.mo rfl)
          have Ln_h257 : Ln h257 := Ln_ag (my_ag.fr frh257 rfl) Ln_h245
          have Sp_h257 : Sp h257 wv := Sp_ag (my_ag.fr frh257 rfl) hwv Ln_h245 Sp_h245
          have St5_h257 : St5 h257 := St5_ag (my_ag.fr frh257 rfl) Ln_h245 St5_h245
          show wp l rho (d + 5) 52 77 [(2, 82), (0, v12), (0, 1), (9, 0)] [(0, (-1))] h257 Q
          have tE275 : cs h245 = cs h := cs_eq (fun j => my_fr.at gh245 is_92 rfl) (my_fr.at gh245 is_82 rfl)
          rw [tE275] at xp260
          have ps276 : h245 82 7 = (sN (cs h) (((sN (cs h) (h 82 7))))) := xc253
          rw [ps276] at xp260
          refine w_istore_n (ls' := [(2, 82), (0, v12), (0, 1), (0, (-1))]) gz_52_77 gm_52 rfl rfl rfl ?_
          refine w_aload_n gz_52_78 rfl ?_
          refine v_getI (j := 9) gz_52_79 rfl is_82 rd_5 rfl (fun v277 ev277 pv277 qv277 => ?_)
          have zv277 := ev277.trans (rfl : h257 82 9 = h257 82 9)
          refine w_ifne (t := 102) gz_52_82 rfl (fun u278 => ?_) (fun u278 => by exfalso; omega)
          have psR : h257 82 7 = h257 82 7 := (rfl : h257 82 7 = h257 82 7)
          have npsR : cs h257 = cs h := cs_eq (fun j => my_fr.at gh257 is_92 rfl) (my_fr.at gh257 is_82 rfl)
          have c279 := ev277.symm
          exact w_vret gz_52_102 gm_52 (k0 h257 (gh257) (by omega) (by omega) (by first | exact std | (unfold cutR; first | exact Or.inr (Or.inr ⟨by omega, by omega, Or.inr ⟨by omega, Or.inr (Or.inr ⟨by omega, by omega, Or.inr ⟨by omega, by omega, by omega⟩⟩)⟩⟩) | exact Or.inr (Or.inr ⟨by omega, by omega, Or.inr ⟨by omega, Or.inr (Or.inr ⟨by omega, by omega, Or.inl ⟨by omega, by omega⟩⟩)⟩⟩) | exact Or.inr (Or.inr ⟨by omega, by omega, Or.inr ⟨by omega, or_assoc.mp (Or.inl (by omega))⟩⟩) | exact Or.inr (Or.inr ⟨by omega, by omega, Or.inl ⟨by omega, by omega, by omega, by omega⟩⟩) | exact or_assoc.mp (Or.inl (by omega))) | omega) Ln_h257 Sp_h257 Al_h257t261 Cu_h257t262)
        ·
          have gh263 : my_fr [(4, 5), (4, 8), (4, 9), (5, 5), (5, 6), (5, 7), (5, 8), (5, 9), (32, -1), (33, -1), (34, -1), (35, -1)] h h263 := my_fr.tr gh245 (frh263.mo rfl)
          have Ln_h263 : Ln h263 := Ln_ag (my_ag.fr frh263 rfl) Ln_h245
          have Sp_h263 : Sp h263 wv := Sp_ag (my_ag.fr frh263 rfl) hwv Ln_h245 Sp_h245
          have St5_h263 : St5 h263 := St5_ag (my_ag.fr frh263 rfl) Ln_h245 St5_h245
          show wp l rho (d + 5) 52 77 [(2, 82), (0, v12), (0, 1), (9, 0)] [(0, v264)] h263 Q
          have tE280 : cs h245 = cs h := cs_eq (fun j => my_fr.at gh245 is_92 rfl) (my_fr.at gh245 is_82 rfl)
          rw [tE280] at xp270
          have ps281 : h245 82 7 = (sN (cs h) (((sN (cs h) (h 82 7))))) := xc253
          rw [ps281] at xp270
          rw [tE280] at xp271
          rw [ps281] at xp271
          rw [tE280] at xp272
          rw [ps281] at xp272
          have ck282 := Cu_s Cu_h263t274
          rw [show cs h263 = cs h from cs_eq (fun j => my_fr.at gh263 is_92 rfl) (my_fr.at gh263 is_82 rfl)] at ck282
          rw [show h263 82 7 = (sN (cs h) (((sN (cs h) (((sN (cs h) (h 82 7)))))))) from xp270] at ck282
          refine w_istore_n (ls' := [(2, 82), (0, v12), (0, 1), (0, v264)]) gz_52_77 gm_52 rfl rfl rfl ?_
          refine w_aload_n gz_52_78 rfl ?_
          refine v_getI (j := 9) gz_52_79 rfl is_82 rd_5 rfl (fun v283 ev283 pv283 qv283 => ?_)
          have zv283 := ev283.trans w269
          refine w_ifne (t := 102) gz_52_82 rfl (fun u284 => by exfalso; omega) (fun u284 => ?_)
          refine w_aload_n gz_52_85 rfl ?_
          refine w_inv (k := 0) (as := []) (r := []) (x := 82) (ls0 := [(2, 82)]) gz_52_86 gm_47 rfl is_82 rd_5 rfl rfl rfl rfl rfl (c_Reader_endsHere9_f0 (d := (d + 2))  (ev283.symm.trans (by omega)) Al_h263t273 Cu_h263t274 (fun h285 frh285 w286 w287 xp288 xp289 Al_h285t290 Cu_h285t291 => ?_) (fun h292 frh292 w293 xp294 xp295 Al_h292t296 Cu_h292t297 => ?_))
          ·
            have gh285 : my_fr [(4, 5), (4, 8), (4, 9), (5, 5), (5, 6), (5, 7), (5, 8), (5, 9), (32, -1), (33, -1), (34, -1), (35, -1)] h h285 := my_fr.tr gh263 (frh285.mo rfl)
            have Ln_h285 : Ln h285 := Ln_ag (my_ag.fr frh285 rfl) Ln_h263
            have Sp_h285 : Sp h285 wv := Sp_ag (my_ag.fr frh285 rfl) hwv Ln_h263 Sp_h263
            have St5_h285 : St5 h285 := St5_ag (my_ag.fr frh285 rfl) Ln_h263 St5_h263
            show wp l rho (d + 5) 52 89 [(2, 82), (0, v12), (0, 1), (0, v264)] [(0, 0)] h285 Q
            have tE298 : cs h263 = cs h := cs_eq (fun j => my_fr.at gh263 is_92 rfl) (my_fr.at gh263 is_82 rfl)
            rw [tE298] at xp288
            have ps299 : h263 82 7 = (sN (cs h) (((sN (cs h) (((sN (cs h) (h 82 7)))))))) := xp270
            rw [ps299] at xp288
            rw [ps299] at xp289
            refine w_ifeq (t := 102) gz_52_89 rfl (fun u300 => ?_) (fun u300 => by exfalso; omega)
            have psR : h285 82 7 = h285 82 7 := (rfl : h285 82 7 = h285 82 7)
            have npsR : cs h285 = cs h := cs_eq (fun j => my_fr.at gh285 is_92 rfl) (my_fr.at gh285 is_82 rfl)
            have c301 := (rfl : h285 82 9 = h285 82 9)
            exact w_vret gz_52_102 gm_52 (k0 h285 (gh285) (by omega) (by omega) (by first | exact std | (unfold cutR; first | exact Or.inr (Or.inr ⟨by omega, by omega, Or.inr ⟨by omega, Or.inr (Or.inr ⟨by omega, by omega, Or.inr ⟨by omega, by omega, by omega⟩⟩)⟩⟩) | exact Or.inr (Or.inr ⟨by omega, by omega, Or.inr ⟨by omega, Or.inr (Or.inr ⟨by omega, by omega, Or.inl ⟨by omega, by omega⟩⟩)⟩⟩) | exact Or.inr (Or.inr ⟨by omega, by omega, Or.inr ⟨by omega, or_assoc.mp (Or.inl (by omega))⟩⟩) | exact Or.inr (Or.inr ⟨by omega, by omega, Or.inl ⟨by omega, by omega, by omega, by omega⟩⟩) | exact or_assoc.mp (Or.inl (by omega))) | omega) Ln_h285 Sp_h285 Al_h285t290 Cu_h285t291)
          ·
            have gh292 : my_fr [(4, 5), (4, 8), (4, 9), (5, 5), (5, 6), (5, 7), (5, 8), (5, 9), (32, -1), (33, -1), (34, -1), (35, -1)] h h292 := my_fr.tr gh263 (frh292.mo rfl)
            have Ln_h292 : Ln h292 := Ln_ag (my_ag.fr frh292 rfl) Ln_h263
            have Sp_h292 : Sp h292 wv := Sp_ag (my_ag.fr frh292 rfl) hwv Ln_h263 Sp_h263
            have St5_h292 : St5 h292 := St5_ag (my_ag.fr frh292 rfl) Ln_h263 St5_h263
            show wp l rho (d + 5) 52 89 [(2, 82), (0, v12), (0, 1), (0, v264)] [(0, 1)] h292 Q
            have tE302 : cs h263 = cs h := cs_eq (fun j => my_fr.at gh263 is_92 rfl) (my_fr.at gh263 is_82 rfl)
            rw [tE302] at xp294
            have ps303 : h263 82 7 = (sN (cs h) (((sN (cs h) (((sN (cs h) (h 82 7)))))))) := xp270
            rw [ps303] at xp294
            rw [tE302] at xp295
            rw [ps303] at xp295
            have ck304 := Cu_s Cu_h292t297
            rw [show cs h292 = cs h from cs_eq (fun j => my_fr.at gh292 is_92 rfl) (my_fr.at gh292 is_82 rfl)] at ck304
            rw [show h292 82 7 = (sN (cs h) (((sN (cs h) (((sN (cs h) (((sN (cs h) (h 82 7))))))))))) from xp294] at ck304
            refine w_ifeq (t := 102) gz_52_89 rfl (fun u305 => by exfalso; omega) (fun u305 => ?_)
            refine w_aload_n gz_52_92 rfl ?_
            refine v_getR (j := 2) gz_52_93 rfl is_82 rd_5 rfl (fun v306 ev306 tv306 => ?_)
            have zv306 : v2 = v306 := (ev306.trans ((my_fr.at frh292 is_82 rfl).trans ((my_fr.at frh263 is_82 rfl).trans ((my_fr.at frh245 is_82 rfl).trans ((my_fr.at frh11 is_82 rfl).trans ev2.symm))))).symm
            subst zv306
            refine w_iload_n gz_52_96 rfl ?_
            refine w_iload_n gz_52_97 rfl ?_
            refine w_iload_n gz_52_98 rfl ?_
            have ce307 : h292 82 2 = v2 := ((my_fr.at frh292 is_82 rfl).trans ((my_fr.at frh263 is_82 rfl).trans ((my_fr.at frh245 is_82 rfl).trans ((my_fr.at frh11 is_82 rfl).trans ev2.symm))))
            have s5a := St5_h292
            have s5e : v2 = h292 82 2 := by first | assumption | omega
            unfold St5 at s5a
            rw [← s5e] at s5a
            have ce308 : h292 v2 1 = h v2 1 := ((my_fr.at frh292 tv2 rfl).trans ((my_fr.at frh263 tv2 rfl).trans ((my_fr.at frh245 tv2 rfl).trans ((my_fr.at frh11 tv2 rfl).trans (rfl : h v2 1 = h v2 1)))))
            have ce309 : h292 v2 3 = h v2 3 := ((my_fr.at frh292 tv2 rfl).trans ((my_fr.at frh263 tv2 rfl).trans ((my_fr.at frh245 tv2 rfl).trans ((my_fr.at frh11 tv2 rfl).trans (rfl : h v2 3 = h v2 3)))))
            have ce310 : h292 v2 4 = h v2 4 := ((my_fr.at frh292 tv2 rfl).trans ((my_fr.at frh263 tv2 rfl).trans ((my_fr.at frh245 tv2 rfl).trans ((my_fr.at frh11 tv2 rfl).trans (rfl : h v2 4 = h v2 4)))))
            have ce311 : h292 v2 9 = h v2 9 := ((my_fr.at frh292 tv2 rfl).trans ((my_fr.at frh263 tv2 rfl).trans ((my_fr.at frh245 tv2 rfl).trans ((my_fr.at frh11 tv2 rfl).trans (rfl : h v2 9 = h v2 9)))))
            have sE : v2 = h 82 2 := by first | assumption | omega
            have eS1 : h292 v2 1 = h v2 1 := by omega
            have eS3 : h292 v2 3 = h v2 3 := by omega
            have eS4 : h292 v2 4 = h v2 4 := by omega
            have eS9 : h292 v2 9 = h v2 9 := by omega
            refine w_inv (k := 0) (as := [(0, v264), (0, v12), (0, 1)]) (r := []) (x := v2) (ls0 := [(2, v2), (0, 1), (0, v12), (0, v264)]) gz_52_99 gm_53 rfl tv2 rd_4 rfl rfl rfl rfl rfl (c_Lens_addCut (d := (d + 3)) (x0 := v2) (x1 := 1) (x2 := v12) (x3 := v264) tv2 (by omega) (by omega) (by omega) (by omega) (by omega) (by omega) (by first | assumption | exact no_such_saying | exact Fp_told (by omega) (by omega) | omega | (subst_vars; omega) | omega) (fun h312 frh312 fxh312 w313 w314 xp315 => ?_))
            have gh312 : my_fr [(4, 5), (4, 8), (4, 9), (5, 5), (5, 6), (5, 7), (5, 8), (5, 9), (32, -1), (33, -1), (34, -1), (35, -1)] h h312 := my_fr.tr gh292 (frh312.mo rfl)
            have Ln_h312 : Ln h312 := Ln_fx fxh312 (by first | assumption | omega) Ln_h292
            have Al_h312 : Al h312 := Al_ag (my_ag.fr frh312 rfl) Al_h292t296
            have Cu_h312 : Cu h312 := Cu_ag (my_ag.fr frh312 rfl) Cu_h292t297
            show wp l rho (d + 5) 52 102 [(2, 82), (0, v12), (0, 1), (0, v264)] [] h312 Q
            have Sp_h312t316 : Sp h312 wv := Sp_add fxh312 (by first | assumption | omega) hwv Ln_h292 Sp_h292 xp315 (by have := St5_h292.1; omega) (by omega) (by omega)
            have ce317 : h312 82 2 = v2 := ((my_fr.at frh312 is_82 rfl).trans ((my_fr.at frh292 is_82 rfl).trans ((my_fr.at frh263 is_82 rfl).trans ((my_fr.at frh245 is_82 rfl).trans ((my_fr.at frh11 is_82 rfl).trans ev2.symm)))))
            have std := Std_add xp315 sE (by omega) eS3 eS4 eS9 eS1
            have psR : h312 82 7 = (sN (cs h) (((sN (cs h) (((sN (cs h) (((sN (cs h) (h 82 7))))))))))) := ((my_fr.at frh312 is_82 rfl).trans xp294)
            have npsR : cs h312 = cs h := cs_eq (fun j => my_fr.at gh312 is_92 rfl) (my_fr.at gh312 is_82 rfl)
            have c318 := ((my_fr.at frh312 is_82 rfl).trans w293)
            exact w_vret gz_52_102 gm_52 (k1 h312 (gh312) (by omega) (by first | exact std | (unfold cutR; first | exact Or.inr (Or.inr ⟨by omega, by omega, Or.inr ⟨by omega, Or.inr (Or.inr ⟨by omega, by omega, Or.inr ⟨by omega, by omega, by omega⟩⟩)⟩⟩) | exact Or.inr (Or.inr ⟨by omega, by omega, Or.inr ⟨by omega, Or.inr (Or.inr ⟨by omega, by omega, Or.inl ⟨by omega, by omega⟩⟩)⟩⟩) | exact Or.inr (Or.inr ⟨by omega, by omega, Or.inr ⟨by omega, or_assoc.mp (Or.inl (by omega))⟩⟩) | exact Or.inr (Or.inr ⟨by omega, by omega, Or.inl ⟨by omega, by omega, by omega, by omega⟩⟩) | exact or_assoc.mp (Or.inl (by omega))) | omega) (by first | exact std | (unfold cutR; first | exact Or.inr (Or.inr ⟨by omega, by omega, Or.inr ⟨by omega, Or.inr (Or.inr ⟨by omega, by omega, Or.inr ⟨by omega, by omega, by omega⟩⟩)⟩⟩) | exact Or.inr (Or.inr ⟨by omega, by omega, Or.inr ⟨by omega, Or.inr (Or.inr ⟨by omega, by omega, Or.inl ⟨by omega, by omega⟩⟩)⟩⟩) | exact Or.inr (Or.inr ⟨by omega, by omega, Or.inr ⟨by omega, or_assoc.mp (Or.inl (by omega))⟩⟩) | exact Or.inr (Or.inr ⟨by omega, by omega, Or.inl ⟨by omega, by omega, by omega, by omega⟩⟩) | exact or_assoc.mp (Or.inl (by omega))) | omega) Ln_h312 Sp_h312t316 Al_h312 Cu_h312)
    ·
      show wp l rho (d + 5) 52 18 [(2, 82), (0, v12), (9, 0), (9, 0)] [(0, 1)] h11 Q
      rw [show wc ((9 : Nat) : Int) = 615403 from by decide] at xp131
      have tE319 : cs h11 = cs h := cs_eq (fun j => my_fr.at gh11 is_92 rfl) (my_fr.at gh11 is_82 rfl)
      rw [tE319] at xp131
      have ps320 : h11 82 7 = (sN (cs h) (h 82 7)) := xp18
      rw [ps320] at xp131
      refine w_ifeq (t := 25) gz_52_18 rfl (fun u321 => by exfalso; omega) (fun u321 => ?_)
      refine w_iconst gz_52_21 (by decide) ?_
      refine w_goto (t := 52) gz_52_22 rfl ?_
      refine w_istore_n (ls' := [(2, 82), (0, v12), (0, 0), (9, 0)]) gz_52_52 gm_52 rfl rfl rfl ?_
      refine w_iload_n gz_52_53 rfl ?_
      refine w_iconst gz_52_54 (by decide) ?_
      refine w_icne (t := 66) gz_52_55 rfl (fun u322 => ?_) (fun u322 => by exfalso; omega)
      refine w_aload_n gz_52_66 rfl ?_
      refine w_inv (k := 2) (as := []) (r := []) (x := 82) (ls0 := [(2, 82), (9, 0), (9, 0)]) gz_52_67 gm_37 rfl is_82 rd_5 rfl rfl rfl rfl rfl (c_Reader_nextToken9_f0 (d := (d + 3))  (w17.trans (by omega)) Al_h11t21 (fun h323 frh323 w324 w325 w326 xp327 xp328 Al_h323t329 Cu_h323t330 => ?_))
      have gh323 : my_fr [(4, 5), (4, 8), (4, 9), (5, 5), (5, 6), (5, 7), (5, 8), (5, 9), (32, -1), (33, -1), (34, -1), (35, -1)] h h323 := my_fr.tr gh11 (frh323.mo rfl)
      have Ln_h323 : Ln h323 := Ln_ag (my_ag.fr frh323 rfl) Ln_h11
      have Sp_h323 : Sp h323 wv := Sp_ag (my_ag.fr frh323 rfl) hwv Ln_h11 Sp_h11
      have St5_h323 : St5 h323 := St5_ag (my_ag.fr frh323 rfl) Ln_h11 St5_h11
      show wp l rho (d + 5) 52 70 [(2, 82), (0, v12), (0, 0), (9, 0)] [] h323 Q
      have xc331 := xp327 Cu_h11t22
      have tE332 : cs h11 = cs h := cs_eq (fun j => my_fr.at gh11 is_92 rfl) (my_fr.at gh11 is_82 rfl)
      rw [tE332] at xc331
      have ps333 : h11 82 7 = (sN (cs h) (h 82 7)) := xp18
      rw [ps333] at xc331
      have ck334 := Cu_s Cu_h323t330
      rw [show cs h323 = cs h from cs_eq (fun j => my_fr.at gh323 is_92 rfl) (my_fr.at gh323 is_82 rfl)] at ck334
      rw [show h323 82 7 = (sN (cs h) (((sN (cs h) (h 82 7))))) from xc331] at ck334
      refine w_aload_n gz_52_70 rfl ?_
      refine w_sipush gz_52_71 (by decide) ?_
      refine w_inv (k := 1) (as := [(0, 200)]) (r := []) (x := 82) (ls0 := [(2, 82), (0, 200), (9, 0)]) gz_52_74 gm_51 rfl is_82 rd_5 rfl rfl rfl rfl rfl (c_Reader_takeNumber9_f0 (d := (d + 2)) (x1 := 200) (by omega) (by omega) (((my_fr.at frh323 is_82 rfl).trans w17).trans (by omega)) Al_h323t329 Cu_h323t330 (fun h335 frh335 w336 w337 xp338 Al_h335t339 Cu_h335t340 => ?_) (fun h341 v342 frh341 w343 w344 w345 w346 w347 xp348 xp349 xp350 Al_h341t351 Cu_h341t352 => ?_))
      ·
        have gh335 : my_fr [(4, 5), (4, 8), (4, 9), (5, 5), (5, 6), (5, 7), (5, 8), (5, 9), (32, -1), (33, -1), (34, -1), (35, -1)] h h335 := my_fr.tr gh323 (frh335.mo rfl)
        have Ln_h335 : Ln h335 := Ln_ag (my_ag.fr frh335 rfl) Ln_h323
        have Sp_h335 : Sp h335 wv := Sp_ag (my_ag.fr frh335 rfl) hwv Ln_h323 Sp_h323
        have St5_h335 : St5 h335 := St5_ag (my_ag.fr frh335 rfl) Ln_h323 St5_h323
        show wp l rho (d + 5) 52 77 [(2, 82), (0, v12), (0, 0), (9, 0)] [(0, (-1))] h335 Q
        have tE353 : cs h323 = cs h := cs_eq (fun j => my_fr.at gh323 is_92 rfl) (my_fr.at gh323 is_82 rfl)
        rw [tE353] at xp338
        have ps354 : h323 82 7 = (sN (cs h) (((sN (cs h) (h 82 7))))) := xc331
        rw [ps354] at xp338
        refine w_istore_n (ls' := [(2, 82), (0, v12), (0, 0), (0, (-1))]) gz_52_77 gm_52 rfl rfl rfl ?_
        refine w_aload_n gz_52_78 rfl ?_
        refine v_getI (j := 9) gz_52_79 rfl is_82 rd_5 rfl (fun v355 ev355 pv355 qv355 => ?_)
        have zv355 := ev355.trans (rfl : h335 82 9 = h335 82 9)
        refine w_ifne (t := 102) gz_52_82 rfl (fun u356 => ?_) (fun u356 => by exfalso; omega)
        have psR : h335 82 7 = h335 82 7 := (rfl : h335 82 7 = h335 82 7)
        have npsR : cs h335 = cs h := cs_eq (fun j => my_fr.at gh335 is_92 rfl) (my_fr.at gh335 is_82 rfl)
        have c357 := ev355.symm
        exact w_vret gz_52_102 gm_52 (k0 h335 (gh335) (by omega) (by omega) (by first | exact std | (unfold cutR; first | exact Or.inr (Or.inr ⟨by omega, by omega, Or.inr ⟨by omega, Or.inr (Or.inr ⟨by omega, by omega, Or.inr ⟨by omega, by omega, by omega⟩⟩)⟩⟩) | exact Or.inr (Or.inr ⟨by omega, by omega, Or.inr ⟨by omega, Or.inr (Or.inr ⟨by omega, by omega, Or.inl ⟨by omega, by omega⟩⟩)⟩⟩) | exact Or.inr (Or.inr ⟨by omega, by omega, Or.inr ⟨by omega, or_assoc.mp (Or.inl (by omega))⟩⟩) | exact Or.inr (Or.inr ⟨by omega, by omega, Or.inl ⟨by omega, by omega, by omega, by omega⟩⟩) | exact or_assoc.mp (Or.inl (by omega))) | omega) Ln_h335 Sp_h335 Al_h335t339 Cu_h335t340)
      ·
        have gh341 : my_fr [(4, 5), (4, 8), (4, 9), (5, 5), (5, 6), (5, 7), (5, 8), (5, 9), (32, -1), (33, -1), (34, -1), (35, -1)] h h341 := my_fr.tr gh323 (frh341.mo rfl)
        have Ln_h341 : Ln h341 := Ln_ag (my_ag.fr frh341 rfl) Ln_h323
        have Sp_h341 : Sp h341 wv := Sp_ag (my_ag.fr frh341 rfl) hwv Ln_h323 Sp_h323
        have St5_h341 : St5 h341 := St5_ag (my_ag.fr frh341 rfl) Ln_h323 St5_h323
        show wp l rho (d + 5) 52 77 [(2, 82), (0, v12), (0, 0), (9, 0)] [(0, v342)] h341 Q
        have tE358 : cs h323 = cs h := cs_eq (fun j => my_fr.at gh323 is_92 rfl) (my_fr.at gh323 is_82 rfl)
        rw [tE358] at xp348
        have ps359 : h323 82 7 = (sN (cs h) (((sN (cs h) (h 82 7))))) := xc331
        rw [ps359] at xp348
        rw [tE358] at xp349
        rw [ps359] at xp349
        rw [tE358] at xp350
        rw [ps359] at xp350
        have ck360 := Cu_s Cu_h341t352
        rw [show cs h341 = cs h from cs_eq (fun j => my_fr.at gh341 is_92 rfl) (my_fr.at gh341 is_82 rfl)] at ck360
        rw [show h341 82 7 = (sN (cs h) (((sN (cs h) (((sN (cs h) (h 82 7)))))))) from xp348] at ck360
        refine w_istore_n (ls' := [(2, 82), (0, v12), (0, 0), (0, v342)]) gz_52_77 gm_52 rfl rfl rfl ?_
        refine w_aload_n gz_52_78 rfl ?_
        refine v_getI (j := 9) gz_52_79 rfl is_82 rd_5 rfl (fun v361 ev361 pv361 qv361 => ?_)
        have zv361 := ev361.trans w347
        refine w_ifne (t := 102) gz_52_82 rfl (fun u362 => by exfalso; omega) (fun u362 => ?_)
        refine w_aload_n gz_52_85 rfl ?_
        refine w_inv (k := 0) (as := []) (r := []) (x := 82) (ls0 := [(2, 82)]) gz_52_86 gm_47 rfl is_82 rd_5 rfl rfl rfl rfl rfl (c_Reader_endsHere9_f0 (d := (d + 2))  (ev361.symm.trans (by omega)) Al_h341t351 Cu_h341t352 (fun h363 frh363 w364 w365 xp366 xp367 Al_h363t368 Cu_h363t369 => ?_) (fun h370 frh370 w371 xp372 xp373 Al_h370t374 Cu_h370t375 => ?_))
        ·
          have gh363 : my_fr [(4, 5), (4, 8), (4, 9), (5, 5), (5, 6), (5, 7), (5, 8), (5, 9), (32, -1), (33, -1), (34, -1), (35, -1)] h h363 := my_fr.tr gh341 (frh363.mo rfl)
          have Ln_h363 : Ln h363 := Ln_ag (my_ag.fr frh363 rfl) Ln_h341
          have Sp_h363 : Sp h363 wv := Sp_ag (my_ag.fr frh363 rfl) hwv Ln_h341 Sp_h341
          have St5_h363 : St5 h363 := St5_ag (my_ag.fr frh363 rfl) Ln_h341 St5_h341
          show wp l rho (d + 5) 52 89 [(2, 82), (0, v12), (0, 0), (0, v342)] [(0, 0)] h363 Q
          have tE376 : cs h341 = cs h := cs_eq (fun j => my_fr.at gh341 is_92 rfl) (my_fr.at gh341 is_82 rfl)
          rw [tE376] at xp366
          have ps377 : h341 82 7 = (sN (cs h) (((sN (cs h) (((sN (cs h) (h 82 7)))))))) := xp348
          rw [ps377] at xp366
          rw [ps377] at xp367
          refine w_ifeq (t := 102) gz_52_89 rfl (fun u378 => ?_) (fun u378 => by exfalso; omega)
          have psR : h363 82 7 = h363 82 7 := (rfl : h363 82 7 = h363 82 7)
          have npsR : cs h363 = cs h := cs_eq (fun j => my_fr.at gh363 is_92 rfl) (my_fr.at gh363 is_82 rfl)
          have c379 := (rfl : h363 82 9 = h363 82 9)
          exact w_vret gz_52_102 gm_52 (k0 h363 (gh363) (by omega) (by omega) (by first | exact std | (unfold cutR; first | exact Or.inr (Or.inr ⟨by omega, by omega, Or.inr ⟨by omega, Or.inr (Or.inr ⟨by omega, by omega, Or.inr ⟨by omega, by omega, by omega⟩⟩)⟩⟩) | exact Or.inr (Or.inr ⟨by omega, by omega, Or.inr ⟨by omega, Or.inr (Or.inr ⟨by omega, by omega, Or.inl ⟨by omega, by omega⟩⟩)⟩⟩) | exact Or.inr (Or.inr ⟨by omega, by omega, Or.inr ⟨by omega, or_assoc.mp (Or.inl (by omega))⟩⟩) | exact Or.inr (Or.inr ⟨by omega, by omega, Or.inl ⟨by omega, by omega, by omega, by omega⟩⟩) | exact or_assoc.mp (Or.inl (by omega))) | omega) Ln_h363 Sp_h363 Al_h363t368 Cu_h363t369)
        ·
          have gh370 : my_fr [(4, 5), (4, 8), (4, 9), (5, 5), (5, 6), (5, 7), (5, 8), (5, 9), (32, -1), (33, -1), (34, -1), (35, -1)] h h370 := my_fr.tr gh341 (frh370.mo rfl)
          have Ln_h370 : Ln h370 := Ln_ag (my_ag.fr frh370 rfl) Ln_h341
          have Sp_h370 : Sp h370 wv := Sp_ag (my_ag.fr frh370 rfl) hwv Ln_h341 Sp_h341
          have St5_h370 : St5 h370 := St5_ag (my_ag.fr frh370 rfl) Ln_h341 St5_h341
          show wp l rho (d + 5) 52 89 [(2, 82), (0, v12), (0, 0), (0, v342)] [(0, 1)] h370 Q
          have tE380 : cs h341 = cs h := cs_eq (fun j => my_fr.at gh341 is_92 rfl) (my_fr.at gh341 is_82 rfl)
          rw [tE380] at xp372
          have ps381 : h341 82 7 = (sN (cs h) (((sN (cs h) (((sN (cs h) (h 82 7)))))))) := xp348
          rw [ps381] at xp372
          rw [tE380] at xp373
          rw [ps381] at xp373
          have ck382 := Cu_s Cu_h370t375
          rw [show cs h370 = cs h from cs_eq (fun j => my_fr.at gh370 is_92 rfl) (my_fr.at gh370 is_82 rfl)] at ck382
          rw [show h370 82 7 = (sN (cs h) (((sN (cs h) (((sN (cs h) (((sN (cs h) (h 82 7))))))))))) from xp372] at ck382
          refine w_ifeq (t := 102) gz_52_89 rfl (fun u383 => by exfalso; omega) (fun u383 => ?_)
          refine w_aload_n gz_52_92 rfl ?_
          refine v_getR (j := 2) gz_52_93 rfl is_82 rd_5 rfl (fun v384 ev384 tv384 => ?_)
          have zv384 : v2 = v384 := (ev384.trans ((my_fr.at frh370 is_82 rfl).trans ((my_fr.at frh341 is_82 rfl).trans ((my_fr.at frh323 is_82 rfl).trans ((my_fr.at frh11 is_82 rfl).trans ev2.symm))))).symm
          subst zv384
          refine w_iload_n gz_52_96 rfl ?_
          refine w_iload_n gz_52_97 rfl ?_
          refine w_iload_n gz_52_98 rfl ?_
          have ce385 : h370 82 2 = v2 := ((my_fr.at frh370 is_82 rfl).trans ((my_fr.at frh341 is_82 rfl).trans ((my_fr.at frh323 is_82 rfl).trans ((my_fr.at frh11 is_82 rfl).trans ev2.symm))))
          have s5a := St5_h370
          have s5e : v2 = h370 82 2 := by first | assumption | omega
          unfold St5 at s5a
          rw [← s5e] at s5a
          have ce386 : h370 v2 1 = h v2 1 := ((my_fr.at frh370 tv2 rfl).trans ((my_fr.at frh341 tv2 rfl).trans ((my_fr.at frh323 tv2 rfl).trans ((my_fr.at frh11 tv2 rfl).trans (rfl : h v2 1 = h v2 1)))))
          have ce387 : h370 v2 3 = h v2 3 := ((my_fr.at frh370 tv2 rfl).trans ((my_fr.at frh341 tv2 rfl).trans ((my_fr.at frh323 tv2 rfl).trans ((my_fr.at frh11 tv2 rfl).trans (rfl : h v2 3 = h v2 3)))))
          have ce388 : h370 v2 4 = h v2 4 := ((my_fr.at frh370 tv2 rfl).trans ((my_fr.at frh341 tv2 rfl).trans ((my_fr.at frh323 tv2 rfl).trans ((my_fr.at frh11 tv2 rfl).trans (rfl : h v2 4 = h v2 4)))))
          have ce389 : h370 v2 9 = h v2 9 := ((my_fr.at frh370 tv2 rfl).trans ((my_fr.at frh341 tv2 rfl).trans ((my_fr.at frh323 tv2 rfl).trans ((my_fr.at frh11 tv2 rfl).trans (rfl : h v2 9 = h v2 9)))))
          have sE : v2 = h 82 2 := by first | assumption | omega
          have eS1 : h370 v2 1 = h v2 1 := by omega
          have eS3 : h370 v2 3 = h v2 3 := by omega
          have eS4 : h370 v2 4 = h v2 4 := by omega
          have eS9 : h370 v2 9 = h v2 9 := by omega
          refine w_inv (k := 0) (as := [(0, v342), (0, v12), (0, 0)]) (r := []) (x := v2) (ls0 := [(2, v2), (0, 0), (0, v12), (0, v342)]) gz_52_99 gm_53 rfl tv2 rd_4 rfl rfl rfl rfl rfl (c_Lens_addCut (d := (d + 3)) (x0 := v2) (x1 := 0) (x2 := v12) (x3 := v342) tv2 (by omega) (by omega) (by omega) (by omega) (by omega) (by omega) (by first | assumption | exact no_such_saying | exact Fp_told (by omega) (by omega) | omega | (subst_vars; omega) | omega) (fun h390 frh390 fxh390 w391 w392 xp393 => ?_))
          have gh390 : my_fr [(4, 5), (4, 8), (4, 9), (5, 5), (5, 6), (5, 7), (5, 8), (5, 9), (32, -1), (33, -1), (34, -1), (35, -1)] h h390 := my_fr.tr gh370 (frh390.mo rfl)
          have Ln_h390 : Ln h390 := Ln_fx fxh390 (by first | assumption | omega) Ln_h370
          have Al_h390 : Al h390 := Al_ag (my_ag.fr frh390 rfl) Al_h370t374
          have Cu_h390 : Cu h390 := Cu_ag (my_ag.fr frh390 rfl) Cu_h370t375
          show wp l rho (d + 5) 52 102 [(2, 82), (0, v12), (0, 0), (0, v342)] [] h390 Q
          have Sp_h390t394 : Sp h390 wv := Sp_add fxh390 (by first | assumption | omega) hwv Ln_h370 Sp_h370 xp393 (by have := St5_h370.1; omega) (by omega) (by omega)
          have ce395 : h390 82 2 = v2 := ((my_fr.at frh390 is_82 rfl).trans ((my_fr.at frh370 is_82 rfl).trans ((my_fr.at frh341 is_82 rfl).trans ((my_fr.at frh323 is_82 rfl).trans ((my_fr.at frh11 is_82 rfl).trans ev2.symm)))))
          have std := Std_add xp393 sE (by omega) eS3 eS4 eS9 eS1
          have psR : h390 82 7 = (sN (cs h) (((sN (cs h) (((sN (cs h) (((sN (cs h) (h 82 7))))))))))) := ((my_fr.at frh390 is_82 rfl).trans xp372)
          have npsR : cs h390 = cs h := cs_eq (fun j => my_fr.at gh390 is_92 rfl) (my_fr.at gh390 is_82 rfl)
          have c396 := ((my_fr.at frh390 is_82 rfl).trans w371)
          exact w_vret gz_52_102 gm_52 (k1 h390 (gh390) (by omega) (by first | exact std | (unfold cutR; first | exact Or.inr (Or.inr ⟨by omega, by omega, Or.inr ⟨by omega, Or.inr (Or.inr ⟨by omega, by omega, Or.inr ⟨by omega, by omega, by omega⟩⟩)⟩⟩) | exact Or.inr (Or.inr ⟨by omega, by omega, Or.inr ⟨by omega, Or.inr (Or.inr ⟨by omega, by omega, Or.inl ⟨by omega, by omega⟩⟩)⟩⟩) | exact Or.inr (Or.inr ⟨by omega, by omega, Or.inr ⟨by omega, or_assoc.mp (Or.inl (by omega))⟩⟩) | exact Or.inr (Or.inr ⟨by omega, by omega, Or.inl ⟨by omega, by omega, by omega, by omega⟩⟩) | exact or_assoc.mp (Or.inl (by omega))) | omega) (by first | exact std | (unfold cutR; first | exact Or.inr (Or.inr ⟨by omega, by omega, Or.inr ⟨by omega, Or.inr (Or.inr ⟨by omega, by omega, Or.inr ⟨by omega, by omega, by omega⟩⟩)⟩⟩) | exact Or.inr (Or.inr ⟨by omega, by omega, Or.inr ⟨by omega, Or.inr (Or.inr ⟨by omega, by omega, Or.inl ⟨by omega, by omega⟩⟩)⟩⟩) | exact Or.inr (Or.inr ⟨by omega, by omega, Or.inr ⟨by omega, or_assoc.mp (Or.inl (by omega))⟩⟩) | exact Or.inr (Or.inr ⟨by omega, by omega, Or.inl ⟨by omega, by omega, by omega, by omega⟩⟩) | exact or_assoc.mp (Or.inl (by omega))) | omega) Ln_h390 Sp_h390t394 Al_h390 Cu_h390)
end MYNReader_readCut9_f0
