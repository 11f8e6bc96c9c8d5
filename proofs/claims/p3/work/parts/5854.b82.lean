/-! contracts, printed by wip/gen/gy.py -/
section MYNReader_readCut7_f0
theorem c_Reader_readCut7_f0 {l : Launch} {rho : Nat → Int32} {d : Nat} {h : my_H} {Q : my_H → my_V → Prop} {wv : Int} (cf : h 82 9 = 0) (hwv : wv ≤ 5) (hwv0 : 0 ≤ wv) (n_Ln : Ln h) (n_Sp : Sp h wv) (n_St5 : St5 h) (n_Al : Al h) (n_Cu : Cu h) (k0 : ∀ (h' : my_H), my_fr [(4, 5), (4, 8), (4, 9), (5, 5), (5, 6), (5, 7), (5, 8), (5, 9), (32, -1), (33, -1), (34, -1), (35, -1)] h h' → 1 ≤ h' 82 9 → h' 82 9 ≤ 16004 → cutR (cs h) (h 82 7) (h (h 82 2) 4) (h' 82 9) (h' 82 7) → LoZ h h' → Ln h' → Sp h' wv → Al h' → Cu h' → Q h' (9, 0)) (k1 : ∀ (h' : my_H), my_fr [(4, 5), (4, 8), (4, 9), (5, 5), (5, 6), (5, 7), (5, 8), (5, 9), (32, -1), (33, -1), (34, -1), (35, -1)] h h' → h' 82 9 = 0 → cutR (cs h) (h 82 7) (h (h 82 2) 4) (h' 82 9) (h' 82 7) → Std h h' (h (h 82 2) 4) (h (h 82 2) 9 + 1) → (∃ k a b : Int, (CutV (cs h) (h 82 7) k a b ∧ 0 ≤ a ∧ 0 ≤ b) ∧ PnI h h' k a b 0) → LoZ h h' → Ln h' → Sp h' wv → Al h' → Cu h' → Q h' (9, 0)) : wp l rho (d + 5) 52 0 [(2, 82), (9, 0), (9, 0), (9, 0)] [] h Q := by
  have ck1 := Cu_s n_Cu
  have cv2 := Cu_v n_Cu
  refine w_aload_n gz_52_0 rfl ?_
  refine w_aload_n gz_52_1 rfl ?_
  refine v_getR (j := 2) gz_52_2 rfl is_82 rd_5 rfl (fun v3 ev3 tv3 => ?_)
  have ce4 : h 82 2 = v3 := ev3.symm
  have sE8 : v3 = h 82 2 := by first | assumption | omega
  refine v_getI (j := 4) gz_52_5 rfl tv3 rd_4 rfl (fun v5 ev5 pv5 qv5 => ?_)
  have c8 : v5 = h (h 82 2) 4 := by rw [← sE8]; omega
  refine w_inv (k := 1) (as := [(0, v5)]) (r := []) (x := 82) (ls0 := [(2, 82), (0, v5), (9, 0)]) gz_52_8 gm_51 rfl is_82 rd_5 rfl rfl rfl rfl rfl (c_Reader_takeNumber9_f0 (d := (d + 2)) (x1 := v5) (by omega) (by omega) (cf.trans (by omega)) n_Al n_Cu (fun h6 frh6 w7 w8 xp9 Al_h6t10 Cu_h6t11 => ?_) (fun h12 v13 frh12 w14 w15 w16 w17 w18 xp19 xp20 xp21 Al_h12t22 Cu_h12t23 => ?_))
  ·
    have gh6 : my_fr [(4, 5), (4, 8), (4, 9), (5, 5), (5, 6), (5, 7), (5, 8), (5, 9), (32, -1), (33, -1), (34, -1), (35, -1)] h h6 := my_fr.tr my_fr.rf (frh6.mo rfl)
    have Ln_h6 : Ln h6 := Ln_ag (my_ag.fr frh6 rfl) n_Ln
    have Sp_h6 : Sp h6 wv := Sp_ag (my_ag.fr frh6 rfl) hwv n_Ln n_Sp
    have St5_h6 : St5 h6 := St5_ag (my_ag.fr frh6 rfl) n_Ln n_St5
    have AgZ_h6 : my_ag LzF h h6 := AgZ_ag (my_ag.fr frh6 rfl) (my_ag.rf : my_ag LzF h h)
    have LoZ_h6 : LoZ h h6 := LoZ_ag (my_ag.fr frh6 rfl) n_Ln (LoZ_rf)
    show wp l rho (d + 5) 52 11 [(2, 82), (9, 0), (9, 0), (9, 0)] [(0, (-1))] h6 Q
    refine w_istore_n (ls' := [(2, 82), (0, (-1)), (9, 0), (9, 0)]) gz_52_11 gm_52 rfl rfl rfl ?_
    refine w_aload_n gz_52_12 rfl ?_
    refine w_ldcS gz_52_13 (by decide) ?_
    refine w_inv (k := 1) (as := [(3, ((9 : Nat) : Int))]) (r := []) (x := 82) (ls0 := [(2, 82), (3, ((9 : Nat) : Int)), (9, 0)]) gz_52_15 gm_41 rfl is_82 rd_5 rfl rfl rfl rfl rfl (c_Reader_isWord9_f1 (d := d) (x1 := ((9 : Nat) : Int)) (by decide) ((h6 82 9)) ((rfl : h6 82 9 = h6 82 9)) (by omega) (by omega) Cu_h6t11 (fun w24 w25 xp26 => ?_) (fun w27 w28 w29 xp30 => ?_))
    ·
      show wp l rho (d + 5) 52 18 [(2, 82), (0, (-1)), (9, 0), (9, 0)] [(0, 0)] h6 Q
      rw [show wc ((9 : Nat) : Int) = 615403 from by decide] at xp26
      have tE31 : cs h6 = cs h := cs_eq (fun j => my_fr.at gh6 is_92 rfl) (my_fr.at gh6 is_82 rfl)
      rw [tE31] at xp26
      refine w_ifeq (t := 25) gz_52_18 rfl (fun u32 => ?_) (fun u32 => by exfalso; omega)
      refine w_aload_n gz_52_25 rfl ?_
      refine w_ldcS gz_52_26 (by decide) ?_
      refine w_inv (k := 1) (as := [(3, ((10 : Nat) : Int))]) (r := []) (x := 82) (ls0 := [(2, 82), (3, ((10 : Nat) : Int)), (9, 0)]) gz_52_28 gm_41 rfl is_82 rd_5 rfl rfl rfl rfl rfl (c_Reader_isWord9_f1 (d := d) (x1 := ((10 : Nat) : Int)) (by decide) ((h6 82 9)) ((rfl : h6 82 9 = h6 82 9)) (by omega) (by omega) Cu_h6t11 (fun w33 w34 xp35 => ?_) (fun w36 w37 w38 xp39 => ?_))
      ·
        show wp l rho (d + 5) 52 31 [(2, 82), (0, (-1)), (9, 0), (9, 0)] [(0, 0)] h6 Q
        rw [show wc ((10 : Nat) : Int) = 352 from by decide] at xp35
        have tE40 : cs h6 = cs h := cs_eq (fun j => my_fr.at gh6 is_92 rfl) (my_fr.at gh6 is_82 rfl)
        rw [tE40] at xp35
        refine w_ifeq (t := 38) gz_52_31 rfl (fun u41 => ?_) (fun u41 => by exfalso; omega)
        refine w_aload_n gz_52_38 rfl ?_
        refine w_ldcS gz_52_39 (by decide) ?_
        refine w_inv (k := 1) (as := [(3, ((11 : Nat) : Int))]) (r := []) (x := 82) (ls0 := [(2, 82), (3, ((11 : Nat) : Int)), (9, 0)]) gz_52_41 gm_41 rfl is_82 rd_5 rfl rfl rfl rfl rfl (c_Reader_isWord9_f1 (d := d) (x1 := ((11 : Nat) : Int)) (by decide) ((h6 82 9)) ((rfl : h6 82 9 = h6 82 9)) (by omega) (by omega) Cu_h6t11 (fun w42 w43 xp44 => ?_) (fun w45 w46 w47 xp48 => ?_))
        ·
          show wp l rho (d + 5) 52 44 [(2, 82), (0, (-1)), (9, 0), (9, 0)] [(0, 0)] h6 Q
          rw [show wc ((11 : Nat) : Int) = 679695 from by decide] at xp44
          have tE49 : cs h6 = cs h := cs_eq (fun j => my_fr.at gh6 is_92 rfl) (my_fr.at gh6 is_82 rfl)
          rw [tE49] at xp44
          refine w_ifeq (t := 51) gz_52_44 rfl (fun u50 => ?_) (fun u50 => by exfalso; omega)
          refine w_iconst gz_52_51 (by decide) ?_
          refine w_istore_n (ls' := [(2, 82), (0, (-1)), (0, (-1)), (9, 0)]) gz_52_52 gm_52 rfl rfl rfl ?_
          refine w_iload_n gz_52_53 rfl ?_
          refine w_iconst gz_52_54 (by decide) ?_
          refine w_icne (t := 66) gz_52_55 rfl (fun u51 => by exfalso; omega) (fun u51 => ?_)
          refine w_aload_n gz_52_58 rfl ?_
          refine w_iconst gz_52_59 (by decide) ?_
          refine w_inv (k := 0) (as := [(0, 1)]) (r := []) (x := 82) (ls0 := [(2, 82), (0, 1)]) gz_52_60 gm_42 rfl is_82 rd_5 rfl rfl rfl rfl rfl ?_
          refine w_aload_n gz_42_0 rfl ?_
          refine v_getI (j := 9) gz_42_1 rfl is_82 rd_5 rfl (fun v52 ev52 pv52 qv52 => ?_)
          have zv52 := ev52.trans (rfl : h6 82 9 = h6 82 9)
          refine w_ifne (t := 20) gz_42_4 rfl (fun u53 => ?_) (fun u53 => by exfalso; omega)
          refine w_vret gz_42_20 gm_42 ?_
          show wp l rho (d + 5) 52 63 [(2, 82), (0, (-1)), (0, (-1)), (9, 0)] [] h6 Q
          refine w_goto (t := 70) gz_52_63 rfl ?_
          refine w_aload_n gz_52_70 rfl ?_
          refine w_sipush gz_52_71 (by decide) ?_
          refine w_inv (k := 1) (as := [(0, 200)]) (r := []) (x := 82) (ls0 := [(2, 82), (0, 200), (9, 0)]) gz_52_74 gm_51 rfl is_82 rd_5 rfl rfl rfl rfl rfl (c_Reader_takeNumber9_f1 (d := (d + 2)) (x1 := 200) (by omega) (by omega) (v52) (ev52.symm) (by omega) (by omega) Al_h6t10 Cu_h6t11 (fun w54 w55 Al_h6t56 Cu_h6t57 => ?_))
          show wp l rho (d + 5) 52 77 [(2, 82), (0, (-1)), (0, (-1)), (9, 0)] [(0, (-1))] h6 Q
          refine w_istore_n (ls' := [(2, 82), (0, (-1)), (0, (-1)), (0, (-1))]) gz_52_77 gm_52 rfl rfl rfl ?_
          refine w_aload_n gz_52_78 rfl ?_
          refine v_getI (j := 9) gz_52_79 rfl is_82 rd_5 rfl (fun v58 ev58 pv58 qv58 => ?_)
          have zv58 := ev58.trans ev52.symm
          refine w_ifne (t := 102) gz_52_82 rfl (fun u59 => ?_) (fun u59 => by exfalso; omega)
          have psR : h6 82 7 = h6 82 7 := (rfl : h6 82 7 = h6 82 7)
          have npsR : cs h6 = cs h := cs_eq (fun j => my_fr.at gh6 is_92 rfl) (my_fr.at gh6 is_82 rfl)
          have c60 := ev58.symm
          exact w_vret gz_52_102 gm_52 (k0 h6 (gh6) (by omega) (by omega) (by first | exact ⟨_, _, _, ⟨⟨by omega, by omega, by omega⟩, by omega, by omega⟩, pn9⟩ | exact LoZ_h6 | exact std | (unfold cutR; first | exact Or.inr (Or.inr ⟨by omega, by omega, Or.inr ⟨by omega, Or.inr (Or.inr ⟨by omega, by omega, Or.inr ⟨by omega, by omega, by omega⟩⟩)⟩⟩) | exact Or.inr (Or.inr ⟨by omega, by omega, Or.inr ⟨by omega, Or.inr (Or.inr ⟨by omega, by omega, Or.inl ⟨by omega, by omega⟩⟩)⟩⟩) | exact Or.inr (Or.inr ⟨by omega, by omega, Or.inr ⟨by omega, or_assoc.mp (Or.inl (by omega))⟩⟩) | exact Or.inr (Or.inr ⟨by omega, by omega, Or.inl ⟨by omega, by omega, by omega, by omega⟩⟩) | exact or_assoc.mp (Or.inl (by omega))) | omega) (by first | exact ⟨_, _, _, ⟨⟨by omega, by omega, by omega⟩, by omega, by omega⟩, pn9⟩ | exact LoZ_h6 | exact std | (unfold cutR; first | exact Or.inr (Or.inr ⟨by omega, by omega, Or.inr ⟨by omega, Or.inr (Or.inr ⟨by omega, by omega, Or.inr ⟨by omega, by omega, by omega⟩⟩)⟩⟩) | exact Or.inr (Or.inr ⟨by omega, by omega, Or.inr ⟨by omega, Or.inr (Or.inr ⟨by omega, by omega, Or.inl ⟨by omega, by omega⟩⟩)⟩⟩) | exact Or.inr (Or.inr ⟨by omega, by omega, Or.inr ⟨by omega, or_assoc.mp (Or.inl (by omega))⟩⟩) | exact Or.inr (Or.inr ⟨by omega, by omega, Or.inl ⟨by omega, by omega, by omega, by omega⟩⟩) | exact or_assoc.mp (Or.inl (by omega))) | omega) Ln_h6 Sp_h6 Al_h6t56 Cu_h6t57)
        ·
          show wp l rho (d + 5) 52 44 [(2, 82), (0, (-1)), (9, 0), (9, 0)] [(0, 1)] h6 Q
          rw [show wc ((11 : Nat) : Int) = 679695 from by decide] at xp48
          have tE61 : cs h6 = cs h := cs_eq (fun j => my_fr.at gh6 is_92 rfl) (my_fr.at gh6 is_82 rfl)
          rw [tE61] at xp48
          refine w_ifeq (t := 51) gz_52_44 rfl (fun u62 => by exfalso; omega) (fun u62 => ?_)
          refine w_iconst gz_52_47 (by decide) ?_
          refine w_goto (t := 52) gz_52_48 rfl ?_
          refine w_istore_n (ls' := [(2, 82), (0, (-1)), (0, 2), (9, 0)]) gz_52_52 gm_52 rfl rfl rfl ?_
          refine w_iload_n gz_52_53 rfl ?_
          refine w_iconst gz_52_54 (by decide) ?_
          refine w_icne (t := 66) gz_52_55 rfl (fun u63 => ?_) (fun u63 => by exfalso; omega)
          refine w_aload_n gz_52_66 rfl ?_
          refine w_inv (k := 2) (as := []) (r := []) (x := 82) (ls0 := [(2, 82), (9, 0), (9, 0)]) gz_52_67 gm_37 rfl is_82 rd_5 rfl rfl rfl rfl rfl (c_Reader_nextToken9_f1 (d := (d + 3))  ((h6 82 9)) ((rfl : h6 82 9 = h6 82 9)) (by omega) (by omega) Al_h6t10 (fun h64 frh64 w65 w66 w67 w68 xp69 xp70 Al_h64t71 Cu_h64t72 => ?_))
          have gh64 : my_fr [(4, 5), (4, 8), (4, 9), (5, 5), (5, 6), (5, 7), (5, 8), (5, 9), (32, -1), (33, -1), (34, -1), (35, -1)] h h64 := my_fr.tr gh6 (frh64.mo rfl)
          have Ln_h64 : Ln h64 := Ln_ag (my_ag.fr frh64 rfl) Ln_h6
          have Sp_h64 : Sp h64 wv := Sp_ag (my_ag.fr frh64 rfl) hwv Ln_h6 Sp_h6
          have St5_h64 : St5 h64 := St5_ag (my_ag.fr frh64 rfl) Ln_h6 St5_h6
          have AgZ_h64 : my_ag LzF h h64 := AgZ_ag (my_ag.fr frh64 rfl) AgZ_h6
          have LoZ_h64 : LoZ h h64 := LoZ_ag (my_ag.fr frh64 rfl) Ln_h6 LoZ_h6
          show wp l rho (d + 5) 52 70 [(2, 82), (0, (-1)), (0, 2), (9, 0)] [] h64 Q
          have xc73 := xp69 Cu_h6t11
          have tE74 : cs h6 = cs h := cs_eq (fun j => my_fr.at gh6 is_92 rfl) (my_fr.at gh6 is_82 rfl)
          rw [tE74] at xc73
          have ck75 := Cu_s Cu_h64t72
          rw [show cs h64 = cs h from cs_eq (fun j => my_fr.at gh64 is_92 rfl) (my_fr.at gh64 is_82 rfl)] at ck75
          rw [show h64 82 7 = (sN (cs h) (h6 82 7)) from xc73] at ck75
          have cv76 := Cu_v Cu_h64t72
          rw [show cs h64 = cs h from cs_eq (fun j => my_fr.at gh64 is_92 rfl) (my_fr.at gh64 is_82 rfl)] at cv76
          rw [show h64 82 7 = (sN (cs h) (h6 82 7)) from xc73] at cv76
          refine w_aload_n gz_52_70 rfl ?_
          refine w_sipush gz_52_71 (by decide) ?_
          refine w_inv (k := 1) (as := [(0, 200)]) (r := []) (x := 82) (ls0 := [(2, 82), (0, 200), (9, 0)]) gz_52_74 gm_51 rfl is_82 rd_5 rfl rfl rfl rfl rfl (c_Reader_takeNumber9_f1 (d := (d + 2)) (x1 := 200) (by omega) (by omega) ((h6 82 9)) (((my_fr.at frh64 is_82 rfl).trans (rfl : h6 82 9 = h6 82 9))) (by omega) (by omega) Al_h64t71 Cu_h64t72 (fun w77 w78 Al_h64t79 Cu_h64t80 => ?_))
          show wp l rho (d + 5) 52 77 [(2, 82), (0, (-1)), (0, 2), (9, 0)] [(0, (-1))] h64 Q
          refine w_istore_n (ls' := [(2, 82), (0, (-1)), (0, 2), (0, (-1))]) gz_52_77 gm_52 rfl rfl rfl ?_
          refine w_aload_n gz_52_78 rfl ?_
          refine v_getI (j := 9) gz_52_79 rfl is_82 rd_5 rfl (fun v81 ev81 pv81 qv81 => ?_)
          have zv81 := ev81.trans ((my_fr.at frh64 is_82 rfl).trans (rfl : h6 82 9 = h6 82 9))
          refine w_ifne (t := 102) gz_52_82 rfl (fun u82 => ?_) (fun u82 => by exfalso; omega)
          have psR : h64 82 7 = (sN (cs h) (h6 82 7)) := xc73
          have npsR : cs h64 = cs h := cs_eq (fun j => my_fr.at gh64 is_92 rfl) (my_fr.at gh64 is_82 rfl)
          have c83 := ev81.symm
          exact w_vret gz_52_102 gm_52 (k0 h64 (gh64) (by omega) (by omega) (by first | exact ⟨_, _, _, ⟨⟨by omega, by omega, by omega⟩, by omega, by omega⟩, pn9⟩ | exact LoZ_h64 | exact std | (unfold cutR; first | exact Or.inr (Or.inr ⟨by omega, by omega, Or.inr ⟨by omega, Or.inr (Or.inr ⟨by omega, by omega, Or.inr ⟨by omega, by omega, by omega⟩⟩)⟩⟩) | exact Or.inr (Or.inr ⟨by omega, by omega, Or.inr ⟨by omega, Or.inr (Or.inr ⟨by omega, by omega, Or.inl ⟨by omega, by omega⟩⟩)⟩⟩) | exact Or.inr (Or.inr ⟨by omega, by omega, Or.inr ⟨by omega, or_assoc.mp (Or.inl (by omega))⟩⟩) | exact Or.inr (Or.inr ⟨by omega, by omega, Or.inl ⟨by omega, by omega, by omega, by omega⟩⟩) | exact or_assoc.mp (Or.inl (by omega))) | omega) (by first | exact ⟨_, _, _, ⟨⟨by omega, by omega, by omega⟩, by omega, by omega⟩, pn9⟩ | exact LoZ_h64 | exact std | (unfold cutR; first | exact Or.inr (Or.inr ⟨by omega, by omega, Or.inr ⟨by omega, Or.inr (Or.inr ⟨by omega, by omega, Or.inr ⟨by omega, by omega, by omega⟩⟩)⟩⟩) | exact Or.inr (Or.inr ⟨by omega, by omega, Or.inr ⟨by omega, Or.inr (Or.inr ⟨by omega, by omega, Or.inl ⟨by omega, by omega⟩⟩)⟩⟩) | exact Or.inr (Or.inr ⟨by omega, by omega, Or.inr ⟨by omega, or_assoc.mp (Or.inl (by omega))⟩⟩) | exact Or.inr (Or.inr ⟨by omega, by omega, Or.inl ⟨by omega, by omega, by omega, by omega⟩⟩) | exact or_assoc.mp (Or.inl (by omega))) | omega) Ln_h64 Sp_h64 Al_h64t79 Cu_h64t80)
      ·
        show wp l rho (d + 5) 52 31 [(2, 82), (0, (-1)), (9, 0), (9, 0)] [(0, 1)] h6 Q
        rw [show wc ((10 : Nat) : Int) = 352 from by decide] at xp39
        have tE84 : cs h6 = cs h := cs_eq (fun j => my_fr.at gh6 is_92 rfl) (my_fr.at gh6 is_82 rfl)
        rw [tE84] at xp39
        refine w_ifeq (t := 38) gz_52_31 rfl (fun u85 => by exfalso; omega) (fun u85 => ?_)
        refine w_iconst gz_52_34 (by decide) ?_
        refine w_goto (t := 52) gz_52_35 rfl ?_
        refine w_istore_n (ls' := [(2, 82), (0, (-1)), (0, 1), (9, 0)]) gz_52_52 gm_52 rfl rfl rfl ?_
        refine w_iload_n gz_52_53 rfl ?_
        refine w_iconst gz_52_54 (by decide) ?_
        refine w_icne (t := 66) gz_52_55 rfl (fun u86 => ?_) (fun u86 => by exfalso; omega)
        refine w_aload_n gz_52_66 rfl ?_
        refine w_inv (k := 2) (as := []) (r := []) (x := 82) (ls0 := [(2, 82), (9, 0), (9, 0)]) gz_52_67 gm_37 rfl is_82 rd_5 rfl rfl rfl rfl rfl (c_Reader_nextToken9_f1 (d := (d + 3))  ((h6 82 9)) ((rfl : h6 82 9 = h6 82 9)) (by omega) (by omega) Al_h6t10 (fun h87 frh87 w88 w89 w90 w91 xp92 xp93 Al_h87t94 Cu_h87t95 => ?_))
        have gh87 : my_fr [(4, 5), (4, 8), (4, 9), (5, 5), (5, 6), (5, 7), (5, 8), (5, 9), (32, -1), (33, -1), (34, -1), (35, -1)] h h87 := my_fr.tr gh6 (frh87.mo rfl)
        have Ln_h87 : Ln h87 := Ln_ag (my_ag.fr frh87 rfl) Ln_h6
        have Sp_h87 : Sp h87 wv := Sp_ag (my_ag.fr frh87 rfl) hwv Ln_h6 Sp_h6
        have St5_h87 : St5 h87 := St5_ag (my_ag.fr frh87 rfl) Ln_h6 St5_h6
        have AgZ_h87 : my_ag LzF h h87 := AgZ_ag (my_ag.fr frh87 rfl) AgZ_h6
        have LoZ_h87 : LoZ h h87 := LoZ_ag (my_ag.fr frh87 rfl) Ln_h6 LoZ_h6
        show wp l rho (d + 5) 52 70 [(2, 82), (0, (-1)), (0, 1), (9, 0)] [] h87 Q
        have xc96 := xp92 Cu_h6t11
        have tE97 : cs h6 = cs h := cs_eq (fun j => my_fr.at gh6 is_92 rfl) (my_fr.at gh6 is_82 rfl)
        rw [tE97] at xc96
        have ck98 := Cu_s Cu_h87t95
        rw [show cs h87 = cs h from cs_eq (fun j => my_fr.at gh87 is_92 rfl) (my_fr.at gh87 is_82 rfl)] at ck98
        rw [show h87 82 7 = (sN (cs h) (h6 82 7)) from xc96] at ck98
        have cv99 := Cu_v Cu_h87t95
        rw [show cs h87 = cs h from cs_eq (fun j => my_fr.at gh87 is_92 rfl) (my_fr.at gh87 is_82 rfl)] at cv99
        rw [show h87 82 7 = (sN (cs h) (h6 82 7)) from xc96] at cv99
        refine w_aload_n gz_52_70 rfl ?_
        refine w_sipush gz_52_71 (by decide) ?_
        refine w_inv (k := 1) (as := [(0, 200)]) (r := []) (x := 82) (ls0 := [(2, 82), (0, 200), (9, 0)]) gz_52_74 gm_51 rfl is_82 rd_5 rfl rfl rfl rfl rfl (c_Reader_takeNumber9_f1 (d := (d + 2)) (x1 := 200) (by omega) (by omega) ((h6 82 9)) (((my_fr.at frh87 is_82 rfl).trans (rfl : h6 82 9 = h6 82 9))) (by omega) (by omega) Al_h87t94 Cu_h87t95 (fun w100 w101 Al_h87t102 Cu_h87t103 => ?_))
        show wp l rho (d + 5) 52 77 [(2, 82), (0, (-1)), (0, 1), (9, 0)] [(0, (-1))] h87 Q
        refine w_istore_n (ls' := [(2, 82), (0, (-1)), (0, 1), (0, (-1))]) gz_52_77 gm_52 rfl rfl rfl ?_
        refine w_aload_n gz_52_78 rfl ?_
        refine v_getI (j := 9) gz_52_79 rfl is_82 rd_5 rfl (fun v104 ev104 pv104 qv104 => ?_)
        have zv104 := ev104.trans ((my_fr.at frh87 is_82 rfl).trans (rfl : h6 82 9 = h6 82 9))
        refine w_ifne (t := 102) gz_52_82 rfl (fun u105 => ?_) (fun u105 => by exfalso; omega)
        have psR : h87 82 7 = (sN (cs h) (h6 82 7)) := xc96
        have npsR : cs h87 = cs h := cs_eq (fun j => my_fr.at gh87 is_92 rfl) (my_fr.at gh87 is_82 rfl)
        have c106 := ev104.symm
        exact w_vret gz_52_102 gm_52 (k0 h87 (gh87) (by omega) (by omega) (by first | exact ⟨_, _, _, ⟨⟨by omega, by omega, by omega⟩, by omega, by omega⟩, pn9⟩ | exact LoZ_h87 | exact std | (unfold cutR; first | exact Or.inr (Or.inr ⟨by omega, by omega, Or.inr ⟨by omega, Or.inr (Or.inr ⟨by omega, by omega, Or.inr ⟨by omega, by omega, by omega⟩⟩)⟩⟩) | exact Or.inr (Or.inr ⟨by omega, by omega, Or.inr ⟨by omega, Or.inr (Or.inr ⟨by omega, by omega, Or.inl ⟨by omega, by omega⟩⟩)⟩⟩) | exact Or.inr (Or.inr ⟨by omega, by omega, Or.inr ⟨by omega, or_assoc.mp (Or.inl (by omega))⟩⟩) | exact Or.inr (Or.inr ⟨by omega, by omega, Or.inl ⟨by omega, by omega, by omega, by omega⟩⟩) | exact or_assoc.mp (Or.inl (by omega))) | omega) (by first | exact ⟨_, _, _, ⟨⟨by omega, by omega, by omega⟩, by omega, by omega⟩, pn9⟩ | exact LoZ_h87 | exact std | (unfold cutR; first | exact Or.inr (Or.inr ⟨by omega, by omega, Or.inr ⟨by omega, Or.inr (Or.inr ⟨by omega, by omega, Or.inr ⟨by omega, by omega, by omega⟩⟩)⟩⟩) | exact Or.inr (Or.inr ⟨by omega, by omega, Or.inr ⟨by omega, Or.inr (Or.inr ⟨by omega, by omega, Or.inl ⟨by omega, by omega⟩⟩)⟩⟩) | exact Or.inr (Or.inr ⟨by omega, by omega, Or.inr ⟨by omega, or_assoc.mp (Or.inl (by omega))⟩⟩) | exact Or.inr (Or.inr ⟨by omega, by omega, Or.inl ⟨by omega, by omega, by omega, by omega⟩⟩) | exact or_assoc.mp (Or.inl (by omega))) | omega) Ln_h87 Sp_h87 Al_h87t102 Cu_h87t103)
    ·
      show wp l rho (d + 5) 52 18 [(2, 82), (0, (-1)), (9, 0), (9, 0)] [(0, 1)] h6 Q
      rw [show wc ((9 : Nat) : Int) = 615403 from by decide] at xp30
      have tE107 : cs h6 = cs h := cs_eq (fun j => my_fr.at gh6 is_92 rfl) (my_fr.at gh6 is_82 rfl)
      rw [tE107] at xp30
      refine w_ifeq (t := 25) gz_52_18 rfl (fun u108 => by exfalso; omega) (fun u108 => ?_)
      refine w_iconst gz_52_21 (by decide) ?_
      refine w_goto (t := 52) gz_52_22 rfl ?_
      refine w_istore_n (ls' := [(2, 82), (0, (-1)), (0, 0), (9, 0)]) gz_52_52 gm_52 rfl rfl rfl ?_
      refine w_iload_n gz_52_53 rfl ?_
      refine w_iconst gz_52_54 (by decide) ?_
      refine w_icne (t := 66) gz_52_55 rfl (fun u109 => ?_) (fun u109 => by exfalso; omega)
      refine w_aload_n gz_52_66 rfl ?_
      refine w_inv (k := 2) (as := []) (r := []) (x := 82) (ls0 := [(2, 82), (9, 0), (9, 0)]) gz_52_67 gm_37 rfl is_82 rd_5 rfl rfl rfl rfl rfl (c_Reader_nextToken9_f1 (d := (d + 3))  ((h6 82 9)) ((rfl : h6 82 9 = h6 82 9)) (by omega) (by omega) Al_h6t10 (fun h110 frh110 w111 w112 w113 w114 xp115 xp116 Al_h110t117 Cu_h110t118 => ?_))
      have gh110 : my_fr [(4, 5), (4, 8), (4, 9), (5, 5), (5, 6), (5, 7), (5, 8), (5, 9), (32, -1), (33, -1), (34, -1), (35, -1)] h h110 := my_fr.tr gh6 (frh110.mo rfl)
      have Ln_h110 : Ln h110 := Ln_ag (my_ag.fr frh110 rfl) Ln_h6
      have Sp_h110 : Sp h110 wv := Sp_ag (my_ag.fr frh110 rfl) hwv Ln_h6 Sp_h6
      have St5_h110 : St5 h110 := St5_ag (my_ag.fr frh110 rfl) Ln_h6 St5_h6
      have AgZ_h110 : my_ag LzF h h110 := AgZ_ag (my_ag.fr frh110 rfl) AgZ_h6
      have LoZ_h110 : LoZ h h110 := LoZ_ag (my_ag.fr frh110 rfl) Ln_h6 LoZ_h6
      show wp l rho (d + 5) 52 70 [(2, 82), (0, (-1)), (0, 0), (9, 0)] [] h110 Q
      have xc119 := xp115 Cu_h6t11
      have tE120 : cs h6 = cs h := cs_eq (fun j => my_fr.at gh6 is_92 rfl) (my_fr.at gh6 is_82 rfl)
      rw [tE120] at xc119
      have ck121 := Cu_s Cu_h110t118
      rw [show cs h110 = cs h from cs_eq (fun j => my_fr.at gh110 is_92 rfl) (my_fr.at gh110 is_82 rfl)] at ck121
      rw [show h110 82 7 = (sN (cs h) (h6 82 7)) from xc119] at ck121
      have cv122 := Cu_v Cu_h110t118
      rw [show cs h110 = cs h from cs_eq (fun j => my_fr.at gh110 is_92 rfl) (my_fr.at gh110 is_82 rfl)] at cv122
      rw [show h110 82 7 = (sN (cs h) (h6 82 7)) from xc119] at cv122
      refine w_aload_n gz_52_70 rfl ?_
      refine w_sipush gz_52_71 (by decide) ?_
      refine w_inv (k := 1) (as := [(0, 200)]) (r := []) (x := 82) (ls0 := [(2, 82), (0, 200), (9, 0)]) gz_52_74 gm_51 rfl is_82 rd_5 rfl rfl rfl rfl rfl (c_Reader_takeNumber9_f1 (d := (d + 2)) (x1 := 200) (by omega) (by omega) ((h6 82 9)) (((my_fr.at frh110 is_82 rfl).trans (rfl : h6 82 9 = h6 82 9))) (by omega) (by omega) Al_h110t117 Cu_h110t118 (fun w123 w124 Al_h110t125 Cu_h110t126 => ?_))
      show wp l rho (d + 5) 52 77 [(2, 82), (0, (-1)), (0, 0), (9, 0)] [(0, (-1))] h110 Q
      refine w_istore_n (ls' := [(2, 82), (0, (-1)), (0, 0), (0, (-1))]) gz_52_77 gm_52 rfl rfl rfl ?_
      refine w_aload_n gz_52_78 rfl ?_
      refine v_getI (j := 9) gz_52_79 rfl is_82 rd_5 rfl (fun v127 ev127 pv127 qv127 => ?_)
      have zv127 := ev127.trans ((my_fr.at frh110 is_82 rfl).trans (rfl : h6 82 9 = h6 82 9))
      refine w_ifne (t := 102) gz_52_82 rfl (fun u128 => ?_) (fun u128 => by exfalso; omega)
      have psR : h110 82 7 = (sN (cs h) (h6 82 7)) := xc119
      have npsR : cs h110 = cs h := cs_eq (fun j => my_fr.at gh110 is_92 rfl) (my_fr.at gh110 is_82 rfl)
      have c129 := ev127.symm
      exact w_vret gz_52_102 gm_52 (k0 h110 (gh110) (by omega) (by omega) (by first | exact ⟨_, _, _, ⟨⟨by omega, by omega, by omega⟩, by omega, by omega⟩, pn9⟩ | exact LoZ_h110 | exact std | (unfold cutR; first | exact Or.inr (Or.inr ⟨by omega, by omega, Or.inr ⟨by omega, Or.inr (Or.inr ⟨by omega, by omega, Or.inr ⟨by omega, by omega, by omega⟩⟩)⟩⟩) | exact Or.inr (Or.inr ⟨by omega, by omega, Or.inr ⟨by omega, Or.inr (Or.inr ⟨by omega, by omega, Or.inl ⟨by omega, by omega⟩⟩)⟩⟩) | exact Or.inr (Or.inr ⟨by omega, by omega, Or.inr ⟨by omega, or_assoc.mp (Or.inl (by omega))⟩⟩) | exact Or.inr (Or.inr ⟨by omega, by omega, Or.inl ⟨by omega, by omega, by omega, by omega⟩⟩) | exact or_assoc.mp (Or.inl (by omega))) | omega) (by first | exact ⟨_, _, _, ⟨⟨by omega, by omega, by omega⟩, by omega, by omega⟩, pn9⟩ | exact LoZ_h110 | exact std | (unfold cutR; first | exact Or.inr (Or.inr ⟨by omega, by omega, Or.inr ⟨by omega, Or.inr (Or.inr ⟨by omega, by omega, Or.inr ⟨by omega, by omega, by omega⟩⟩)⟩⟩) | exact Or.inr (Or.inr ⟨by omega, by omega, Or.inr ⟨by omega, Or.inr (Or.inr ⟨by omega, by omega, Or.inl ⟨by omega, by omega⟩⟩)⟩⟩) | exact Or.inr (Or.inr ⟨by omega, by omega, Or.inr ⟨by omega, or_assoc.mp (Or.inl (by omega))⟩⟩) | exact Or.inr (Or.inr ⟨by omega, by omega, Or.inl ⟨by omega, by omega, by omega, by omega⟩⟩) | exact or_assoc.mp (Or.inl (by omega))) | omega) Ln_h110 Sp_h110 Al_h110t125 Cu_h110t126)
  ·
    have gh12 : my_fr [(4, 5), (4, 8), (4, 9), (5, 5), (5, 6), (5, 7), (5, 8), (5, 9), (32, -1), (33, -1), (34, -1), (35, -1)] h h12 := my_fr.tr my_fr.rf (frh12.mo rfl)
    have Ln_h12 : Ln h12 := Ln_ag (my_ag.fr frh12 rfl) n_Ln
    have Sp_h12 : Sp h12 wv := Sp_ag (my_ag.fr frh12 rfl) hwv n_Ln n_Sp
    have St5_h12 : St5 h12 := St5_ag (my_ag.fr frh12 rfl) n_Ln n_St5
    have AgZ_h12 : my_ag LzF h h12 := AgZ_ag (my_ag.fr frh12 rfl) (my_ag.rf : my_ag LzF h h)
    have LoZ_h12 : LoZ h h12 := LoZ_ag (my_ag.fr frh12 rfl) n_Ln (LoZ_rf)
    show wp l rho (d + 5) 52 11 [(2, 82), (9, 0), (9, 0), (9, 0)] [(0, v13)] h12 Q
    have ck130 := Cu_s Cu_h12t23
    rw [show cs h12 = cs h from cs_eq (fun j => my_fr.at gh12 is_92 rfl) (my_fr.at gh12 is_82 rfl)] at ck130
    rw [show h12 82 7 = (sN (cs h) (h 82 7)) from xp19] at ck130
    have cv131 := Cu_v Cu_h12t23
    rw [show cs h12 = cs h from cs_eq (fun j => my_fr.at gh12 is_92 rfl) (my_fr.at gh12 is_82 rfl)] at cv131
    rw [show h12 82 7 = (sN (cs h) (h 82 7)) from xp19] at cv131
    refine w_istore_n (ls' := [(2, 82), (0, v13), (9, 0), (9, 0)]) gz_52_11 gm_52 rfl rfl rfl ?_
    refine w_aload_n gz_52_12 rfl ?_
    refine w_ldcS gz_52_13 (by decide) ?_
    refine w_inv (k := 1) (as := [(3, ((9 : Nat) : Int))]) (r := []) (x := 82) (ls0 := [(2, 82), (3, ((9 : Nat) : Int)), (9, 0)]) gz_52_15 gm_41 rfl is_82 rd_5 rfl rfl rfl rfl rfl (c_Reader_isWord9_f0 (d := d) (x1 := ((9 : Nat) : Int)) (by decide) (w18.trans (by omega)) Cu_h12t23 (fun w132 xp133 => ?_) (fun w134 w135 xp136 => ?_))
    ·
      show wp l rho (d + 5) 52 18 [(2, 82), (0, v13), (9, 0), (9, 0)] [(0, 0)] h12 Q
      rw [show wc ((9 : Nat) : Int) = 615403 from by decide] at xp133
      have tE137 : cs h12 = cs h := cs_eq (fun j => my_fr.at gh12 is_92 rfl) (my_fr.at gh12 is_82 rfl)
      rw [tE137] at xp133
      have ps138 : h12 82 7 = (sN (cs h) (h 82 7)) := xp19
      rw [ps138] at xp133
      refine w_ifeq (t := 25) gz_52_18 rfl (fun u139 => ?_) (fun u139 => by exfalso; omega)
      refine w_aload_n gz_52_25 rfl ?_
      refine w_ldcS gz_52_26 (by decide) ?_
      refine w_inv (k := 1) (as := [(3, ((10 : Nat) : Int))]) (r := []) (x := 82) (ls0 := [(2, 82), (3, ((10 : Nat) : Int)), (9, 0)]) gz_52_28 gm_41 rfl is_82 rd_5 rfl rfl rfl rfl rfl (c_Reader_isWord9_f0 (d := d) (x1 := ((10 : Nat) : Int)) (by decide) (w18.trans (by omega)) Cu_h12t23 (fun w140 xp141 => ?_) (fun w142 w143 xp144 => ?_))
      ·
        show wp l rho (d + 5) 52 31 [(2, 82), (0, v13), (9, 0), (9, 0)] [(0, 0)] h12 Q
        rw [show wc ((10 : Nat) : Int) = 352 from by decide] at xp141
        have tE145 : cs h12 = cs h := cs_eq (fun j => my_fr.at gh12 is_92 rfl) (my_fr.at gh12 is_82 rfl)
        rw [tE145] at xp141
        have ps146 : h12 82 7 = (sN (cs h) (h 82 7)) := xp19
        rw [ps146] at xp141
        refine w_ifeq (t := 38) gz_52_31 rfl (fun u147 => ?_) (fun u147 => by exfalso; omega)
        refine w_aload_n gz_52_38 rfl ?_
        refine w_ldcS gz_52_39 (by decide) ?_
        refine w_inv (k := 1) (as := [(3, ((11 : Nat) : Int))]) (r := []) (x := 82) (ls0 := [(2, 82), (3, ((11 : Nat) : Int)), (9, 0)]) gz_52_41 gm_41 rfl is_82 rd_5 rfl rfl rfl rfl rfl (c_Reader_isWord9_f0 (d := d) (x1 := ((11 : Nat) : Int)) (by decide) (w18.trans (by omega)) Cu_h12t23 (fun w148 xp149 => ?_) (fun w150 w151 xp152 => ?_))
        ·
          show wp l rho (d + 5) 52 44 [(2, 82), (0, v13), (9, 0), (9, 0)] [(0, 0)] h12 Q
          rw [show wc ((11 : Nat) : Int) = 679695 from by decide] at xp149
          have tE153 : cs h12 = cs h := cs_eq (fun j => my_fr.at gh12 is_92 rfl) (my_fr.at gh12 is_82 rfl)
          rw [tE153] at xp149
          have ps154 : h12 82 7 = (sN (cs h) (h 82 7)) := xp19
          rw [ps154] at xp149
          refine w_ifeq (t := 51) gz_52_44 rfl (fun u155 => ?_) (fun u155 => by exfalso; omega)
          refine w_iconst gz_52_51 (by decide) ?_
          refine w_istore_n (ls' := [(2, 82), (0, v13), (0, (-1)), (9, 0)]) gz_52_52 gm_52 rfl rfl rfl ?_
          refine w_iload_n gz_52_53 rfl ?_
          refine w_iconst gz_52_54 (by decide) ?_
          refine w_icne (t := 66) gz_52_55 rfl (fun u156 => by exfalso; omega) (fun u156 => ?_)
          refine w_aload_n gz_52_58 rfl ?_
          refine w_iconst gz_52_59 (by decide) ?_
          refine w_inv (k := 0) (as := [(0, 1)]) (r := []) (x := 82) (ls0 := [(2, 82), (0, 1)]) gz_52_60 gm_42 rfl is_82 rd_5 rfl rfl rfl rfl rfl ?_
          refine w_aload_n gz_42_0 rfl ?_
          refine v_getI (j := 9) gz_42_1 rfl is_82 rd_5 rfl (fun v157 ev157 pv157 qv157 => ?_)
          have zv157 := ev157.trans w18
          refine w_ifne (t := 20) gz_42_4 rfl (fun u158 => by exfalso; omega) (fun u158 => ?_)
          refine w_aload_n gz_42_7 rfl ?_
          refine w_iload_n gz_42_8 rfl ?_
          refine w_bipush gz_42_9 (by decide) ?_
          refine w_aload_n gz_42_11 rfl ?_
          refine v_getI (j := 7) gz_42_12 rfl is_82 rd_5 rfl (fun v159 ev159 pv159 qv159 => ?_)
          refine w_imul gz_42_15 ⟨by omega, by omega⟩ ?_
          refine w_iadd gz_42_16 ⟨by omega, by omega⟩ ?_
          refine v_putI (j := 9) gz_42_17 rfl is_82 rd_5 rfl (by omega) (by omega) rfl (fun h160 fh160 => ?_)
          have gh160 : my_fr [(4, 5), (4, 8), (4, 9), (5, 5), (5, 6), (5, 7), (5, 8), (5, 9), (32, -1), (33, -1), (34, -1), (35, -1)] h h160 := my_fr.up gh12 is_82 fh160 rfl
          have Ln_h160 : Ln h160 := Ln_ag (my_ag.up fh160 is_82 rfl) Ln_h12
          have Sp_h160 : Sp h160 wv := Sp_ag (my_ag.up fh160 is_82 rfl) hwv Ln_h12 Sp_h12
          have St5_h160 : St5 h160 := St5_ag (my_ag.up fh160 is_82 rfl) Ln_h12 St5_h12
          have AgZ_h160 : my_ag LzF h h160 := AgZ_ag (my_ag.up fh160 is_82 rfl) AgZ_h12
          have LoZ_h160 : LoZ h h160 := LoZ_ag (my_ag.up fh160 is_82 rfl) Ln_h12 LoZ_h12
          have Al_h160 : Al h160 := Al_ag (my_ag.up fh160 is_82 rfl) Al_h12t22
          have Cu_h160 : Cu h160 := Cu_ag (my_ag.up fh160 is_82 rfl) Cu_h12t23
          refine w_vret gz_42_20 gm_42 ?_
          show wp l rho (d + 5) 52 63 [(2, 82), (0, v13), (0, (-1)), (9, 0)] [] h160 Q
          refine w_goto (t := 70) gz_52_63 rfl ?_
          refine w_aload_n gz_52_70 rfl ?_
          refine w_sipush gz_52_71 (by decide) ?_
          refine w_inv (k := 1) (as := [(0, 200)]) (r := []) (x := 82) (ls0 := [(2, 82), (0, 200), (9, 0)]) gz_52_74 gm_51 rfl is_82 rd_5 rfl rfl rfl rfl rfl (c_Reader_takeNumber9_f1 (d := (d + 2)) (x1 := 200) (by omega) (by omega) ((1 + (16 * v159))) ((my_up_self fh160)) (by omega) (by omega) Al_h160 Cu_h160 (fun w161 w162 Al_h160t163 Cu_h160t164 => ?_))
          show wp l rho (d + 5) 52 77 [(2, 82), (0, v13), (0, (-1)), (9, 0)] [(0, (-1))] h160 Q
          refine w_istore_n (ls' := [(2, 82), (0, v13), (0, (-1)), (0, (-1))]) gz_52_77 gm_52 rfl rfl rfl ?_
          refine w_aload_n gz_52_78 rfl ?_
          refine v_getI (j := 9) gz_52_79 rfl is_82 rd_5 rfl (fun v165 ev165 pv165 qv165 => ?_)
          have zv165 := ev165.trans (my_up_self fh160)
          refine w_ifne (t := 102) gz_52_82 rfl (fun u166 => ?_) (fun u166 => by exfalso; omega)
          have psR : h160 82 7 = (sN (cs h) (h 82 7)) := ((my_up_fld fh160 (by decide)).trans xp19)
          have npsR : cs h160 = cs h := cs_eq (fun j => my_fr.at gh160 is_92 rfl) (my_fr.at gh160 is_82 rfl)
          have c167 := ev165.symm
          exact w_vret gz_52_102 gm_52 (k0 h160 (gh160) (by omega) (by omega) (by first | exact ⟨_, _, _, ⟨⟨by omega, by omega, by omega⟩, by omega, by omega⟩, pn9⟩ | exact LoZ_h160 | exact std | (unfold cutR; first | exact Or.inr (Or.inr ⟨by omega, by omega, Or.inr ⟨by omega, Or.inr (Or.inr ⟨by omega, by omega, Or.inr ⟨by omega, by omega, by omega⟩⟩)⟩⟩) | exact Or.inr (Or.inr ⟨by omega, by omega, Or.inr ⟨by omega, Or.inr (Or.inr ⟨by omega, by omega, Or.inl ⟨by omega, by omega⟩⟩)⟩⟩) | exact Or.inr (Or.inr ⟨by omega, by omega, Or.inr ⟨by omega, or_assoc.mp (Or.inl (by omega))⟩⟩) | exact Or.inr (Or.inr ⟨by omega, by omega, Or.inl ⟨by omega, by omega, by omega, by omega⟩⟩) | exact or_assoc.mp (Or.inl (by omega))) | omega) (by first | exact ⟨_, _, _, ⟨⟨by omega, by omega, by omega⟩, by omega, by omega⟩, pn9⟩ | exact LoZ_h160 | exact std | (unfold cutR; first | exact Or.inr (Or.inr ⟨by omega, by omega, Or.inr ⟨by omega, Or.inr (Or.inr ⟨by omega, by omega, Or.inr ⟨by omega, by omega, by omega⟩⟩)⟩⟩) | exact Or.inr (Or.inr ⟨by omega, by omega, Or.inr ⟨by omega, Or.inr (Or.inr ⟨by omega, by omega, Or.inl ⟨by omega, by omega⟩⟩)⟩⟩) | exact Or.inr (Or.inr ⟨by omega, by omega, Or.inr ⟨by omega, or_assoc.mp (Or.inl (by omega))⟩⟩) | exact Or.inr (Or.inr ⟨by omega, by omega, Or.inl ⟨by omega, by omega, by omega, by omega⟩⟩) | exact or_assoc.mp (Or.inl (by omega))) | omega) Ln_h160 Sp_h160 Al_h160t163 Cu_h160t164)
        ·
          show wp l rho (d + 5) 52 44 [(2, 82), (0, v13), (9, 0), (9, 0)] [(0, 1)] h12 Q
          rw [show wc ((11 : Nat) : Int) = 679695 from by decide] at xp152
          have tE168 : cs h12 = cs h := cs_eq (fun j => my_fr.at gh12 is_92 rfl) (my_fr.at gh12 is_82 rfl)
          rw [tE168] at xp152
          have ps169 : h12 82 7 = (sN (cs h) (h 82 7)) := xp19
          rw [ps169] at xp152
          refine w_ifeq (t := 51) gz_52_44 rfl (fun u170 => by exfalso; omega) (fun u170 => ?_)
          refine w_iconst gz_52_47 (by decide) ?_
          refine w_goto (t := 52) gz_52_48 rfl ?_
          refine w_istore_n (ls' := [(2, 82), (0, v13), (0, 2), (9, 0)]) gz_52_52 gm_52 rfl rfl rfl ?_
          refine w_iload_n gz_52_53 rfl ?_
          refine w_iconst gz_52_54 (by decide) ?_
          refine w_icne (t := 66) gz_52_55 rfl (fun u171 => ?_) (fun u171 => by exfalso; omega)
          refine w_aload_n gz_52_66 rfl ?_
          refine w_inv (k := 2) (as := []) (r := []) (x := 82) (ls0 := [(2, 82), (9, 0), (9, 0)]) gz_52_67 gm_37 rfl is_82 rd_5 rfl rfl rfl rfl rfl (c_Reader_nextToken9_f0 (d := (d + 3))  (w18.trans (by omega)) Al_h12t22 (fun h172 frh172 w173 w174 w175 xp176 xp177 Al_h172t178 Cu_h172t179 => ?_))
          have gh172 : my_fr [(4, 5), (4, 8), (4, 9), (5, 5), (5, 6), (5, 7), (5, 8), (5, 9), (32, -1), (33, -1), (34, -1), (35, -1)] h h172 := my_fr.tr gh12 (frh172.mo rfl)
          have Ln_h172 : Ln h172 := Ln_ag (my_ag.fr frh172 rfl) Ln_h12
          have Sp_h172 : Sp h172 wv := Sp_ag (my_ag.fr frh172 rfl) hwv Ln_h12 Sp_h12
          have St5_h172 : St5 h172 := St5_ag (my_ag.fr frh172 rfl) Ln_h12 St5_h12
          have AgZ_h172 : my_ag LzF h h172 := AgZ_ag (my_ag.fr frh172 rfl) AgZ_h12
          have LoZ_h172 : LoZ h h172 := LoZ_ag (my_ag.fr frh172 rfl) Ln_h12 LoZ_h12
          show wp l rho (d + 5) 52 70 [(2, 82), (0, v13), (0, 2), (9, 0)] [] h172 Q
          have xc180 := xp176 Cu_h12t23
          have tE181 : cs h12 = cs h := cs_eq (fun j => my_fr.at gh12 is_92 rfl) (my_fr.at gh12 is_82 rfl)
          rw [tE181] at xc180
          have ps182 : h12 82 7 = (sN (cs h) (h 82 7)) := xp19
          rw [ps182] at xc180
          have ck183 := Cu_s Cu_h172t179
          rw [show cs h172 = cs h from cs_eq (fun j => my_fr.at gh172 is_92 rfl) (my_fr.at gh172 is_82 rfl)] at ck183
          rw [show h172 82 7 = (sN (cs h) (((sN (cs h) (h 82 7))))) from xc180] at ck183
          have cv184 := Cu_v Cu_h172t179
          rw [show cs h172 = cs h from cs_eq (fun j => my_fr.at gh172 is_92 rfl) (my_fr.at gh172 is_82 rfl)] at cv184
          rw [show h172 82 7 = (sN (cs h) (((sN (cs h) (h 82 7))))) from xc180] at cv184
          refine w_aload_n gz_52_70 rfl ?_
          refine w_sipush gz_52_71 (by decide) ?_
          refine w_inv (k := 1) (as := [(0, 200)]) (r := []) (x := 82) (ls0 := [(2, 82), (0, 200), (9, 0)]) gz_52_74 gm_51 rfl is_82 rd_5 rfl rfl rfl rfl rfl (c_Reader_takeNumber9_f0 (d := (d + 2)) (x1 := 200) (by omega) (by omega) (((my_fr.at frh172 is_82 rfl).trans w18).trans (by omega)) Al_h172t178 Cu_h172t179 (fun h185 frh185 w186 w187 xp188 Al_h185t189 Cu_h185t190 => ?_) (fun h191 v192 frh191 w193 w194 w195 w196 w197 xp198 xp199 xp200 Al_h191t201 Cu_h191t202 => ?_))
          ·
            have gh185 : my_fr [(4, 5), (4, 8), (4, 9), (5, 5), (5, 6), (5, 7), (5, 8), (5, 9), (32, -1), (33, -1), (34, -1), (35, -1)] h h185 := my_fr.tr gh172 (frh185.mo rfl)
            have Ln_h185 : Ln h185 := Ln_ag (my_ag.fr frh185 rfl) Ln_h172
            have Sp_h185 : Sp h185 wv := Sp_ag (my_ag.fr frh185 rfl) hwv Ln_h172 Sp_h172
            have St5_h185 : St5 h185 := St5_ag (my_ag.fr frh185 rfl) Ln_h172 St5_h172
            have AgZ_h185 : my_ag LzF h h185 := AgZ_ag (my_ag.fr frh185 rfl) AgZ_h172
            have LoZ_h185 : LoZ h h185 := LoZ_ag (my_ag.fr frh185 rfl) Ln_h172 LoZ_h172
            show wp l rho (d + 5) 52 77 [(2, 82), (0, v13), (0, 2), (9, 0)] [(0, (-1))] h185 Q
            have tE203 : cs h172 = cs h := cs_eq (fun j => my_fr.at gh172 is_92 rfl) (my_fr.at gh172 is_82 rfl)
            rw [tE203] at xp188
            have ps204 : h172 82 7 = (sN (cs h) (((sN (cs h) (h 82 7))))) := xc180
            rw [ps204] at xp188
            refine w_istore_n (ls' := [(2, 82), (0, v13), (0, 2), (0, (-1))]) gz_52_77 gm_52 rfl rfl rfl ?_
            refine w_aload_n gz_52_78 rfl ?_
            refine v_getI (j := 9) gz_52_79 rfl is_82 rd_5 rfl (fun v205 ev205 pv205 qv205 => ?_)
            have zv205 := ev205.trans (rfl : h185 82 9 = h185 82 9)
            refine w_ifne (t := 102) gz_52_82 rfl (fun u206 => ?_) (fun u206 => by exfalso; omega)
            have psR : h185 82 7 = h185 82 7 := (rfl : h185 82 7 = h185 82 7)
            have npsR : cs h185 = cs h := cs_eq (fun j => my_fr.at gh185 is_92 rfl) (my_fr.at gh185 is_82 rfl)
            have c207 := ev205.symm
            exact w_vret gz_52_102 gm_52 (k0 h185 (gh185) (by omega) (by omega) (by first | exact ⟨_, _, _, ⟨⟨by omega, by omega, by omega⟩, by omega, by omega⟩, pn9⟩ | exact LoZ_h185 | exact std | (unfold cutR; first | exact Or.inr (Or.inr ⟨by omega, by omega, Or.inr ⟨by omega, Or.inr (Or.inr ⟨by omega, by omega, Or.inr ⟨by omega, by omega, by omega⟩⟩)⟩⟩) | exact Or.inr (Or.inr ⟨by omega, by omega, Or.inr ⟨by omega, Or.inr (Or.inr ⟨by omega, by omega, Or.inl ⟨by omega, by omega⟩⟩)⟩⟩) | exact Or.inr (Or.inr ⟨by omega, by omega, Or.inr ⟨by omega, or_assoc.mp (Or.inl (by omega))⟩⟩) | exact Or.inr (Or.inr ⟨by omega, by omega, Or.inl ⟨by omega, by omega, by omega, by omega⟩⟩) | exact or_assoc.mp (Or.inl (by omega))) | omega) (by first | exact ⟨_, _, _, ⟨⟨by omega, by omega, by omega⟩, by omega, by omega⟩, pn9⟩ | exact LoZ_h185 | exact std | (unfold cutR; first | exact Or.inr (Or.inr ⟨by omega, by omega, Or.inr ⟨by omega, Or.inr (Or.inr ⟨by omega, by omega, Or.inr ⟨by omega, by omega, by omega⟩⟩)⟩⟩) | exact Or.inr (Or.inr ⟨by omega, by omega, Or.inr ⟨by omega, Or.inr (Or.inr ⟨by omega, by omega, Or.inl ⟨by omega, by omega⟩⟩)⟩⟩) | exact Or.inr (Or.inr ⟨by omega, by omega, Or.inr ⟨by omega, or_assoc.mp (Or.inl (by omega))⟩⟩) | exact Or.inr (Or.inr ⟨by omega, by omega, Or.inl ⟨by omega, by omega, by omega, by omega⟩⟩) | exact or_assoc.mp (Or.inl (by omega))) | omega) Ln_h185 Sp_h185 Al_h185t189 Cu_h185t190)
          ·
            have gh191 : my_fr [(4, 5), (4, 8), (4, 9), (5, 5), (5, 6), (5, 7), (5, 8), (5, 9), (32, -1), (33, -1), (34, -1), (35, -1)] h h191 := my_fr.tr gh172 (frh191.mo rfl)
            have Ln_h191 : Ln h191 := Ln_ag (my_ag.fr frh191 rfl) Ln_h172
            have Sp_h191 : Sp h191 wv := Sp_ag (my_ag.fr frh191 rfl) hwv Ln_h172 Sp_h172
            have St5_h191 : St5 h191 := St5_ag (my_ag.fr frh191 rfl) Ln_h172 St5_h172
            have AgZ_h191 : my_ag LzF h h191 := AgZ_ag (my_ag.fr frh191 rfl) AgZ_h172
            have LoZ_h191 : LoZ h h191 := LoZ_ag (my_ag.fr frh191 rfl) Ln_h172 LoZ_h172
            show wp l rho (d + 5) 52 77 [(2, 82), (0, v13), (0, 2), (9, 0)] [(0, v192)] h191 Q
            have tE208 : cs h172 = cs h := cs_eq (fun j => my_fr.at gh172 is_92 rfl) (my_fr.at gh172 is_82 rfl)
            rw [tE208] at xp198
            have ps209 : h172 82 7 = (sN (cs h) (((sN (cs h) (h 82 7))))) := xc180
            rw [ps209] at xp198
            rw [tE208] at xp199
            rw [ps209] at xp199
            rw [tE208] at xp200
            rw [ps209] at xp200
            have ck210 := Cu_s Cu_h191t202
            rw [show cs h191 = cs h from cs_eq (fun j => my_fr.at gh191 is_92 rfl) (my_fr.at gh191 is_82 rfl)] at ck210
            rw [show h191 82 7 = (sN (cs h) (((sN (cs h) (((sN (cs h) (h 82 7)))))))) from xp198] at ck210
            have cv211 := Cu_v Cu_h191t202
            rw [show cs h191 = cs h from cs_eq (fun j => my_fr.at gh191 is_92 rfl) (my_fr.at gh191 is_82 rfl)] at cv211
            rw [show h191 82 7 = (sN (cs h) (((sN (cs h) (((sN (cs h) (h 82 7)))))))) from xp198] at cv211
            refine w_istore_n (ls' := [(2, 82), (0, v13), (0, 2), (0, v192)]) gz_52_77 gm_52 rfl rfl rfl ?_
            refine w_aload_n gz_52_78 rfl ?_
            refine v_getI (j := 9) gz_52_79 rfl is_82 rd_5 rfl (fun v212 ev212 pv212 qv212 => ?_)
            have zv212 := ev212.trans w197
            refine w_ifne (t := 102) gz_52_82 rfl (fun u213 => by exfalso; omega) (fun u213 => ?_)
            refine w_aload_n gz_52_85 rfl ?_
            refine w_inv (k := 0) (as := []) (r := []) (x := 82) (ls0 := [(2, 82)]) gz_52_86 gm_47 rfl is_82 rd_5 rfl rfl rfl rfl rfl (c_Reader_endsHere9_f0 (d := (d + 2))  (ev212.symm.trans (by omega)) Al_h191t201 Cu_h191t202 (fun h214 frh214 w215 w216 xp217 xp218 Al_h214t219 Cu_h214t220 => ?_) (fun h221 frh221 w222 xp223 xp224 Al_h221t225 Cu_h221t226 => ?_))
            ·
              have gh214 : my_fr [(4, 5), (4, 8), (4, 9), (5, 5), (5, 6), (5, 7), (5, 8), (5, 9), (32, -1), (33, -1), (34, -1), (35, -1)] h h214 := my_fr.tr gh191 (frh214.mo rfl)
              have Ln_h214 : Ln h214 := Ln_ag (my_ag.fr frh214 rfl) Ln_h191
              have Sp_h214 : Sp h214 wv := Sp_ag (my_ag.fr frh214 rfl) hwv Ln_h191 Sp_h191
              have St5_h214 : St5 h214 := St5_ag (my_ag.fr frh214 rfl) Ln_h191 St5_h191
              have AgZ_h214 : my_ag LzF h h214 := AgZ_ag (my_ag.fr frh214 rfl) AgZ_h191
              have LoZ_h214 : LoZ h h214 := LoZ_ag (my_ag.fr frh214 rfl) Ln_h191 LoZ_h191
              show wp l rho (d + 5) 52 89 [(2, 82), (0, v13), (0, 2), (0, v192)] [(0, 0)] h214 Q
              have tE227 : cs h191 = cs h := cs_eq (fun j => my_fr.at gh191 is_92 rfl) (my_fr.at gh191 is_82 rfl)
              rw [tE227] at xp217
              have ps228 : h191 82 7 = (sN (cs h) (((sN (cs h) (((sN (cs h) (h 82 7)))))))) := xp198
              rw [ps228] at xp217
              rw [ps228] at xp218
              refine w_ifeq (t := 102) gz_52_89 rfl (fun u229 => ?_) (fun u229 => by exfalso; omega)
              have psR : h214 82 7 = h214 82 7 := (rfl : h214 82 7 = h214 82 7)
              have npsR : cs h214 = cs h := cs_eq (fun j => my_fr.at gh214 is_92 rfl) (my_fr.at gh214 is_82 rfl)
              have c230 := (rfl : h214 82 9 = h214 82 9)
              exact w_vret gz_52_102 gm_52 (k0 h214 (gh214) (by omega) (by omega) (by first | exact ⟨_, _, _, ⟨⟨by omega, by omega, by omega⟩, by omega, by omega⟩, pn9⟩ | exact LoZ_h214 | exact std | (unfold cutR; first | exact Or.inr (Or.inr ⟨by omega, by omega, Or.inr ⟨by omega, Or.inr (Or.inr ⟨by omega, by omega, Or.inr ⟨by omega, by omega, by omega⟩⟩)⟩⟩) | exact Or.inr (Or.inr ⟨by omega, by omega, Or.inr ⟨by omega, Or.inr (Or.inr ⟨by omega, by omega, Or.inl ⟨by omega, by omega⟩⟩)⟩⟩) | exact Or.inr (Or.inr ⟨by omega, by omega, Or.inr ⟨by omega, or_assoc.mp (Or.inl (by omega))⟩⟩) | exact Or.inr (Or.inr ⟨by omega, by omega, Or.inl ⟨by omega, by omega, by omega, by omega⟩⟩) | exact or_assoc.mp (Or.inl (by omega))) | omega) (by first | exact ⟨_, _, _, ⟨⟨by omega, by omega, by omega⟩, by omega, by omega⟩, pn9⟩ | exact LoZ_h214 | exact std | (unfold cutR; first | exact Or.inr (Or.inr ⟨by omega, by omega, Or.inr ⟨by omega, Or.inr (Or.inr ⟨by omega, by omega, Or.inr ⟨by omega, by omega, by omega⟩⟩)⟩⟩) | exact Or.inr (Or.inr ⟨by omega, by omega, Or.inr ⟨by omega, Or.inr (Or.inr ⟨by omega, by omega, Or.inl ⟨by omega, by omega⟩⟩)⟩⟩) | exact Or.inr (Or.inr ⟨by omega, by omega, Or.inr ⟨by omega, or_assoc.mp (Or.inl (by omega))⟩⟩) | exact Or.inr (Or.inr ⟨by omega, by omega, Or.inl ⟨by omega, by omega, by omega, by omega⟩⟩) | exact or_assoc.mp (Or.inl (by omega))) | omega) Ln_h214 Sp_h214 Al_h214t219 Cu_h214t220)
            ·
              have gh221 : my_fr [(4, 5), (4, 8), (4, 9), (5, 5), (5, 6), (5, 7), (5, 8), (5, 9), (32, -1), (33, -1), (34, -1), (35, -1)] h h221 := my_fr.tr gh191 (frh221.mo rfl)
              have Ln_h221 : Ln h221 := Ln_ag (my_ag.fr frh221 rfl) Ln_h191
              have Sp_h221 : Sp h221 wv := Sp_ag (my_ag.fr frh221 rfl) hwv Ln_h191 Sp_h191
              have St5_h221 : St5 h221 := St5_ag (my_ag.fr frh221 rfl) Ln_h191 St5_h191
              have AgZ_h221 : my_ag LzF h h221 := AgZ_ag (my_ag.fr frh221 rfl) AgZ_h191
              have LoZ_h221 : LoZ h h221 := LoZ_ag (my_ag.fr frh221 rfl) Ln_h191 LoZ_h191
              show wp l rho (d + 5) 52 89 [(2, 82), (0, v13), (0, 2), (0, v192)] [(0, 1)] h221 Q
              have tE231 : cs h191 = cs h := cs_eq (fun j => my_fr.at gh191 is_92 rfl) (my_fr.at gh191 is_82 rfl)
              rw [tE231] at xp223
              have ps232 : h191 82 7 = (sN (cs h) (((sN (cs h) (((sN (cs h) (h 82 7)))))))) := xp198
              rw [ps232] at xp223
              rw [tE231] at xp224
              rw [ps232] at xp224
              have ck233 := Cu_s Cu_h221t226
              rw [show cs h221 = cs h from cs_eq (fun j => my_fr.at gh221 is_92 rfl) (my_fr.at gh221 is_82 rfl)] at ck233
              rw [show h221 82 7 = (sN (cs h) (((sN (cs h) (((sN (cs h) (((sN (cs h) (h 82 7))))))))))) from xp223] at ck233
              have cv234 := Cu_v Cu_h221t226
              rw [show cs h221 = cs h from cs_eq (fun j => my_fr.at gh221 is_92 rfl) (my_fr.at gh221 is_82 rfl)] at cv234
              rw [show h221 82 7 = (sN (cs h) (((sN (cs h) (((sN (cs h) (((sN (cs h) (h 82 7))))))))))) from xp223] at cv234
              refine w_ifeq (t := 102) gz_52_89 rfl (fun u235 => by exfalso; omega) (fun u235 => ?_)
              refine w_aload_n gz_52_92 rfl ?_
              refine v_getR (j := 2) gz_52_93 rfl is_82 rd_5 rfl (fun v236 ev236 tv236 => ?_)
              have zv236 : v3 = v236 := (ev236.trans ((my_fr.at frh221 is_82 rfl).trans ((my_fr.at frh191 is_82 rfl).trans ((my_fr.at frh172 is_82 rfl).trans ((my_fr.at frh12 is_82 rfl).trans ev3.symm))))).symm
              subst zv236
              refine w_iload_n gz_52_96 rfl ?_
              refine w_iload_n gz_52_97 rfl ?_
              refine w_iload_n gz_52_98 rfl ?_
              have ce237 : h221 82 2 = v3 := ((my_fr.at frh221 is_82 rfl).trans ((my_fr.at frh191 is_82 rfl).trans ((my_fr.at frh172 is_82 rfl).trans ((my_fr.at frh12 is_82 rfl).trans ev3.symm))))
              have s5a := St5_h221
              have s5e : v3 = h221 82 2 := by first | assumption | omega
              unfold St5 at s5a
              rw [← s5e] at s5a
              have ce238 : h221 v3 1 = h v3 1 := ((my_fr.at frh221 tv3 rfl).trans ((my_fr.at frh191 tv3 rfl).trans ((my_fr.at frh172 tv3 rfl).trans ((my_fr.at frh12 tv3 rfl).trans (rfl : h v3 1 = h v3 1)))))
              have ce239 : h221 v3 3 = h v3 3 := ((my_fr.at frh221 tv3 rfl).trans ((my_fr.at frh191 tv3 rfl).trans ((my_fr.at frh172 tv3 rfl).trans ((my_fr.at frh12 tv3 rfl).trans (rfl : h v3 3 = h v3 3)))))
              have ce240 : h221 v3 4 = h v3 4 := ((my_fr.at frh221 tv3 rfl).trans ((my_fr.at frh191 tv3 rfl).trans ((my_fr.at frh172 tv3 rfl).trans ((my_fr.at frh12 tv3 rfl).trans (rfl : h v3 4 = h v3 4)))))
              have ce241 : h221 v3 9 = h v3 9 := ((my_fr.at frh221 tv3 rfl).trans ((my_fr.at frh191 tv3 rfl).trans ((my_fr.at frh172 tv3 rfl).trans ((my_fr.at frh12 tv3 rfl).trans (rfl : h v3 9 = h v3 9)))))
              have sE : v3 = h 82 2 := by first | assumption | omega
              have eS1 : h221 v3 1 = h v3 1 := by omega
              have eS3 : h221 v3 3 = h v3 3 := by omega
              have eS4 : h221 v3 4 = h v3 4 := by omega
              have eS9 : h221 v3 9 = h v3 9 := by omega
              have az9 := AgZ_h221
              refine w_inv (k := 0) (as := [(0, v192), (0, v13), (0, 2)]) (r := []) (x := v3) (ls0 := [(2, v3), (0, 2), (0, v13), (0, v192)]) gz_52_99 gm_53 rfl tv3 rd_4 rfl rfl rfl rfl rfl (c_Lens_addCut7 (d := (d + 3)) (x0 := v3) (x1 := 2) (x2 := v13) (x3 := v192) tv3 (by omega) (by omega) (by omega) (by omega) (by omega) (by omega) (by first | assumption | exact no_such_saying | exact Fp_told (by omega) (by omega) | omega | (subst_vars; omega) | omega) (fun h242 frh242 fxh242 w243 w244 xp245 xp246 xp247 => ?_))
              have gh242 : my_fr [(4, 5), (4, 8), (4, 9), (5, 5), (5, 6), (5, 7), (5, 8), (5, 9), (32, -1), (33, -1), (34, -1), (35, -1)] h h242 := my_fr.tr gh221 (frh242.mo rfl)
              have Ln_h242 : Ln h242 := Ln_fx fxh242 (by first | assumption | omega) Ln_h221
              have LoZ_h242 : LoZ h h242 := LoZ_fx fxh242 (by first | assumption | omega) Ln_h221 LoZ_h221
              have Al_h242 : Al h242 := Al_ag (my_ag.fr frh242 rfl) Al_h221t225
              have Cu_h242 : Cu h242 := Cu_ag (my_ag.fr frh242 rfl) Cu_h221t226
              show wp l rho (d + 5) 52 102 [(2, 82), (0, v13), (0, 2), (0, v192)] [] h242 Q
              have Sp_h242t248 : Sp h242 wv := Sp_add fxh242 (by first | assumption | omega) hwv Ln_h221 Sp_h221 xp245 (by have := St5_h221.1; omega) (by omega) (by omega)
              have ce249 : h242 82 2 = v3 := ((my_fr.at frh242 is_82 rfl).trans ((my_fr.at frh221 is_82 rfl).trans ((my_fr.at frh191 is_82 rfl).trans ((my_fr.at frh172 is_82 rfl).trans ((my_fr.at frh12 is_82 rfl).trans ev3.symm)))))
              have std := Std_add xp245 sE (by omega) eS3 eS4 eS9 eS1
              have pn9 : PnI h h242 2 v13 v192 0 := PnI_mk az9 sE n_Ln.2.2.2.1 xp246 xp247
              have psR : h242 82 7 = (sN (cs h) (((sN (cs h) (((sN (cs h) (((sN (cs h) (h 82 7))))))))))) := ((my_fr.at frh242 is_82 rfl).trans xp223)
              have npsR : cs h242 = cs h := cs_eq (fun j => my_fr.at gh242 is_92 rfl) (my_fr.at gh242 is_82 rfl)
              have c250 := ((my_fr.at frh242 is_82 rfl).trans w222)
              exact w_vret gz_52_102 gm_52 (k1 h242 (gh242) (by omega) (by first | exact ⟨_, _, _, ⟨⟨by omega, by omega, by omega⟩, by omega, by omega⟩, pn9⟩ | exact LoZ_h242 | exact std | (unfold cutR; first | exact Or.inr (Or.inr ⟨by omega, by omega, Or.inr ⟨by omega, Or.inr (Or.inr ⟨by omega, by omega, Or.inr ⟨by omega, by omega, by omega⟩⟩)⟩⟩) | exact Or.inr (Or.inr ⟨by omega, by omega, Or.inr ⟨by omega, Or.inr (Or.inr ⟨by omega, by omega, Or.inl ⟨by omega, by omega⟩⟩)⟩⟩) | exact Or.inr (Or.inr ⟨by omega, by omega, Or.inr ⟨by omega, or_assoc.mp (Or.inl (by omega))⟩⟩) | exact Or.inr (Or.inr ⟨by omega, by omega, Or.inl ⟨by omega, by omega, by omega, by omega⟩⟩) | exact or_assoc.mp (Or.inl (by omega))) | omega) (by first | exact ⟨_, _, _, ⟨⟨by omega, by omega, by omega⟩, by omega, by omega⟩, pn9⟩ | exact LoZ_h242 | exact std | (unfold cutR; first | exact Or.inr (Or.inr ⟨by omega, by omega, Or.inr ⟨by omega, Or.inr (Or.inr ⟨by omega, by omega, Or.inr ⟨by omega, by omega, by omega⟩⟩)⟩⟩) | exact Or.inr (Or.inr ⟨by omega, by omega, Or.inr ⟨by omega, Or.inr (Or.inr ⟨by omega, by omega, Or.inl ⟨by omega, by omega⟩⟩)⟩⟩) | exact Or.inr (Or.inr ⟨by omega, by omega, Or.inr ⟨by omega, or_assoc.mp (Or.inl (by omega))⟩⟩) | exact Or.inr (Or.inr ⟨by omega, by omega, Or.inl ⟨by omega, by omega, by omega, by omega⟩⟩) | exact or_assoc.mp (Or.inl (by omega))) | omega) (by first | exact ⟨_, _, _, ⟨⟨by omega, by omega, by omega⟩, by omega, by omega⟩, pn9⟩ | exact LoZ_h242 | exact std | (unfold cutR; first | exact Or.inr (Or.inr ⟨by omega, by omega, Or.inr ⟨by omega, Or.inr (Or.inr ⟨by omega, by omega, Or.inr ⟨by omega, by omega, by omega⟩⟩)⟩⟩) | exact Or.inr (Or.inr ⟨by omega, by omega, Or.inr ⟨by omega, Or.inr (Or.inr ⟨by omega, by omega, Or.inl ⟨by omega, by omega⟩⟩)⟩⟩) | exact Or.inr (Or.inr ⟨by omega, by omega, Or.inr ⟨by omega, or_assoc.mp (Or.inl (by omega))⟩⟩) | exact Or.inr (Or.inr ⟨by omega, by omega, Or.inl ⟨by omega, by omega, by omega, by omega⟩⟩) | exact or_assoc.mp (Or.inl (by omega))) | omega) (by first | exact ⟨_, _, _, ⟨⟨by omega, by omega, by omega⟩, by omega, by omega⟩, pn9⟩ | exact LoZ_h242 | exact std | (unfold cutR; first | exact Or.inr (Or.inr ⟨by omega, by omega, Or.inr ⟨by omega, Or.inr (Or.inr ⟨by omega, by omega, Or.inr ⟨by omega, by omega, by omega⟩⟩)⟩⟩) | exact Or.inr (Or.inr ⟨by omega, by omega, Or.inr ⟨by omega, Or.inr (Or.inr ⟨by omega, by omega, Or.inl ⟨by omega, by omega⟩⟩)⟩⟩) | exact Or.inr (Or.inr ⟨by omega, by omega, Or.inr ⟨by omega, or_assoc.mp (Or.inl (by omega))⟩⟩) | exact Or.inr (Or.inr ⟨by omega, by omega, Or.inl ⟨by omega, by omega, by omega, by omega⟩⟩) | exact or_assoc.mp (Or.inl (by omega))) | omega) Ln_h242 Sp_h242t248 Al_h242 Cu_h242)
      ·
        show wp l rho (d + 5) 52 31 [(2, 82), (0, v13), (9, 0), (9, 0)] [(0, 1)] h12 Q
        rw [show wc ((10 : Nat) : Int) = 352 from by decide] at xp144
        have tE251 : cs h12 = cs h := cs_eq (fun j => my_fr.at gh12 is_92 rfl) (my_fr.at gh12 is_82 rfl)
        rw [tE251] at xp144
        have ps252 : h12 82 7 = (sN (cs h) (h 82 7)) := xp19
        rw [ps252] at xp144
        refine w_ifeq (t := 38) gz_52_31 rfl (fun u253 => by exfalso; omega) (fun u253 => ?_)
        refine w_iconst gz_52_34 (by decide) ?_
        refine w_goto (t := 52) gz_52_35 rfl ?_
        refine w_istore_n (ls' := [(2, 82), (0, v13), (0, 1), (9, 0)]) gz_52_52 gm_52 rfl rfl rfl ?_
        refine w_iload_n gz_52_53 rfl ?_
        refine w_iconst gz_52_54 (by decide) ?_
        refine w_icne (t := 66) gz_52_55 rfl (fun u254 => ?_) (fun u254 => by exfalso; omega)
        refine w_aload_n gz_52_66 rfl ?_
        refine w_inv (k := 2) (as := []) (r := []) (x := 82) (ls0 := [(2, 82), (9, 0), (9, 0)]) gz_52_67 gm_37 rfl is_82 rd_5 rfl rfl rfl rfl rfl (c_Reader_nextToken9_f0 (d := (d + 3))  (w18.trans (by omega)) Al_h12t22 (fun h255 frh255 w256 w257 w258 xp259 xp260 Al_h255t261 Cu_h255t262 => ?_))
        have gh255 : my_fr [(4, 5), (4, 8), (4, 9), (5, 5), (5, 6), (5, 7), (5, 8), (5, 9), (32, -1), (33, -1), (34, -1), (35, -1)] h h255 := my_fr.tr gh12 (frh255.mo rfl)
        have Ln_h255 : Ln h255 := Ln_ag (my_ag.fr frh255 rfl) Ln_h12
        have Sp_h255 : Sp h255 wv := Sp_ag (my_ag.fr frh255 rfl) hwv Ln_h12 Sp_h12
        have St5_h255 : St5 h255 := St5_ag (my_ag.fr frh255 rfl) Ln_h12 St5_h12
        have AgZ_h255 : my_ag LzF h h255 := AgZ_ag (my_ag.fr frh255 rfl) AgZ_h12
        have LoZ_h255 : LoZ h h255 := LoZ_ag (my_ag.fr frh255 rfl) Ln_h12 LoZ_h12
        show wp l rho (d + 5) 52 70 [(2, 82), (0, v13), (0, 1), (9, 0)] [] h255 Q
        have xc263 := xp259 Cu_h12t23
        have tE264 : cs h12 = cs h := cs_eq (fun j => my_fr.at gh12 is_92 rfl) (my_fr.at gh12 is_82 rfl)
        rw [tE264] at xc263
        have ps265 : h12 82 7 = (sN (cs h) (h 82 7)) := xp19
        rw [ps265] at xc263
        have ck266 := Cu_s Cu_h255t262
        rw [show cs h255 = cs h from cs_eq (fun j => my_fr.at gh255 is_92 rfl) (my_fr.at gh255 is_82 rfl)] at ck266
        rw [show h255 82 7 = (sN (cs h) (((sN (cs h) (h 82 7))))) from xc263] at ck266
        have cv267 := Cu_v Cu_h255t262
        rw [show cs h255 = cs h from cs_eq (fun j => my_fr.at gh255 is_92 rfl) (my_fr.at gh255 is_82 rfl)] at cv267
        rw [show h255 82 7 = (sN (cs h) (((sN (cs h) (h 82 7))))) from xc263] at cv267
        refine w_aload_n gz_52_70 rfl ?_
        refine w_sipush gz_52_71 (by decide) ?_
        refine w_inv (k := 1) (as := [(0, 200)]) (r := []) (x := 82) (ls0 := [(2, 82), (0, 200), (9, 0)]) gz_52_74 gm_51 rfl is_82 rd_5 rfl rfl rfl rfl rfl (c_Reader_takeNumber9_f0 (d := (d + 2)) (x1 := 200) (by omega) (by omega) (((my_fr.at frh255 is_82 rfl).trans w18).trans (by omega)) Al_h255t261 Cu_h255t262 (fun h268 frh268 w269 w270 xp271 Al_h268t272 Cu_h268t273 => ?_) (fun h274 v275 frh274 w276 w277 w278 w279 w280 xp281 xp282 xp283 Al_h274t284 Cu_h274t285 => ?_))
        ·
          have gh268 : my_fr [(4, 5), (4, 8), (4, 9), (5, 5), (5, 6), (5, 7), (5, 8), (5, 9), (32, -1), (33, -1), (34, -1), (35, -1)] h h268 := my_fr.tr gh255 (frh268.mo rfl)
          have Ln_h268 : Ln h268 := Ln_ag (my_ag.fr frh268 rfl) Ln_h255
          have Sp_h268 : Sp h268 wv := Sp_ag (my_ag.fr frh268 rfl) hwv Ln_h255 Sp_h255
          have St5_h268 : St5 h268 := St5_ag (my_ag.fr frh268 rfl) Ln_h255 St5_h255
          have AgZ_h268 : my_ag LzF h h268 := AgZ_ag (my_ag.fr frh268 rfl) AgZ_h255
          have LoZ_h268 : LoZ h h268 := LoZ_ag (my_ag.fr frh268 rfl) Ln_h255 LoZ_h255
          show wp l rho (d + 5) 52 77 [(2, 82), (0, v13), (0, 1), (9, 0)] [(0, (-1))] h268 Q
          have tE286 : cs h255 = cs h := cs_eq (fun j => my_fr.at gh255 is_92 rfl) (my_fr.at gh255 is_82 rfl)
          rw [tE286] at xp271
          have ps287 : h255 82 7 = (sN (cs h) (((sN (cs h) (h 82 7))))) := xc263
          rw [ps287] at xp271
          refine w_istore_n (ls' := [(2, 82), (0, v13), (0, 1), (0, (-1))]) gz_52_77 gm_52 rfl rfl rfl ?_
          refine w_aload_n gz_52_78 rfl ?_
          refine v_getI (j := 9) gz_52_79 rfl is_82 rd_5 rfl (fun v288 ev288 pv288 qv288 => ?_)
          have zv288 := ev288.trans (rfl : h268 82 9 = h268 82 9)
          refine w_ifne (t := 102) gz_52_82 rfl (fun u289 => ?_) (fun u289 => by exfalso; omega)
          have psR : h268 82 7 = h268 82 7 := (rfl : h268 82 7 = h268 82 7)
          have npsR : cs h268 = cs h := cs_eq (fun j => my_fr.at gh268 is_92 rfl) (my_fr.at gh268 is_82 rfl)
          have c290 := ev288.symm
          exact w_vret gz_52_102 gm_52 (k0 h268 (gh268) (by omega) (by omega) (by first | exact ⟨_, _, _, ⟨⟨by omega, by omega, by omega⟩, by omega, by omega⟩, pn9⟩ | exact LoZ_h268 | exact std | (unfold cutR; first | exact Or.inr (Or.inr ⟨by omega, by omega, Or.inr ⟨by omega, Or.inr (Or.inr ⟨by omega, by omega, Or.inr ⟨by omega, by omega, by omega⟩⟩)⟩⟩) | exact Or.inr (Or.inr ⟨by omega, by omega, Or.inr ⟨by omega, Or.inr (Or.inr ⟨by omega, by omega, Or.inl ⟨by omega, by omega⟩⟩)⟩⟩) | exact Or.inr (Or.inr ⟨by omega, by omega, Or.inr ⟨by omega, or_assoc.mp (Or.inl (by omega))⟩⟩) | exact Or.inr (Or.inr ⟨by omega, by omega, Or.inl ⟨by omega, by omega, by omega, by omega⟩⟩) | exact or_assoc.mp (Or.inl (by omega))) | omega) (by first | exact ⟨_, _, _, ⟨⟨by omega, by omega, by omega⟩, by omega, by omega⟩, pn9⟩ | exact LoZ_h268 | exact std | (unfold cutR; first | exact Or.inr (Or.inr ⟨by omega, by omega, Or.inr ⟨by omega, Or.inr (Or.inr ⟨by omega, by omega, Or.inr ⟨by omega, by omega, by omega⟩⟩)⟩⟩) | exact Or.inr (Or.inr ⟨by omega, by omega, Or.inr ⟨by omega, Or.inr (Or.inr ⟨by omega, by omega, Or.inl ⟨by omega, by omega⟩⟩)⟩⟩) | exact Or.inr (Or.inr ⟨by omega, by omega, Or.inr ⟨by omega, or_assoc.mp (Or.inl (by omega))⟩⟩) | exact Or.inr (Or.inr ⟨by omega, by omega, Or.inl ⟨by omega, by omega, by omega, by omega⟩⟩) | exact or_assoc.mp (Or.inl (by omega))) | omega) Ln_h268 Sp_h268 Al_h268t272 Cu_h268t273)
        ·
          have gh274 : my_fr [(4, 5), (4, 8), (4, 9), (5, 5), (5, 6), (5, 7), (5, 8), (5, 9), (32, -1), (33, -1), (34, -1), (35, -1)] h h274 := my_fr.tr gh255 (frh274.mo rfl)
          have Ln_h274 : Ln h274 := Ln_ag (my_ag.fr frh274 rfl) Ln_h255
          have Sp_h274 : Sp h274 wv := Sp_ag (my_ag.fr frh274 rfl) hwv Ln_h255 Sp_h255
          have St5_h274 : St5 h274 := St5_ag (my_ag.fr frh274 rfl) Ln_h255 St5_h255
          have AgZ_h274 : my_ag LzF h h274 := AgZ_ag (my_ag.fr frh274 rfl) AgZ_h255
          have LoZ_h274 : LoZ h h274 := LoZ_ag (my_ag.fr frh274 rfl) Ln_h255 LoZ_h255
          show wp l rho (d + 5) 52 77 [(2, 82), (0, v13), (0, 1), (9, 0)] [(0, v275)] h274 Q
          have tE291 : cs h255 = cs h := cs_eq (fun j => my_fr.at gh255 is_92 rfl) (my_fr.at gh255 is_82 rfl)
          rw [tE291] at xp281
          have ps292 : h255 82 7 = (sN (cs h) (((sN (cs h) (h 82 7))))) := xc263
          rw [ps292] at xp281
          rw [tE291] at xp282
          rw [ps292] at xp282
          rw [tE291] at xp283
          rw [ps292] at xp283
          have ck293 := Cu_s Cu_h274t285
          rw [show cs h274 = cs h from cs_eq (fun j => my_fr.at gh274 is_92 rfl) (my_fr.at gh274 is_82 rfl)] at ck293
          rw [show h274 82 7 = (sN (cs h) (((sN (cs h) (((sN (cs h) (h 82 7)))))))) from xp281] at ck293
          have cv294 := Cu_v Cu_h274t285
          rw [show cs h274 = cs h from cs_eq (fun j => my_fr.at gh274 is_92 rfl) (my_fr.at gh274 is_82 rfl)] at cv294
          rw [show h274 82 7 = (sN (cs h) (((sN (cs h) (((sN (cs h) (h 82 7)))))))) from xp281] at cv294
          refine w_istore_n (ls' := [(2, 82), (0, v13), (0, 1), (0, v275)]) gz_52_77 gm_52 rfl rfl rfl ?_
          refine w_aload_n gz_52_78 rfl ?_
          refine v_getI (j := 9) gz_52_79 rfl is_82 rd_5 rfl (fun v295 ev295 pv295 qv295 => ?_)
          have zv295 := ev295.trans w280
          refine w_ifne (t := 102) gz_52_82 rfl (fun u296 => by exfalso; omega) (fun u296 => ?_)
          refine w_aload_n gz_52_85 rfl ?_
          refine w_inv (k := 0) (as := []) (r := []) (x := 82) (ls0 := [(2, 82)]) gz_52_86 gm_47 rfl is_82 rd_5 rfl rfl rfl rfl rfl (c_Reader_endsHere9_f0 (d := (d + 2))  (ev295.symm.trans (by omega)) Al_h274t284 Cu_h274t285 (fun h297 frh297 w298 w299 xp300 xp301 Al_h297t302 Cu_h297t303 => ?_) (fun h304 frh304 w305 xp306 xp307 Al_h304t308 Cu_h304t309 => ?_))
          ·
            have gh297 : my_fr [(4, 5), (4, 8), (4, 9), (5, 5), (5, 6), (5, 7), (5, 8), (5, 9), (32, -1), (33, -1), (34, -1), (35, -1)] h h297 := my_fr.tr gh274 (frh297.mo rfl)
            have Ln_h297 : Ln h297 := Ln_ag (my_ag.fr frh297 rfl) Ln_h274
            have Sp_h297 : Sp h297 wv := Sp_ag (my_ag.fr frh297 rfl) hwv Ln_h274 Sp_h274
            have St5_h297 : St5 h297 := St5_ag (my_ag.fr frh297 rfl) Ln_h274 St5_h274
            have AgZ_h297 : my_ag LzF h h297 := AgZ_ag (my_ag.fr frh297 rfl) AgZ_h274
            have LoZ_h297 : LoZ h h297 := LoZ_ag (my_ag.fr frh297 rfl) Ln_h274 LoZ_h274
            show wp l rho (d + 5) 52 89 [(2, 82), (0, v13), (0, 1), (0, v275)] [(0, 0)] h297 Q
            have tE310 : cs h274 = cs h := cs_eq (fun j => my_fr.at gh274 is_92 rfl) (my_fr.at gh274 is_82 rfl)
            rw [tE310] at xp300
            have ps311 : h274 82 7 = (sN (cs h) (((sN (cs h) (((sN (cs h) (h 82 7)))))))) := xp281
            rw [ps311] at xp300
            rw [ps311] at xp301
            refine w_ifeq (t := 102) gz_52_89 rfl (fun u312 => ?_) (fun u312 => by exfalso; omega)
            have psR : h297 82 7 = h297 82 7 := (rfl : h297 82 7 = h297 82 7)
            have npsR : cs h297 = cs h := cs_eq (fun j => my_fr.at gh297 is_92 rfl) (my_fr.at gh297 is_82 rfl)
            have c313 := (rfl : h297 82 9 = h297 82 9)
            exact w_vret gz_52_102 gm_52 (k0 h297 (gh297) (by omega) (by omega) (by first | exact ⟨_, _, _, ⟨⟨by omega, by omega, by omega⟩, by omega, by omega⟩, pn9⟩ | exact LoZ_h297 | exact std | (unfold cutR; first | exact Or.inr (Or.inr ⟨by omega, by omega, Or.inr ⟨by omega, Or.inr (Or.inr ⟨by omega, by omega, Or.inr ⟨by omega, by omega, by omega⟩⟩)⟩⟩) | exact Or.inr (Or.inr ⟨by omega, by omega, Or.inr ⟨by omega, Or.inr (Or.inr ⟨by omega, by omega, Or.inl ⟨by omega, by omega⟩⟩)⟩⟩) | exact Or.inr (Or.inr ⟨by omega, by omega, Or.inr ⟨by omega, or_assoc.mp (Or.inl (by omega))⟩⟩) | exact Or.inr (Or.inr ⟨by omega, by omega, Or.inl ⟨by omega, by omega, by omega, by omega⟩⟩) | exact or_assoc.mp (Or.inl (by omega))) | omega) (by first | exact ⟨_, _, _, ⟨⟨by omega, by omega, by omega⟩, by omega, by omega⟩, pn9⟩ | exact LoZ_h297 | exact std | (unfold cutR; first | exact Or.inr (Or.inr ⟨by omega, by omega, Or.inr ⟨by omega, Or.inr (Or.inr ⟨by omega, by omega, Or.inr ⟨by omega, by omega, by omega⟩⟩)⟩⟩) | exact Or.inr (Or.inr ⟨by omega, by omega, Or.inr ⟨by omega, Or.inr (Or.inr ⟨by omega, by omega, Or.inl ⟨by omega, by omega⟩⟩)⟩⟩) | exact Or.inr (Or.inr ⟨by omega, by omega, Or.inr ⟨by omega, or_assoc.mp (Or.inl (by omega))⟩⟩) | exact Or.inr (Or.inr ⟨by omega, by omega, Or.inl ⟨by omega, by omega, by omega, by omega⟩⟩) | exact or_assoc.mp (Or.inl (by omega))) | omega) Ln_h297 Sp_h297 Al_h297t302 Cu_h297t303)
          ·
            have gh304 : my_fr [(4, 5), (4, 8), (4, 9), (5, 5), (5, 6), (5, 7), (5, 8), (5, 9), (32, -1), (33, -1), (34, -1), (35, -1)] h h304 := my_fr.tr gh274 (frh304.mo rfl)
            have Ln_h304 : Ln h304 := Ln_ag (my_ag.fr frh304 rfl) Ln_h274
            have Sp_h304 : Sp h304 wv := Sp_ag (my_ag.fr frh304 rfl) hwv Ln_h274 Sp_h274
            have St5_h304 : St5 h304 := St5_ag (my_ag.fr frh304 rfl) Ln_h274 St5_h274
            have AgZ_h304 : my_ag LzF h h304 := AgZ_ag (my_ag.fr frh304 rfl) AgZ_h274
            have LoZ_h304 : LoZ h h304 := LoZ_ag (my_ag.fr frh304 rfl) Ln_h274 LoZ_h274
            show wp l rho (d + 5) 52 89 [(2, 82), (0, v13), (0, 1), (0, v275)] [(0, 1)] h304 Q
            have tE314 : cs h274 = cs h := cs_eq (fun j => my_fr.at gh274 is_92 rfl) (my_fr.at gh274 is_82 rfl)
            rw [tE314] at xp306
            have ps315 : h274 82 7 = (sN (cs h) (((sN (cs h) (((sN (cs h) (h 82 7)))))))) := xp281
            rw [ps315] at xp306
            rw [tE314] at xp307
            rw [ps315] at xp307
            have ck316 := Cu_s Cu_h304t309
            rw [show cs h304 = cs h from cs_eq (fun j => my_fr.at gh304 is_92 rfl) (my_fr.at gh304 is_82 rfl)] at ck316
            rw [show h304 82 7 = (sN (cs h) (((sN (cs h) (((sN (cs h) (((sN (cs h) (h 82 7))))))))))) from xp306] at ck316
            have cv317 := Cu_v Cu_h304t309
            rw [show cs h304 = cs h from cs_eq (fun j => my_fr.at gh304 is_92 rfl) (my_fr.at gh304 is_82 rfl)] at cv317
            rw [show h304 82 7 = (sN (cs h) (((sN (cs h) (((sN (cs h) (((sN (cs h) (h 82 7))))))))))) from xp306] at cv317
            refine w_ifeq (t := 102) gz_52_89 rfl (fun u318 => by exfalso; omega) (fun u318 => ?_)
            refine w_aload_n gz_52_92 rfl ?_
            refine v_getR (j := 2) gz_52_93 rfl is_82 rd_5 rfl (fun v319 ev319 tv319 => ?_)
            have zv319 : v3 = v319 := (ev319.trans ((my_fr.at frh304 is_82 rfl).trans ((my_fr.at frh274 is_82 rfl).trans ((my_fr.at frh255 is_82 rfl).trans ((my_fr.at frh12 is_82 rfl).trans ev3.symm))))).symm
            subst zv319
            refine w_iload_n gz_52_96 rfl ?_
            refine w_iload_n gz_52_97 rfl ?_
            refine w_iload_n gz_52_98 rfl ?_
            have ce320 : h304 82 2 = v3 := ((my_fr.at frh304 is_82 rfl).trans ((my_fr.at frh274 is_82 rfl).trans ((my_fr.at frh255 is_82 rfl).trans ((my_fr.at frh12 is_82 rfl).trans ev3.symm))))
            have s5a := St5_h304
            have s5e : v3 = h304 82 2 := by first | assumption | omega
            unfold St5 at s5a
            rw [← s5e] at s5a
            have ce321 : h304 v3 1 = h v3 1 := ((my_fr.at frh304 tv3 rfl).trans ((my_fr.at frh274 tv3 rfl).trans ((my_fr.at frh255 tv3 rfl).trans ((my_fr.at frh12 tv3 rfl).trans (rfl : h v3 1 = h v3 1)))))
            have ce322 : h304 v3 3 = h v3 3 := ((my_fr.at frh304 tv3 rfl).trans ((my_fr.at frh274 tv3 rfl).trans ((my_fr.at frh255 tv3 rfl).trans ((my_fr.at frh12 tv3 rfl).trans (rfl : h v3 3 = h v3 3)))))
            have ce323 : h304 v3 4 = h v3 4 := ((my_fr.at frh304 tv3 rfl).trans ((my_fr.at frh274 tv3 rfl).trans ((my_fr.at frh255 tv3 rfl).trans ((my_fr.at frh12 tv3 rfl).trans (rfl : h v3 4 = h v3 4)))))
            have ce324 : h304 v3 9 = h v3 9 := ((my_fr.at frh304 tv3 rfl).trans ((my_fr.at frh274 tv3 rfl).trans ((my_fr.at frh255 tv3 rfl).trans ((my_fr.at frh12 tv3 rfl).trans (rfl : h v3 9 = h v3 9)))))
            have sE : v3 = h 82 2 := by first | assumption | omega
            have eS1 : h304 v3 1 = h v3 1 := by omega
            have eS3 : h304 v3 3 = h v3 3 := by omega
            have eS4 : h304 v3 4 = h v3 4 := by omega
            have eS9 : h304 v3 9 = h v3 9 := by omega
            have az9 := AgZ_h304
            refine w_inv (k := 0) (as := [(0, v275), (0, v13), (0, 1)]) (r := []) (x := v3) (ls0 := [(2, v3), (0, 1), (0, v13), (0, v275)]) gz_52_99 gm_53 rfl tv3 rd_4 rfl rfl rfl rfl rfl (c_Lens_addCut7 (d := (d + 3)) (x0 := v3) (x1 := 1) (x2 := v13) (x3 := v275) tv3 (by omega) (by omega) (by omega) (by omega) (by omega) (by omega) (by first | assumption | exact no_such_saying | exact Fp_told (by omega) (by omega) | omega | (subst_vars; omega) | omega) (fun h325 frh325 fxh325 w326 w327 xp328 xp329 xp330 => ?_))
            have gh325 : my_fr [(4, 5), (4, 8), (4, 9), (5, 5), (5, 6), (5, 7), (5, 8), (5, 9), (32, -1), (33, -1), (34, -1), (35, -1)] h h325 := my_fr.tr gh304 (frh325.mo rfl)
            have Ln_h325 : Ln h325 := Ln_fx fxh325 (by first | assumption | omega) Ln_h304
            have LoZ_h325 : LoZ h h325 := LoZ_fx fxh325 (by first | assumption | omega) Ln_h304 LoZ_h304
            have Al_h325 : Al h325 := Al_ag (my_ag.fr frh325 rfl) Al_h304t308
            have Cu_h325 : Cu h325 := Cu_ag (my_ag.fr frh325 rfl) Cu_h304t309
            show wp l rho (d + 5) 52 102 [(2, 82), (0, v13), (0, 1), (0, v275)] [] h325 Q
            have Sp_h325t331 : Sp h325 wv := Sp_add fxh325 (by first | assumption | omega) hwv Ln_h304 Sp_h304 xp328 (by have := St5_h304.1; omega) (by omega) (by omega)
            have ce332 : h325 82 2 = v3 := ((my_fr.at frh325 is_82 rfl).trans ((my_fr.at frh304 is_82 rfl).trans ((my_fr.at frh274 is_82 rfl).trans ((my_fr.at frh255 is_82 rfl).trans ((my_fr.at frh12 is_82 rfl).trans ev3.symm)))))
            have std := Std_add xp328 sE (by omega) eS3 eS4 eS9 eS1
            have pn9 : PnI h h325 1 v13 v275 0 := PnI_mk az9 sE n_Ln.2.2.2.1 xp329 xp330
            have psR : h325 82 7 = (sN (cs h) (((sN (cs h) (((sN (cs h) (((sN (cs h) (h 82 7))))))))))) := ((my_fr.at frh325 is_82 rfl).trans xp306)
            have npsR : cs h325 = cs h := cs_eq (fun j => my_fr.at gh325 is_92 rfl) (my_fr.at gh325 is_82 rfl)
            have c333 := ((my_fr.at frh325 is_82 rfl).trans w305)
            exact w_vret gz_52_102 gm_52 (k1 h325 (gh325) (by omega) (by first | exact ⟨_, _, _, ⟨⟨by omega, by omega, by omega⟩, by omega, by omega⟩, pn9⟩ | exact LoZ_h325 | exact std | (unfold cutR; first | exact Or.inr (Or.inr ⟨by omega, by omega, Or.inr ⟨by omega, Or.inr (Or.inr ⟨by omega, by omega, Or.inr ⟨by omega, by omega, by omega⟩⟩)⟩⟩) | exact Or.inr (Or.inr ⟨by omega, by omega, Or.inr ⟨by omega, Or.inr (Or.inr ⟨by omega, by omega, Or.inl ⟨by omega, by omega⟩⟩)⟩⟩) | exact Or.inr (Or.inr ⟨by omega, by omega, Or.inr ⟨by omega, or_assoc.mp (Or.inl (by omega))⟩⟩) | exact Or.inr (Or.inr ⟨by omega, by omega, Or.inl ⟨by omega, by omega, by omega, by omega⟩⟩) | exact or_assoc.mp (Or.inl (by omega))) | omega) (by first | exact ⟨_, _, _, ⟨⟨by omega, by omega, by omega⟩, by omega, by omega⟩, pn9⟩ | exact LoZ_h325 | exact std | (unfold cutR; first | exact Or.inr (Or.inr ⟨by omega, by omega, Or.inr ⟨by omega, Or.inr (Or.inr ⟨by omega, by omega, Or.inr ⟨by omega, by omega, by omega⟩⟩)⟩⟩) | exact Or.inr (Or.inr ⟨by omega, by omega, Or.inr ⟨by omega, Or.inr (Or.inr ⟨by omega, by omega, Or.inl ⟨by omega, by omega⟩⟩)⟩⟩) | exact Or.inr (Or.inr ⟨by omega, by omega, Or.inr ⟨by omega, or_assoc.mp (Or.inl (by omega))⟩⟩) | exact Or.inr (Or.inr ⟨by omega, by omega, Or.inl ⟨by omega, by omega, by omega, by omega⟩⟩) | exact or_assoc.mp (Or.inl (by omega))) | omega) (by first | exact ⟨_, _, _, ⟨⟨by omega, by omega, by omega⟩, by omega, by omega⟩, pn9⟩ | exact LoZ_h325 | exact std | (unfold cutR; first | exact Or.inr (Or.inr ⟨by omega, by omega, Or.inr ⟨by omega, Or.inr (Or.inr ⟨by omega, by omega, Or.inr ⟨by omega, by omega, by omega⟩⟩)⟩⟩) | exact Or.inr (Or.inr ⟨by omega, by omega, Or.inr ⟨by omega, Or.inr (Or.inr ⟨by omega, by omega, Or.inl ⟨by omega, by omega⟩⟩)⟩⟩) | exact Or.inr (Or.inr ⟨by omega, by omega, Or.inr ⟨by omega, or_assoc.mp (Or.inl (by omega))⟩⟩) | exact Or.inr (Or.inr ⟨by omega, by omega, Or.inl ⟨by omega, by omega, by omega, by omega⟩⟩) | exact or_assoc.mp (Or.inl (by omega))) | omega) (by first | exact ⟨_, _, _, ⟨⟨by omega, by omega, by omega⟩, by omega, by omega⟩, pn9⟩ | exact LoZ_h325 | exact std | (unfold cutR; first | exact Or.inr (Or.inr ⟨by omega, by omega, Or.inr ⟨by omega, Or.inr (Or.inr ⟨by omega, by omega, Or.inr ⟨by omega, by omega, by omega⟩⟩)⟩⟩) | exact Or.inr (Or.inr ⟨by omega, by omega, Or.inr ⟨by omega, Or.inr (Or.inr ⟨by omega, by omega, Or.inl ⟨by omega, by omega⟩⟩)⟩⟩) | exact Or.inr (Or.inr ⟨by omega, by omega, Or.inr ⟨by omega, or_assoc.mp (Or.inl (by omega))⟩⟩) | exact Or.inr (Or.inr ⟨by omega, by omega, Or.inl ⟨by omega, by omega, by omega, by omega⟩⟩) | exact or_assoc.mp (Or.inl (by omega))) | omega) Ln_h325 Sp_h325t331 Al_h325 Cu_h325)
    ·
      show wp l rho (d + 5) 52 18 [(2, 82), (0, v13), (9, 0), (9, 0)] [(0, 1)] h12 Q
      rw [show wc ((9 : Nat) : Int) = 615403 from by decide] at xp136
      have tE334 : cs h12 = cs h := cs_eq (fun j => my_fr.at gh12 is_92 rfl) (my_fr.at gh12 is_82 rfl)
      rw [tE334] at xp136
      have ps335 : h12 82 7 = (sN (cs h) (h 82 7)) := xp19
      rw [ps335] at xp136
      refine w_ifeq (t := 25) gz_52_18 rfl (fun u336 => by exfalso; omega) (fun u336 => ?_)
      refine w_iconst gz_52_21 (by decide) ?_
      refine w_goto (t := 52) gz_52_22 rfl ?_
      refine w_istore_n (ls' := [(2, 82), (0, v13), (0, 0), (9, 0)]) gz_52_52 gm_52 rfl rfl rfl ?_
      refine w_iload_n gz_52_53 rfl ?_
      refine w_iconst gz_52_54 (by decide) ?_
      refine w_icne (t := 66) gz_52_55 rfl (fun u337 => ?_) (fun u337 => by exfalso; omega)
      refine w_aload_n gz_52_66 rfl ?_
      refine w_inv (k := 2) (as := []) (r := []) (x := 82) (ls0 := [(2, 82), (9, 0), (9, 0)]) gz_52_67 gm_37 rfl is_82 rd_5 rfl rfl rfl rfl rfl (c_Reader_nextToken9_f0 (d := (d + 3))  (w18.trans (by omega)) Al_h12t22 (fun h338 frh338 w339 w340 w341 xp342 xp343 Al_h338t344 Cu_h338t345 => ?_))
      have gh338 : my_fr [(4, 5), (4, 8), (4, 9), (5, 5), (5, 6), (5, 7), (5, 8), (5, 9), (32, -1), (33, -1), (34, -1), (35, -1)] h h338 := my_fr.tr gh12 (frh338.mo rfl)
      have Ln_h338 : Ln h338 := Ln_ag (my_ag.fr frh338 rfl) Ln_h12
      have Sp_h338 : Sp h338 wv := Sp_ag (my_ag.fr frh338 rfl) hwv Ln_h12 Sp_h12
      have St5_h338 : St5 h338 := St5_ag (my_ag.fr frh338 rfl) Ln_h12 St5_h12
      have AgZ_h338 : my_ag LzF h h338 := AgZ_ag (my_ag.fr frh338 rfl) AgZ_h12
      have LoZ_h338 : LoZ h h338 := LoZ_ag (my_ag.fr frh338 rfl) Ln_h12 LoZ_h12
      show wp l rho (d + 5) 52 70 [(2, 82), (0, v13), (0, 0), (9, 0)] [] h338 Q
      have xc346 := xp342 Cu_h12t23
      have tE347 : cs h12 = cs h := cs_eq (fun j => my_fr.at gh12 is_92 rfl) (my_fr.at gh12 is_82 rfl)
      rw [tE347] at xc346
      have ps348 : h12 82 7 = (sN (cs h) (h 82 7)) := xp19
      rw [ps348] at xc346
      have ck349 := Cu_s Cu_h338t345
      rw [show cs h338 = cs h from cs_eq (fun j => my_fr.at gh338 is_92 rfl) (my_fr.at gh338 is_82 rfl)] at ck349
      rw [show h338 82 7 = (sN (cs h) (((sN (cs h) (h 82 7))))) from xc346] at ck349
      have cv350 := Cu_v Cu_h338t345
      rw [show cs h338 = cs h from cs_eq (fun j => my_fr.at gh338 is_92 rfl) (my_fr.at gh338 is_82 rfl)] at cv350
      rw [show h338 82 7 = (sN (cs h) (((sN (cs h) (h 82 7))))) from xc346] at cv350
      refine w_aload_n gz_52_70 rfl ?_
      refine w_sipush gz_52_71 (by decide) ?_
      refine w_inv (k := 1) (as := [(0, 200)]) (r := []) (x := 82) (ls0 := [(2, 82), (0, 200), (9, 0)]) gz_52_74 gm_51 rfl is_82 rd_5 rfl rfl rfl rfl rfl (c_Reader_takeNumber9_f0 (d := (d + 2)) (x1 := 200) (by omega) (by omega) (((my_fr.at frh338 is_82 rfl).trans w18).trans (by omega)) Al_h338t344 Cu_h338t345 (fun h351 frh351 w352 w353 xp354 Al_h351t355 Cu_h351t356 => ?_) (fun h357 v358 frh357 w359 w360 w361 w362 w363 xp364 xp365 xp366 Al_h357t367 Cu_h357t368 => ?_))
      ·
        have gh351 : my_fr [(4, 5), (4, 8), (4, 9), (5, 5), (5, 6), (5, 7), (5, 8), (5, 9), (32, -1), (33, -1), (34, -1), (35, -1)] h h351 := my_fr.tr gh338 (frh351.mo rfl)
        have Ln_h351 : Ln h351 := Ln_ag (my_ag.fr frh351 rfl) Ln_h338
        have Sp_h351 : Sp h351 wv := Sp_ag (my_ag.fr frh351 rfl) hwv Ln_h338 Sp_h338
        have St5_h351 : St5 h351 := St5_ag (my_ag.fr frh351 rfl) Ln_h338 St5_h338
        have AgZ_h351 : my_ag LzF h h351 := AgZ_ag (my_ag.fr frh351 rfl) AgZ_h338
        have LoZ_h351 : LoZ h h351 := LoZ_ag (my_ag.fr frh351 rfl) Ln_h338 LoZ_h338
        show wp l rho (d + 5) 52 77 [(2, 82), (0, v13), (0, 0), (9, 0)] [(0, (-1))] h351 Q
        have tE369 : cs h338 = cs h := cs_eq (fun j => my_fr.at gh338 is_92 rfl) (my_fr.at gh338 is_82 rfl)
        rw [tE369] at xp354
        have ps370 : h338 82 7 = (sN (cs h) (((sN (cs h) (h 82 7))))) := xc346
        rw [ps370] at xp354
        refine w_istore_n (ls' := [(2, 82), (0, v13), (0, 0), (0, (-1))]) gz_52_77 gm_52 rfl rfl rfl ?_
        refine w_aload_n gz_52_78 rfl ?_
        refine v_getI (j := 9) gz_52_79 rfl is_82 rd_5 rfl (fun v371 ev371 pv371 qv371 => ?_)
        have zv371 := ev371.trans (rfl : h351 82 9 = h351 82 9)
        refine w_ifne (t := 102) gz_52_82 rfl (fun u372 => ?_) (fun u372 => by exfalso; omega)
        have psR : h351 82 7 = h351 82 7 := (rfl : h351 82 7 = h351 82 7)
        have npsR : cs h351 = cs h := cs_eq (fun j => my_fr.at gh351 is_92 rfl) (my_fr.at gh351 is_82 rfl)
        have c373 := ev371.symm
        exact w_vret gz_52_102 gm_52 (k0 h351 (gh351) (by omega) (by omega) (by first | exact ⟨_, _, _, ⟨⟨by omega, by omega, by omega⟩, by omega, by omega⟩, pn9⟩ | exact LoZ_h351 | exact std | (unfold cutR; first | exact Or.inr (Or.inr ⟨by omega, by omega, Or.inr ⟨by omega, Or.inr (Or.inr ⟨by omega, by omega, Or.inr ⟨by omega, by omega, by omega⟩⟩)⟩⟩) | exact Or.inr (Or.inr ⟨by omega, by omega, Or.inr ⟨by omega, Or.inr (Or.inr ⟨by omega, by omega, Or.inl ⟨by omega, by omega⟩⟩)⟩⟩) | exact Or.inr (Or.inr ⟨by omega, by omega, Or.inr ⟨by omega, or_assoc.mp (Or.inl (by omega))⟩⟩) | exact Or.inr (Or.inr ⟨by omega, by omega, Or.inl ⟨by omega, by omega, by omega, by omega⟩⟩) | exact or_assoc.mp (Or.inl (by omega))) | omega) (by first | exact ⟨_, _, _, ⟨⟨by omega, by omega, by omega⟩, by omega, by omega⟩, pn9⟩ | exact LoZ_h351 | exact std | (unfold cutR; first | exact Or.inr (Or.inr ⟨by omega, by omega, Or.inr ⟨by omega, Or.inr (Or.inr ⟨by omega, by omega, Or.inr ⟨by omega, by omega, by omega⟩⟩)⟩⟩) | exact Or.inr (Or.inr ⟨by omega, by omega, Or.inr ⟨by omega, Or.inr (Or.inr ⟨by omega, by omega, Or.inl ⟨by omega, by omega⟩⟩)⟩⟩) | exact Or.inr (Or.inr ⟨by omega, by omega, Or.inr ⟨by omega, or_assoc.mp (Or.inl (by omega))⟩⟩) | exact Or.inr (Or.inr ⟨by omega, by omega, Or.inl ⟨by omega, by omega, by omega, by omega⟩⟩) | exact or_assoc.mp (Or.inl (by omega))) | omega) Ln_h351 Sp_h351 Al_h351t355 Cu_h351t356)
      ·
        have gh357 : my_fr [(4, 5), (4, 8), (4, 9), (5, 5), (5, 6), (5, 7), (5, 8), (5, 9), (32, -1), (33, -1), (34, -1), (35, -1)] h h357 := my_fr.tr gh338 (frh357.mo rfl)
        have Ln_h357 : Ln h357 := Ln_ag (my_ag.fr frh357 rfl) Ln_h338
        have Sp_h357 : Sp h357 wv := Sp_ag (my_ag.fr frh357 rfl) hwv Ln_h338 Sp_h338
        have St5_h357 : St5 h357 := St5_ag (my_ag.fr frh357 rfl) Ln_h338 St5_h338
        have AgZ_h357 : my_ag LzF h h357 := AgZ_ag (my_ag.fr frh357 rfl) AgZ_h338
        have LoZ_h357 : LoZ h h357 := LoZ_ag (my_ag.fr frh357 rfl) Ln_h338 LoZ_h338
        show wp l rho (d + 5) 52 77 [(2, 82), (0, v13), (0, 0), (9, 0)] [(0, v358)] h357 Q
        have tE374 : cs h338 = cs h := cs_eq (fun j => my_fr.at gh338 is_92 rfl) (my_fr.at gh338 is_82 rfl)
        rw [tE374] at xp364
        have ps375 : h338 82 7 = (sN (cs h) (((sN (cs h) (h 82 7))))) := xc346
        rw [ps375] at xp364
        rw [tE374] at xp365
        rw [ps375] at xp365
        rw [tE374] at xp366
        rw [ps375] at xp366
        have ck376 := Cu_s Cu_h357t368
        rw [show cs h357 = cs h from cs_eq (fun j => my_fr.at gh357 is_92 rfl) (my_fr.at gh357 is_82 rfl)] at ck376
        rw [show h357 82 7 = (sN (cs h) (((sN (cs h) (((sN (cs h) (h 82 7)))))))) from xp364] at ck376
        have cv377 := Cu_v Cu_h357t368
        rw [show cs h357 = cs h from cs_eq (fun j => my_fr.at gh357 is_92 rfl) (my_fr.at gh357 is_82 rfl)] at cv377
        rw [show h357 82 7 = (sN (cs h) (((sN (cs h) (((sN (cs h) (h 82 7)))))))) from xp364] at cv377
        refine w_istore_n (ls' := [(2, 82), (0, v13), (0, 0), (0, v358)]) gz_52_77 gm_52 rfl rfl rfl ?_
        refine w_aload_n gz_52_78 rfl ?_
        refine v_getI (j := 9) gz_52_79 rfl is_82 rd_5 rfl (fun v378 ev378 pv378 qv378 => ?_)
        have zv378 := ev378.trans w363
        refine w_ifne (t := 102) gz_52_82 rfl (fun u379 => by exfalso; omega) (fun u379 => ?_)
        refine w_aload_n gz_52_85 rfl ?_
        refine w_inv (k := 0) (as := []) (r := []) (x := 82) (ls0 := [(2, 82)]) gz_52_86 gm_47 rfl is_82 rd_5 rfl rfl rfl rfl rfl (c_Reader_endsHere9_f0 (d := (d + 2))  (ev378.symm.trans (by omega)) Al_h357t367 Cu_h357t368 (fun h380 frh380 w381 w382 xp383 xp384 Al_h380t385 Cu_h380t386 => ?_) (fun h387 frh387 w388 xp389 xp390 Al_h387t391 Cu_h387t392 => ?_))
        ·
          have gh380 : my_fr [(4, 5), (4, 8), (4, 9), (5, 5), (5, 6), (5, 7), (5, 8), (5, 9), (32, -1), (33, -1), (34, -1), (35, -1)] h h380 := my_fr.tr gh357 (frh380.mo rfl)
          have Ln_h380 : Ln h380 := Ln_ag (my_ag.fr frh380 rfl) Ln_h357
          have Sp_h380 : Sp h380 wv := Sp_ag (my_ag.fr frh380 rfl) hwv Ln_h357 Sp_h357
          have St5_h380 : St5 h380 := St5_ag (my_ag.fr frh380 rfl) Ln_h357 St5_h357
          have AgZ_h380 : my_ag LzF h h380 := AgZ_ag (my_ag.fr frh380 rfl) AgZ_h357
          have LoZ_h380 : LoZ h h380 := LoZ_ag (my_ag.fr frh380 rfl) Ln_h357 LoZ_h357
          show wp l rho (d + 5) 52 89 [(2, 82), (0, v13), (0, 0), (0, v358)] [(0, 0)] h380 Q
          have tE393 : cs h357 = cs h := cs_eq (fun j => my_fr.at gh357 is_92 rfl) (my_fr.at gh357 is_82 rfl)
          rw [tE393] at xp383
          have ps394 : h357 82 7 = (sN (cs h) (((sN (cs h) (((sN (cs h) (h 82 7)))))))) := xp364
          rw [ps394] at xp383
          rw [ps394] at xp384
          refine w_ifeq (t := 102) gz_52_89 rfl (fun u395 => ?_) (fun u395 => by exfalso; omega)
          have psR : h380 82 7 = h380 82 7 := (rfl : h380 82 7 = h380 82 7)
          have npsR : cs h380 = cs h := cs_eq (fun j => my_fr.at gh380 is_92 rfl) (my_fr.at gh380 is_82 rfl)
          have c396 := (rfl : h380 82 9 = h380 82 9)
          exact w_vret gz_52_102 gm_52 (k0 h380 (gh380) (by omega) (by omega) (by first | exact ⟨_, _, _, ⟨⟨by omega, by omega, by omega⟩, by omega, by omega⟩, pn9⟩ | exact LoZ_h380 | exact std | (unfold cutR; first | exact Or.inr (Or.inr ⟨by omega, by omega, Or.inr ⟨by omega, Or.inr (Or.inr ⟨by omega, by omega, Or.inr ⟨by omega, by omega, by omega⟩⟩)⟩⟩) | exact Or.inr (Or.inr ⟨by omega, by omega, Or.inr ⟨by omega, Or.inr (Or.inr ⟨by omega, by omega, Or.inl ⟨by omega, by omega⟩⟩)⟩⟩) | exact Or.inr (Or.inr ⟨by omega, by omega, Or.inr ⟨by omega, or_assoc.mp (Or.inl (by omega))⟩⟩) | exact Or.inr (Or.inr ⟨by omega, by omega, Or.inl ⟨by omega, by omega, by omega, by omega⟩⟩) | exact or_assoc.mp (Or.inl (by omega))) | omega) (by first | exact ⟨_, _, _, ⟨⟨by omega, by omega, by omega⟩, by omega, by omega⟩, pn9⟩ | exact LoZ_h380 | exact std | (unfold cutR; first | exact Or.inr (Or.inr ⟨by omega, by omega, Or.inr ⟨by omega, Or.inr (Or.inr ⟨by omega, by omega, Or.inr ⟨by omega, by omega, by omega⟩⟩)⟩⟩) | exact Or.inr (Or.inr ⟨by omega, by omega, Or.inr ⟨by omega, Or.inr (Or.inr ⟨by omega, by omega, Or.inl ⟨by omega, by omega⟩⟩)⟩⟩) | exact Or.inr (Or.inr ⟨by omega, by omega, Or.inr ⟨by omega, or_assoc.mp (Or.inl (by omega))⟩⟩) | exact Or.inr (Or.inr ⟨by omega, by omega, Or.inl ⟨by omega, by omega, by omega, by omega⟩⟩) | exact or_assoc.mp (Or.inl (by omega))) | omega) Ln_h380 Sp_h380 Al_h380t385 Cu_h380t386)
        ·
          have gh387 : my_fr [(4, 5), (4, 8), (4, 9), (5, 5), (5, 6), (5, 7), (5, 8), (5, 9), (32, -1), (33, -1), (34, -1), (35, -1)] h h387 := my_fr.tr gh357 (frh387.mo rfl)
          have Ln_h387 : Ln h387 := Ln_ag (my_ag.fr frh387 rfl) Ln_h357
          have Sp_h387 : Sp h387 wv := Sp_ag (my_ag.fr frh387 rfl) hwv Ln_h357 Sp_h357
          have St5_h387 : St5 h387 := St5_ag (my_ag.fr frh387 rfl) Ln_h357 St5_h357
          have AgZ_h387 : my_ag LzF h h387 := AgZ_ag (my_ag.fr frh387 rfl) AgZ_h357
          have LoZ_h387 : LoZ h h387 := LoZ_ag (my_ag.fr frh387 rfl) Ln_h357 LoZ_h357
          show wp l rho (d + 5) 52 89 [(2, 82), (0, v13), (0, 0), (0, v358)] [(0, 1)] h387 Q
          have tE397 : cs h357 = cs h := cs_eq (fun j => my_fr.at gh357 is_92 rfl) (my_fr.at gh357 is_82 rfl)
          rw [tE397] at xp389
          have ps398 : h357 82 7 = (sN (cs h) (((sN (cs h) (((sN (cs h) (h 82 7)))))))) := xp364
          rw [ps398] at xp389
          rw [tE397] at xp390
          rw [ps398] at xp390
          have ck399 := Cu_s Cu_h387t392
          rw [show cs h387 = cs h from cs_eq (fun j => my_fr.at gh387 is_92 rfl) (my_fr.at gh387 is_82 rfl)] at ck399
          rw [show h387 82 7 = (sN (cs h) (((sN (cs h) (((sN (cs h) (((sN (cs h) (h 82 7))))))))))) from xp389] at ck399
          have cv400 := Cu_v Cu_h387t392
          rw [show cs h387 = cs h from cs_eq (fun j => my_fr.at gh387 is_92 rfl) (my_fr.at gh387 is_82 rfl)] at cv400
          rw [show h387 82 7 = (sN (cs h) (((sN (cs h) (((sN (cs h) (((sN (cs h) (h 82 7))))))))))) from xp389] at cv400
          refine w_ifeq (t := 102) gz_52_89 rfl (fun u401 => by exfalso; omega) (fun u401 => ?_)
          refine w_aload_n gz_52_92 rfl ?_
          refine v_getR (j := 2) gz_52_93 rfl is_82 rd_5 rfl (fun v402 ev402 tv402 => ?_)
          have zv402 : v3 = v402 := (ev402.trans ((my_fr.at frh387 is_82 rfl).trans ((my_fr.at frh357 is_82 rfl).trans ((my_fr.at frh338 is_82 rfl).trans ((my_fr.at frh12 is_82 rfl).trans ev3.symm))))).symm
          subst zv402
          refine w_iload_n gz_52_96 rfl ?_
          refine w_iload_n gz_52_97 rfl ?_
          refine w_iload_n gz_52_98 rfl ?_
          have ce403 : h387 82 2 = v3 := ((my_fr.at frh387 is_82 rfl).trans ((my_fr.at frh357 is_82 rfl).trans ((my_fr.at frh338 is_82 rfl).trans ((my_fr.at frh12 is_82 rfl).trans ev3.symm))))
          have s5a := St5_h387
          have s5e : v3 = h387 82 2 := by first | assumption | omega
          unfold St5 at s5a
          rw [← s5e] at s5a
          have ce404 : h387 v3 1 = h v3 1 := ((my_fr.at frh387 tv3 rfl).trans ((my_fr.at frh357 tv3 rfl).trans ((my_fr.at frh338 tv3 rfl).trans ((my_fr.at frh12 tv3 rfl).trans (rfl : h v3 1 = h v3 1)))))
          have ce405 : h387 v3 3 = h v3 3 := ((my_fr.at frh387 tv3 rfl).trans ((my_fr.at frh357 tv3 rfl).trans ((my_fr.at frh338 tv3 rfl).trans ((my_fr.at frh12 tv3 rfl).trans (rfl : h v3 3 = h v3 3)))))
          have ce406 : h387 v3 4 = h v3 4 := ((my_fr.at frh387 tv3 rfl).trans ((my_fr.at frh357 tv3 rfl).trans ((my_fr.at frh338 tv3 rfl).trans ((my_fr.at frh12 tv3 rfl).trans (rfl : h v3 4 = h v3 4)))))
          have ce407 : h387 v3 9 = h v3 9 := ((my_fr.at frh387 tv3 rfl).trans ((my_fr.at frh357 tv3 rfl).trans ((my_fr.at frh338 tv3 rfl).trans ((my_fr.at frh12 tv3 rfl).trans (rfl : h v3 9 = h v3 9)))))
          have sE : v3 = h 82 2 := by first | assumption | omega
          have eS1 : h387 v3 1 = h v3 1 := by omega
          have eS3 : h387 v3 3 = h v3 3 := by omega
          have eS4 : h387 v3 4 = h v3 4 := by omega
          have eS9 : h387 v3 9 = h v3 9 := by omega
          have az9 := AgZ_h387
          refine w_inv (k := 0) (as := [(0, v358), (0, v13), (0, 0)]) (r := []) (x := v3) (ls0 := [(2, v3), (0, 0), (0, v13), (0, v358)]) gz_52_99 gm_53 rfl tv3 rd_4 rfl rfl rfl rfl rfl (c_Lens_addCut7 (d := (d + 3)) (x0 := v3) (x1 := 0) (x2 := v13) (x3 := v358) tv3 (by omega) (by omega) (by omega) (by omega) (by omega) (by omega) (by first | assumption | exact no_such_saying | exact Fp_told (by omega) (by omega) | omega | (subst_vars; omega) | omega) (fun h408 frh408 fxh408 w409 w410 xp411 xp412 xp413 => ?_))
          have gh408 : my_fr [(4, 5), (4, 8), (4, 9), (5, 5), (5, 6), (5, 7), (5, 8), (5, 9), (32, -1), (33, -1), (34, -1), (35, -1)] h h408 := my_fr.tr gh387 (frh408.mo rfl)
          have Ln_h408 : Ln h408 := Ln_fx fxh408 (by first | assumption | omega) Ln_h387
          have LoZ_h408 : LoZ h h408 := LoZ_fx fxh408 (by first | assumption | omega) Ln_h387 LoZ_h387
          have Al_h408 : Al h408 := Al_ag (my_ag.fr frh408 rfl) Al_h387t391
          have Cu_h408 : Cu h408 := Cu_ag (my_ag.fr frh408 rfl) Cu_h387t392
          show wp l rho (d + 5) 52 102 [(2, 82), (0, v13), (0, 0), (0, v358)] [] h408 Q
          have Sp_h408t414 : Sp h408 wv := Sp_add fxh408 (by first | assumption | omega) hwv Ln_h387 Sp_h387 xp411 (by have := St5_h387.1; omega) (by omega) (by omega)
          have ce415 : h408 82 2 = v3 := ((my_fr.at frh408 is_82 rfl).trans ((my_fr.at frh387 is_82 rfl).trans ((my_fr.at frh357 is_82 rfl).trans ((my_fr.at frh338 is_82 rfl).trans ((my_fr.at frh12 is_82 rfl).trans ev3.symm)))))
          have std := Std_add xp411 sE (by omega) eS3 eS4 eS9 eS1
          have pn9 : PnI h h408 0 v13 v358 0 := PnI_mk az9 sE n_Ln.2.2.2.1 xp412 xp413
          have psR : h408 82 7 = (sN (cs h) (((sN (cs h) (((sN (cs h) (((sN (cs h) (h 82 7))))))))))) := ((my_fr.at frh408 is_82 rfl).trans xp389)
          have npsR : cs h408 = cs h := cs_eq (fun j => my_fr.at gh408 is_92 rfl) (my_fr.at gh408 is_82 rfl)
          have c416 := ((my_fr.at frh408 is_82 rfl).trans w388)
          exact w_vret gz_52_102 gm_52 (k1 h408 (gh408) (by omega) (by first | exact ⟨_, _, _, ⟨⟨by omega, by omega, by omega⟩, by omega, by omega⟩, pn9⟩ | exact LoZ_h408 | exact std | (unfold cutR; first | exact Or.inr (Or.inr ⟨by omega, by omega, Or.inr ⟨by omega, Or.inr (Or.inr ⟨by omega, by omega, Or.inr ⟨by omega, by omega, by omega⟩⟩)⟩⟩) | exact Or.inr (Or.inr ⟨by omega, by omega, Or.inr ⟨by omega, Or.inr (Or.inr ⟨by omega, by omega, Or.inl ⟨by omega, by omega⟩⟩)⟩⟩) | exact Or.inr (Or.inr ⟨by omega, by omega, Or.inr ⟨by omega, or_assoc.mp (Or.inl (by omega))⟩⟩) | exact Or.inr (Or.inr ⟨by omega, by omega, Or.inl ⟨by omega, by omega, by omega, by omega⟩⟩) | exact or_assoc.mp (Or.inl (by omega))) | omega) (by first | exact ⟨_, _, _, ⟨⟨by omega, by omega, by omega⟩, by omega, by omega⟩, pn9⟩ | exact LoZ_h408 | exact std | (unfold cutR; first | exact Or.inr (Or.inr ⟨by omega, by omega, Or.inr ⟨by omega, Or.inr (Or.inr ⟨by omega, by omega, Or.inr ⟨by omega, by omega, by omega⟩⟩)⟩⟩) | exact Or.inr (Or.inr ⟨by omega, by omega, Or.inr ⟨by omega, Or.inr (Or.inr ⟨by omega, by omega, Or.inl ⟨by omega, by omega⟩⟩)⟩⟩) | exact Or.inr (Or.inr ⟨by omega, by omega, Or.inr ⟨by omega, or_assoc.mp (Or.inl (by omega))⟩⟩) | exact Or.inr (Or.inr ⟨by omega, by omega, Or.inl ⟨by omega, by omega, by omega, by omega⟩⟩) | exact or_assoc.mp (Or.inl (by omega))) | omega) (by first | exact ⟨_, _, _, ⟨⟨by omega, by omega, by omega⟩, by omega, by omega⟩, pn9⟩ | exact LoZ_h408 | exact std | (unfold cutR; first | exact Or.inr (Or.inr ⟨by omega, by omega, Or.inr ⟨by omega, Or.inr (Or.inr ⟨by omega, by omega, Or.inr ⟨by omega, by omega, by omega⟩⟩)⟩⟩) | exact Or.inr (Or.inr ⟨by omega, by omega, Or.inr ⟨by omega, Or.inr (Or.inr ⟨by omega, by omega, Or.inl ⟨by omega, by omega⟩⟩)⟩⟩) | exact Or.inr (Or.inr ⟨by omega, by omega, Or.inr ⟨by omega, or_assoc.mp (Or.inl (by omega))⟩⟩) | exact Or.inr (Or.inr ⟨by omega, by omega, Or.inl ⟨by omega, by omega, by omega, by omega⟩⟩) | exact or_assoc.mp (Or.inl (by omega))) | omega) (by first | exact ⟨_, _, _, ⟨⟨by omega, by omega, by omega⟩, by omega, by omega⟩, pn9⟩ | exact LoZ_h408 | exact std | (unfold cutR; first | exact Or.inr (Or.inr ⟨by omega, by omega, Or.inr ⟨by omega, Or.inr (Or.inr ⟨by omega, by omega, Or.inr ⟨by omega, by omega, by omega⟩⟩)⟩⟩) | exact Or.inr (Or.inr ⟨by omega, by omega, Or.inr ⟨by omega, Or.inr (Or.inr ⟨by omega, by omega, Or.inl ⟨by omega, by omega⟩⟩)⟩⟩) | exact Or.inr (Or.inr ⟨by omega, by omega, Or.inr ⟨by omega, or_assoc.mp (Or.inl (by omega))⟩⟩) | exact Or.inr (Or.inr ⟨by omega, by omega, Or.inl ⟨by omega, by omega, by omega, by omega⟩⟩) | exact or_assoc.mp (Or.inl (by omega))) | omega) Ln_h408 Sp_h408t414 Al_h408 Cu_h408)
end MYNReader_readCut7_f0
